def zt_open (x : XS) (g1 : Int32) : Int32 × XS := (if g1 = 0 then (if x.2.2.1 = 2 then ((-3), x) else (if (zt_isOpen x 0) = 0 then (0, (x.1, x.2.1, x.2.2.1, x.2.2.2.1, (x.2.2.2.2.1 ||| 1), x.2.2.2.2.2.1, x.2.2.2.2.2.2)) else (if (zt_isOpen x 1) = 0 then (1, (x.1, x.2.1, x.2.2.1, x.2.2.2.1, (x.2.2.2.2.1 ||| 2), x.2.2.2.2.2.1, x.2.2.2.2.2.2)) else (if (zt_isOpen x 2) = 0 then (2, (x.1, x.2.1, x.2.2.1, x.2.2.2.1, (x.2.2.2.2.1 ||| 4), x.2.2.2.2.2.1, x.2.2.2.2.2.2)) else ((-6), x))))) else (if (zt_isOpen x 0) = 0 then (0, (x.1, x.2.1, x.2.2.1, x.2.2.2.1, (x.2.2.2.2.1 ||| 1), (x.2.2.2.2.2.1 ||| 1), x.2.2.2.2.2.2)) else (if (zt_isOpen x 1) = 0 then (1, (x.1, x.2.1, x.2.2.1, x.2.2.2.1, (x.2.2.2.2.1 ||| 2), (x.2.2.2.2.2.1 ||| 2), x.2.2.2.2.2.2)) else (if (zt_isOpen x 2) = 0 then (2, (x.1, x.2.1, x.2.2.1, x.2.2.2.1, (x.2.2.2.2.1 ||| 4), (x.2.2.2.2.2.1 ||| 4), x.2.2.2.2.2.2)) else ((-6), x)))))

set_option maxHeartbeats 4000000 in
set_option maxRecDepth 100000 in
theorem kt_open (l : Launch) (D : va_G) (cI cZ : ClassId) (ao au af ak a1 a2 a3 a4 : Nat) (x : XS) (g1 : Int32) (hn : x.2.2.2.2.2.2.1 ≤ 10) : kI l yT_open wsT_open (rmOf 1 21) D (kT cI cZ) [.ref ao, .int g1] (wX cI ao au af ak a1 a2 a3 a4 x) (zt_open x g1).1 (wX cI ao au af ak a1 a2 a3 a4 ((zt_open x g1).2)) := by
  intro sz
  refine kOf (Qc := fun A => kQi D (kT cI cZ) A (zt_open x g1).1 (wX cI ao au af ak a1 a2 a3 a4 ((zt_open x g1).2))) (cc := cT_open) (maxL := 3) (ret := some .int) (by decide) rfl (Nat.le_of_ble_eq_true rfl) ?_ sz
  intro p e s m args below meth c A ls hx hb hml hown hts hNw hr hlk hin hA hS hP hD hK hl
  show W p l e (rmOf 1 21) s m args below meth c s.heap [] 0 0 (MQ below (kQi D (kT cI cZ) A (zt_open x g1).1 (wX cI ao au af ak a1 a2 a3 a4 ((zt_open x g1).2))) args s 0 0 A) (F0 m 0 ls [])
  have hts : ∀ q ∈ lw_g, q.before args s = true := fun q h => hts q (List.mem_cons_of_mem _ h)
  have hown : s.vm.findClass cnT = some m.cls := hown
  have hl : lv_has ls 3 [(0, .ref ao), (1, .int g1)] := hl
  have hP : va_P D vwCl [(ao, .inr (0, [.ref au, .ref af, .ref ak, .int x.2.2.1, .int x.2.2.2.1, .int x.2.2.2.2.1, .int x.2.2.2.2.2.1])), (au, .inr (1, [.int x.1.1, .int x.1.2])), (af, .inr (1, [.int x.2.1.1, .int x.2.1.2])), (ak, .inr (2, [.ref a1, .ref a2, .ref a3, .ref a4, .int (nI x.2.2.2.2.2.2.1), .int x.2.2.2.2.2.2.2.1])), (a1, .inl (cI, 10, .inl x.2.2.2.2.2.2.2.2.1)), (a2, .inl (cI, 10, .inl x.2.2.2.2.2.2.2.2.2.1)), (a3, .inl (cI, 10, .inl x.2.2.2.2.2.2.2.2.2.2.1)), (a4, .inl (cI, 10, .inl x.2.2.2.2.2.2.2.2.2.2.2))] s.heap := hP
  have hD : va_D A [(ao, .inr (0, [.ref au, .ref af, .ref ak, .int x.2.2.1, .int x.2.2.2.1, .int x.2.2.2.2.1, .int x.2.2.2.2.2.1])), (au, .inr (1, [.int x.1.1, .int x.1.2])), (af, .inr (1, [.int x.2.1.1, .int x.2.1.2])), (ak, .inr (2, [.ref a1, .ref a2, .ref a3, .ref a4, .int (nI x.2.2.2.2.2.2.1), .int x.2.2.2.2.2.2.2.1])), (a1, .inl (cI, 10, .inl x.2.2.2.2.2.2.2.2.1)), (a2, .inl (cI, 10, .inl x.2.2.2.2.2.2.2.2.2.1)), (a3, .inl (cI, 10, .inl x.2.2.2.2.2.2.2.2.2.2.1)), (a4, .inl (cI, 10, .inl x.2.2.2.2.2.2.2.2.2.2.2))] := hD
  refine lv_iload_n hx hb dT_open_0 rfl (lv_at hl 1 rfl) ?_
  refine lv_if_ne (tgt := 15) hx hb dT_open_1 (by decide) (fun h1 => ?_) (fun h1 => ?_)
  ·
    refine lv_iconst (v := 0) hx hb dT_open_15 (by decide) ?_
    refine lv_istore_n hx hb dT_open_16 rfl hl (by decide) rfl (fun ls hl => ?_)
    have hl : lv_has ls 3 [(2, .int 0), (0, .ref ao), (1, .int g1)] := hl
    refine lv_iload_n hx hb dT_open_17 rfl (lv_at hl 0 rfl) ?_
    refine lv_iconst (v := 3) hx hb dT_open_18 (by decide) ?_
    refine lv_icmp_ge (tgt := 66) hx hb dT_open_19 (by decide) (fun h => absurd h (by decide)) (fun _ => ?_)
    refine lv_aload_n hx hb dT_open_22 rfl (lv_at hl 1 rfl) ?_
    refine lv_iload_n hx hb dT_open_23 rfl (lv_at hl 0 rfl) ?_
    refine kcI (isR := []) (isC := [0, 1, 2, 3, 4, 5, 6, 7]) (wr := []) (w2 := [(ao, .inr (0, [.ref au, .ref af, .ref ak, .int x.2.2.1, .int x.2.2.2.1, .int x.2.2.2.2.1, .int x.2.2.2.2.2.1])), (au, .inr (1, [.int x.1.1, .int x.1.2])), (af, .inr (1, [.int x.2.1.1, .int x.2.1.2])), (ak, .inr (2, [.ref a1, .ref a2, .ref a3, .ref a4, .int (nI x.2.2.2.2.2.2.1), .int x.2.2.2.2.2.2.2.1])), (a1, .inl (cI, 10, .inl x.2.2.2.2.2.2.2.2.1)), (a2, .inl (cI, 10, .inl x.2.2.2.2.2.2.2.2.2.1)), (a3, .inl (cI, 10, .inl x.2.2.2.2.2.2.2.2.2.2.1)), (a4, .inl (cI, 10, .inl x.2.2.2.2.2.2.2.2.2.2.2))]) (va_runV (As := [.int 0]) (rest := []) ⟨hx, hb, hml, hown, hts⟩ (kt_isOpen l D cI cZ ao au af ak a1 a2 a3 a4 x 0 _) ⟨(callB_of 1 hts gd_yT_isOpen rfl rfl rfl (hts _ mw24) (hts _ mw108) (by decide +kernel) ⟨Nat.le_of_ble_eq_true rfl, Nat.le_of_ble_eq_true rfl⟩), hts _ mw110, hts _ mw0⟩ (kpreV hNw hP hD hK [0, 1, 2, 3, 4, 5, 6, 7] rfl (by decide) 0 rfl (ci := 0) rfl) rfl rfl hl.1 rfl (lv_room (Nat.le_of_ble_eq_true rfl)) dT_open_24 ⟨Nat.le_of_ble_eq_true rfl, Nat.le_of_ble_eq_true rfl⟩) hP hD hS hA [0, 1, 2, 3, 4, 5, 6, 7] rfl rfl (by decide) (by decide) (by decide) rfl (fun H locs hP hD hS => ?_)
    refine lv_if_ne (tgt := 60) hx hb dT_open_27 (by decide) (fun h2 => ?_) (fun h2 => ?_)
    ·
      refine lv_iinc (k := 0) (v := 1) hx hb dT_open_60 hl rfl (by decide) (by decide) rfl (fun ls hl => ?_)
      have hl : lv_has ls 3 [(2, .int 1), (0, .ref ao), (1, .int g1)] := hl
      refine lv_goto hx hb dT_open_63 (tgt := 17) (by decide) ?_
      refine lv_iload_n hx hb dT_open_17 rfl (lv_at hl 0 rfl) ?_
      refine lv_iconst (v := 3) hx hb dT_open_18 (by decide) ?_
      refine lv_icmp_ge (tgt := 66) hx hb dT_open_19 (by decide) (fun h => absurd h (by decide)) (fun _ => ?_)
      refine lv_aload_n hx hb dT_open_22 rfl (lv_at hl 1 rfl) ?_
      refine lv_iload_n hx hb dT_open_23 rfl (lv_at hl 0 rfl) ?_
      refine kcI (isR := []) (isC := [0, 1, 2, 3, 4, 5, 6, 7]) (wr := []) (w2 := [(ao, .inr (0, [.ref au, .ref af, .ref ak, .int x.2.2.1, .int x.2.2.2.1, .int x.2.2.2.2.1, .int x.2.2.2.2.2.1])), (au, .inr (1, [.int x.1.1, .int x.1.2])), (af, .inr (1, [.int x.2.1.1, .int x.2.1.2])), (ak, .inr (2, [.ref a1, .ref a2, .ref a3, .ref a4, .int (nI x.2.2.2.2.2.2.1), .int x.2.2.2.2.2.2.2.1])), (a1, .inl (cI, 10, .inl x.2.2.2.2.2.2.2.2.1)), (a2, .inl (cI, 10, .inl x.2.2.2.2.2.2.2.2.2.1)), (a3, .inl (cI, 10, .inl x.2.2.2.2.2.2.2.2.2.2.1)), (a4, .inl (cI, 10, .inl x.2.2.2.2.2.2.2.2.2.2.2))]) (va_runV (As := [.int 1]) (rest := []) ⟨hx, hb, hml, hown, hts⟩ (kt_isOpen l D cI cZ ao au af ak a1 a2 a3 a4 x 1 _) ⟨(callB_of 1 hts gd_yT_isOpen rfl rfl rfl (hts _ mw24) (hts _ mw108) (by decide +kernel) ⟨Nat.le_of_ble_eq_true rfl, Nat.le_of_ble_eq_true rfl⟩), hts _ mw110, hts _ mw0⟩ (kpreV hNw hP hD hK [0, 1, 2, 3, 4, 5, 6, 7] rfl (by decide) 0 rfl (ci := 0) rfl) rfl rfl hl.1 rfl (lv_room (Nat.le_of_ble_eq_true rfl)) dT_open_24 ⟨Nat.le_of_ble_eq_true rfl, Nat.le_of_ble_eq_true rfl⟩) hP hD hS hA [0, 1, 2, 3, 4, 5, 6, 7] rfl rfl (by decide) (by decide) (by decide) rfl (fun H locs hP hD hS => ?_)
      refine lv_if_ne (tgt := 60) hx hb dT_open_27 (by decide) (fun h3 => ?_) (fun h3 => ?_)
      ·
        refine lv_iinc (k := 0) (v := 2) hx hb dT_open_60 hl rfl (by decide) (by decide) rfl (fun ls hl => ?_)
        have hl : lv_has ls 3 [(2, .int 2), (0, .ref ao), (1, .int g1)] := hl
        refine lv_goto hx hb dT_open_63 (tgt := 17) (by decide) ?_
        refine lv_iload_n hx hb dT_open_17 rfl (lv_at hl 0 rfl) ?_
        refine lv_iconst (v := 3) hx hb dT_open_18 (by decide) ?_
        refine lv_icmp_ge (tgt := 66) hx hb dT_open_19 (by decide) (fun h => absurd h (by decide)) (fun _ => ?_)
        refine lv_aload_n hx hb dT_open_22 rfl (lv_at hl 1 rfl) ?_
        refine lv_iload_n hx hb dT_open_23 rfl (lv_at hl 0 rfl) ?_
        refine kcI (isR := []) (isC := [0, 1, 2, 3, 4, 5, 6, 7]) (wr := []) (w2 := [(ao, .inr (0, [.ref au, .ref af, .ref ak, .int x.2.2.1, .int x.2.2.2.1, .int x.2.2.2.2.1, .int x.2.2.2.2.2.1])), (au, .inr (1, [.int x.1.1, .int x.1.2])), (af, .inr (1, [.int x.2.1.1, .int x.2.1.2])), (ak, .inr (2, [.ref a1, .ref a2, .ref a3, .ref a4, .int (nI x.2.2.2.2.2.2.1), .int x.2.2.2.2.2.2.2.1])), (a1, .inl (cI, 10, .inl x.2.2.2.2.2.2.2.2.1)), (a2, .inl (cI, 10, .inl x.2.2.2.2.2.2.2.2.2.1)), (a3, .inl (cI, 10, .inl x.2.2.2.2.2.2.2.2.2.2.1)), (a4, .inl (cI, 10, .inl x.2.2.2.2.2.2.2.2.2.2.2))]) (va_runV (As := [.int 2]) (rest := []) ⟨hx, hb, hml, hown, hts⟩ (kt_isOpen l D cI cZ ao au af ak a1 a2 a3 a4 x 2 _) ⟨(callB_of 1 hts gd_yT_isOpen rfl rfl rfl (hts _ mw24) (hts _ mw108) (by decide +kernel) ⟨Nat.le_of_ble_eq_true rfl, Nat.le_of_ble_eq_true rfl⟩), hts _ mw110, hts _ mw0⟩ (kpreV hNw hP hD hK [0, 1, 2, 3, 4, 5, 6, 7] rfl (by decide) 0 rfl (ci := 0) rfl) rfl rfl hl.1 rfl (lv_room (Nat.le_of_ble_eq_true rfl)) dT_open_24 ⟨Nat.le_of_ble_eq_true rfl, Nat.le_of_ble_eq_true rfl⟩) hP hD hS hA [0, 1, 2, 3, 4, 5, 6, 7] rfl rfl (by decide) (by decide) (by decide) rfl (fun H locs hP hD hS => ?_)
        refine lv_if_ne (tgt := 60) hx hb dT_open_27 (by decide) (fun h4 => ?_) (fun h4 => ?_)
        ·
          refine lv_iinc (k := 0) (v := 3) hx hb dT_open_60 hl rfl (by decide) (by decide) rfl (fun ls hl => ?_)
          have hl : lv_has ls 3 [(2, .int 3), (0, .ref ao), (1, .int g1)] := hl
          refine lv_goto hx hb dT_open_63 (tgt := 17) (by decide) ?_
          refine lv_iload_n hx hb dT_open_17 rfl (lv_at hl 0 rfl) ?_
          refine lv_iconst (v := 3) hx hb dT_open_18 (by decide) ?_
          refine lv_icmp_ge (tgt := 66) hx hb dT_open_19 (by decide) (fun _ => ?_) (fun h => absurd h (by decide))
          refine lv_bipush (v := (-6)) hx hb dT_open_66 (by decide) ?_
          exact kretI (wf := fun st => wX cI ao au af ak a1 a2 a3 a4 st) (st := x) (by first | (rw [zt_open, if_neg h1, if_neg h2, if_neg h3, if_neg h4]; done) | exact ((if_neg h1).trans ((if_neg h2).trans ((if_neg h3).trans (if_neg h4))))) hx hb hr hlk hS hP hD hK dT_open_68
        ·
          refine lv_aload_n hx hb dT_open_30 rfl (lv_at hl 1 rfl) ?_
          refine lv_dup hx hb dT_open_31 rfl ?_
          refine va_get (D := D) (ci := 0) (v := .int x.2.2.2.2.1) (C := cnT) (T := ftT) (N := 7) hx hb hts inT hown hK hP 0 rfl rfl 5 (by decide) (hts _ mw87) (fun _ h9 => h9) rfl dT_open_32 ?_
          refine lv_iconst (v := 1) hx hb dT_open_35 (by decide) ?_
          refine lv_iload_n hx hb dT_open_36 rfl (lv_at hl 0 rfl) ?_
          refine lv_ishl hx hb dT_open_37 ?_
          refine kTop (y := 4) (by decide) ?_
          refine lv_ior hx hb dT_open_38 ?_
          refine va_put (D := D) (ci := 0) (v := .int (x.2.2.2.2.1 ||| 4)) (ty := (.int)) (C := cnT) (T := ftT) (N := 7) hx hb hts inT tyT tyT_ok nmT hown hK hP hD hS 0 rfl rfl 5 (by decide) (hts _ mw87) (fun _ h9 => h9) rfl (by decide +kernel) rfl rfl (Nat.le_of_ble_eq_true rfl) dT_open_39 (fun H locs hP hD hS => ?_)
          have hP : va_P D vwCl [(ao, .inr (0, [.ref au, .ref af, .ref ak, .int x.2.2.1, .int x.2.2.2.1, .int (x.2.2.2.2.1 ||| 4), .int x.2.2.2.2.2.1])), (au, .inr (1, [.int x.1.1, .int x.1.2])), (af, .inr (1, [.int x.2.1.1, .int x.2.1.2])), (ak, .inr (2, [.ref a1, .ref a2, .ref a3, .ref a4, .int (nI x.2.2.2.2.2.2.1), .int x.2.2.2.2.2.2.2.1])), (a1, .inl (cI, 10, .inl x.2.2.2.2.2.2.2.2.1)), (a2, .inl (cI, 10, .inl x.2.2.2.2.2.2.2.2.2.1)), (a3, .inl (cI, 10, .inl x.2.2.2.2.2.2.2.2.2.2.1)), (a4, .inl (cI, 10, .inl x.2.2.2.2.2.2.2.2.2.2.2))] H := hP
          have hD : va_D A [(ao, .inr (0, [.ref au, .ref af, .ref ak, .int x.2.2.1, .int x.2.2.2.1, .int (x.2.2.2.2.1 ||| 4), .int x.2.2.2.2.2.1])), (au, .inr (1, [.int x.1.1, .int x.1.2])), (af, .inr (1, [.int x.2.1.1, .int x.2.1.2])), (ak, .inr (2, [.ref a1, .ref a2, .ref a3, .ref a4, .int (nI x.2.2.2.2.2.2.1), .int x.2.2.2.2.2.2.2.1])), (a1, .inl (cI, 10, .inl x.2.2.2.2.2.2.2.2.1)), (a2, .inl (cI, 10, .inl x.2.2.2.2.2.2.2.2.2.1)), (a3, .inl (cI, 10, .inl x.2.2.2.2.2.2.2.2.2.2.1)), (a4, .inl (cI, 10, .inl x.2.2.2.2.2.2.2.2.2.2.2))] := hD
          refine lv_iload_n hx hb dT_open_42 rfl (lv_at hl 2 rfl) ?_
          refine lv_if_eq (tgt := 58) hx hb dT_open_43 (by decide) (fun h => absurd h h1) (fun _ => ?_)
          refine lv_aload_n hx hb dT_open_46 rfl (lv_at hl 1 rfl) ?_
          refine lv_dup hx hb dT_open_47 rfl ?_
          refine va_get (D := D) (ci := 0) (v := .int x.2.2.2.2.2.1) (C := cnT) (T := ftT) (N := 7) hx hb hts inT hown hK hP 0 rfl rfl 6 (by decide) (hts _ mw88) (fun _ h9 => h9) rfl dT_open_48 ?_
          refine lv_iconst (v := 1) hx hb dT_open_51 (by decide) ?_
          refine lv_iload_n hx hb dT_open_52 rfl (lv_at hl 0 rfl) ?_
          refine lv_ishl hx hb dT_open_53 ?_
          refine kTop (y := 4) (by decide) ?_
          refine lv_ior hx hb dT_open_54 ?_
          refine va_put (D := D) (ci := 0) (v := .int (x.2.2.2.2.2.1 ||| 4)) (ty := (.int)) (C := cnT) (T := ftT) (N := 7) hx hb hts inT tyT tyT_ok nmT hown hK hP hD hS 0 rfl rfl 6 (by decide) (hts _ mw88) (fun _ h9 => h9) rfl (by decide +kernel) rfl rfl (Nat.le_of_ble_eq_true rfl) dT_open_55 (fun H locs hP hD hS => ?_)
          have hP : va_P D vwCl [(ao, .inr (0, [.ref au, .ref af, .ref ak, .int x.2.2.1, .int x.2.2.2.1, .int (x.2.2.2.2.1 ||| 4), .int (x.2.2.2.2.2.1 ||| 4)])), (au, .inr (1, [.int x.1.1, .int x.1.2])), (af, .inr (1, [.int x.2.1.1, .int x.2.1.2])), (ak, .inr (2, [.ref a1, .ref a2, .ref a3, .ref a4, .int (nI x.2.2.2.2.2.2.1), .int x.2.2.2.2.2.2.2.1])), (a1, .inl (cI, 10, .inl x.2.2.2.2.2.2.2.2.1)), (a2, .inl (cI, 10, .inl x.2.2.2.2.2.2.2.2.2.1)), (a3, .inl (cI, 10, .inl x.2.2.2.2.2.2.2.2.2.2.1)), (a4, .inl (cI, 10, .inl x.2.2.2.2.2.2.2.2.2.2.2))] H := hP
          have hD : va_D A [(ao, .inr (0, [.ref au, .ref af, .ref ak, .int x.2.2.1, .int x.2.2.2.1, .int (x.2.2.2.2.1 ||| 4), .int (x.2.2.2.2.2.1 ||| 4)])), (au, .inr (1, [.int x.1.1, .int x.1.2])), (af, .inr (1, [.int x.2.1.1, .int x.2.1.2])), (ak, .inr (2, [.ref a1, .ref a2, .ref a3, .ref a4, .int (nI x.2.2.2.2.2.2.1), .int x.2.2.2.2.2.2.2.1])), (a1, .inl (cI, 10, .inl x.2.2.2.2.2.2.2.2.1)), (a2, .inl (cI, 10, .inl x.2.2.2.2.2.2.2.2.2.1)), (a3, .inl (cI, 10, .inl x.2.2.2.2.2.2.2.2.2.2.1)), (a4, .inl (cI, 10, .inl x.2.2.2.2.2.2.2.2.2.2.2))] := hD
          refine lv_iload_n hx hb dT_open_58 rfl (lv_at hl 0 rfl) ?_
          exact kretI (wf := fun st => wX cI ao au af ak a1 a2 a3 a4 st) (st := (x.1, x.2.1, x.2.2.1, x.2.2.2.1, (x.2.2.2.2.1 ||| 4), (x.2.2.2.2.2.1 ||| 4), x.2.2.2.2.2.2)) (by first | (rw [zt_open, if_neg h1, if_neg h2, if_neg h3, if_pos h4]; done) | exact ((if_neg h1).trans ((if_neg h2).trans ((if_neg h3).trans (if_pos h4))))) hx hb hr hlk hS hP hD hK dT_open_59
      ·
        refine lv_aload_n hx hb dT_open_30 rfl (lv_at hl 1 rfl) ?_
        refine lv_dup hx hb dT_open_31 rfl ?_
        refine va_get (D := D) (ci := 0) (v := .int x.2.2.2.2.1) (C := cnT) (T := ftT) (N := 7) hx hb hts inT hown hK hP 0 rfl rfl 5 (by decide) (hts _ mw87) (fun _ h9 => h9) rfl dT_open_32 ?_
        refine lv_iconst (v := 1) hx hb dT_open_35 (by decide) ?_
        refine lv_iload_n hx hb dT_open_36 rfl (lv_at hl 0 rfl) ?_
        refine lv_ishl hx hb dT_open_37 ?_
        refine kTop (y := 2) (by decide) ?_
        refine lv_ior hx hb dT_open_38 ?_
        refine va_put (D := D) (ci := 0) (v := .int (x.2.2.2.2.1 ||| 2)) (ty := (.int)) (C := cnT) (T := ftT) (N := 7) hx hb hts inT tyT tyT_ok nmT hown hK hP hD hS 0 rfl rfl 5 (by decide) (hts _ mw87) (fun _ h9 => h9) rfl (by decide +kernel) rfl rfl (Nat.le_of_ble_eq_true rfl) dT_open_39 (fun H locs hP hD hS => ?_)
        have hP : va_P D vwCl [(ao, .inr (0, [.ref au, .ref af, .ref ak, .int x.2.2.1, .int x.2.2.2.1, .int (x.2.2.2.2.1 ||| 2), .int x.2.2.2.2.2.1])), (au, .inr (1, [.int x.1.1, .int x.1.2])), (af, .inr (1, [.int x.2.1.1, .int x.2.1.2])), (ak, .inr (2, [.ref a1, .ref a2, .ref a3, .ref a4, .int (nI x.2.2.2.2.2.2.1), .int x.2.2.2.2.2.2.2.1])), (a1, .inl (cI, 10, .inl x.2.2.2.2.2.2.2.2.1)), (a2, .inl (cI, 10, .inl x.2.2.2.2.2.2.2.2.2.1)), (a3, .inl (cI, 10, .inl x.2.2.2.2.2.2.2.2.2.2.1)), (a4, .inl (cI, 10, .inl x.2.2.2.2.2.2.2.2.2.2.2))] H := hP
        have hD : va_D A [(ao, .inr (0, [.ref au, .ref af, .ref ak, .int x.2.2.1, .int x.2.2.2.1, .int (x.2.2.2.2.1 ||| 2), .int x.2.2.2.2.2.1])), (au, .inr (1, [.int x.1.1, .int x.1.2])), (af, .inr (1, [.int x.2.1.1, .int x.2.1.2])), (ak, .inr (2, [.ref a1, .ref a2, .ref a3, .ref a4, .int (nI x.2.2.2.2.2.2.1), .int x.2.2.2.2.2.2.2.1])), (a1, .inl (cI, 10, .inl x.2.2.2.2.2.2.2.2.1)), (a2, .inl (cI, 10, .inl x.2.2.2.2.2.2.2.2.2.1)), (a3, .inl (cI, 10, .inl x.2.2.2.2.2.2.2.2.2.2.1)), (a4, .inl (cI, 10, .inl x.2.2.2.2.2.2.2.2.2.2.2))] := hD
        refine lv_iload_n hx hb dT_open_42 rfl (lv_at hl 2 rfl) ?_
        refine lv_if_eq (tgt := 58) hx hb dT_open_43 (by decide) (fun h => absurd h h1) (fun _ => ?_)
        refine lv_aload_n hx hb dT_open_46 rfl (lv_at hl 1 rfl) ?_
        refine lv_dup hx hb dT_open_47 rfl ?_
        refine va_get (D := D) (ci := 0) (v := .int x.2.2.2.2.2.1) (C := cnT) (T := ftT) (N := 7) hx hb hts inT hown hK hP 0 rfl rfl 6 (by decide) (hts _ mw88) (fun _ h9 => h9) rfl dT_open_48 ?_
        refine lv_iconst (v := 1) hx hb dT_open_51 (by decide) ?_
        refine lv_iload_n hx hb dT_open_52 rfl (lv_at hl 0 rfl) ?_
        refine lv_ishl hx hb dT_open_53 ?_
        refine kTop (y := 2) (by decide) ?_
        refine lv_ior hx hb dT_open_54 ?_
        refine va_put (D := D) (ci := 0) (v := .int (x.2.2.2.2.2.1 ||| 2)) (ty := (.int)) (C := cnT) (T := ftT) (N := 7) hx hb hts inT tyT tyT_ok nmT hown hK hP hD hS 0 rfl rfl 6 (by decide) (hts _ mw88) (fun _ h9 => h9) rfl (by decide +kernel) rfl rfl (Nat.le_of_ble_eq_true rfl) dT_open_55 (fun H locs hP hD hS => ?_)
        have hP : va_P D vwCl [(ao, .inr (0, [.ref au, .ref af, .ref ak, .int x.2.2.1, .int x.2.2.2.1, .int (x.2.2.2.2.1 ||| 2), .int (x.2.2.2.2.2.1 ||| 2)])), (au, .inr (1, [.int x.1.1, .int x.1.2])), (af, .inr (1, [.int x.2.1.1, .int x.2.1.2])), (ak, .inr (2, [.ref a1, .ref a2, .ref a3, .ref a4, .int (nI x.2.2.2.2.2.2.1), .int x.2.2.2.2.2.2.2.1])), (a1, .inl (cI, 10, .inl x.2.2.2.2.2.2.2.2.1)), (a2, .inl (cI, 10, .inl x.2.2.2.2.2.2.2.2.2.1)), (a3, .inl (cI, 10, .inl x.2.2.2.2.2.2.2.2.2.2.1)), (a4, .inl (cI, 10, .inl x.2.2.2.2.2.2.2.2.2.2.2))] H := hP
        have hD : va_D A [(ao, .inr (0, [.ref au, .ref af, .ref ak, .int x.2.2.1, .int x.2.2.2.1, .int (x.2.2.2.2.1 ||| 2), .int (x.2.2.2.2.2.1 ||| 2)])), (au, .inr (1, [.int x.1.1, .int x.1.2])), (af, .inr (1, [.int x.2.1.1, .int x.2.1.2])), (ak, .inr (2, [.ref a1, .ref a2, .ref a3, .ref a4, .int (nI x.2.2.2.2.2.2.1), .int x.2.2.2.2.2.2.2.1])), (a1, .inl (cI, 10, .inl x.2.2.2.2.2.2.2.2.1)), (a2, .inl (cI, 10, .inl x.2.2.2.2.2.2.2.2.2.1)), (a3, .inl (cI, 10, .inl x.2.2.2.2.2.2.2.2.2.2.1)), (a4, .inl (cI, 10, .inl x.2.2.2.2.2.2.2.2.2.2.2))] := hD
        refine lv_iload_n hx hb dT_open_58 rfl (lv_at hl 0 rfl) ?_
        exact kretI (wf := fun st => wX cI ao au af ak a1 a2 a3 a4 st) (st := (x.1, x.2.1, x.2.2.1, x.2.2.2.1, (x.2.2.2.2.1 ||| 2), (x.2.2.2.2.2.1 ||| 2), x.2.2.2.2.2.2)) (by first | (rw [zt_open, if_neg h1, if_neg h2, if_pos h3]; done) | exact ((if_neg h1).trans ((if_neg h2).trans (if_pos h3)))) hx hb hr hlk hS hP hD hK dT_open_59
    ·
      refine lv_aload_n hx hb dT_open_30 rfl (lv_at hl 1 rfl) ?_
      refine lv_dup hx hb dT_open_31 rfl ?_
      refine va_get (D := D) (ci := 0) (v := .int x.2.2.2.2.1) (C := cnT) (T := ftT) (N := 7) hx hb hts inT hown hK hP 0 rfl rfl 5 (by decide) (hts _ mw87) (fun _ h9 => h9) rfl dT_open_32 ?_
      refine lv_iconst (v := 1) hx hb dT_open_35 (by decide) ?_
      refine lv_iload_n hx hb dT_open_36 rfl (lv_at hl 0 rfl) ?_
      refine lv_ishl hx hb dT_open_37 ?_
      refine kTop (y := 1) (by decide) ?_
      refine lv_ior hx hb dT_open_38 ?_
      refine va_put (D := D) (ci := 0) (v := .int (x.2.2.2.2.1 ||| 1)) (ty := (.int)) (C := cnT) (T := ftT) (N := 7) hx hb hts inT tyT tyT_ok nmT hown hK hP hD hS 0 rfl rfl 5 (by decide) (hts _ mw87) (fun _ h9 => h9) rfl (by decide +kernel) rfl rfl (Nat.le_of_ble_eq_true rfl) dT_open_39 (fun H locs hP hD hS => ?_)
      have hP : va_P D vwCl [(ao, .inr (0, [.ref au, .ref af, .ref ak, .int x.2.2.1, .int x.2.2.2.1, .int (x.2.2.2.2.1 ||| 1), .int x.2.2.2.2.2.1])), (au, .inr (1, [.int x.1.1, .int x.1.2])), (af, .inr (1, [.int x.2.1.1, .int x.2.1.2])), (ak, .inr (2, [.ref a1, .ref a2, .ref a3, .ref a4, .int (nI x.2.2.2.2.2.2.1), .int x.2.2.2.2.2.2.2.1])), (a1, .inl (cI, 10, .inl x.2.2.2.2.2.2.2.2.1)), (a2, .inl (cI, 10, .inl x.2.2.2.2.2.2.2.2.2.1)), (a3, .inl (cI, 10, .inl x.2.2.2.2.2.2.2.2.2.2.1)), (a4, .inl (cI, 10, .inl x.2.2.2.2.2.2.2.2.2.2.2))] H := hP
      have hD : va_D A [(ao, .inr (0, [.ref au, .ref af, .ref ak, .int x.2.2.1, .int x.2.2.2.1, .int (x.2.2.2.2.1 ||| 1), .int x.2.2.2.2.2.1])), (au, .inr (1, [.int x.1.1, .int x.1.2])), (af, .inr (1, [.int x.2.1.1, .int x.2.1.2])), (ak, .inr (2, [.ref a1, .ref a2, .ref a3, .ref a4, .int (nI x.2.2.2.2.2.2.1), .int x.2.2.2.2.2.2.2.1])), (a1, .inl (cI, 10, .inl x.2.2.2.2.2.2.2.2.1)), (a2, .inl (cI, 10, .inl x.2.2.2.2.2.2.2.2.2.1)), (a3, .inl (cI, 10, .inl x.2.2.2.2.2.2.2.2.2.2.1)), (a4, .inl (cI, 10, .inl x.2.2.2.2.2.2.2.2.2.2.2))] := hD
      refine lv_iload_n hx hb dT_open_42 rfl (lv_at hl 2 rfl) ?_
      refine lv_if_eq (tgt := 58) hx hb dT_open_43 (by decide) (fun h => absurd h h1) (fun _ => ?_)
      refine lv_aload_n hx hb dT_open_46 rfl (lv_at hl 1 rfl) ?_
      refine lv_dup hx hb dT_open_47 rfl ?_
      refine va_get (D := D) (ci := 0) (v := .int x.2.2.2.2.2.1) (C := cnT) (T := ftT) (N := 7) hx hb hts inT hown hK hP 0 rfl rfl 6 (by decide) (hts _ mw88) (fun _ h9 => h9) rfl dT_open_48 ?_
      refine lv_iconst (v := 1) hx hb dT_open_51 (by decide) ?_
      refine lv_iload_n hx hb dT_open_52 rfl (lv_at hl 0 rfl) ?_
      refine lv_ishl hx hb dT_open_53 ?_
      refine kTop (y := 1) (by decide) ?_
      refine lv_ior hx hb dT_open_54 ?_
      refine va_put (D := D) (ci := 0) (v := .int (x.2.2.2.2.2.1 ||| 1)) (ty := (.int)) (C := cnT) (T := ftT) (N := 7) hx hb hts inT tyT tyT_ok nmT hown hK hP hD hS 0 rfl rfl 6 (by decide) (hts _ mw88) (fun _ h9 => h9) rfl (by decide +kernel) rfl rfl (Nat.le_of_ble_eq_true rfl) dT_open_55 (fun H locs hP hD hS => ?_)
      have hP : va_P D vwCl [(ao, .inr (0, [.ref au, .ref af, .ref ak, .int x.2.2.1, .int x.2.2.2.1, .int (x.2.2.2.2.1 ||| 1), .int (x.2.2.2.2.2.1 ||| 1)])), (au, .inr (1, [.int x.1.1, .int x.1.2])), (af, .inr (1, [.int x.2.1.1, .int x.2.1.2])), (ak, .inr (2, [.ref a1, .ref a2, .ref a3, .ref a4, .int (nI x.2.2.2.2.2.2.1), .int x.2.2.2.2.2.2.2.1])), (a1, .inl (cI, 10, .inl x.2.2.2.2.2.2.2.2.1)), (a2, .inl (cI, 10, .inl x.2.2.2.2.2.2.2.2.2.1)), (a3, .inl (cI, 10, .inl x.2.2.2.2.2.2.2.2.2.2.1)), (a4, .inl (cI, 10, .inl x.2.2.2.2.2.2.2.2.2.2.2))] H := hP
      have hD : va_D A [(ao, .inr (0, [.ref au, .ref af, .ref ak, .int x.2.2.1, .int x.2.2.2.1, .int (x.2.2.2.2.1 ||| 1), .int (x.2.2.2.2.2.1 ||| 1)])), (au, .inr (1, [.int x.1.1, .int x.1.2])), (af, .inr (1, [.int x.2.1.1, .int x.2.1.2])), (ak, .inr (2, [.ref a1, .ref a2, .ref a3, .ref a4, .int (nI x.2.2.2.2.2.2.1), .int x.2.2.2.2.2.2.2.1])), (a1, .inl (cI, 10, .inl x.2.2.2.2.2.2.2.2.1)), (a2, .inl (cI, 10, .inl x.2.2.2.2.2.2.2.2.2.1)), (a3, .inl (cI, 10, .inl x.2.2.2.2.2.2.2.2.2.2.1)), (a4, .inl (cI, 10, .inl x.2.2.2.2.2.2.2.2.2.2.2))] := hD
      refine lv_iload_n hx hb dT_open_58 rfl (lv_at hl 0 rfl) ?_
      exact kretI (wf := fun st => wX cI ao au af ak a1 a2 a3 a4 st) (st := (x.1, x.2.1, x.2.2.1, x.2.2.2.1, (x.2.2.2.2.1 ||| 1), (x.2.2.2.2.2.1 ||| 1), x.2.2.2.2.2.2)) (by first | (rw [zt_open, if_neg h1, if_pos h2]; done) | exact ((if_neg h1).trans (if_pos h2))) hx hb hr hlk hS hP hD hK dT_open_59
  ·
    refine lv_aload_n hx hb dT_open_4 rfl (lv_at hl 0 rfl) ?_
    refine va_get (D := D) (ci := 0) (v := .int x.2.2.1) (C := cnT) (T := ftT) (N := 7) hx hb hts inT hown hK hP 0 rfl rfl 3 (by decide) (hts _ mw85) (fun _ h9 => h9) rfl dT_open_5 ?_
    refine lv_iconst (v := 2) hx hb dT_open_8 (by decide) ?_
    refine lv_icmp_ne (tgt := 15) hx hb dT_open_9 (by decide) (fun h5 => ?_) (fun h5 => ?_)
    ·
      refine lv_iconst (v := 0) hx hb dT_open_15 (by decide) ?_
      refine lv_istore_n hx hb dT_open_16 rfl hl (by decide) rfl (fun ls hl => ?_)
      have hl : lv_has ls 3 [(2, .int 0), (0, .ref ao), (1, .int g1)] := hl
      refine lv_iload_n hx hb dT_open_17 rfl (lv_at hl 0 rfl) ?_
      refine lv_iconst (v := 3) hx hb dT_open_18 (by decide) ?_
      refine lv_icmp_ge (tgt := 66) hx hb dT_open_19 (by decide) (fun h => absurd h (by decide)) (fun _ => ?_)
      refine lv_aload_n hx hb dT_open_22 rfl (lv_at hl 1 rfl) ?_
      refine lv_iload_n hx hb dT_open_23 rfl (lv_at hl 0 rfl) ?_
      refine kcI (isR := []) (isC := [0, 1, 2, 3, 4, 5, 6, 7]) (wr := []) (w2 := [(ao, .inr (0, [.ref au, .ref af, .ref ak, .int x.2.2.1, .int x.2.2.2.1, .int x.2.2.2.2.1, .int x.2.2.2.2.2.1])), (au, .inr (1, [.int x.1.1, .int x.1.2])), (af, .inr (1, [.int x.2.1.1, .int x.2.1.2])), (ak, .inr (2, [.ref a1, .ref a2, .ref a3, .ref a4, .int (nI x.2.2.2.2.2.2.1), .int x.2.2.2.2.2.2.2.1])), (a1, .inl (cI, 10, .inl x.2.2.2.2.2.2.2.2.1)), (a2, .inl (cI, 10, .inl x.2.2.2.2.2.2.2.2.2.1)), (a3, .inl (cI, 10, .inl x.2.2.2.2.2.2.2.2.2.2.1)), (a4, .inl (cI, 10, .inl x.2.2.2.2.2.2.2.2.2.2.2))]) (va_runV (As := [.int 0]) (rest := []) ⟨hx, hb, hml, hown, hts⟩ (kt_isOpen l D cI cZ ao au af ak a1 a2 a3 a4 x 0 _) ⟨(callB_of 1 hts gd_yT_isOpen rfl rfl rfl (hts _ mw24) (hts _ mw108) (by decide +kernel) ⟨Nat.le_of_ble_eq_true rfl, Nat.le_of_ble_eq_true rfl⟩), hts _ mw110, hts _ mw0⟩ (kpreV hNw hP hD hK [0, 1, 2, 3, 4, 5, 6, 7] rfl (by decide) 0 rfl (ci := 0) rfl) rfl rfl hl.1 rfl (lv_room (Nat.le_of_ble_eq_true rfl)) dT_open_24 ⟨Nat.le_of_ble_eq_true rfl, Nat.le_of_ble_eq_true rfl⟩) hP hD hS hA [0, 1, 2, 3, 4, 5, 6, 7] rfl rfl (by decide) (by decide) (by decide) rfl (fun H locs hP hD hS => ?_)
      refine lv_if_ne (tgt := 60) hx hb dT_open_27 (by decide) (fun h6 => ?_) (fun h6 => ?_)
      ·
        refine lv_iinc (k := 0) (v := 1) hx hb dT_open_60 hl rfl (by decide) (by decide) rfl (fun ls hl => ?_)
        have hl : lv_has ls 3 [(2, .int 1), (0, .ref ao), (1, .int g1)] := hl
        refine lv_goto hx hb dT_open_63 (tgt := 17) (by decide) ?_
        refine lv_iload_n hx hb dT_open_17 rfl (lv_at hl 0 rfl) ?_
        refine lv_iconst (v := 3) hx hb dT_open_18 (by decide) ?_
        refine lv_icmp_ge (tgt := 66) hx hb dT_open_19 (by decide) (fun h => absurd h (by decide)) (fun _ => ?_)
        refine lv_aload_n hx hb dT_open_22 rfl (lv_at hl 1 rfl) ?_
        refine lv_iload_n hx hb dT_open_23 rfl (lv_at hl 0 rfl) ?_
        refine kcI (isR := []) (isC := [0, 1, 2, 3, 4, 5, 6, 7]) (wr := []) (w2 := [(ao, .inr (0, [.ref au, .ref af, .ref ak, .int x.2.2.1, .int x.2.2.2.1, .int x.2.2.2.2.1, .int x.2.2.2.2.2.1])), (au, .inr (1, [.int x.1.1, .int x.1.2])), (af, .inr (1, [.int x.2.1.1, .int x.2.1.2])), (ak, .inr (2, [.ref a1, .ref a2, .ref a3, .ref a4, .int (nI x.2.2.2.2.2.2.1), .int x.2.2.2.2.2.2.2.1])), (a1, .inl (cI, 10, .inl x.2.2.2.2.2.2.2.2.1)), (a2, .inl (cI, 10, .inl x.2.2.2.2.2.2.2.2.2.1)), (a3, .inl (cI, 10, .inl x.2.2.2.2.2.2.2.2.2.2.1)), (a4, .inl (cI, 10, .inl x.2.2.2.2.2.2.2.2.2.2.2))]) (va_runV (As := [.int 1]) (rest := []) ⟨hx, hb, hml, hown, hts⟩ (kt_isOpen l D cI cZ ao au af ak a1 a2 a3 a4 x 1 _) ⟨(callB_of 1 hts gd_yT_isOpen rfl rfl rfl (hts _ mw24) (hts _ mw108) (by decide +kernel) ⟨Nat.le_of_ble_eq_true rfl, Nat.le_of_ble_eq_true rfl⟩), hts _ mw110, hts _ mw0⟩ (kpreV hNw hP hD hK [0, 1, 2, 3, 4, 5, 6, 7] rfl (by decide) 0 rfl (ci := 0) rfl) rfl rfl hl.1 rfl (lv_room (Nat.le_of_ble_eq_true rfl)) dT_open_24 ⟨Nat.le_of_ble_eq_true rfl, Nat.le_of_ble_eq_true rfl⟩) hP hD hS hA [0, 1, 2, 3, 4, 5, 6, 7] rfl rfl (by decide) (by decide) (by decide) rfl (fun H locs hP hD hS => ?_)
        refine lv_if_ne (tgt := 60) hx hb dT_open_27 (by decide) (fun h7 => ?_) (fun h7 => ?_)
        ·
          refine lv_iinc (k := 0) (v := 2) hx hb dT_open_60 hl rfl (by decide) (by decide) rfl (fun ls hl => ?_)
          have hl : lv_has ls 3 [(2, .int 2), (0, .ref ao), (1, .int g1)] := hl
          refine lv_goto hx hb dT_open_63 (tgt := 17) (by decide) ?_
          refine lv_iload_n hx hb dT_open_17 rfl (lv_at hl 0 rfl) ?_
          refine lv_iconst (v := 3) hx hb dT_open_18 (by decide) ?_
          refine lv_icmp_ge (tgt := 66) hx hb dT_open_19 (by decide) (fun h => absurd h (by decide)) (fun _ => ?_)
          refine lv_aload_n hx hb dT_open_22 rfl (lv_at hl 1 rfl) ?_
          refine lv_iload_n hx hb dT_open_23 rfl (lv_at hl 0 rfl) ?_
          refine kcI (isR := []) (isC := [0, 1, 2, 3, 4, 5, 6, 7]) (wr := []) (w2 := [(ao, .inr (0, [.ref au, .ref af, .ref ak, .int x.2.2.1, .int x.2.2.2.1, .int x.2.2.2.2.1, .int x.2.2.2.2.2.1])), (au, .inr (1, [.int x.1.1, .int x.1.2])), (af, .inr (1, [.int x.2.1.1, .int x.2.1.2])), (ak, .inr (2, [.ref a1, .ref a2, .ref a3, .ref a4, .int (nI x.2.2.2.2.2.2.1), .int x.2.2.2.2.2.2.2.1])), (a1, .inl (cI, 10, .inl x.2.2.2.2.2.2.2.2.1)), (a2, .inl (cI, 10, .inl x.2.2.2.2.2.2.2.2.2.1)), (a3, .inl (cI, 10, .inl x.2.2.2.2.2.2.2.2.2.2.1)), (a4, .inl (cI, 10, .inl x.2.2.2.2.2.2.2.2.2.2.2))]) (va_runV (As := [.int 2]) (rest := []) ⟨hx, hb, hml, hown, hts⟩ (kt_isOpen l D cI cZ ao au af ak a1 a2 a3 a4 x 2 _) ⟨(callB_of 1 hts gd_yT_isOpen rfl rfl rfl (hts _ mw24) (hts _ mw108) (by decide +kernel) ⟨Nat.le_of_ble_eq_true rfl, Nat.le_of_ble_eq_true rfl⟩), hts _ mw110, hts _ mw0⟩ (kpreV hNw hP hD hK [0, 1, 2, 3, 4, 5, 6, 7] rfl (by decide) 0 rfl (ci := 0) rfl) rfl rfl hl.1 rfl (lv_room (Nat.le_of_ble_eq_true rfl)) dT_open_24 ⟨Nat.le_of_ble_eq_true rfl, Nat.le_of_ble_eq_true rfl⟩) hP hD hS hA [0, 1, 2, 3, 4, 5, 6, 7] rfl rfl (by decide) (by decide) (by decide) rfl (fun H locs hP hD hS => ?_)
          refine lv_if_ne (tgt := 60) hx hb dT_open_27 (by decide) (fun h8 => ?_) (fun h8 => ?_)
          ·
            refine lv_iinc (k := 0) (v := 3) hx hb dT_open_60 hl rfl (by decide) (by decide) rfl (fun ls hl => ?_)
            have hl : lv_has ls 3 [(2, .int 3), (0, .ref ao), (1, .int g1)] := hl
            refine lv_goto hx hb dT_open_63 (tgt := 17) (by decide) ?_
            refine lv_iload_n hx hb dT_open_17 rfl (lv_at hl 0 rfl) ?_
            refine lv_iconst (v := 3) hx hb dT_open_18 (by decide) ?_
            refine lv_icmp_ge (tgt := 66) hx hb dT_open_19 (by decide) (fun _ => ?_) (fun h => absurd h (by decide))
            refine lv_bipush (v := (-6)) hx hb dT_open_66 (by decide) ?_
            exact kretI (wf := fun st => wX cI ao au af ak a1 a2 a3 a4 st) (st := x) (by first | (rw [zt_open, if_pos h1, if_neg h5, if_neg h6, if_neg h7, if_neg h8]; done) | exact ((if_pos h1).trans ((if_neg h5).trans ((if_neg h6).trans ((if_neg h7).trans (if_neg h8)))))) hx hb hr hlk hS hP hD hK dT_open_68
          ·
            refine lv_aload_n hx hb dT_open_30 rfl (lv_at hl 1 rfl) ?_
            refine lv_dup hx hb dT_open_31 rfl ?_
            refine va_get (D := D) (ci := 0) (v := .int x.2.2.2.2.1) (C := cnT) (T := ftT) (N := 7) hx hb hts inT hown hK hP 0 rfl rfl 5 (by decide) (hts _ mw87) (fun _ h9 => h9) rfl dT_open_32 ?_
            refine lv_iconst (v := 1) hx hb dT_open_35 (by decide) ?_
            refine lv_iload_n hx hb dT_open_36 rfl (lv_at hl 0 rfl) ?_
            refine lv_ishl hx hb dT_open_37 ?_
            refine kTop (y := 4) (by decide) ?_
            refine lv_ior hx hb dT_open_38 ?_
            refine va_put (D := D) (ci := 0) (v := .int (x.2.2.2.2.1 ||| 4)) (ty := (.int)) (C := cnT) (T := ftT) (N := 7) hx hb hts inT tyT tyT_ok nmT hown hK hP hD hS 0 rfl rfl 5 (by decide) (hts _ mw87) (fun _ h9 => h9) rfl (by decide +kernel) rfl rfl (Nat.le_of_ble_eq_true rfl) dT_open_39 (fun H locs hP hD hS => ?_)
            have hP : va_P D vwCl [(ao, .inr (0, [.ref au, .ref af, .ref ak, .int x.2.2.1, .int x.2.2.2.1, .int (x.2.2.2.2.1 ||| 4), .int x.2.2.2.2.2.1])), (au, .inr (1, [.int x.1.1, .int x.1.2])), (af, .inr (1, [.int x.2.1.1, .int x.2.1.2])), (ak, .inr (2, [.ref a1, .ref a2, .ref a3, .ref a4, .int (nI x.2.2.2.2.2.2.1), .int x.2.2.2.2.2.2.2.1])), (a1, .inl (cI, 10, .inl x.2.2.2.2.2.2.2.2.1)), (a2, .inl (cI, 10, .inl x.2.2.2.2.2.2.2.2.2.1)), (a3, .inl (cI, 10, .inl x.2.2.2.2.2.2.2.2.2.2.1)), (a4, .inl (cI, 10, .inl x.2.2.2.2.2.2.2.2.2.2.2))] H := hP
            have hD : va_D A [(ao, .inr (0, [.ref au, .ref af, .ref ak, .int x.2.2.1, .int x.2.2.2.1, .int (x.2.2.2.2.1 ||| 4), .int x.2.2.2.2.2.1])), (au, .inr (1, [.int x.1.1, .int x.1.2])), (af, .inr (1, [.int x.2.1.1, .int x.2.1.2])), (ak, .inr (2, [.ref a1, .ref a2, .ref a3, .ref a4, .int (nI x.2.2.2.2.2.2.1), .int x.2.2.2.2.2.2.2.1])), (a1, .inl (cI, 10, .inl x.2.2.2.2.2.2.2.2.1)), (a2, .inl (cI, 10, .inl x.2.2.2.2.2.2.2.2.2.1)), (a3, .inl (cI, 10, .inl x.2.2.2.2.2.2.2.2.2.2.1)), (a4, .inl (cI, 10, .inl x.2.2.2.2.2.2.2.2.2.2.2))] := hD
            refine lv_iload_n hx hb dT_open_42 rfl (lv_at hl 2 rfl) ?_
            refine lv_if_eq (tgt := 58) hx hb dT_open_43 (by decide) (fun _ => ?_) (fun h => absurd h1 h)
            refine lv_iload_n hx hb dT_open_58 rfl (lv_at hl 0 rfl) ?_
            exact kretI (wf := fun st => wX cI ao au af ak a1 a2 a3 a4 st) (st := (x.1, x.2.1, x.2.2.1, x.2.2.2.1, (x.2.2.2.2.1 ||| 4), x.2.2.2.2.2.1, x.2.2.2.2.2.2)) (by first | (rw [zt_open, if_pos h1, if_neg h5, if_neg h6, if_neg h7, if_pos h8]; done) | exact ((if_pos h1).trans ((if_neg h5).trans ((if_neg h6).trans ((if_neg h7).trans (if_pos h8)))))) hx hb hr hlk hS hP hD hK dT_open_59
        ·
          refine lv_aload_n hx hb dT_open_30 rfl (lv_at hl 1 rfl) ?_
          refine lv_dup hx hb dT_open_31 rfl ?_
          refine va_get (D := D) (ci := 0) (v := .int x.2.2.2.2.1) (C := cnT) (T := ftT) (N := 7) hx hb hts inT hown hK hP 0 rfl rfl 5 (by decide) (hts _ mw87) (fun _ h9 => h9) rfl dT_open_32 ?_
          refine lv_iconst (v := 1) hx hb dT_open_35 (by decide) ?_
          refine lv_iload_n hx hb dT_open_36 rfl (lv_at hl 0 rfl) ?_
          refine lv_ishl hx hb dT_open_37 ?_
          refine kTop (y := 2) (by decide) ?_
          refine lv_ior hx hb dT_open_38 ?_
          refine va_put (D := D) (ci := 0) (v := .int (x.2.2.2.2.1 ||| 2)) (ty := (.int)) (C := cnT) (T := ftT) (N := 7) hx hb hts inT tyT tyT_ok nmT hown hK hP hD hS 0 rfl rfl 5 (by decide) (hts _ mw87) (fun _ h9 => h9) rfl (by decide +kernel) rfl rfl (Nat.le_of_ble_eq_true rfl) dT_open_39 (fun H locs hP hD hS => ?_)
          have hP : va_P D vwCl [(ao, .inr (0, [.ref au, .ref af, .ref ak, .int x.2.2.1, .int x.2.2.2.1, .int (x.2.2.2.2.1 ||| 2), .int x.2.2.2.2.2.1])), (au, .inr (1, [.int x.1.1, .int x.1.2])), (af, .inr (1, [.int x.2.1.1, .int x.2.1.2])), (ak, .inr (2, [.ref a1, .ref a2, .ref a3, .ref a4, .int (nI x.2.2.2.2.2.2.1), .int x.2.2.2.2.2.2.2.1])), (a1, .inl (cI, 10, .inl x.2.2.2.2.2.2.2.2.1)), (a2, .inl (cI, 10, .inl x.2.2.2.2.2.2.2.2.2.1)), (a3, .inl (cI, 10, .inl x.2.2.2.2.2.2.2.2.2.2.1)), (a4, .inl (cI, 10, .inl x.2.2.2.2.2.2.2.2.2.2.2))] H := hP
          have hD : va_D A [(ao, .inr (0, [.ref au, .ref af, .ref ak, .int x.2.2.1, .int x.2.2.2.1, .int (x.2.2.2.2.1 ||| 2), .int x.2.2.2.2.2.1])), (au, .inr (1, [.int x.1.1, .int x.1.2])), (af, .inr (1, [.int x.2.1.1, .int x.2.1.2])), (ak, .inr (2, [.ref a1, .ref a2, .ref a3, .ref a4, .int (nI x.2.2.2.2.2.2.1), .int x.2.2.2.2.2.2.2.1])), (a1, .inl (cI, 10, .inl x.2.2.2.2.2.2.2.2.1)), (a2, .inl (cI, 10, .inl x.2.2.2.2.2.2.2.2.2.1)), (a3, .inl (cI, 10, .inl x.2.2.2.2.2.2.2.2.2.2.1)), (a4, .inl (cI, 10, .inl x.2.2.2.2.2.2.2.2.2.2.2))] := hD
          refine lv_iload_n hx hb dT_open_42 rfl (lv_at hl 2 rfl) ?_
          refine lv_if_eq (tgt := 58) hx hb dT_open_43 (by decide) (fun _ => ?_) (fun h => absurd h1 h)
          refine lv_iload_n hx hb dT_open_58 rfl (lv_at hl 0 rfl) ?_
          exact kretI (wf := fun st => wX cI ao au af ak a1 a2 a3 a4 st) (st := (x.1, x.2.1, x.2.2.1, x.2.2.2.1, (x.2.2.2.2.1 ||| 2), x.2.2.2.2.2.1, x.2.2.2.2.2.2)) (by first | (rw [zt_open, if_pos h1, if_neg h5, if_neg h6, if_pos h7]; done) | exact ((if_pos h1).trans ((if_neg h5).trans ((if_neg h6).trans (if_pos h7))))) hx hb hr hlk hS hP hD hK dT_open_59
      ·
        refine lv_aload_n hx hb dT_open_30 rfl (lv_at hl 1 rfl) ?_
        refine lv_dup hx hb dT_open_31 rfl ?_
        refine va_get (D := D) (ci := 0) (v := .int x.2.2.2.2.1) (C := cnT) (T := ftT) (N := 7) hx hb hts inT hown hK hP 0 rfl rfl 5 (by decide) (hts _ mw87) (fun _ h9 => h9) rfl dT_open_32 ?_
        refine lv_iconst (v := 1) hx hb dT_open_35 (by decide) ?_
        refine lv_iload_n hx hb dT_open_36 rfl (lv_at hl 0 rfl) ?_
        refine lv_ishl hx hb dT_open_37 ?_
        refine kTop (y := 1) (by decide) ?_
        refine lv_ior hx hb dT_open_38 ?_
        refine va_put (D := D) (ci := 0) (v := .int (x.2.2.2.2.1 ||| 1)) (ty := (.int)) (C := cnT) (T := ftT) (N := 7) hx hb hts inT tyT tyT_ok nmT hown hK hP hD hS 0 rfl rfl 5 (by decide) (hts _ mw87) (fun _ h9 => h9) rfl (by decide +kernel) rfl rfl (Nat.le_of_ble_eq_true rfl) dT_open_39 (fun H locs hP hD hS => ?_)
        have hP : va_P D vwCl [(ao, .inr (0, [.ref au, .ref af, .ref ak, .int x.2.2.1, .int x.2.2.2.1, .int (x.2.2.2.2.1 ||| 1), .int x.2.2.2.2.2.1])), (au, .inr (1, [.int x.1.1, .int x.1.2])), (af, .inr (1, [.int x.2.1.1, .int x.2.1.2])), (ak, .inr (2, [.ref a1, .ref a2, .ref a3, .ref a4, .int (nI x.2.2.2.2.2.2.1), .int x.2.2.2.2.2.2.2.1])), (a1, .inl (cI, 10, .inl x.2.2.2.2.2.2.2.2.1)), (a2, .inl (cI, 10, .inl x.2.2.2.2.2.2.2.2.2.1)), (a3, .inl (cI, 10, .inl x.2.2.2.2.2.2.2.2.2.2.1)), (a4, .inl (cI, 10, .inl x.2.2.2.2.2.2.2.2.2.2.2))] H := hP
        have hD : va_D A [(ao, .inr (0, [.ref au, .ref af, .ref ak, .int x.2.2.1, .int x.2.2.2.1, .int (x.2.2.2.2.1 ||| 1), .int x.2.2.2.2.2.1])), (au, .inr (1, [.int x.1.1, .int x.1.2])), (af, .inr (1, [.int x.2.1.1, .int x.2.1.2])), (ak, .inr (2, [.ref a1, .ref a2, .ref a3, .ref a4, .int (nI x.2.2.2.2.2.2.1), .int x.2.2.2.2.2.2.2.1])), (a1, .inl (cI, 10, .inl x.2.2.2.2.2.2.2.2.1)), (a2, .inl (cI, 10, .inl x.2.2.2.2.2.2.2.2.2.1)), (a3, .inl (cI, 10, .inl x.2.2.2.2.2.2.2.2.2.2.1)), (a4, .inl (cI, 10, .inl x.2.2.2.2.2.2.2.2.2.2.2))] := hD
        refine lv_iload_n hx hb dT_open_42 rfl (lv_at hl 2 rfl) ?_
        refine lv_if_eq (tgt := 58) hx hb dT_open_43 (by decide) (fun _ => ?_) (fun h => absurd h1 h)
        refine lv_iload_n hx hb dT_open_58 rfl (lv_at hl 0 rfl) ?_
        exact kretI (wf := fun st => wX cI ao au af ak a1 a2 a3 a4 st) (st := (x.1, x.2.1, x.2.2.1, x.2.2.2.1, (x.2.2.2.2.1 ||| 1), x.2.2.2.2.2.1, x.2.2.2.2.2.2)) (by first | (rw [zt_open, if_pos h1, if_neg h5, if_pos h6]; done) | exact ((if_pos h1).trans ((if_neg h5).trans (if_pos h6)))) hx hb hr hlk hS hP hD hK dT_open_59
    ·
      refine lv_bipush (v := (-3)) hx hb dT_open_12 (by decide) ?_
      exact kretI (wf := fun st => wX cI ao au af ak a1 a2 a3 a4 st) (st := x) (by first | (rw [zt_open, if_pos h1, if_pos h5]; done) | exact ((if_pos h1).trans (if_pos h5))) hx hb hr hlk hS hP hD hK dT_open_14

def zt_close (x : XS) (g1 : Int32) : Int32 × XS := (if (zt_isOpen x g1) = 0 then ((-1), x) else (if (x.2.2.2.2.1 &&& (((1 : Int32) <<< (g1 &&& 31)) ^^^ (-1))) = 0 then (0, (x.1, x.2.1, 0, x.2.2.2.1, (x.2.2.2.2.1 &&& (((1 : Int32) <<< (g1 &&& 31)) ^^^ (-1))), (x.2.2.2.2.2.1 &&& (((1 : Int32) <<< (g1 &&& 31)) ^^^ (-1))), (zk_removeOwnedBy x.2.2.2.2.2.2 g1))) else (0, (x.1, x.2.1, x.2.2.1, x.2.2.2.1, (x.2.2.2.2.1 &&& (((1 : Int32) <<< (g1 &&& 31)) ^^^ (-1))), (x.2.2.2.2.2.1 &&& (((1 : Int32) <<< (g1 &&& 31)) ^^^ (-1))), (zk_removeOwnedBy x.2.2.2.2.2.2 g1)))))

set_option maxHeartbeats 4000000 in
set_option maxRecDepth 100000 in
theorem kt_close (l : Launch) (D : va_G) (cI cZ : ClassId) (ao au af ak a1 a2 a3 a4 : Nat) (x : XS) (g1 : Int32) (hn : x.2.2.2.2.2.2.1 ≤ 10) : kI l yT_close wsT_close (rmOf 2 44) D (kT cI cZ) [.ref ao, .int g1] (wX cI ao au af ak a1 a2 a3 a4 x) (zt_close x g1).1 (wX cI ao au af ak a1 a2 a3 a4 ((zt_close x g1).2)) := by
  intro sz
  refine kOf (Qc := fun A => kQi D (kT cI cZ) A (zt_close x g1).1 (wX cI ao au af ak a1 a2 a3 a4 ((zt_close x g1).2))) (cc := cT_close) (maxL := 2) (ret := some .int) (by decide) rfl (Nat.le_of_ble_eq_true rfl) ?_ sz
  intro p e s m args below meth c A ls hx hb hml hown hts hNw hr hlk hin hA hS hP hD hK hl
  show W p l e (rmOf 2 44) s m args below meth c s.heap [] 0 0 (MQ below (kQi D (kT cI cZ) A (zt_close x g1).1 (wX cI ao au af ak a1 a2 a3 a4 ((zt_close x g1).2))) args s 0 0 A) (F0 m 0 ls [])
  have hts : ∀ q ∈ lw_g, q.before args s = true := fun q h => hts q (List.mem_cons_of_mem _ h)
  have hown : s.vm.findClass cnT = some m.cls := hown
  have hl : lv_has ls 2 [(0, .ref ao), (1, .int g1)] := hl
  have hP : va_P D vwCl [(ao, .inr (0, [.ref au, .ref af, .ref ak, .int x.2.2.1, .int x.2.2.2.1, .int x.2.2.2.2.1, .int x.2.2.2.2.2.1])), (au, .inr (1, [.int x.1.1, .int x.1.2])), (af, .inr (1, [.int x.2.1.1, .int x.2.1.2])), (ak, .inr (2, [.ref a1, .ref a2, .ref a3, .ref a4, .int (nI x.2.2.2.2.2.2.1), .int x.2.2.2.2.2.2.2.1])), (a1, .inl (cI, 10, .inl x.2.2.2.2.2.2.2.2.1)), (a2, .inl (cI, 10, .inl x.2.2.2.2.2.2.2.2.2.1)), (a3, .inl (cI, 10, .inl x.2.2.2.2.2.2.2.2.2.2.1)), (a4, .inl (cI, 10, .inl x.2.2.2.2.2.2.2.2.2.2.2))] s.heap := hP
  have hD : va_D A [(ao, .inr (0, [.ref au, .ref af, .ref ak, .int x.2.2.1, .int x.2.2.2.1, .int x.2.2.2.2.1, .int x.2.2.2.2.2.1])), (au, .inr (1, [.int x.1.1, .int x.1.2])), (af, .inr (1, [.int x.2.1.1, .int x.2.1.2])), (ak, .inr (2, [.ref a1, .ref a2, .ref a3, .ref a4, .int (nI x.2.2.2.2.2.2.1), .int x.2.2.2.2.2.2.2.1])), (a1, .inl (cI, 10, .inl x.2.2.2.2.2.2.2.2.1)), (a2, .inl (cI, 10, .inl x.2.2.2.2.2.2.2.2.2.1)), (a3, .inl (cI, 10, .inl x.2.2.2.2.2.2.2.2.2.2.1)), (a4, .inl (cI, 10, .inl x.2.2.2.2.2.2.2.2.2.2.2))] := hD
  refine lv_aload_n hx hb dT_close_0 rfl (lv_at hl 0 rfl) ?_
  refine lv_iload_n hx hb dT_close_1 rfl (lv_at hl 1 rfl) ?_
  refine kcI (isR := []) (isC := [0, 1, 2, 3, 4, 5, 6, 7]) (wr := []) (w2 := [(ao, .inr (0, [.ref au, .ref af, .ref ak, .int x.2.2.1, .int x.2.2.2.1, .int x.2.2.2.2.1, .int x.2.2.2.2.2.1])), (au, .inr (1, [.int x.1.1, .int x.1.2])), (af, .inr (1, [.int x.2.1.1, .int x.2.1.2])), (ak, .inr (2, [.ref a1, .ref a2, .ref a3, .ref a4, .int (nI x.2.2.2.2.2.2.1), .int x.2.2.2.2.2.2.2.1])), (a1, .inl (cI, 10, .inl x.2.2.2.2.2.2.2.2.1)), (a2, .inl (cI, 10, .inl x.2.2.2.2.2.2.2.2.2.1)), (a3, .inl (cI, 10, .inl x.2.2.2.2.2.2.2.2.2.2.1)), (a4, .inl (cI, 10, .inl x.2.2.2.2.2.2.2.2.2.2.2))]) (va_runV (As := [.int g1]) (rest := []) ⟨hx, hb, hml, hown, hts⟩ (kt_isOpen l D cI cZ ao au af ak a1 a2 a3 a4 x g1 _) ⟨(callB_of 1 hts gd_yT_isOpen rfl rfl rfl (hts _ mw24) (hts _ mw108) (by decide +kernel) ⟨Nat.le_of_ble_eq_true rfl, Nat.le_of_ble_eq_true rfl⟩), hts _ mw110, hts _ mw0⟩ (kpreV hNw hP hD hK [0, 1, 2, 3, 4, 5, 6, 7] rfl (by decide) 0 rfl (ci := 0) rfl) rfl rfl hl.1 rfl (lv_room (Nat.le_of_ble_eq_true rfl)) dT_close_2 ⟨Nat.le_of_ble_eq_true rfl, Nat.le_of_ble_eq_true rfl⟩) hP hD hS hA [0, 1, 2, 3, 4, 5, 6, 7] rfl rfl (by decide) (by decide) (by decide) rfl (fun H locs hP hD hS => ?_)
  refine lv_if_ne (tgt := 10) hx hb dT_close_5 (by decide) (fun h1 => ?_) (fun h1 => ?_)
  ·
    refine lv_aload_n hx hb dT_close_10 rfl (lv_at hl 0 rfl) ?_
    refine lv_dup hx hb dT_close_11 rfl ?_
    refine va_get (D := D) (ci := 0) (v := .int x.2.2.2.2.1) (C := cnT) (T := ftT) (N := 7) hx hb hts inT hown hK hP 0 rfl rfl 5 (by decide) (hts _ mw87) (fun _ h9 => h9) rfl dT_close_12 ?_
    refine lv_iconst (v := 1) hx hb dT_close_15 (by decide) ?_
    refine lv_iload_n hx hb dT_close_16 rfl (lv_at hl 1 rfl) ?_
    refine lv_ishl hx hb dT_close_17 ?_
    refine lv_iconst (v := (-1)) hx hb dT_close_18 (by decide) ?_
    refine lv_ixor hx hb dT_close_19 ?_
    refine lv_iand hx hb dT_close_20 ?_
    refine va_put (D := D) (ci := 0) (v := .int (x.2.2.2.2.1 &&& (((1 : Int32) <<< (g1 &&& 31)) ^^^ (-1)))) (ty := (.int)) (C := cnT) (T := ftT) (N := 7) hx hb hts inT tyT tyT_ok nmT hown hK hP hD hS 0 rfl rfl 5 (by decide) (hts _ mw87) (fun _ h9 => h9) rfl (by decide +kernel) rfl rfl (Nat.le_of_ble_eq_true rfl) dT_close_21 (fun H locs hP hD hS => ?_)
    have hP : va_P D vwCl [(ao, .inr (0, [.ref au, .ref af, .ref ak, .int x.2.2.1, .int x.2.2.2.1, .int (x.2.2.2.2.1 &&& (((1 : Int32) <<< (g1 &&& 31)) ^^^ (-1))), .int x.2.2.2.2.2.1])), (au, .inr (1, [.int x.1.1, .int x.1.2])), (af, .inr (1, [.int x.2.1.1, .int x.2.1.2])), (ak, .inr (2, [.ref a1, .ref a2, .ref a3, .ref a4, .int (nI x.2.2.2.2.2.2.1), .int x.2.2.2.2.2.2.2.1])), (a1, .inl (cI, 10, .inl x.2.2.2.2.2.2.2.2.1)), (a2, .inl (cI, 10, .inl x.2.2.2.2.2.2.2.2.2.1)), (a3, .inl (cI, 10, .inl x.2.2.2.2.2.2.2.2.2.2.1)), (a4, .inl (cI, 10, .inl x.2.2.2.2.2.2.2.2.2.2.2))] H := hP
    have hD : va_D A [(ao, .inr (0, [.ref au, .ref af, .ref ak, .int x.2.2.1, .int x.2.2.2.1, .int (x.2.2.2.2.1 &&& (((1 : Int32) <<< (g1 &&& 31)) ^^^ (-1))), .int x.2.2.2.2.2.1])), (au, .inr (1, [.int x.1.1, .int x.1.2])), (af, .inr (1, [.int x.2.1.1, .int x.2.1.2])), (ak, .inr (2, [.ref a1, .ref a2, .ref a3, .ref a4, .int (nI x.2.2.2.2.2.2.1), .int x.2.2.2.2.2.2.2.1])), (a1, .inl (cI, 10, .inl x.2.2.2.2.2.2.2.2.1)), (a2, .inl (cI, 10, .inl x.2.2.2.2.2.2.2.2.2.1)), (a3, .inl (cI, 10, .inl x.2.2.2.2.2.2.2.2.2.2.1)), (a4, .inl (cI, 10, .inl x.2.2.2.2.2.2.2.2.2.2.2))] := hD
    refine lv_aload_n hx hb dT_close_24 rfl (lv_at hl 0 rfl) ?_
    refine lv_dup hx hb dT_close_25 rfl ?_
    refine va_get (D := D) (ci := 0) (v := .int x.2.2.2.2.2.1) (C := cnT) (T := ftT) (N := 7) hx hb hts inT hown hK hP 0 rfl rfl 6 (by decide) (hts _ mw88) (fun _ h9 => h9) rfl dT_close_26 ?_
    refine lv_iconst (v := 1) hx hb dT_close_29 (by decide) ?_
    refine lv_iload_n hx hb dT_close_30 rfl (lv_at hl 1 rfl) ?_
    refine lv_ishl hx hb dT_close_31 ?_
    refine lv_iconst (v := (-1)) hx hb dT_close_32 (by decide) ?_
    refine lv_ixor hx hb dT_close_33 ?_
    refine lv_iand hx hb dT_close_34 ?_
    refine va_put (D := D) (ci := 0) (v := .int (x.2.2.2.2.2.1 &&& (((1 : Int32) <<< (g1 &&& 31)) ^^^ (-1)))) (ty := (.int)) (C := cnT) (T := ftT) (N := 7) hx hb hts inT tyT tyT_ok nmT hown hK hP hD hS 0 rfl rfl 6 (by decide) (hts _ mw88) (fun _ h9 => h9) rfl (by decide +kernel) rfl rfl (Nat.le_of_ble_eq_true rfl) dT_close_35 (fun H locs hP hD hS => ?_)
    have hP : va_P D vwCl [(ao, .inr (0, [.ref au, .ref af, .ref ak, .int x.2.2.1, .int x.2.2.2.1, .int (x.2.2.2.2.1 &&& (((1 : Int32) <<< (g1 &&& 31)) ^^^ (-1))), .int (x.2.2.2.2.2.1 &&& (((1 : Int32) <<< (g1 &&& 31)) ^^^ (-1)))])), (au, .inr (1, [.int x.1.1, .int x.1.2])), (af, .inr (1, [.int x.2.1.1, .int x.2.1.2])), (ak, .inr (2, [.ref a1, .ref a2, .ref a3, .ref a4, .int (nI x.2.2.2.2.2.2.1), .int x.2.2.2.2.2.2.2.1])), (a1, .inl (cI, 10, .inl x.2.2.2.2.2.2.2.2.1)), (a2, .inl (cI, 10, .inl x.2.2.2.2.2.2.2.2.2.1)), (a3, .inl (cI, 10, .inl x.2.2.2.2.2.2.2.2.2.2.1)), (a4, .inl (cI, 10, .inl x.2.2.2.2.2.2.2.2.2.2.2))] H := hP
    have hD : va_D A [(ao, .inr (0, [.ref au, .ref af, .ref ak, .int x.2.2.1, .int x.2.2.2.1, .int (x.2.2.2.2.1 &&& (((1 : Int32) <<< (g1 &&& 31)) ^^^ (-1))), .int (x.2.2.2.2.2.1 &&& (((1 : Int32) <<< (g1 &&& 31)) ^^^ (-1)))])), (au, .inr (1, [.int x.1.1, .int x.1.2])), (af, .inr (1, [.int x.2.1.1, .int x.2.1.2])), (ak, .inr (2, [.ref a1, .ref a2, .ref a3, .ref a4, .int (nI x.2.2.2.2.2.2.1), .int x.2.2.2.2.2.2.2.1])), (a1, .inl (cI, 10, .inl x.2.2.2.2.2.2.2.2.1)), (a2, .inl (cI, 10, .inl x.2.2.2.2.2.2.2.2.2.1)), (a3, .inl (cI, 10, .inl x.2.2.2.2.2.2.2.2.2.2.1)), (a4, .inl (cI, 10, .inl x.2.2.2.2.2.2.2.2.2.2.2))] := hD
    refine lv_aload_n hx hb dT_close_38 rfl (lv_at hl 0 rfl) ?_
    refine va_get (D := D) (ci := 0) (v := .ref ak) (C := cnT) (T := ftT) (N := 7) hx hb hts inT hown hK hP 0 rfl rfl 2 (by decide) (hts _ mw84) (fun _ h9 => h9) rfl dT_close_39 ?_
    refine lv_iload_n hx hb dT_close_42 rfl (lv_at hl 1 rfl) ?_
    refine kcV (isR := [0, 1, 2]) (isC := [3, 4, 5, 6, 7]) (wr := [(ao, .inr (0, [.ref au, .ref af, .ref ak, .int x.2.2.1, .int x.2.2.2.1, .int (x.2.2.2.2.1 &&& (((1 : Int32) <<< (g1 &&& 31)) ^^^ (-1))), .int (x.2.2.2.2.2.1 &&& (((1 : Int32) <<< (g1 &&& 31)) ^^^ (-1)))])), (au, .inr (1, [.int x.1.1, .int x.1.2])), (af, .inr (1, [.int x.2.1.1, .int x.2.1.2]))]) (w2 := [(ao, .inr (0, [.ref au, .ref af, .ref ak, .int x.2.2.1, .int x.2.2.2.1, .int (x.2.2.2.2.1 &&& (((1 : Int32) <<< (g1 &&& 31)) ^^^ (-1))), .int (x.2.2.2.2.2.1 &&& (((1 : Int32) <<< (g1 &&& 31)) ^^^ (-1)))])), (au, .inr (1, [.int x.1.1, .int x.1.2])), (af, .inr (1, [.int x.2.1.1, .int x.2.1.2])), (ak, .inr (2, [.ref a1, .ref a2, .ref a3, .ref a4, .int (nI (zk_removeOwnedBy x.2.2.2.2.2.2 g1).1), .int ((zk_removeOwnedBy x.2.2.2.2.2.2 g1).2.1)])), (a1, .inl (cI, 10, .inl ((zk_removeOwnedBy x.2.2.2.2.2.2 g1).2.2.1))), (a2, .inl (cI, 10, .inl ((zk_removeOwnedBy x.2.2.2.2.2.2 g1).2.2.2.1))), (a3, .inl (cI, 10, .inl ((zk_removeOwnedBy x.2.2.2.2.2.2 g1).2.2.2.2.1))), (a4, .inl (cI, 10, .inl ((zk_removeOwnedBy x.2.2.2.2.2.2 g1).2.2.2.2.2)))]) (va_runVN (As := [.int g1]) (rest := []) ⟨hx, hb, hml, hown, hts⟩ (kk_removeOwnedBy l D cI cZ ak a1 a2 a3 a4 x.2.2.2.2.2.2 g1 (hn) _) ⟨(va_cnB 1 hts gd_yK_removeOwnedBy rfl rfl rfl (hNw _ mw116) (hts _ mw26) (by decide +kernel) ⟨Nat.le_of_ble_eq_true rfl, Nat.le_of_ble_eq_true rfl⟩), hts _ mw118, hts _ mw1⟩ (kpreV hNw hP hD hK [3, 4, 5, 6, 7] rfl (by decide) 3 rfl (ci := 2) rfl) rfl rfl hl.1 rfl (lv_room (Nat.le_of_ble_eq_true rfl)) dT_close_43 ⟨Nat.le_of_ble_eq_true rfl, Nat.le_of_ble_eq_true rfl⟩) hP hD hS hA [0, 1, 2, 3, 4, 5, 6, 7] rfl rfl (by decide) (by decide) (by decide) rfl (fun H locs hP hD hS => ?_)
    refine lv_aload_n hx hb dT_close_46 rfl (lv_at hl 0 rfl) ?_
    refine va_get (D := D) (ci := 0) (v := .int (x.2.2.2.2.1 &&& (((1 : Int32) <<< (g1 &&& 31)) ^^^ (-1)))) (C := cnT) (T := ftT) (N := 7) hx hb hts inT hown hK hP 0 rfl rfl 5 (by decide) (hts _ mw87) (fun _ h9 => h9) rfl dT_close_47 ?_
    refine lv_if_ne (tgt := 58) hx hb dT_close_50 (by decide) (fun h2 => ?_) (fun h2 => ?_)
    ·
      refine lv_iconst (v := 0) hx hb dT_close_58 (by decide) ?_
      exact kretI (wf := fun st => wX cI ao au af ak a1 a2 a3 a4 st) (st := (x.1, x.2.1, x.2.2.1, x.2.2.2.1, (x.2.2.2.2.1 &&& (((1 : Int32) <<< (g1 &&& 31)) ^^^ (-1))), (x.2.2.2.2.2.1 &&& (((1 : Int32) <<< (g1 &&& 31)) ^^^ (-1))), (zk_removeOwnedBy x.2.2.2.2.2.2 g1))) (by first | (rw [zt_close, if_neg h1, if_neg h2]; done) | exact ((if_neg h1).trans (if_neg h2))) hx hb hr hlk hS hP hD hK dT_close_59
    ·
      refine lv_aload_n hx hb dT_close_53 rfl (lv_at hl 0 rfl) ?_
      refine lv_iconst (v := 0) hx hb dT_close_54 (by decide) ?_
      refine va_put (D := D) (ci := 0) (v := .int 0) (ty := (.int)) (C := cnT) (T := ftT) (N := 7) hx hb hts inT tyT tyT_ok nmT hown hK hP hD hS 0 rfl rfl 3 (by decide) (hts _ mw85) (fun _ h9 => h9) rfl (by decide +kernel) rfl rfl (Nat.le_of_ble_eq_true rfl) dT_close_55 (fun H locs hP hD hS => ?_)
      have hP : va_P D vwCl [(ao, .inr (0, [.ref au, .ref af, .ref ak, .int 0, .int x.2.2.2.1, .int (x.2.2.2.2.1 &&& (((1 : Int32) <<< (g1 &&& 31)) ^^^ (-1))), .int (x.2.2.2.2.2.1 &&& (((1 : Int32) <<< (g1 &&& 31)) ^^^ (-1)))])), (au, .inr (1, [.int x.1.1, .int x.1.2])), (af, .inr (1, [.int x.2.1.1, .int x.2.1.2])), (ak, .inr (2, [.ref a1, .ref a2, .ref a3, .ref a4, .int (nI (zk_removeOwnedBy x.2.2.2.2.2.2 g1).1), .int ((zk_removeOwnedBy x.2.2.2.2.2.2 g1).2.1)])), (a1, .inl (cI, 10, .inl ((zk_removeOwnedBy x.2.2.2.2.2.2 g1).2.2.1))), (a2, .inl (cI, 10, .inl ((zk_removeOwnedBy x.2.2.2.2.2.2 g1).2.2.2.1))), (a3, .inl (cI, 10, .inl ((zk_removeOwnedBy x.2.2.2.2.2.2 g1).2.2.2.2.1))), (a4, .inl (cI, 10, .inl ((zk_removeOwnedBy x.2.2.2.2.2.2 g1).2.2.2.2.2)))] H := hP
      have hD : va_D A [(ao, .inr (0, [.ref au, .ref af, .ref ak, .int 0, .int x.2.2.2.1, .int (x.2.2.2.2.1 &&& (((1 : Int32) <<< (g1 &&& 31)) ^^^ (-1))), .int (x.2.2.2.2.2.1 &&& (((1 : Int32) <<< (g1 &&& 31)) ^^^ (-1)))])), (au, .inr (1, [.int x.1.1, .int x.1.2])), (af, .inr (1, [.int x.2.1.1, .int x.2.1.2])), (ak, .inr (2, [.ref a1, .ref a2, .ref a3, .ref a4, .int (nI (zk_removeOwnedBy x.2.2.2.2.2.2 g1).1), .int ((zk_removeOwnedBy x.2.2.2.2.2.2 g1).2.1)])), (a1, .inl (cI, 10, .inl ((zk_removeOwnedBy x.2.2.2.2.2.2 g1).2.2.1))), (a2, .inl (cI, 10, .inl ((zk_removeOwnedBy x.2.2.2.2.2.2 g1).2.2.2.1))), (a3, .inl (cI, 10, .inl ((zk_removeOwnedBy x.2.2.2.2.2.2 g1).2.2.2.2.1))), (a4, .inl (cI, 10, .inl ((zk_removeOwnedBy x.2.2.2.2.2.2 g1).2.2.2.2.2)))] := hD
      refine lv_iconst (v := 0) hx hb dT_close_58 (by decide) ?_
      exact kretI (wf := fun st => wX cI ao au af ak a1 a2 a3 a4 st) (st := (x.1, x.2.1, 0, x.2.2.2.1, (x.2.2.2.2.1 &&& (((1 : Int32) <<< (g1 &&& 31)) ^^^ (-1))), (x.2.2.2.2.2.1 &&& (((1 : Int32) <<< (g1 &&& 31)) ^^^ (-1))), (zk_removeOwnedBy x.2.2.2.2.2.2 g1))) (by first | (rw [zt_close, if_neg h1, if_pos h2]; done) | exact ((if_neg h1).trans (if_pos h2))) hx hb hr hlk hS hP hD hK dT_close_59
  ·
    refine lv_iconst (v := (-1)) hx hb dT_close_8 (by decide) ?_
    exact kretI (wf := fun st => wX cI ao au af ak a1 a2 a3 a4 st) (st := x) (by first | (rw [zt_close, if_pos h1]; done) | exact (if_pos h1)) hx hb hr hlk hS hP hD hK dT_close_9

def zt_login (x : XS) (g1 : Int32) (g2 : Int32) (g3 : Int32) : Int32 × XS := (if (zt_isOpen x g1) = 0 then ((-1), x) else (if x.2.2.1 = 0 then (if g2 = 0 then (if (zr_tryPin x.1 g3).1 = 0 then ((zr_tryPin x.1 g3).1, ((zr_tryPin x.1 g3).2, x.2.1, 1, x.2.2.2.1, x.2.2.2.2.1, x.2.2.2.2.2.1, x.2.2.2.2.2.2)) else ((zr_tryPin x.1 g3).1, ((zr_tryPin x.1 g3).2, x.2.1, x.2.2.1, x.2.2.2.1, x.2.2.2.2.1, x.2.2.2.2.2.1, x.2.2.2.2.2.2))) else (if x.2.2.2.2.1 = x.2.2.2.2.2.1 then (if (zr_tryPin x.2.1 g3).1 = 0 then ((zr_tryPin x.2.1 g3).1, (x.1, (zr_tryPin x.2.1 g3).2, 2, x.2.2.2.1, x.2.2.2.2.1, x.2.2.2.2.2.1, x.2.2.2.2.2.2)) else ((zr_tryPin x.2.1 g3).1, (x.1, (zr_tryPin x.2.1 g3).2, x.2.2.1, x.2.2.2.1, x.2.2.2.2.1, x.2.2.2.2.2.1, x.2.2.2.2.2.2))) else ((-4), x))) else ((-3), x)))

set_option maxHeartbeats 4000000 in
set_option maxRecDepth 100000 in
theorem kt_login (l : Launch) (D : va_G) (cI cZ : ClassId) (ao au af ak a1 a2 a3 a4 : Nat) (x : XS) (g1 : Int32) (g2 : Int32) (g3 : Int32) (hn : x.2.2.2.2.2.2.1 ≤ 10) : kI l yT_login wsT_login (rmOf 1 21) D (kT cI cZ) [.ref ao, .int g1, .int g2, .int g3] (wX cI ao au af ak a1 a2 a3 a4 x) (zt_login x g1 g2 g3).1 (wX cI ao au af ak a1 a2 a3 a4 ((zt_login x g1 g2 g3).2)) := by
  intro sz
  refine kOf (Qc := fun A => kQi D (kT cI cZ) A (zt_login x g1 g2 g3).1 (wX cI ao au af ak a1 a2 a3 a4 ((zt_login x g1 g2 g3).2))) (cc := cT_login) (maxL := 6) (ret := some .int) (by decide) rfl (Nat.le_of_ble_eq_true rfl) ?_ sz
  intro p e s m args below meth c A ls hx hb hml hown hts hNw hr hlk hin hA hS hP hD hK hl
  show W p l e (rmOf 1 21) s m args below meth c s.heap [] 0 0 (MQ below (kQi D (kT cI cZ) A (zt_login x g1 g2 g3).1 (wX cI ao au af ak a1 a2 a3 a4 ((zt_login x g1 g2 g3).2))) args s 0 0 A) (F0 m 0 ls [])
  have hts : ∀ q ∈ lw_g, q.before args s = true := fun q h => hts q (List.mem_cons_of_mem _ h)
  have hown : s.vm.findClass cnT = some m.cls := hown
  have hl : lv_has ls 6 [(0, .ref ao), (1, .int g1), (2, .int g2), (3, .int g3)] := hl
  have hP : va_P D vwCl [(ao, .inr (0, [.ref au, .ref af, .ref ak, .int x.2.2.1, .int x.2.2.2.1, .int x.2.2.2.2.1, .int x.2.2.2.2.2.1])), (au, .inr (1, [.int x.1.1, .int x.1.2])), (af, .inr (1, [.int x.2.1.1, .int x.2.1.2])), (ak, .inr (2, [.ref a1, .ref a2, .ref a3, .ref a4, .int (nI x.2.2.2.2.2.2.1), .int x.2.2.2.2.2.2.2.1])), (a1, .inl (cI, 10, .inl x.2.2.2.2.2.2.2.2.1)), (a2, .inl (cI, 10, .inl x.2.2.2.2.2.2.2.2.2.1)), (a3, .inl (cI, 10, .inl x.2.2.2.2.2.2.2.2.2.2.1)), (a4, .inl (cI, 10, .inl x.2.2.2.2.2.2.2.2.2.2.2))] s.heap := hP
  have hD : va_D A [(ao, .inr (0, [.ref au, .ref af, .ref ak, .int x.2.2.1, .int x.2.2.2.1, .int x.2.2.2.2.1, .int x.2.2.2.2.2.1])), (au, .inr (1, [.int x.1.1, .int x.1.2])), (af, .inr (1, [.int x.2.1.1, .int x.2.1.2])), (ak, .inr (2, [.ref a1, .ref a2, .ref a3, .ref a4, .int (nI x.2.2.2.2.2.2.1), .int x.2.2.2.2.2.2.2.1])), (a1, .inl (cI, 10, .inl x.2.2.2.2.2.2.2.2.1)), (a2, .inl (cI, 10, .inl x.2.2.2.2.2.2.2.2.2.1)), (a3, .inl (cI, 10, .inl x.2.2.2.2.2.2.2.2.2.2.1)), (a4, .inl (cI, 10, .inl x.2.2.2.2.2.2.2.2.2.2.2))] := hD
  refine lv_aload_n hx hb dT_login_0 rfl (lv_at hl 0 rfl) ?_
  refine lv_iload_n hx hb dT_login_1 rfl (lv_at hl 1 rfl) ?_
  refine kcI (isR := []) (isC := [0, 1, 2, 3, 4, 5, 6, 7]) (wr := []) (w2 := [(ao, .inr (0, [.ref au, .ref af, .ref ak, .int x.2.2.1, .int x.2.2.2.1, .int x.2.2.2.2.1, .int x.2.2.2.2.2.1])), (au, .inr (1, [.int x.1.1, .int x.1.2])), (af, .inr (1, [.int x.2.1.1, .int x.2.1.2])), (ak, .inr (2, [.ref a1, .ref a2, .ref a3, .ref a4, .int (nI x.2.2.2.2.2.2.1), .int x.2.2.2.2.2.2.2.1])), (a1, .inl (cI, 10, .inl x.2.2.2.2.2.2.2.2.1)), (a2, .inl (cI, 10, .inl x.2.2.2.2.2.2.2.2.2.1)), (a3, .inl (cI, 10, .inl x.2.2.2.2.2.2.2.2.2.2.1)), (a4, .inl (cI, 10, .inl x.2.2.2.2.2.2.2.2.2.2.2))]) (va_runV (As := [.int g1]) (rest := []) ⟨hx, hb, hml, hown, hts⟩ (kt_isOpen l D cI cZ ao au af ak a1 a2 a3 a4 x g1 _) ⟨(callB_of 1 hts gd_yT_isOpen rfl rfl rfl (hts _ mw24) (hts _ mw108) (by decide +kernel) ⟨Nat.le_of_ble_eq_true rfl, Nat.le_of_ble_eq_true rfl⟩), hts _ mw110, hts _ mw0⟩ (kpreV hNw hP hD hK [0, 1, 2, 3, 4, 5, 6, 7] rfl (by decide) 0 rfl (ci := 0) rfl) rfl rfl hl.1 rfl (lv_room (Nat.le_of_ble_eq_true rfl)) dT_login_2 ⟨Nat.le_of_ble_eq_true rfl, Nat.le_of_ble_eq_true rfl⟩) hP hD hS hA [0, 1, 2, 3, 4, 5, 6, 7] rfl rfl (by decide) (by decide) (by decide) rfl (fun H locs hP hD hS => ?_)
  refine lv_if_ne (tgt := 10) hx hb dT_login_5 (by decide) (fun h1 => ?_) (fun h1 => ?_)
  ·
    refine lv_aload_n hx hb dT_login_10 rfl (lv_at hl 0 rfl) ?_
    refine va_get (D := D) (ci := 0) (v := .int x.2.2.1) (C := cnT) (T := ftT) (N := 7) hx hb hts inT hown hK hP 0 rfl rfl 3 (by decide) (hts _ mw85) (fun _ h9 => h9) rfl dT_login_11 ?_
    refine lv_if_eq (tgt := 20) hx hb dT_login_14 (by decide) (fun h2 => ?_) (fun h2 => ?_)
    ·
      refine lv_iload_n hx hb dT_login_20 rfl (lv_at hl 2 rfl) ?_
      refine lv_if_eq (tgt := 38) hx hb dT_login_21 (by decide) (fun h3 => ?_) (fun h3 => ?_)
      ·
        refine lv_iload_n hx hb dT_login_38 rfl (lv_at hl 2 rfl) ?_
        refine lv_if_eq (tgt := 49) hx hb dT_login_39 (by decide) (fun _ => ?_) (fun h => absurd h3 h)
        refine lv_aload_n hx hb dT_login_49 rfl (lv_at hl 0 rfl) ?_
        refine va_get (D := D) (ci := 0) (v := .ref au) (C := cnT) (T := ftT) (N := 7) hx hb hts inT hown hK hP 0 rfl rfl 0 (by decide) (hts _ mw82) (fun _ h9 => h9) rfl dT_login_50 ?_
        refine lv_astore hx hb dT_login_53 hl (by decide) rfl (fun ls hl => ?_)
        have hl : lv_has ls 6 [(4, .ref au), (0, .ref ao), (1, .int g1), (2, .int g2), (3, .int g3)] := hl
        refine lv_aload hx hb dT_login_55 (lv_at hl 0 rfl) ?_
        refine lv_iload_n hx hb dT_login_57 rfl (lv_at hl 4 rfl) ?_
        refine kcI (isR := [0, 2, 3, 4, 5, 6, 7]) (isC := [1]) (wr := [(ao, .inr (0, [.ref au, .ref af, .ref ak, .int x.2.2.1, .int x.2.2.2.1, .int x.2.2.2.2.1, .int x.2.2.2.2.2.1])), (af, .inr (1, [.int x.2.1.1, .int x.2.1.2])), (ak, .inr (2, [.ref a1, .ref a2, .ref a3, .ref a4, .int (nI x.2.2.2.2.2.2.1), .int x.2.2.2.2.2.2.2.1])), (a1, .inl (cI, 10, .inl x.2.2.2.2.2.2.2.2.1)), (a2, .inl (cI, 10, .inl x.2.2.2.2.2.2.2.2.2.1)), (a3, .inl (cI, 10, .inl x.2.2.2.2.2.2.2.2.2.2.1)), (a4, .inl (cI, 10, .inl x.2.2.2.2.2.2.2.2.2.2.2))]) (w2 := [(ao, .inr (0, [.ref au, .ref af, .ref ak, .int x.2.2.1, .int x.2.2.2.1, .int x.2.2.2.2.1, .int x.2.2.2.2.2.1])), (au, .inr (1, [.int ((zr_tryPin x.1 g3).2.1), .int ((zr_tryPin x.1 g3).2.2)])), (af, .inr (1, [.int x.2.1.1, .int x.2.1.2])), (ak, .inr (2, [.ref a1, .ref a2, .ref a3, .ref a4, .int (nI x.2.2.2.2.2.2.1), .int x.2.2.2.2.2.2.2.1])), (a1, .inl (cI, 10, .inl x.2.2.2.2.2.2.2.2.1)), (a2, .inl (cI, 10, .inl x.2.2.2.2.2.2.2.2.2.1)), (a3, .inl (cI, 10, .inl x.2.2.2.2.2.2.2.2.2.2.1)), (a4, .inl (cI, 10, .inl x.2.2.2.2.2.2.2.2.2.2.2))]) (va_runVN (As := [.int g3]) (rest := []) ⟨hx, hb, hml, hown, hts⟩ (kr_tryPin l D cI cZ au x.1 g3 _) ⟨(va_cnB 1 hts gd_yR_tryPin rfl rfl rfl (hNw _ mw128) (hts _ mw25) (by decide +kernel) ⟨Nat.le_of_ble_eq_true rfl, Nat.le_of_ble_eq_true rfl⟩), hts _ mw130, hts _ mw3⟩ (kpreV hNw hP hD hK [1] rfl (by decide) 1 rfl (ci := 1) rfl) rfl rfl hl.1 rfl (lv_room (Nat.le_of_ble_eq_true rfl)) dT_login_58 ⟨Nat.le_of_ble_eq_true rfl, Nat.le_of_ble_eq_true rfl⟩) hP hD hS hA [0, 7, 1, 2, 3, 4, 5, 6] rfl rfl (by decide) (by decide) (by decide) rfl (fun H locs hP hD hS => ?_)
        refine lv_istore hx hb dT_login_61 hl (by decide) rfl (fun ls hl => ?_)
        have hl : lv_has ls 6 [(5, .int ((zr_tryPin x.1 g3).1)), (4, .ref au), (0, .ref ao), (1, .int g1), (2, .int g2), (3, .int g3)] := hl
        refine lv_iload hx hb dT_login_63 (lv_at hl 0 rfl) ?_
        refine lv_if_ne (tgt := 81) hx hb dT_login_65 (by decide) (fun h4 => ?_) (fun h4 => ?_)
        ·
          refine lv_iload hx hb dT_login_81 (lv_at hl 0 rfl) ?_
          exact kretI (wf := fun st => wX cI ao au af ak a1 a2 a3 a4 st) (st := ((zr_tryPin x.1 g3).2, x.2.1, x.2.2.1, x.2.2.2.1, x.2.2.2.2.1, x.2.2.2.2.2.1, x.2.2.2.2.2.2)) (by first | (rw [zt_login, if_neg h1, if_pos h2, if_pos h3, if_neg h4]; done) | exact ((if_neg h1).trans ((if_pos h2).trans ((if_pos h3).trans (if_neg h4))))) hx hb hr hlk hS hP hD hK dT_login_83
        ·
          refine lv_aload_n hx hb dT_login_68 rfl (lv_at hl 2 rfl) ?_
          refine lv_iload_n hx hb dT_login_69 rfl (lv_at hl 4 rfl) ?_
          refine lv_if_eq (tgt := 77) hx hb dT_login_70 (by decide) (fun _ => ?_) (fun h => absurd h3 h)
          refine lv_iconst (v := 1) hx hb dT_login_77 (by decide) ?_
          refine va_put (D := D) (ci := 0) (v := .int 1) (ty := (.int)) (C := cnT) (T := ftT) (N := 7) hx hb hts inT tyT tyT_ok nmT hown hK hP hD hS 0 rfl rfl 3 (by decide) (hts _ mw85) (fun _ h9 => h9) rfl (by decide +kernel) rfl rfl (Nat.le_of_ble_eq_true rfl) dT_login_78 (fun H locs hP hD hS => ?_)
          have hP : va_P D vwCl [(ao, .inr (0, [.ref au, .ref af, .ref ak, .int 1, .int x.2.2.2.1, .int x.2.2.2.2.1, .int x.2.2.2.2.2.1])), (au, .inr (1, [.int ((zr_tryPin x.1 g3).2.1), .int ((zr_tryPin x.1 g3).2.2)])), (af, .inr (1, [.int x.2.1.1, .int x.2.1.2])), (ak, .inr (2, [.ref a1, .ref a2, .ref a3, .ref a4, .int (nI x.2.2.2.2.2.2.1), .int x.2.2.2.2.2.2.2.1])), (a1, .inl (cI, 10, .inl x.2.2.2.2.2.2.2.2.1)), (a2, .inl (cI, 10, .inl x.2.2.2.2.2.2.2.2.2.1)), (a3, .inl (cI, 10, .inl x.2.2.2.2.2.2.2.2.2.2.1)), (a4, .inl (cI, 10, .inl x.2.2.2.2.2.2.2.2.2.2.2))] H := hP
          have hD : va_D A [(ao, .inr (0, [.ref au, .ref af, .ref ak, .int 1, .int x.2.2.2.1, .int x.2.2.2.2.1, .int x.2.2.2.2.2.1])), (au, .inr (1, [.int ((zr_tryPin x.1 g3).2.1), .int ((zr_tryPin x.1 g3).2.2)])), (af, .inr (1, [.int x.2.1.1, .int x.2.1.2])), (ak, .inr (2, [.ref a1, .ref a2, .ref a3, .ref a4, .int (nI x.2.2.2.2.2.2.1), .int x.2.2.2.2.2.2.2.1])), (a1, .inl (cI, 10, .inl x.2.2.2.2.2.2.2.2.1)), (a2, .inl (cI, 10, .inl x.2.2.2.2.2.2.2.2.2.1)), (a3, .inl (cI, 10, .inl x.2.2.2.2.2.2.2.2.2.2.1)), (a4, .inl (cI, 10, .inl x.2.2.2.2.2.2.2.2.2.2.2))] := hD
          refine lv_iload hx hb dT_login_81 (lv_at hl 0 rfl) ?_
          exact kretI (wf := fun st => wX cI ao au af ak a1 a2 a3 a4 st) (st := ((zr_tryPin x.1 g3).2, x.2.1, 1, x.2.2.2.1, x.2.2.2.2.1, x.2.2.2.2.2.1, x.2.2.2.2.2.2)) (by first | (rw [zt_login, if_neg h1, if_pos h2, if_pos h3, if_pos h4]; done) | exact ((if_neg h1).trans ((if_pos h2).trans ((if_pos h3).trans (if_pos h4))))) hx hb hr hlk hS hP hD hK dT_login_83
      ·
        refine lv_aload_n hx hb dT_login_24 rfl (lv_at hl 0 rfl) ?_
        refine va_get (D := D) (ci := 0) (v := .int x.2.2.2.2.1) (C := cnT) (T := ftT) (N := 7) hx hb hts inT hown hK hP 0 rfl rfl 5 (by decide) (hts _ mw87) (fun _ h9 => h9) rfl dT_login_25 ?_
        refine lv_aload_n hx hb dT_login_28 rfl (lv_at hl 0 rfl) ?_
        refine va_get (D := D) (ci := 0) (v := .int x.2.2.2.2.2.1) (C := cnT) (T := ftT) (N := 7) hx hb hts inT hown hK hP 0 rfl rfl 6 (by decide) (hts _ mw88) (fun _ h9 => h9) rfl dT_login_29 ?_
        refine lv_icmp_eq (tgt := 38) hx hb dT_login_32 (by decide) (fun h5 => ?_) (fun h5 => ?_)
        ·
          refine lv_iload_n hx hb dT_login_38 rfl (lv_at hl 2 rfl) ?_
          refine lv_if_eq (tgt := 49) hx hb dT_login_39 (by decide) (fun h => absurd h h3) (fun _ => ?_)
          refine lv_aload_n hx hb dT_login_42 rfl (lv_at hl 0 rfl) ?_
          refine va_get (D := D) (ci := 0) (v := .ref af) (C := cnT) (T := ftT) (N := 7) hx hb hts inT hown hK hP 0 rfl rfl 1 (by decide) (hts _ mw83) (fun _ h9 => h9) rfl dT_login_43 ?_
          refine lv_goto hx hb dT_login_46 (tgt := 53) (by decide) ?_
          refine lv_astore hx hb dT_login_53 hl (by decide) rfl (fun ls hl => ?_)
          have hl : lv_has ls 6 [(4, .ref af), (0, .ref ao), (1, .int g1), (2, .int g2), (3, .int g3)] := hl
          refine lv_aload hx hb dT_login_55 (lv_at hl 0 rfl) ?_
          refine lv_iload_n hx hb dT_login_57 rfl (lv_at hl 4 rfl) ?_
          refine kcI (isR := [0, 1, 3, 4, 5, 6, 7]) (isC := [2]) (wr := [(ao, .inr (0, [.ref au, .ref af, .ref ak, .int x.2.2.1, .int x.2.2.2.1, .int x.2.2.2.2.1, .int x.2.2.2.2.2.1])), (au, .inr (1, [.int x.1.1, .int x.1.2])), (ak, .inr (2, [.ref a1, .ref a2, .ref a3, .ref a4, .int (nI x.2.2.2.2.2.2.1), .int x.2.2.2.2.2.2.2.1])), (a1, .inl (cI, 10, .inl x.2.2.2.2.2.2.2.2.1)), (a2, .inl (cI, 10, .inl x.2.2.2.2.2.2.2.2.2.1)), (a3, .inl (cI, 10, .inl x.2.2.2.2.2.2.2.2.2.2.1)), (a4, .inl (cI, 10, .inl x.2.2.2.2.2.2.2.2.2.2.2))]) (w2 := [(ao, .inr (0, [.ref au, .ref af, .ref ak, .int x.2.2.1, .int x.2.2.2.1, .int x.2.2.2.2.1, .int x.2.2.2.2.2.1])), (au, .inr (1, [.int x.1.1, .int x.1.2])), (af, .inr (1, [.int ((zr_tryPin x.2.1 g3).2.1), .int ((zr_tryPin x.2.1 g3).2.2)])), (ak, .inr (2, [.ref a1, .ref a2, .ref a3, .ref a4, .int (nI x.2.2.2.2.2.2.1), .int x.2.2.2.2.2.2.2.1])), (a1, .inl (cI, 10, .inl x.2.2.2.2.2.2.2.2.1)), (a2, .inl (cI, 10, .inl x.2.2.2.2.2.2.2.2.2.1)), (a3, .inl (cI, 10, .inl x.2.2.2.2.2.2.2.2.2.2.1)), (a4, .inl (cI, 10, .inl x.2.2.2.2.2.2.2.2.2.2.2))]) (va_runVN (As := [.int g3]) (rest := []) ⟨hx, hb, hml, hown, hts⟩ (kr_tryPin l D cI cZ af x.2.1 g3 _) ⟨(va_cnB 1 hts gd_yR_tryPin rfl rfl rfl (hNw _ mw128) (hts _ mw25) (by decide +kernel) ⟨Nat.le_of_ble_eq_true rfl, Nat.le_of_ble_eq_true rfl⟩), hts _ mw130, hts _ mw3⟩ (kpreV hNw hP hD hK [2] rfl (by decide) 2 rfl (ci := 1) rfl) rfl rfl hl.1 rfl (lv_room (Nat.le_of_ble_eq_true rfl)) dT_login_58 ⟨Nat.le_of_ble_eq_true rfl, Nat.le_of_ble_eq_true rfl⟩) hP hD hS hA [0, 1, 7, 2, 3, 4, 5, 6] rfl rfl (by decide) (by decide) (by decide) rfl (fun H locs hP hD hS => ?_)
          refine lv_istore hx hb dT_login_61 hl (by decide) rfl (fun ls hl => ?_)
          have hl : lv_has ls 6 [(5, .int ((zr_tryPin x.2.1 g3).1)), (4, .ref af), (0, .ref ao), (1, .int g1), (2, .int g2), (3, .int g3)] := hl
          refine lv_iload hx hb dT_login_63 (lv_at hl 0 rfl) ?_
          refine lv_if_ne (tgt := 81) hx hb dT_login_65 (by decide) (fun h6 => ?_) (fun h6 => ?_)
          ·
            refine lv_iload hx hb dT_login_81 (lv_at hl 0 rfl) ?_
            exact kretI (wf := fun st => wX cI ao au af ak a1 a2 a3 a4 st) (st := (x.1, (zr_tryPin x.2.1 g3).2, x.2.2.1, x.2.2.2.1, x.2.2.2.2.1, x.2.2.2.2.2.1, x.2.2.2.2.2.2)) (by first | (rw [zt_login, if_neg h1, if_pos h2, if_neg h3, if_pos h5, if_neg h6]; done) | exact ((if_neg h1).trans ((if_pos h2).trans ((if_neg h3).trans ((if_pos h5).trans (if_neg h6)))))) hx hb hr hlk hS hP hD hK dT_login_83
          ·
            refine lv_aload_n hx hb dT_login_68 rfl (lv_at hl 2 rfl) ?_
            refine lv_iload_n hx hb dT_login_69 rfl (lv_at hl 4 rfl) ?_
            refine lv_if_eq (tgt := 77) hx hb dT_login_70 (by decide) (fun h => absurd h h3) (fun _ => ?_)
            refine lv_iconst (v := 2) hx hb dT_login_73 (by decide) ?_
            refine lv_goto hx hb dT_login_74 (tgt := 78) (by decide) ?_
            refine va_put (D := D) (ci := 0) (v := .int 2) (ty := (.int)) (C := cnT) (T := ftT) (N := 7) hx hb hts inT tyT tyT_ok nmT hown hK hP hD hS 0 rfl rfl 3 (by decide) (hts _ mw85) (fun _ h9 => h9) rfl (by decide +kernel) rfl rfl (Nat.le_of_ble_eq_true rfl) dT_login_78 (fun H locs hP hD hS => ?_)
            have hP : va_P D vwCl [(ao, .inr (0, [.ref au, .ref af, .ref ak, .int 2, .int x.2.2.2.1, .int x.2.2.2.2.1, .int x.2.2.2.2.2.1])), (au, .inr (1, [.int x.1.1, .int x.1.2])), (af, .inr (1, [.int ((zr_tryPin x.2.1 g3).2.1), .int ((zr_tryPin x.2.1 g3).2.2)])), (ak, .inr (2, [.ref a1, .ref a2, .ref a3, .ref a4, .int (nI x.2.2.2.2.2.2.1), .int x.2.2.2.2.2.2.2.1])), (a1, .inl (cI, 10, .inl x.2.2.2.2.2.2.2.2.1)), (a2, .inl (cI, 10, .inl x.2.2.2.2.2.2.2.2.2.1)), (a3, .inl (cI, 10, .inl x.2.2.2.2.2.2.2.2.2.2.1)), (a4, .inl (cI, 10, .inl x.2.2.2.2.2.2.2.2.2.2.2))] H := hP
            have hD : va_D A [(ao, .inr (0, [.ref au, .ref af, .ref ak, .int 2, .int x.2.2.2.1, .int x.2.2.2.2.1, .int x.2.2.2.2.2.1])), (au, .inr (1, [.int x.1.1, .int x.1.2])), (af, .inr (1, [.int ((zr_tryPin x.2.1 g3).2.1), .int ((zr_tryPin x.2.1 g3).2.2)])), (ak, .inr (2, [.ref a1, .ref a2, .ref a3, .ref a4, .int (nI x.2.2.2.2.2.2.1), .int x.2.2.2.2.2.2.2.1])), (a1, .inl (cI, 10, .inl x.2.2.2.2.2.2.2.2.1)), (a2, .inl (cI, 10, .inl x.2.2.2.2.2.2.2.2.2.1)), (a3, .inl (cI, 10, .inl x.2.2.2.2.2.2.2.2.2.2.1)), (a4, .inl (cI, 10, .inl x.2.2.2.2.2.2.2.2.2.2.2))] := hD
            refine lv_iload hx hb dT_login_81 (lv_at hl 0 rfl) ?_
            exact kretI (wf := fun st => wX cI ao au af ak a1 a2 a3 a4 st) (st := (x.1, (zr_tryPin x.2.1 g3).2, 2, x.2.2.2.1, x.2.2.2.2.1, x.2.2.2.2.2.1, x.2.2.2.2.2.2)) (by first | (rw [zt_login, if_neg h1, if_pos h2, if_neg h3, if_pos h5, if_pos h6]; done) | exact ((if_neg h1).trans ((if_pos h2).trans ((if_neg h3).trans ((if_pos h5).trans (if_pos h6)))))) hx hb hr hlk hS hP hD hK dT_login_83
        ·
          refine lv_bipush (v := (-4)) hx hb dT_login_35 (by decide) ?_
          exact kretI (wf := fun st => wX cI ao au af ak a1 a2 a3 a4 st) (st := x) (by first | (rw [zt_login, if_neg h1, if_pos h2, if_neg h3, if_neg h5]; done) | exact ((if_neg h1).trans ((if_pos h2).trans ((if_neg h3).trans (if_neg h5))))) hx hb hr hlk hS hP hD hK dT_login_37
    ·
      refine lv_bipush (v := (-3)) hx hb dT_login_17 (by decide) ?_
      exact kretI (wf := fun st => wX cI ao au af ak a1 a2 a3 a4 st) (st := x) (by first | (rw [zt_login, if_neg h1, if_neg h2]; done) | exact ((if_neg h1).trans (if_neg h2))) hx hb hr hlk hS hP hD hK dT_login_19
  ·
    refine lv_iconst (v := (-1)) hx hb dT_login_8 (by decide) ?_
    exact kretI (wf := fun st => wX cI ao au af ak a1 a2 a3 a4 st) (st := x) (by first | (rw [zt_login, if_pos h1]; done) | exact (if_pos h1)) hx hb hr hlk hS hP hD hK dT_login_9

def zt_logout (x : XS) (g1 : Int32) : Int32 × XS := (if (zt_isOpen x g1) = 0 then ((-1), x) else (if x.2.2.1 = 0 then ((-3), x) else (0, (x.1, x.2.1, 0, x.2.2.2.1, x.2.2.2.2.1, x.2.2.2.2.2.1, (zk_removePrivate x.2.2.2.2.2.2)))))

set_option maxHeartbeats 4000000 in
set_option maxRecDepth 100000 in
theorem kt_logout (l : Launch) (D : va_G) (cI cZ : ClassId) (ao au af ak a1 a2 a3 a4 : Nat) (x : XS) (g1 : Int32) (hn : x.2.2.2.2.2.2.1 ≤ 10) : kI l yT_logout wsT_logout (rmOf 2 43) D (kT cI cZ) [.ref ao, .int g1] (wX cI ao au af ak a1 a2 a3 a4 x) (zt_logout x g1).1 (wX cI ao au af ak a1 a2 a3 a4 ((zt_logout x g1).2)) := by
  intro sz
  refine kOf (Qc := fun A => kQi D (kT cI cZ) A (zt_logout x g1).1 (wX cI ao au af ak a1 a2 a3 a4 ((zt_logout x g1).2))) (cc := cT_logout) (maxL := 2) (ret := some .int) (by decide) rfl (Nat.le_of_ble_eq_true rfl) ?_ sz
  intro p e s m args below meth c A ls hx hb hml hown hts hNw hr hlk hin hA hS hP hD hK hl
  show W p l e (rmOf 2 43) s m args below meth c s.heap [] 0 0 (MQ below (kQi D (kT cI cZ) A (zt_logout x g1).1 (wX cI ao au af ak a1 a2 a3 a4 ((zt_logout x g1).2))) args s 0 0 A) (F0 m 0 ls [])
  have hts : ∀ q ∈ lw_g, q.before args s = true := fun q h => hts q (List.mem_cons_of_mem _ h)
  have hown : s.vm.findClass cnT = some m.cls := hown
  have hl : lv_has ls 2 [(0, .ref ao), (1, .int g1)] := hl
  have hP : va_P D vwCl [(ao, .inr (0, [.ref au, .ref af, .ref ak, .int x.2.2.1, .int x.2.2.2.1, .int x.2.2.2.2.1, .int x.2.2.2.2.2.1])), (au, .inr (1, [.int x.1.1, .int x.1.2])), (af, .inr (1, [.int x.2.1.1, .int x.2.1.2])), (ak, .inr (2, [.ref a1, .ref a2, .ref a3, .ref a4, .int (nI x.2.2.2.2.2.2.1), .int x.2.2.2.2.2.2.2.1])), (a1, .inl (cI, 10, .inl x.2.2.2.2.2.2.2.2.1)), (a2, .inl (cI, 10, .inl x.2.2.2.2.2.2.2.2.2.1)), (a3, .inl (cI, 10, .inl x.2.2.2.2.2.2.2.2.2.2.1)), (a4, .inl (cI, 10, .inl x.2.2.2.2.2.2.2.2.2.2.2))] s.heap := hP
  have hD : va_D A [(ao, .inr (0, [.ref au, .ref af, .ref ak, .int x.2.2.1, .int x.2.2.2.1, .int x.2.2.2.2.1, .int x.2.2.2.2.2.1])), (au, .inr (1, [.int x.1.1, .int x.1.2])), (af, .inr (1, [.int x.2.1.1, .int x.2.1.2])), (ak, .inr (2, [.ref a1, .ref a2, .ref a3, .ref a4, .int (nI x.2.2.2.2.2.2.1), .int x.2.2.2.2.2.2.2.1])), (a1, .inl (cI, 10, .inl x.2.2.2.2.2.2.2.2.1)), (a2, .inl (cI, 10, .inl x.2.2.2.2.2.2.2.2.2.1)), (a3, .inl (cI, 10, .inl x.2.2.2.2.2.2.2.2.2.2.1)), (a4, .inl (cI, 10, .inl x.2.2.2.2.2.2.2.2.2.2.2))] := hD
  refine lv_aload_n hx hb dT_logout_0 rfl (lv_at hl 0 rfl) ?_
  refine lv_iload_n hx hb dT_logout_1 rfl (lv_at hl 1 rfl) ?_
  refine kcI (isR := []) (isC := [0, 1, 2, 3, 4, 5, 6, 7]) (wr := []) (w2 := [(ao, .inr (0, [.ref au, .ref af, .ref ak, .int x.2.2.1, .int x.2.2.2.1, .int x.2.2.2.2.1, .int x.2.2.2.2.2.1])), (au, .inr (1, [.int x.1.1, .int x.1.2])), (af, .inr (1, [.int x.2.1.1, .int x.2.1.2])), (ak, .inr (2, [.ref a1, .ref a2, .ref a3, .ref a4, .int (nI x.2.2.2.2.2.2.1), .int x.2.2.2.2.2.2.2.1])), (a1, .inl (cI, 10, .inl x.2.2.2.2.2.2.2.2.1)), (a2, .inl (cI, 10, .inl x.2.2.2.2.2.2.2.2.2.1)), (a3, .inl (cI, 10, .inl x.2.2.2.2.2.2.2.2.2.2.1)), (a4, .inl (cI, 10, .inl x.2.2.2.2.2.2.2.2.2.2.2))]) (va_runV (As := [.int g1]) (rest := []) ⟨hx, hb, hml, hown, hts⟩ (kt_isOpen l D cI cZ ao au af ak a1 a2 a3 a4 x g1 _) ⟨(callB_of 1 hts gd_yT_isOpen rfl rfl rfl (hts _ mw24) (hts _ mw108) (by decide +kernel) ⟨Nat.le_of_ble_eq_true rfl, Nat.le_of_ble_eq_true rfl⟩), hts _ mw110, hts _ mw0⟩ (kpreV hNw hP hD hK [0, 1, 2, 3, 4, 5, 6, 7] rfl (by decide) 0 rfl (ci := 0) rfl) rfl rfl hl.1 rfl (lv_room (Nat.le_of_ble_eq_true rfl)) dT_logout_2 ⟨Nat.le_of_ble_eq_true rfl, Nat.le_of_ble_eq_true rfl⟩) hP hD hS hA [0, 1, 2, 3, 4, 5, 6, 7] rfl rfl (by decide) (by decide) (by decide) rfl (fun H locs hP hD hS => ?_)
  refine lv_if_ne (tgt := 10) hx hb dT_logout_5 (by decide) (fun h1 => ?_) (fun h1 => ?_)
  ·
    refine lv_aload_n hx hb dT_logout_10 rfl (lv_at hl 0 rfl) ?_
    refine va_get (D := D) (ci := 0) (v := .int x.2.2.1) (C := cnT) (T := ftT) (N := 7) hx hb hts inT hown hK hP 0 rfl rfl 3 (by decide) (hts _ mw85) (fun _ h9 => h9) rfl dT_logout_11 ?_
    refine lv_if_ne (tgt := 20) hx hb dT_logout_14 (by decide) (fun h2 => ?_) (fun h2 => ?_)
    ·
      refine lv_aload_n hx hb dT_logout_20 rfl (lv_at hl 0 rfl) ?_
      refine lv_iconst (v := 0) hx hb dT_logout_21 (by decide) ?_
      refine va_put (D := D) (ci := 0) (v := .int 0) (ty := (.int)) (C := cnT) (T := ftT) (N := 7) hx hb hts inT tyT tyT_ok nmT hown hK hP hD hS 0 rfl rfl 3 (by decide) (hts _ mw85) (fun _ h9 => h9) rfl (by decide +kernel) rfl rfl (Nat.le_of_ble_eq_true rfl) dT_logout_22 (fun H locs hP hD hS => ?_)
      have hP : va_P D vwCl [(ao, .inr (0, [.ref au, .ref af, .ref ak, .int 0, .int x.2.2.2.1, .int x.2.2.2.2.1, .int x.2.2.2.2.2.1])), (au, .inr (1, [.int x.1.1, .int x.1.2])), (af, .inr (1, [.int x.2.1.1, .int x.2.1.2])), (ak, .inr (2, [.ref a1, .ref a2, .ref a3, .ref a4, .int (nI x.2.2.2.2.2.2.1), .int x.2.2.2.2.2.2.2.1])), (a1, .inl (cI, 10, .inl x.2.2.2.2.2.2.2.2.1)), (a2, .inl (cI, 10, .inl x.2.2.2.2.2.2.2.2.2.1)), (a3, .inl (cI, 10, .inl x.2.2.2.2.2.2.2.2.2.2.1)), (a4, .inl (cI, 10, .inl x.2.2.2.2.2.2.2.2.2.2.2))] H := hP
      have hD : va_D A [(ao, .inr (0, [.ref au, .ref af, .ref ak, .int 0, .int x.2.2.2.1, .int x.2.2.2.2.1, .int x.2.2.2.2.2.1])), (au, .inr (1, [.int x.1.1, .int x.1.2])), (af, .inr (1, [.int x.2.1.1, .int x.2.1.2])), (ak, .inr (2, [.ref a1, .ref a2, .ref a3, .ref a4, .int (nI x.2.2.2.2.2.2.1), .int x.2.2.2.2.2.2.2.1])), (a1, .inl (cI, 10, .inl x.2.2.2.2.2.2.2.2.1)), (a2, .inl (cI, 10, .inl x.2.2.2.2.2.2.2.2.2.1)), (a3, .inl (cI, 10, .inl x.2.2.2.2.2.2.2.2.2.2.1)), (a4, .inl (cI, 10, .inl x.2.2.2.2.2.2.2.2.2.2.2))] := hD
      refine lv_aload_n hx hb dT_logout_25 rfl (lv_at hl 0 rfl) ?_
      refine va_get (D := D) (ci := 0) (v := .ref ak) (C := cnT) (T := ftT) (N := 7) hx hb hts inT hown hK hP 0 rfl rfl 2 (by decide) (hts _ mw84) (fun _ h9 => h9) rfl dT_logout_26 ?_
      refine kcV (isR := [0, 1, 2]) (isC := [3, 4, 5, 6, 7]) (wr := [(ao, .inr (0, [.ref au, .ref af, .ref ak, .int 0, .int x.2.2.2.1, .int x.2.2.2.2.1, .int x.2.2.2.2.2.1])), (au, .inr (1, [.int x.1.1, .int x.1.2])), (af, .inr (1, [.int x.2.1.1, .int x.2.1.2]))]) (w2 := [(ao, .inr (0, [.ref au, .ref af, .ref ak, .int 0, .int x.2.2.2.1, .int x.2.2.2.2.1, .int x.2.2.2.2.2.1])), (au, .inr (1, [.int x.1.1, .int x.1.2])), (af, .inr (1, [.int x.2.1.1, .int x.2.1.2])), (ak, .inr (2, [.ref a1, .ref a2, .ref a3, .ref a4, .int (nI (zk_removePrivate x.2.2.2.2.2.2).1), .int ((zk_removePrivate x.2.2.2.2.2.2).2.1)])), (a1, .inl (cI, 10, .inl ((zk_removePrivate x.2.2.2.2.2.2).2.2.1))), (a2, .inl (cI, 10, .inl ((zk_removePrivate x.2.2.2.2.2.2).2.2.2.1))), (a3, .inl (cI, 10, .inl ((zk_removePrivate x.2.2.2.2.2.2).2.2.2.2.1))), (a4, .inl (cI, 10, .inl ((zk_removePrivate x.2.2.2.2.2.2).2.2.2.2.2)))]) (va_runVN (As := []) (rest := []) ⟨hx, hb, hml, hown, hts⟩ (kk_removePrivate l D cI cZ ak a1 a2 a3 a4 x.2.2.2.2.2.2 (hn) _) ⟨(va_cnB 0 hts gd_yK_removePrivateSessionKeys rfl rfl rfl (hNw _ mw136) (hts _ mw26) (by decide +kernel) ⟨Nat.le_of_ble_eq_true rfl, Nat.le_of_ble_eq_true rfl⟩), hts _ mw138, hts _ mw4⟩ (kpreV hNw hP hD hK [3, 4, 5, 6, 7] rfl (by decide) 3 rfl (ci := 2) rfl) rfl rfl hl.1 rfl (lv_room (Nat.le_of_ble_eq_true rfl)) dT_logout_29 ⟨Nat.le_of_ble_eq_true rfl, Nat.le_of_ble_eq_true rfl⟩) hP hD hS hA [0, 1, 2, 3, 4, 5, 6, 7] rfl rfl (by decide) (by decide) (by decide) rfl (fun H locs hP hD hS => ?_)
      refine lv_iconst (v := 0) hx hb dT_logout_32 (by decide) ?_
      exact kretI (wf := fun st => wX cI ao au af ak a1 a2 a3 a4 st) (st := (x.1, x.2.1, 0, x.2.2.2.1, x.2.2.2.2.1, x.2.2.2.2.2.1, (zk_removePrivate x.2.2.2.2.2.2))) (by first | (rw [zt_logout, if_neg h1, if_neg h2]; done) | exact ((if_neg h1).trans (if_neg h2))) hx hb hr hlk hS hP hD hK dT_logout_33
    ·
      refine lv_bipush (v := (-3)) hx hb dT_logout_17 (by decide) ?_
      exact kretI (wf := fun st => wX cI ao au af ak a1 a2 a3 a4 st) (st := x) (by first | (rw [zt_logout, if_neg h1, if_pos h2]; done) | exact ((if_neg h1).trans (if_pos h2))) hx hb hr hlk hS hP hD hK dT_logout_19
  ·
    refine lv_iconst (v := (-1)) hx hb dT_logout_8 (by decide) ?_
    exact kretI (wf := fun st => wX cI ao au af ak a1 a2 a3 a4 st) (st := x) (by first | (rw [zt_logout, if_pos h1]; done) | exact (if_pos h1)) hx hb hr hlk hS hP hD hK dT_logout_9

def zt_unlock (x : XS) (g1 : Int32) (g2 : Int32) : Int32 × XS := (if (zt_isOpen x g1) = 0 then ((-1), x) else (if x.2.2.1 = 2 then (0, ((zr_renew x.1 g2), x.2.1, x.2.2.1, x.2.2.2.1, x.2.2.2.2.1, x.2.2.2.2.2.1, x.2.2.2.2.2.2)) else ((-3), x)))

set_option maxHeartbeats 4000000 in
set_option maxRecDepth 100000 in
theorem kt_unlock (l : Launch) (D : va_G) (cI cZ : ClassId) (ao au af ak a1 a2 a3 a4 : Nat) (x : XS) (g1 : Int32) (g2 : Int32) (hn : x.2.2.2.2.2.2.1 ≤ 10) : kI l yT_unlock wsT_unlock (rmOf 1 21) D (kT cI cZ) [.ref ao, .int g1, .int g2] (wX cI ao au af ak a1 a2 a3 a4 x) (zt_unlock x g1 g2).1 (wX cI ao au af ak a1 a2 a3 a4 ((zt_unlock x g1 g2).2)) := by
  intro sz
  refine kOf (Qc := fun A => kQi D (kT cI cZ) A (zt_unlock x g1 g2).1 (wX cI ao au af ak a1 a2 a3 a4 ((zt_unlock x g1 g2).2))) (cc := cT_unlock) (maxL := 3) (ret := some .int) (by decide) rfl (Nat.le_of_ble_eq_true rfl) ?_ sz
  intro p e s m args below meth c A ls hx hb hml hown hts hNw hr hlk hin hA hS hP hD hK hl
  show W p l e (rmOf 1 21) s m args below meth c s.heap [] 0 0 (MQ below (kQi D (kT cI cZ) A (zt_unlock x g1 g2).1 (wX cI ao au af ak a1 a2 a3 a4 ((zt_unlock x g1 g2).2))) args s 0 0 A) (F0 m 0 ls [])
  have hts : ∀ q ∈ lw_g, q.before args s = true := fun q h => hts q (List.mem_cons_of_mem _ h)
  have hown : s.vm.findClass cnT = some m.cls := hown
  have hl : lv_has ls 3 [(0, .ref ao), (1, .int g1), (2, .int g2)] := hl
  have hP : va_P D vwCl [(ao, .inr (0, [.ref au, .ref af, .ref ak, .int x.2.2.1, .int x.2.2.2.1, .int x.2.2.2.2.1, .int x.2.2.2.2.2.1])), (au, .inr (1, [.int x.1.1, .int x.1.2])), (af, .inr (1, [.int x.2.1.1, .int x.2.1.2])), (ak, .inr (2, [.ref a1, .ref a2, .ref a3, .ref a4, .int (nI x.2.2.2.2.2.2.1), .int x.2.2.2.2.2.2.2.1])), (a1, .inl (cI, 10, .inl x.2.2.2.2.2.2.2.2.1)), (a2, .inl (cI, 10, .inl x.2.2.2.2.2.2.2.2.2.1)), (a3, .inl (cI, 10, .inl x.2.2.2.2.2.2.2.2.2.2.1)), (a4, .inl (cI, 10, .inl x.2.2.2.2.2.2.2.2.2.2.2))] s.heap := hP
  have hD : va_D A [(ao, .inr (0, [.ref au, .ref af, .ref ak, .int x.2.2.1, .int x.2.2.2.1, .int x.2.2.2.2.1, .int x.2.2.2.2.2.1])), (au, .inr (1, [.int x.1.1, .int x.1.2])), (af, .inr (1, [.int x.2.1.1, .int x.2.1.2])), (ak, .inr (2, [.ref a1, .ref a2, .ref a3, .ref a4, .int (nI x.2.2.2.2.2.2.1), .int x.2.2.2.2.2.2.2.1])), (a1, .inl (cI, 10, .inl x.2.2.2.2.2.2.2.2.1)), (a2, .inl (cI, 10, .inl x.2.2.2.2.2.2.2.2.2.1)), (a3, .inl (cI, 10, .inl x.2.2.2.2.2.2.2.2.2.2.1)), (a4, .inl (cI, 10, .inl x.2.2.2.2.2.2.2.2.2.2.2))] := hD
  refine lv_aload_n hx hb dT_unlock_0 rfl (lv_at hl 0 rfl) ?_
  refine lv_iload_n hx hb dT_unlock_1 rfl (lv_at hl 1 rfl) ?_
  refine kcI (isR := []) (isC := [0, 1, 2, 3, 4, 5, 6, 7]) (wr := []) (w2 := [(ao, .inr (0, [.ref au, .ref af, .ref ak, .int x.2.2.1, .int x.2.2.2.1, .int x.2.2.2.2.1, .int x.2.2.2.2.2.1])), (au, .inr (1, [.int x.1.1, .int x.1.2])), (af, .inr (1, [.int x.2.1.1, .int x.2.1.2])), (ak, .inr (2, [.ref a1, .ref a2, .ref a3, .ref a4, .int (nI x.2.2.2.2.2.2.1), .int x.2.2.2.2.2.2.2.1])), (a1, .inl (cI, 10, .inl x.2.2.2.2.2.2.2.2.1)), (a2, .inl (cI, 10, .inl x.2.2.2.2.2.2.2.2.2.1)), (a3, .inl (cI, 10, .inl x.2.2.2.2.2.2.2.2.2.2.1)), (a4, .inl (cI, 10, .inl x.2.2.2.2.2.2.2.2.2.2.2))]) (va_runV (As := [.int g1]) (rest := []) ⟨hx, hb, hml, hown, hts⟩ (kt_isOpen l D cI cZ ao au af ak a1 a2 a3 a4 x g1 _) ⟨(callB_of 1 hts gd_yT_isOpen rfl rfl rfl (hts _ mw24) (hts _ mw108) (by decide +kernel) ⟨Nat.le_of_ble_eq_true rfl, Nat.le_of_ble_eq_true rfl⟩), hts _ mw110, hts _ mw0⟩ (kpreV hNw hP hD hK [0, 1, 2, 3, 4, 5, 6, 7] rfl (by decide) 0 rfl (ci := 0) rfl) rfl rfl hl.1 rfl (lv_room (Nat.le_of_ble_eq_true rfl)) dT_unlock_2 ⟨Nat.le_of_ble_eq_true rfl, Nat.le_of_ble_eq_true rfl⟩) hP hD hS hA [0, 1, 2, 3, 4, 5, 6, 7] rfl rfl (by decide) (by decide) (by decide) rfl (fun H locs hP hD hS => ?_)
  refine lv_if_ne (tgt := 10) hx hb dT_unlock_5 (by decide) (fun h1 => ?_) (fun h1 => ?_)
  ·
    refine lv_aload_n hx hb dT_unlock_10 rfl (lv_at hl 0 rfl) ?_
    refine va_get (D := D) (ci := 0) (v := .int x.2.2.1) (C := cnT) (T := ftT) (N := 7) hx hb hts inT hown hK hP 0 rfl rfl 3 (by decide) (hts _ mw85) (fun _ h9 => h9) rfl dT_unlock_11 ?_
    refine lv_iconst (v := 2) hx hb dT_unlock_14 (by decide) ?_
    refine lv_icmp_eq (tgt := 21) hx hb dT_unlock_15 (by decide) (fun h2 => ?_) (fun h2 => ?_)
    ·
      refine lv_aload_n hx hb dT_unlock_21 rfl (lv_at hl 0 rfl) ?_
      refine va_get (D := D) (ci := 0) (v := .ref au) (C := cnT) (T := ftT) (N := 7) hx hb hts inT hown hK hP 0 rfl rfl 0 (by decide) (hts _ mw82) (fun _ h9 => h9) rfl dT_unlock_22 ?_
      refine lv_iload_n hx hb dT_unlock_25 rfl (lv_at hl 2 rfl) ?_
      refine kcV (isR := [0, 2, 3, 4, 5, 6, 7]) (isC := [1]) (wr := [(ao, .inr (0, [.ref au, .ref af, .ref ak, .int x.2.2.1, .int x.2.2.2.1, .int x.2.2.2.2.1, .int x.2.2.2.2.2.1])), (af, .inr (1, [.int x.2.1.1, .int x.2.1.2])), (ak, .inr (2, [.ref a1, .ref a2, .ref a3, .ref a4, .int (nI x.2.2.2.2.2.2.1), .int x.2.2.2.2.2.2.2.1])), (a1, .inl (cI, 10, .inl x.2.2.2.2.2.2.2.2.1)), (a2, .inl (cI, 10, .inl x.2.2.2.2.2.2.2.2.2.1)), (a3, .inl (cI, 10, .inl x.2.2.2.2.2.2.2.2.2.2.1)), (a4, .inl (cI, 10, .inl x.2.2.2.2.2.2.2.2.2.2.2))]) (w2 := [(ao, .inr (0, [.ref au, .ref af, .ref ak, .int x.2.2.1, .int x.2.2.2.1, .int x.2.2.2.2.1, .int x.2.2.2.2.2.1])), (au, .inr (1, [.int ((zr_renew x.1 g2).1), .int ((zr_renew x.1 g2).2)])), (af, .inr (1, [.int x.2.1.1, .int x.2.1.2])), (ak, .inr (2, [.ref a1, .ref a2, .ref a3, .ref a4, .int (nI x.2.2.2.2.2.2.1), .int x.2.2.2.2.2.2.2.1])), (a1, .inl (cI, 10, .inl x.2.2.2.2.2.2.2.2.1)), (a2, .inl (cI, 10, .inl x.2.2.2.2.2.2.2.2.2.1)), (a3, .inl (cI, 10, .inl x.2.2.2.2.2.2.2.2.2.2.1)), (a4, .inl (cI, 10, .inl x.2.2.2.2.2.2.2.2.2.2.2))]) (va_runVN (As := [.int g2]) (rest := []) ⟨hx, hb, hml, hown, hts⟩ (kr_renew l D cI cZ au x.1 g2 _) ⟨(va_cnB 1 hts gd_yR_renew rfl rfl rfl (hNw _ mw148) (hts _ mw25) (by decide +kernel) ⟨Nat.le_of_ble_eq_true rfl, Nat.le_of_ble_eq_true rfl⟩), hts _ mw150, hts _ mw6⟩ (kpreV hNw hP hD hK [1] rfl (by decide) 1 rfl (ci := 1) rfl) rfl rfl hl.1 rfl (lv_room (Nat.le_of_ble_eq_true rfl)) dT_unlock_26 ⟨Nat.le_of_ble_eq_true rfl, Nat.le_of_ble_eq_true rfl⟩) hP hD hS hA [0, 7, 1, 2, 3, 4, 5, 6] rfl rfl (by decide) (by decide) (by decide) rfl (fun H locs hP hD hS => ?_)
      refine lv_iconst (v := 0) hx hb dT_unlock_29 (by decide) ?_
      exact kretI (wf := fun st => wX cI ao au af ak a1 a2 a3 a4 st) (st := ((zr_renew x.1 g2), x.2.1, x.2.2.1, x.2.2.2.1, x.2.2.2.2.1, x.2.2.2.2.2.1, x.2.2.2.2.2.2)) (by first | (rw [zt_unlock, if_neg h1, if_pos h2]; done) | exact ((if_neg h1).trans (if_pos h2))) hx hb hr hlk hS hP hD hK dT_unlock_30
    ·
      refine lv_bipush (v := (-3)) hx hb dT_unlock_18 (by decide) ?_
      exact kretI (wf := fun st => wX cI ao au af ak a1 a2 a3 a4 st) (st := x) (by first | (rw [zt_unlock, if_neg h1, if_neg h2]; done) | exact ((if_neg h1).trans (if_neg h2))) hx hb hr hlk hS hP hD hK dT_unlock_20
  ·
    refine lv_iconst (v := (-1)) hx hb dT_unlock_8 (by decide) ?_
    exact kretI (wf := fun st => wX cI ao au af ak a1 a2 a3 a4 st) (st := x) (by first | (rw [zt_unlock, if_pos h1]; done) | exact (if_pos h1)) hx hb hr hlk hS hP hD hK dT_unlock_9

def zt_create (x : XS) (g1 : Int32) (g2 : Int32) (g3 : Int32) : Int32 × XS := (if (zt_refusal x g1 g2 1) = 0 then ((zk_add x.2.2.2.2.2.2 g2 g3 g1).1, (x.1, x.2.1, x.2.2.1, x.2.2.2.1, x.2.2.2.2.1, x.2.2.2.2.2.1, (zk_add x.2.2.2.2.2.2 g2 g3 g1).2)) else ((zt_refusal x g1 g2 1), x))

set_option maxHeartbeats 4000000 in
set_option maxRecDepth 100000 in
theorem kt_create (l : Launch) (D : va_G) (cI cZ : ClassId) (ao au af ak a1 a2 a3 a4 : Nat) (x : XS) (g1 : Int32) (g2 : Int32) (g3 : Int32) (hn : x.2.2.2.2.2.2.1 ≤ 10) : kI l yT_create wsT_create (rmOf 3 65) D (kT cI cZ) [.ref ao, .int g1, .int g2, .int g3] (wX cI ao au af ak a1 a2 a3 a4 x) (zt_create x g1 g2 g3).1 (wX cI ao au af ak a1 a2 a3 a4 ((zt_create x g1 g2 g3).2)) := by
  intro sz
  refine kOf (Qc := fun A => kQi D (kT cI cZ) A (zt_create x g1 g2 g3).1 (wX cI ao au af ak a1 a2 a3 a4 ((zt_create x g1 g2 g3).2))) (cc := cT_create) (maxL := 5) (ret := some .int) (by decide) rfl (Nat.le_of_ble_eq_true rfl) ?_ sz
  intro p e s m args below meth c A ls hx hb hml hown hts hNw hr hlk hin hA hS hP hD hK hl
  show W p l e (rmOf 3 65) s m args below meth c s.heap [] 0 0 (MQ below (kQi D (kT cI cZ) A (zt_create x g1 g2 g3).1 (wX cI ao au af ak a1 a2 a3 a4 ((zt_create x g1 g2 g3).2))) args s 0 0 A) (F0 m 0 ls [])
  have hts : ∀ q ∈ lw_g, q.before args s = true := fun q h => hts q (List.mem_cons_of_mem _ h)
  have hown : s.vm.findClass cnT = some m.cls := hown
  have hl : lv_has ls 5 [(0, .ref ao), (1, .int g1), (2, .int g2), (3, .int g3)] := hl
  have hP : va_P D vwCl [(ao, .inr (0, [.ref au, .ref af, .ref ak, .int x.2.2.1, .int x.2.2.2.1, .int x.2.2.2.2.1, .int x.2.2.2.2.2.1])), (au, .inr (1, [.int x.1.1, .int x.1.2])), (af, .inr (1, [.int x.2.1.1, .int x.2.1.2])), (ak, .inr (2, [.ref a1, .ref a2, .ref a3, .ref a4, .int (nI x.2.2.2.2.2.2.1), .int x.2.2.2.2.2.2.2.1])), (a1, .inl (cI, 10, .inl x.2.2.2.2.2.2.2.2.1)), (a2, .inl (cI, 10, .inl x.2.2.2.2.2.2.2.2.2.1)), (a3, .inl (cI, 10, .inl x.2.2.2.2.2.2.2.2.2.2.1)), (a4, .inl (cI, 10, .inl x.2.2.2.2.2.2.2.2.2.2.2))] s.heap := hP
  have hD : va_D A [(ao, .inr (0, [.ref au, .ref af, .ref ak, .int x.2.2.1, .int x.2.2.2.1, .int x.2.2.2.2.1, .int x.2.2.2.2.2.1])), (au, .inr (1, [.int x.1.1, .int x.1.2])), (af, .inr (1, [.int x.2.1.1, .int x.2.1.2])), (ak, .inr (2, [.ref a1, .ref a2, .ref a3, .ref a4, .int (nI x.2.2.2.2.2.2.1), .int x.2.2.2.2.2.2.2.1])), (a1, .inl (cI, 10, .inl x.2.2.2.2.2.2.2.2.1)), (a2, .inl (cI, 10, .inl x.2.2.2.2.2.2.2.2.2.1)), (a3, .inl (cI, 10, .inl x.2.2.2.2.2.2.2.2.2.2.1)), (a4, .inl (cI, 10, .inl x.2.2.2.2.2.2.2.2.2.2.2))] := hD
  refine lv_aload_n hx hb dT_create_0 rfl (lv_at hl 0 rfl) ?_
  refine lv_iload_n hx hb dT_create_1 rfl (lv_at hl 1 rfl) ?_
  refine lv_iload_n hx hb dT_create_2 rfl (lv_at hl 2 rfl) ?_
  refine lv_iconst (v := 1) hx hb dT_create_3 (by decide) ?_
  refine kcI (isR := []) (isC := [0, 1, 2, 3, 4, 5, 6, 7]) (wr := []) (w2 := [(ao, .inr (0, [.ref au, .ref af, .ref ak, .int x.2.2.1, .int x.2.2.2.1, .int x.2.2.2.2.1, .int x.2.2.2.2.2.1])), (au, .inr (1, [.int x.1.1, .int x.1.2])), (af, .inr (1, [.int x.2.1.1, .int x.2.1.2])), (ak, .inr (2, [.ref a1, .ref a2, .ref a3, .ref a4, .int (nI x.2.2.2.2.2.2.1), .int x.2.2.2.2.2.2.2.1])), (a1, .inl (cI, 10, .inl x.2.2.2.2.2.2.2.2.1)), (a2, .inl (cI, 10, .inl x.2.2.2.2.2.2.2.2.2.1)), (a3, .inl (cI, 10, .inl x.2.2.2.2.2.2.2.2.2.2.1)), (a4, .inl (cI, 10, .inl x.2.2.2.2.2.2.2.2.2.2.2))]) (va_runV (As := [.int g1, .int g2, .int 1]) (rest := []) ⟨hx, hb, hml, hown, hts⟩ (kt_refusal l D cI cZ ao au af ak a1 a2 a3 a4 x g1 g2 1 (hn) _) ⟨(callB_of 3 hts gd_yT_refusalToMake rfl rfl rfl (hts _ mw24) (hts _ mw156) (by decide +kernel) ⟨Nat.le_of_ble_eq_true rfl, Nat.le_of_ble_eq_true rfl⟩), hts _ mw158, hts _ mw7⟩ (kpreV hNw hP hD hK [0, 1, 2, 3, 4, 5, 6, 7] rfl (by decide) 0 rfl (ci := 0) rfl) rfl rfl hl.1 rfl (lv_room (Nat.le_of_ble_eq_true rfl)) dT_create_4 ⟨Nat.le_of_ble_eq_true rfl, Nat.le_of_ble_eq_true rfl⟩) hP hD hS hA [0, 1, 2, 3, 4, 5, 6, 7] rfl rfl (by decide) (by decide) (by decide) rfl (fun H locs hP hD hS => ?_)
  refine lv_istore hx hb dT_create_7 hl (by decide) rfl (fun ls hl => ?_)
  have hl : lv_has ls 5 [(4, .int (zt_refusal x g1 g2 1)), (0, .ref ao), (1, .int g1), (2, .int g2), (3, .int g3)] := hl
  refine lv_iload hx hb dT_create_9 (lv_at hl 0 rfl) ?_
  refine lv_if_eq (tgt := 17) hx hb dT_create_11 (by decide) (fun h1 => ?_) (fun h1 => ?_)
  ·
    refine lv_aload_n hx hb dT_create_17 rfl (lv_at hl 1 rfl) ?_
    refine va_get (D := D) (ci := 0) (v := .ref ak) (C := cnT) (T := ftT) (N := 7) hx hb hts inT hown hK hP 0 rfl rfl 2 (by decide) (hts _ mw84) (fun _ h9 => h9) rfl dT_create_18 ?_
    refine lv_iload_n hx hb dT_create_21 rfl (lv_at hl 3 rfl) ?_
    refine lv_iload_n hx hb dT_create_22 rfl (lv_at hl 4 rfl) ?_
    refine lv_iload_n hx hb dT_create_23 rfl (lv_at hl 2 rfl) ?_
    refine kcI (isR := [0, 1, 2]) (isC := [3, 4, 5, 6, 7]) (wr := [(ao, .inr (0, [.ref au, .ref af, .ref ak, .int x.2.2.1, .int x.2.2.2.1, .int x.2.2.2.2.1, .int x.2.2.2.2.2.1])), (au, .inr (1, [.int x.1.1, .int x.1.2])), (af, .inr (1, [.int x.2.1.1, .int x.2.1.2]))]) (w2 := [(ao, .inr (0, [.ref au, .ref af, .ref ak, .int x.2.2.1, .int x.2.2.2.1, .int x.2.2.2.2.1, .int x.2.2.2.2.2.1])), (au, .inr (1, [.int x.1.1, .int x.1.2])), (af, .inr (1, [.int x.2.1.1, .int x.2.1.2])), (ak, .inr (2, [.ref a1, .ref a2, .ref a3, .ref a4, .int (nI (zk_add x.2.2.2.2.2.2 g2 g3 g1).2.1), .int ((zk_add x.2.2.2.2.2.2 g2 g3 g1).2.2.1)])), (a1, .inl (cI, 10, .inl ((zk_add x.2.2.2.2.2.2 g2 g3 g1).2.2.2.1))), (a2, .inl (cI, 10, .inl ((zk_add x.2.2.2.2.2.2 g2 g3 g1).2.2.2.2.1))), (a3, .inl (cI, 10, .inl ((zk_add x.2.2.2.2.2.2 g2 g3 g1).2.2.2.2.2.1))), (a4, .inl (cI, 10, .inl ((zk_add x.2.2.2.2.2.2 g2 g3 g1).2.2.2.2.2.2)))]) (va_runVN (As := [.int g2, .int g3, .int g1]) (rest := []) ⟨hx, hb, hml, hown, hts⟩ (kk_add l D cI cZ ak a1 a2 a3 a4 x.2.2.2.2.2.2 g2 g3 g1 (hn) _) ⟨(va_cnB 3 hts gd_yK_add rfl rfl rfl (hNw _ mw170) (hts _ mw26) (by decide +kernel) ⟨Nat.le_of_ble_eq_true rfl, Nat.le_of_ble_eq_true rfl⟩), hts _ mw172, hts _ mw9⟩ (kpreV hNw hP hD hK [3, 4, 5, 6, 7] rfl (by decide) 3 rfl (ci := 2) rfl) rfl rfl hl.1 rfl (lv_room (Nat.le_of_ble_eq_true rfl)) dT_create_24 ⟨Nat.le_of_ble_eq_true rfl, Nat.le_of_ble_eq_true rfl⟩) hP hD hS hA [0, 1, 2, 3, 4, 5, 6, 7] rfl rfl (by decide) (by decide) (by decide) rfl (fun H locs hP hD hS => ?_)
    exact kretI (wf := fun st => wX cI ao au af ak a1 a2 a3 a4 st) (st := (x.1, x.2.1, x.2.2.1, x.2.2.2.1, x.2.2.2.2.1, x.2.2.2.2.2.1, (zk_add x.2.2.2.2.2.2 g2 g3 g1).2)) (by first | (rw [zt_create, if_pos h1]; done) | exact (if_pos h1)) hx hb hr hlk hS hP hD hK dT_create_27
  ·
    refine lv_iload hx hb dT_create_14 (lv_at hl 0 rfl) ?_
    exact kretI (wf := fun st => wX cI ao au af ak a1 a2 a3 a4 st) (st := x) (by first | (rw [zt_create, if_neg h1]; done) | exact (if_neg h1)) hx hb hr hlk hS hP hD hK dT_create_16

def zt_generate (x : XS) (g1 : Int32) (g2 : Int32) : Int32 × XS := (if (zt_refusal x g1 g2 1) = 0 then ((zk_add x.2.2.2.2.2.2 (g2 ||| (zt_originOf g2)) (zw_mac x.2.2.2.1 1234567) g1).1, (x.1, x.2.1, x.2.2.1, (x.2.2.2.1 + 1), x.2.2.2.2.1, x.2.2.2.2.2.1, (zk_add x.2.2.2.2.2.2 (g2 ||| (zt_originOf g2)) (zw_mac x.2.2.2.1 1234567) g1).2)) else ((zt_refusal x g1 g2 1), x))

set_option maxHeartbeats 4000000 in
set_option maxRecDepth 100000 in
theorem kt_generate (l : Launch) (D : va_G) (cI cZ : ClassId) (ao au af ak a1 a2 a3 a4 : Nat) (x : XS) (g1 : Int32) (g2 : Int32) (hn : x.2.2.2.2.2.2.1 ≤ 10) : kI l yT_generate wsT_generate (rmOf 3 65) D (kT cI cZ) [.ref ao, .int g1, .int g2] (wX cI ao au af ak a1 a2 a3 a4 x) (zt_generate x g1 g2).1 (wX cI ao au af ak a1 a2 a3 a4 ((zt_generate x g1 g2).2)) := by
  intro sz
  refine kOf (Qc := fun A => kQi D (kT cI cZ) A (zt_generate x g1 g2).1 (wX cI ao au af ak a1 a2 a3 a4 ((zt_generate x g1 g2).2))) (cc := cT_generate) (maxL := 5) (ret := some .int) (by decide) rfl (Nat.le_of_ble_eq_true rfl) ?_ sz
  intro p e s m args below meth c A ls hx hb hml hown hts hNw hr hlk hin hA hS hP hD hK hl
  show W p l e (rmOf 3 65) s m args below meth c s.heap [] 0 0 (MQ below (kQi D (kT cI cZ) A (zt_generate x g1 g2).1 (wX cI ao au af ak a1 a2 a3 a4 ((zt_generate x g1 g2).2))) args s 0 0 A) (F0 m 0 ls [])
  have hts : ∀ q ∈ lw_g, q.before args s = true := fun q h => hts q (List.mem_cons_of_mem _ h)
  have hown : s.vm.findClass cnT = some m.cls := hown
  have hl : lv_has ls 5 [(0, .ref ao), (1, .int g1), (2, .int g2)] := hl
  have hP : va_P D vwCl [(ao, .inr (0, [.ref au, .ref af, .ref ak, .int x.2.2.1, .int x.2.2.2.1, .int x.2.2.2.2.1, .int x.2.2.2.2.2.1])), (au, .inr (1, [.int x.1.1, .int x.1.2])), (af, .inr (1, [.int x.2.1.1, .int x.2.1.2])), (ak, .inr (2, [.ref a1, .ref a2, .ref a3, .ref a4, .int (nI x.2.2.2.2.2.2.1), .int x.2.2.2.2.2.2.2.1])), (a1, .inl (cI, 10, .inl x.2.2.2.2.2.2.2.2.1)), (a2, .inl (cI, 10, .inl x.2.2.2.2.2.2.2.2.2.1)), (a3, .inl (cI, 10, .inl x.2.2.2.2.2.2.2.2.2.2.1)), (a4, .inl (cI, 10, .inl x.2.2.2.2.2.2.2.2.2.2.2))] s.heap := hP
  have hD : va_D A [(ao, .inr (0, [.ref au, .ref af, .ref ak, .int x.2.2.1, .int x.2.2.2.1, .int x.2.2.2.2.1, .int x.2.2.2.2.2.1])), (au, .inr (1, [.int x.1.1, .int x.1.2])), (af, .inr (1, [.int x.2.1.1, .int x.2.1.2])), (ak, .inr (2, [.ref a1, .ref a2, .ref a3, .ref a4, .int (nI x.2.2.2.2.2.2.1), .int x.2.2.2.2.2.2.2.1])), (a1, .inl (cI, 10, .inl x.2.2.2.2.2.2.2.2.1)), (a2, .inl (cI, 10, .inl x.2.2.2.2.2.2.2.2.2.1)), (a3, .inl (cI, 10, .inl x.2.2.2.2.2.2.2.2.2.2.1)), (a4, .inl (cI, 10, .inl x.2.2.2.2.2.2.2.2.2.2.2))] := hD
  refine lv_aload_n hx hb dT_generate_0 rfl (lv_at hl 0 rfl) ?_
  refine lv_iload_n hx hb dT_generate_1 rfl (lv_at hl 1 rfl) ?_
  refine lv_iload_n hx hb dT_generate_2 rfl (lv_at hl 2 rfl) ?_
  refine lv_iconst (v := 1) hx hb dT_generate_3 (by decide) ?_
  refine kcI (isR := []) (isC := [0, 1, 2, 3, 4, 5, 6, 7]) (wr := []) (w2 := [(ao, .inr (0, [.ref au, .ref af, .ref ak, .int x.2.2.1, .int x.2.2.2.1, .int x.2.2.2.2.1, .int x.2.2.2.2.2.1])), (au, .inr (1, [.int x.1.1, .int x.1.2])), (af, .inr (1, [.int x.2.1.1, .int x.2.1.2])), (ak, .inr (2, [.ref a1, .ref a2, .ref a3, .ref a4, .int (nI x.2.2.2.2.2.2.1), .int x.2.2.2.2.2.2.2.1])), (a1, .inl (cI, 10, .inl x.2.2.2.2.2.2.2.2.1)), (a2, .inl (cI, 10, .inl x.2.2.2.2.2.2.2.2.2.1)), (a3, .inl (cI, 10, .inl x.2.2.2.2.2.2.2.2.2.2.1)), (a4, .inl (cI, 10, .inl x.2.2.2.2.2.2.2.2.2.2.2))]) (va_runV (As := [.int g1, .int g2, .int 1]) (rest := []) ⟨hx, hb, hml, hown, hts⟩ (kt_refusal l D cI cZ ao au af ak a1 a2 a3 a4 x g1 g2 1 (hn) _) ⟨(callB_of 3 hts gd_yT_refusalToMake rfl rfl rfl (hts _ mw24) (hts _ mw156) (by decide +kernel) ⟨Nat.le_of_ble_eq_true rfl, Nat.le_of_ble_eq_true rfl⟩), hts _ mw158, hts _ mw7⟩ (kpreV hNw hP hD hK [0, 1, 2, 3, 4, 5, 6, 7] rfl (by decide) 0 rfl (ci := 0) rfl) rfl rfl hl.1 rfl (lv_room (Nat.le_of_ble_eq_true rfl)) dT_generate_4 ⟨Nat.le_of_ble_eq_true rfl, Nat.le_of_ble_eq_true rfl⟩) hP hD hS hA [0, 1, 2, 3, 4, 5, 6, 7] rfl rfl (by decide) (by decide) (by decide) rfl (fun H locs hP hD hS => ?_)
  refine lv_istore_n hx hb dT_generate_7 rfl hl (by decide) rfl (fun ls hl => ?_)
  have hl : lv_has ls 5 [(3, .int (zt_refusal x g1 g2 1)), (0, .ref ao), (1, .int g1), (2, .int g2)] := hl
  refine lv_iload_n hx hb dT_generate_8 rfl (lv_at hl 0 rfl) ?_
  refine lv_if_eq (tgt := 14) hx hb dT_generate_9 (by decide) (fun h1 => ?_) (fun h1 => ?_)
  ·
    refine lv_aload_n hx hb dT_generate_14 rfl (lv_at hl 1 rfl) ?_
    refine va_get (D := D) (ci := 0) (v := .int x.2.2.2.1) (C := cnT) (T := ftT) (N := 7) hx hb hts inT hown hK hP 0 rfl rfl 4 (by decide) (hts _ mw86) (fun _ h9 => h9) rfl dT_generate_15 ?_
    refine lv_ldc (v := 1234567) hx hb hown (hts _ mw178) dT_generate_18 ?_
    refine kcI (isR := [0, 1, 2, 3, 4, 5, 6, 7]) (isC := []) (wr := [(ao, .inr (0, [.ref au, .ref af, .ref ak, .int x.2.2.1, .int x.2.2.2.1, .int x.2.2.2.2.1, .int x.2.2.2.2.2.1])), (au, .inr (1, [.int x.1.1, .int x.1.2])), (af, .inr (1, [.int x.2.1.1, .int x.2.1.2])), (ak, .inr (2, [.ref a1, .ref a2, .ref a3, .ref a4, .int (nI x.2.2.2.2.2.2.1), .int x.2.2.2.2.2.2.2.1])), (a1, .inl (cI, 10, .inl x.2.2.2.2.2.2.2.2.1)), (a2, .inl (cI, 10, .inl x.2.2.2.2.2.2.2.2.2.1)), (a3, .inl (cI, 10, .inl x.2.2.2.2.2.2.2.2.2.2.1)), (a4, .inl (cI, 10, .inl x.2.2.2.2.2.2.2.2.2.2.2))]) (w2 := [(ao, .inr (0, [.ref au, .ref af, .ref ak, .int x.2.2.1, .int x.2.2.2.1, .int x.2.2.2.2.1, .int x.2.2.2.2.2.1])), (au, .inr (1, [.int x.1.1, .int x.1.2])), (af, .inr (1, [.int x.2.1.1, .int x.2.1.2])), (ak, .inr (2, [.ref a1, .ref a2, .ref a3, .ref a4, .int (nI x.2.2.2.2.2.2.1), .int x.2.2.2.2.2.2.2.1])), (a1, .inl (cI, 10, .inl x.2.2.2.2.2.2.2.2.1)), (a2, .inl (cI, 10, .inl x.2.2.2.2.2.2.2.2.2.1)), (a3, .inl (cI, 10, .inl x.2.2.2.2.2.2.2.2.2.2.1)), (a4, .inl (cI, 10, .inl x.2.2.2.2.2.2.2.2.2.2.2))]) (va_runSN (As := [.int x.2.2.2.1, .int 1234567]) (rest := []) ⟨hx, hb, hml, hown, hts⟩ (kw_mac l D cI cZ x.2.2.2.1 1234567 _) ⟨(va_cnB 2 hts gd_yW_mac rfl rfl rfl (hNw _ mw179) (hts _ mw28) (by decide +kernel) ⟨Nat.le_of_ble_eq_true rfl, Nat.le_of_ble_eq_true rfl⟩), hts _ mw180, trivial⟩ (kpreS hNw hP hD hK [] rfl (by decide)) rfl rfl hl.1 rfl (lv_room (Nat.le_of_ble_eq_true rfl)) dT_generate_20 ⟨Nat.le_of_ble_eq_true rfl, Nat.le_of_ble_eq_true rfl⟩) hP hD hS hA [0, 1, 2, 3, 4, 5, 6, 7] rfl rfl (by decide) (by decide) (by decide) rfl (fun H locs hP hD hS => ?_)
    refine lv_istore hx hb dT_generate_23 hl (by decide) rfl (fun ls hl => ?_)
    have hl : lv_has ls 5 [(4, .int (zw_mac x.2.2.2.1 1234567)), (3, .int (zt_refusal x g1 g2 1)), (0, .ref ao), (1, .int g1), (2, .int g2)] := hl
    refine lv_aload_n hx hb dT_generate_25 rfl (lv_at hl 2 rfl) ?_
    refine lv_dup hx hb dT_generate_26 rfl ?_
    refine va_get (D := D) (ci := 0) (v := .int x.2.2.2.1) (C := cnT) (T := ftT) (N := 7) hx hb hts inT hown hK hP 0 rfl rfl 4 (by decide) (hts _ mw86) (fun _ h9 => h9) rfl dT_generate_27 ?_
    refine lv_iconst (v := 1) hx hb dT_generate_30 (by decide) ?_
    refine lv_iadd hx hb dT_generate_31 ?_
    refine va_put (D := D) (ci := 0) (v := .int (x.2.2.2.1 + 1)) (ty := (.int)) (C := cnT) (T := ftT) (N := 7) hx hb hts inT tyT tyT_ok nmT hown hK hP hD hS 0 rfl rfl 4 (by decide) (hts _ mw86) (fun _ h9 => h9) rfl (by decide +kernel) rfl rfl (Nat.le_of_ble_eq_true rfl) dT_generate_32 (fun H locs hP hD hS => ?_)
    have hP : va_P D vwCl [(ao, .inr (0, [.ref au, .ref af, .ref ak, .int x.2.2.1, .int (x.2.2.2.1 + 1), .int x.2.2.2.2.1, .int x.2.2.2.2.2.1])), (au, .inr (1, [.int x.1.1, .int x.1.2])), (af, .inr (1, [.int x.2.1.1, .int x.2.1.2])), (ak, .inr (2, [.ref a1, .ref a2, .ref a3, .ref a4, .int (nI x.2.2.2.2.2.2.1), .int x.2.2.2.2.2.2.2.1])), (a1, .inl (cI, 10, .inl x.2.2.2.2.2.2.2.2.1)), (a2, .inl (cI, 10, .inl x.2.2.2.2.2.2.2.2.2.1)), (a3, .inl (cI, 10, .inl x.2.2.2.2.2.2.2.2.2.2.1)), (a4, .inl (cI, 10, .inl x.2.2.2.2.2.2.2.2.2.2.2))] H := hP
    have hD : va_D A [(ao, .inr (0, [.ref au, .ref af, .ref ak, .int x.2.2.1, .int (x.2.2.2.1 + 1), .int x.2.2.2.2.1, .int x.2.2.2.2.2.1])), (au, .inr (1, [.int x.1.1, .int x.1.2])), (af, .inr (1, [.int x.2.1.1, .int x.2.1.2])), (ak, .inr (2, [.ref a1, .ref a2, .ref a3, .ref a4, .int (nI x.2.2.2.2.2.2.1), .int x.2.2.2.2.2.2.2.1])), (a1, .inl (cI, 10, .inl x.2.2.2.2.2.2.2.2.1)), (a2, .inl (cI, 10, .inl x.2.2.2.2.2.2.2.2.2.1)), (a3, .inl (cI, 10, .inl x.2.2.2.2.2.2.2.2.2.2.1)), (a4, .inl (cI, 10, .inl x.2.2.2.2.2.2.2.2.2.2.2))] := hD
    refine lv_aload_n hx hb dT_generate_35 rfl (lv_at hl 2 rfl) ?_
    refine va_get (D := D) (ci := 0) (v := .ref ak) (C := cnT) (T := ftT) (N := 7) hx hb hts inT hown hK hP 0 rfl rfl 2 (by decide) (hts _ mw84) (fun _ h9 => h9) rfl dT_generate_36 ?_
    refine lv_iload_n hx hb dT_generate_39 rfl (lv_at hl 4 rfl) ?_
    refine lv_iload_n hx hb dT_generate_40 rfl (lv_at hl 4 rfl) ?_
    refine kcI (isR := [0, 1, 2, 3, 4, 5, 6, 7]) (isC := []) (wr := [(ao, .inr (0, [.ref au, .ref af, .ref ak, .int x.2.2.1, .int (x.2.2.2.1 + 1), .int x.2.2.2.2.1, .int x.2.2.2.2.2.1])), (au, .inr (1, [.int x.1.1, .int x.1.2])), (af, .inr (1, [.int x.2.1.1, .int x.2.1.2])), (ak, .inr (2, [.ref a1, .ref a2, .ref a3, .ref a4, .int (nI x.2.2.2.2.2.2.1), .int x.2.2.2.2.2.2.2.1])), (a1, .inl (cI, 10, .inl x.2.2.2.2.2.2.2.2.1)), (a2, .inl (cI, 10, .inl x.2.2.2.2.2.2.2.2.2.1)), (a3, .inl (cI, 10, .inl x.2.2.2.2.2.2.2.2.2.2.1)), (a4, .inl (cI, 10, .inl x.2.2.2.2.2.2.2.2.2.2.2))]) (w2 := [(ao, .inr (0, [.ref au, .ref af, .ref ak, .int x.2.2.1, .int (x.2.2.2.1 + 1), .int x.2.2.2.2.1, .int x.2.2.2.2.2.1])), (au, .inr (1, [.int x.1.1, .int x.1.2])), (af, .inr (1, [.int x.2.1.1, .int x.2.1.2])), (ak, .inr (2, [.ref a1, .ref a2, .ref a3, .ref a4, .int (nI x.2.2.2.2.2.2.1), .int x.2.2.2.2.2.2.2.1])), (a1, .inl (cI, 10, .inl x.2.2.2.2.2.2.2.2.1)), (a2, .inl (cI, 10, .inl x.2.2.2.2.2.2.2.2.2.1)), (a3, .inl (cI, 10, .inl x.2.2.2.2.2.2.2.2.2.2.1)), (a4, .inl (cI, 10, .inl x.2.2.2.2.2.2.2.2.2.2.2))]) (va_runS (As := [.int g2]) (rest := [.int g2, .ref ak]) ⟨hx, hb, hml, hown, hts⟩ (kt_originOf l D cI cZ g2 _) ⟨(callB_of 1 hts gd_yT_originOf rfl rfl rfl (hts _ mw24) (hts _ mw186) (by decide +kernel) ⟨Nat.le_of_ble_eq_true rfl, Nat.le_of_ble_eq_true rfl⟩), hts _ mw187⟩ (kpreS hNw hP hD hK [] rfl (by decide)) rfl rfl hl.1 rfl (lv_room (Nat.le_of_ble_eq_true rfl)) dT_generate_41 ⟨Nat.le_of_ble_eq_true rfl, Nat.le_of_ble_eq_true rfl⟩) hP hD hS hA [0, 1, 2, 3, 4, 5, 6, 7] rfl rfl (by decide) (by decide) (by decide) rfl (fun H locs hP hD hS => ?_)
    refine lv_ior hx hb dT_generate_44 ?_
    refine lv_iload hx hb dT_generate_45 (lv_at hl 0 rfl) ?_
    refine lv_iload_n hx hb dT_generate_47 rfl (lv_at hl 3 rfl) ?_
    refine kcI (isR := [0, 1, 2]) (isC := [3, 4, 5, 6, 7]) (wr := [(ao, .inr (0, [.ref au, .ref af, .ref ak, .int x.2.2.1, .int (x.2.2.2.1 + 1), .int x.2.2.2.2.1, .int x.2.2.2.2.2.1])), (au, .inr (1, [.int x.1.1, .int x.1.2])), (af, .inr (1, [.int x.2.1.1, .int x.2.1.2]))]) (w2 := [(ao, .inr (0, [.ref au, .ref af, .ref ak, .int x.2.2.1, .int (x.2.2.2.1 + 1), .int x.2.2.2.2.1, .int x.2.2.2.2.2.1])), (au, .inr (1, [.int x.1.1, .int x.1.2])), (af, .inr (1, [.int x.2.1.1, .int x.2.1.2])), (ak, .inr (2, [.ref a1, .ref a2, .ref a3, .ref a4, .int (nI (zk_add x.2.2.2.2.2.2 (g2 ||| (zt_originOf g2)) (zw_mac x.2.2.2.1 1234567) g1).2.1), .int ((zk_add x.2.2.2.2.2.2 (g2 ||| (zt_originOf g2)) (zw_mac x.2.2.2.1 1234567) g1).2.2.1)])), (a1, .inl (cI, 10, .inl ((zk_add x.2.2.2.2.2.2 (g2 ||| (zt_originOf g2)) (zw_mac x.2.2.2.1 1234567) g1).2.2.2.1))), (a2, .inl (cI, 10, .inl ((zk_add x.2.2.2.2.2.2 (g2 ||| (zt_originOf g2)) (zw_mac x.2.2.2.1 1234567) g1).2.2.2.2.1))), (a3, .inl (cI, 10, .inl ((zk_add x.2.2.2.2.2.2 (g2 ||| (zt_originOf g2)) (zw_mac x.2.2.2.1 1234567) g1).2.2.2.2.2.1))), (a4, .inl (cI, 10, .inl ((zk_add x.2.2.2.2.2.2 (g2 ||| (zt_originOf g2)) (zw_mac x.2.2.2.1 1234567) g1).2.2.2.2.2.2)))]) (va_runVN (As := [.int (g2 ||| (zt_originOf g2)), .int (zw_mac x.2.2.2.1 1234567), .int g1]) (rest := []) ⟨hx, hb, hml, hown, hts⟩ (kk_add l D cI cZ ak a1 a2 a3 a4 x.2.2.2.2.2.2 (g2 ||| (zt_originOf g2)) (zw_mac x.2.2.2.1 1234567) g1 (hn) _) ⟨(va_cnB 3 hts gd_yK_add rfl rfl rfl (hNw _ mw170) (hts _ mw26) (by decide +kernel) ⟨Nat.le_of_ble_eq_true rfl, Nat.le_of_ble_eq_true rfl⟩), hts _ mw172, hts _ mw9⟩ (kpreV hNw hP hD hK [3, 4, 5, 6, 7] rfl (by decide) 3 rfl (ci := 2) rfl) rfl rfl hl.1 rfl (lv_room (Nat.le_of_ble_eq_true rfl)) dT_generate_48 ⟨Nat.le_of_ble_eq_true rfl, Nat.le_of_ble_eq_true rfl⟩) hP hD hS hA [0, 1, 2, 3, 4, 5, 6, 7] rfl rfl (by decide) (by decide) (by decide) rfl (fun H locs hP hD hS => ?_)
    exact kretI (wf := fun st => wX cI ao au af ak a1 a2 a3 a4 st) (st := (x.1, x.2.1, x.2.2.1, (x.2.2.2.1 + 1), x.2.2.2.2.1, x.2.2.2.2.2.1, (zk_add x.2.2.2.2.2.2 (g2 ||| (zt_originOf g2)) (zw_mac x.2.2.2.1 1234567) g1).2)) (by first | (rw [zt_generate, if_pos h1]; done) | exact (if_pos h1)) hx hb hr hlk hS hP hD hK dT_generate_51
  ·
    refine lv_iload_n hx hb dT_generate_12 rfl (lv_at hl 0 rfl) ?_
    exact kretI (wf := fun st => wX cI ao au af ak a1 a2 a3 a4 st) (st := x) (by first | (rw [zt_generate, if_neg h1]; done) | exact (if_neg h1)) hx hb hr hlk hS hP hD hK dT_generate_13

def zt_destroy (x : XS) (g1 : Int32) (g2 : Int32) : Int32 × XS := (if 0 ≤ (zt_row x g1 g2) then (if (zt_isFixedFor x g1 (zt_row x g1 g2)) = 0 then (0, (x.1, x.2.1, x.2.2.1, x.2.2.2.1, x.2.2.2.2.1, x.2.2.2.2.2.1, (zk_removeRow x.2.2.2.2.2.2 (Int32.toNatClampNeg (zt_row x g1 g2))))) else ((-4), x)) else ((zt_row x g1 g2), x))

set_option maxHeartbeats 4000000 in
set_option maxRecDepth 100000 in
theorem kt_destroy (l : Launch) (D : va_G) (cI cZ : ClassId) (ao au af ak a1 a2 a3 a4 : Nat) (x : XS) (g1 : Int32) (g2 : Int32) (hn : x.2.2.2.2.2.2.1 ≤ 10) : kI l yT_destroy wsT_destroy (rmOf 3 66) D (kT cI cZ) [.ref ao, .int g1, .int g2] (wX cI ao au af ak a1 a2 a3 a4 x) (zt_destroy x g1 g2).1 (wX cI ao au af ak a1 a2 a3 a4 ((zt_destroy x g1 g2).2)) := by
  intro sz
  refine kOf (Qc := fun A => kQi D (kT cI cZ) A (zt_destroy x g1 g2).1 (wX cI ao au af ak a1 a2 a3 a4 ((zt_destroy x g1 g2).2))) (cc := cT_destroy) (maxL := 4) (ret := some .int) (by decide) rfl (Nat.le_of_ble_eq_true rfl) ?_ sz
  intro p e s m args below meth c A ls hx hb hml hown hts hNw hr hlk hin hA hS hP hD hK hl
  show W p l e (rmOf 3 66) s m args below meth c s.heap [] 0 0 (MQ below (kQi D (kT cI cZ) A (zt_destroy x g1 g2).1 (wX cI ao au af ak a1 a2 a3 a4 ((zt_destroy x g1 g2).2))) args s 0 0 A) (F0 m 0 ls [])
  have hts : ∀ q ∈ lw_g, q.before args s = true := fun q h => hts q (List.mem_cons_of_mem _ h)
  have hown : s.vm.findClass cnT = some m.cls := hown
  have hl : lv_has ls 4 [(0, .ref ao), (1, .int g1), (2, .int g2)] := hl
  have hP : va_P D vwCl [(ao, .inr (0, [.ref au, .ref af, .ref ak, .int x.2.2.1, .int x.2.2.2.1, .int x.2.2.2.2.1, .int x.2.2.2.2.2.1])), (au, .inr (1, [.int x.1.1, .int x.1.2])), (af, .inr (1, [.int x.2.1.1, .int x.2.1.2])), (ak, .inr (2, [.ref a1, .ref a2, .ref a3, .ref a4, .int (nI x.2.2.2.2.2.2.1), .int x.2.2.2.2.2.2.2.1])), (a1, .inl (cI, 10, .inl x.2.2.2.2.2.2.2.2.1)), (a2, .inl (cI, 10, .inl x.2.2.2.2.2.2.2.2.2.1)), (a3, .inl (cI, 10, .inl x.2.2.2.2.2.2.2.2.2.2.1)), (a4, .inl (cI, 10, .inl x.2.2.2.2.2.2.2.2.2.2.2))] s.heap := hP
  have hD : va_D A [(ao, .inr (0, [.ref au, .ref af, .ref ak, .int x.2.2.1, .int x.2.2.2.1, .int x.2.2.2.2.1, .int x.2.2.2.2.2.1])), (au, .inr (1, [.int x.1.1, .int x.1.2])), (af, .inr (1, [.int x.2.1.1, .int x.2.1.2])), (ak, .inr (2, [.ref a1, .ref a2, .ref a3, .ref a4, .int (nI x.2.2.2.2.2.2.1), .int x.2.2.2.2.2.2.2.1])), (a1, .inl (cI, 10, .inl x.2.2.2.2.2.2.2.2.1)), (a2, .inl (cI, 10, .inl x.2.2.2.2.2.2.2.2.2.1)), (a3, .inl (cI, 10, .inl x.2.2.2.2.2.2.2.2.2.2.1)), (a4, .inl (cI, 10, .inl x.2.2.2.2.2.2.2.2.2.2.2))] := hD
  refine lv_aload_n hx hb dT_destroy_0 rfl (lv_at hl 0 rfl) ?_
  refine lv_iload_n hx hb dT_destroy_1 rfl (lv_at hl 1 rfl) ?_
  refine lv_iload_n hx hb dT_destroy_2 rfl (lv_at hl 2 rfl) ?_
  refine kcI (isR := []) (isC := [0, 1, 2, 3, 4, 5, 6, 7]) (wr := []) (w2 := [(ao, .inr (0, [.ref au, .ref af, .ref ak, .int x.2.2.1, .int x.2.2.2.1, .int x.2.2.2.2.1, .int x.2.2.2.2.2.1])), (au, .inr (1, [.int x.1.1, .int x.1.2])), (af, .inr (1, [.int x.2.1.1, .int x.2.1.2])), (ak, .inr (2, [.ref a1, .ref a2, .ref a3, .ref a4, .int (nI x.2.2.2.2.2.2.1), .int x.2.2.2.2.2.2.2.1])), (a1, .inl (cI, 10, .inl x.2.2.2.2.2.2.2.2.1)), (a2, .inl (cI, 10, .inl x.2.2.2.2.2.2.2.2.2.1)), (a3, .inl (cI, 10, .inl x.2.2.2.2.2.2.2.2.2.2.1)), (a4, .inl (cI, 10, .inl x.2.2.2.2.2.2.2.2.2.2.2))]) (va_runV (As := [.int g1, .int g2]) (rest := []) ⟨hx, hb, hml, hown, hts⟩ (kt_row l D cI cZ ao au af ak a1 a2 a3 a4 x g1 g2 (hn) _) ⟨(callB_of 2 hts gd_yT_rowOrRefusal rfl rfl rfl (hts _ mw24) (hts _ mw193) (by decide +kernel) ⟨Nat.le_of_ble_eq_true rfl, Nat.le_of_ble_eq_true rfl⟩), hts _ mw195, hts _ mw10⟩ (kpreV hNw hP hD hK [0, 1, 2, 3, 4, 5, 6, 7] rfl (by decide) 0 rfl (ci := 0) rfl) rfl rfl hl.1 rfl (lv_room (Nat.le_of_ble_eq_true rfl)) dT_destroy_3 ⟨Nat.le_of_ble_eq_true rfl, Nat.le_of_ble_eq_true rfl⟩) hP hD hS hA [0, 1, 2, 3, 4, 5, 6, 7] rfl rfl (by decide) (by decide) (by decide) rfl (fun H locs hP hD hS => ?_)
  refine lv_istore_n hx hb dT_destroy_6 rfl hl (by decide) rfl (fun ls hl => ?_)
  have hl : lv_has ls 4 [(3, .int (zt_row x g1 g2)), (0, .ref ao), (1, .int g1), (2, .int g2)] := hl
  refine lv_iload_n hx hb dT_destroy_7 rfl (lv_at hl 0 rfl) ?_
  refine lv_if_ge (tgt := 13) hx hb dT_destroy_8 (by decide) (fun h1 => ?_) (fun h1 => ?_)
  ·
    refine lv_aload_n hx hb dT_destroy_13 rfl (lv_at hl 1 rfl) ?_
    refine lv_iload_n hx hb dT_destroy_14 rfl (lv_at hl 2 rfl) ?_
    refine lv_iload_n hx hb dT_destroy_15 rfl (lv_at hl 0 rfl) ?_
    refine kcI (isR := []) (isC := [0, 1, 2, 3, 4, 5, 6, 7]) (wr := []) (w2 := [(ao, .inr (0, [.ref au, .ref af, .ref ak, .int x.2.2.1, .int x.2.2.2.1, .int x.2.2.2.2.1, .int x.2.2.2.2.2.1])), (au, .inr (1, [.int x.1.1, .int x.1.2])), (af, .inr (1, [.int x.2.1.1, .int x.2.1.2])), (ak, .inr (2, [.ref a1, .ref a2, .ref a3, .ref a4, .int (nI x.2.2.2.2.2.2.1), .int x.2.2.2.2.2.2.2.1])), (a1, .inl (cI, 10, .inl x.2.2.2.2.2.2.2.2.1)), (a2, .inl (cI, 10, .inl x.2.2.2.2.2.2.2.2.2.1)), (a3, .inl (cI, 10, .inl x.2.2.2.2.2.2.2.2.2.2.1)), (a4, .inl (cI, 10, .inl x.2.2.2.2.2.2.2.2.2.2.2))]) (va_runV (As := [.int g1, .int (zt_row x g1 g2)]) (rest := []) ⟨hx, hb, hml, hown, hts⟩ (kt_isFixedFor l D cI cZ ao au af ak a1 a2 a3 a4 x g1 (zt_row x g1 g2) (hn) _) ⟨(callB_of 2 hts gd_yT_isFixedFor rfl rfl rfl (hts _ mw24) (hts _ mw206) (by decide +kernel) ⟨Nat.le_of_ble_eq_true rfl, Nat.le_of_ble_eq_true rfl⟩), hts _ mw208, hts _ mw13⟩ (kpreV hNw hP hD hK [0, 1, 2, 3, 4, 5, 6, 7] rfl (by decide) 0 rfl (ci := 0) rfl) rfl rfl hl.1 rfl (lv_room (Nat.le_of_ble_eq_true rfl)) dT_destroy_16 ⟨Nat.le_of_ble_eq_true rfl, Nat.le_of_ble_eq_true rfl⟩) hP hD hS hA [0, 1, 2, 3, 4, 5, 6, 7] rfl rfl (by decide) (by decide) (by decide) rfl (fun H locs hP hD hS => ?_)
    refine lv_if_eq (tgt := 25) hx hb dT_destroy_19 (by decide) (fun h2 => ?_) (fun h2 => ?_)
    ·
      refine lv_aload_n hx hb dT_destroy_25 rfl (lv_at hl 1 rfl) ?_
      refine va_get (D := D) (ci := 0) (v := .ref ak) (C := cnT) (T := ftT) (N := 7) hx hb hts inT hown hK hP 0 rfl rfl 2 (by decide) (hts _ mw84) (fun _ h9 => h9) rfl dT_destroy_26 ?_
      refine lv_iload_n hx hb dT_destroy_29 rfl (lv_at hl 0 rfl) ?_
      refine kTop (y := (nI (Int32.toNatClampNeg (zt_row x g1 g2)))) (zt_row_nI hn h1) ?_
      refine kcV (isR := [0, 1, 2]) (isC := [3, 4, 5, 6, 7]) (wr := [(ao, .inr (0, [.ref au, .ref af, .ref ak, .int x.2.2.1, .int x.2.2.2.1, .int x.2.2.2.2.1, .int x.2.2.2.2.2.1])), (au, .inr (1, [.int x.1.1, .int x.1.2])), (af, .inr (1, [.int x.2.1.1, .int x.2.1.2]))]) (w2 := [(ao, .inr (0, [.ref au, .ref af, .ref ak, .int x.2.2.1, .int x.2.2.2.1, .int x.2.2.2.2.1, .int x.2.2.2.2.2.1])), (au, .inr (1, [.int x.1.1, .int x.1.2])), (af, .inr (1, [.int x.2.1.1, .int x.2.1.2])), (ak, .inr (2, [.ref a1, .ref a2, .ref a3, .ref a4, .int (nI (zk_removeRow x.2.2.2.2.2.2 (Int32.toNatClampNeg (zt_row x g1 g2))).1), .int ((zk_removeRow x.2.2.2.2.2.2 (Int32.toNatClampNeg (zt_row x g1 g2))).2.1)])), (a1, .inl (cI, 10, .inl ((zk_removeRow x.2.2.2.2.2.2 (Int32.toNatClampNeg (zt_row x g1 g2))).2.2.1))), (a2, .inl (cI, 10, .inl ((zk_removeRow x.2.2.2.2.2.2 (Int32.toNatClampNeg (zt_row x g1 g2))).2.2.2.1))), (a3, .inl (cI, 10, .inl ((zk_removeRow x.2.2.2.2.2.2 (Int32.toNatClampNeg (zt_row x g1 g2))).2.2.2.2.1))), (a4, .inl (cI, 10, .inl ((zk_removeRow x.2.2.2.2.2.2 (Int32.toNatClampNeg (zt_row x g1 g2))).2.2.2.2.2)))]) (va_runVN (As := [.int (nI (Int32.toNatClampNeg (zt_row x g1 g2)))]) (rest := []) ⟨hx, hb, hml, hown, hts⟩ (kk_removeRow l D cI cZ ak a1 a2 a3 a4 x.2.2.2.2.2.2 (Int32.toNatClampNeg (zt_row x g1 g2)) (hn) (zt_row_lt hn h1) _) ⟨(va_cnB 1 hts gd_yK_removeRow rfl rfl rfl (hNw _ mw210) (hts _ mw26) (by decide +kernel) ⟨Nat.le_of_ble_eq_true rfl, Nat.le_of_ble_eq_true rfl⟩), hts _ mw122, hts _ mw2⟩ (kpreV hNw hP hD hK [3, 4, 5, 6, 7] rfl (by decide) 3 rfl (ci := 2) rfl) rfl rfl hl.1 rfl (lv_room (Nat.le_of_ble_eq_true rfl)) dT_destroy_30 ⟨Nat.le_of_ble_eq_true rfl, Nat.le_of_ble_eq_true rfl⟩) hP hD hS hA [0, 1, 2, 3, 4, 5, 6, 7] rfl rfl (by decide) (by decide) (by decide) rfl (fun H locs hP hD hS => ?_)
      refine lv_iconst (v := 0) hx hb dT_destroy_33 (by decide) ?_
      exact kretI (wf := fun st => wX cI ao au af ak a1 a2 a3 a4 st) (st := (x.1, x.2.1, x.2.2.1, x.2.2.2.1, x.2.2.2.2.1, x.2.2.2.2.2.1, (zk_removeRow x.2.2.2.2.2.2 (Int32.toNatClampNeg (zt_row x g1 g2))))) (by first | (rw [zt_destroy, if_pos h1, if_pos h2]; done) | exact ((if_pos h1).trans (if_pos h2))) hx hb hr hlk hS hP hD hK dT_destroy_34
    ·
      refine lv_bipush (v := (-4)) hx hb dT_destroy_22 (by decide) ?_
      exact kretI (wf := fun st => wX cI ao au af ak a1 a2 a3 a4 st) (st := x) (by first | (rw [zt_destroy, if_pos h1, if_neg h2]; done) | exact ((if_pos h1).trans (if_neg h2))) hx hb hr hlk hS hP hD hK dT_destroy_24
  ·
    refine lv_iload_n hx hb dT_destroy_11 rfl (lv_at hl 0 rfl) ?_
    exact kretI (wf := fun st => wX cI ao au af ak a1 a2 a3 a4 st) (st := x) (by first | (rw [zt_destroy, if_neg h1]; done) | exact (if_neg h1)) hx hb hr hlk hS hP hD hK dT_destroy_12

def zt_attributes (x : XS) (g1 : Int32) (g2 : Int32) : Int32 := (if 0 ≤ (zt_row x g1 g2) then (x.2.2.2.2.2.2.2.2.2.1 (Int32.toNatClampNeg (zt_row x g1 g2))) else (zt_row x g1 g2))

set_option maxHeartbeats 4000000 in
set_option maxRecDepth 100000 in
theorem kt_attributes (l : Launch) (D : va_G) (cI cZ : ClassId) (ao au af ak a1 a2 a3 a4 : Nat) (x : XS) (g1 : Int32) (g2 : Int32) (hn : x.2.2.2.2.2.2.1 ≤ 10) : kI l yT_attributes wsT_attributes (rmOf 3 66) D (kT cI cZ) [.ref ao, .int g1, .int g2] (wX cI ao au af ak a1 a2 a3 a4 x) (zt_attributes x g1 g2) (wX cI ao au af ak a1 a2 a3 a4 x) := by
  intro sz
  refine kOf (Qc := fun A => kQi D (kT cI cZ) A (zt_attributes x g1 g2) (wX cI ao au af ak a1 a2 a3 a4 x)) (cc := cT_attributes) (maxL := 4) (ret := some .int) (by decide) rfl (Nat.le_of_ble_eq_true rfl) ?_ sz
  intro p e s m args below meth c A ls hx hb hml hown hts hNw hr hlk hin hA hS hP hD hK hl
  show W p l e (rmOf 3 66) s m args below meth c s.heap [] 0 0 (MQ below (kQi D (kT cI cZ) A (zt_attributes x g1 g2) (wX cI ao au af ak a1 a2 a3 a4 x)) args s 0 0 A) (F0 m 0 ls [])
  have hts : ∀ q ∈ lw_g, q.before args s = true := fun q h => hts q (List.mem_cons_of_mem _ h)
  have hown : s.vm.findClass cnT = some m.cls := hown
  have hl : lv_has ls 4 [(0, .ref ao), (1, .int g1), (2, .int g2)] := hl
  have hP : va_P D vwCl [(ao, .inr (0, [.ref au, .ref af, .ref ak, .int x.2.2.1, .int x.2.2.2.1, .int x.2.2.2.2.1, .int x.2.2.2.2.2.1])), (au, .inr (1, [.int x.1.1, .int x.1.2])), (af, .inr (1, [.int x.2.1.1, .int x.2.1.2])), (ak, .inr (2, [.ref a1, .ref a2, .ref a3, .ref a4, .int (nI x.2.2.2.2.2.2.1), .int x.2.2.2.2.2.2.2.1])), (a1, .inl (cI, 10, .inl x.2.2.2.2.2.2.2.2.1)), (a2, .inl (cI, 10, .inl x.2.2.2.2.2.2.2.2.2.1)), (a3, .inl (cI, 10, .inl x.2.2.2.2.2.2.2.2.2.2.1)), (a4, .inl (cI, 10, .inl x.2.2.2.2.2.2.2.2.2.2.2))] s.heap := hP
  have hD : va_D A [(ao, .inr (0, [.ref au, .ref af, .ref ak, .int x.2.2.1, .int x.2.2.2.1, .int x.2.2.2.2.1, .int x.2.2.2.2.2.1])), (au, .inr (1, [.int x.1.1, .int x.1.2])), (af, .inr (1, [.int x.2.1.1, .int x.2.1.2])), (ak, .inr (2, [.ref a1, .ref a2, .ref a3, .ref a4, .int (nI x.2.2.2.2.2.2.1), .int x.2.2.2.2.2.2.2.1])), (a1, .inl (cI, 10, .inl x.2.2.2.2.2.2.2.2.1)), (a2, .inl (cI, 10, .inl x.2.2.2.2.2.2.2.2.2.1)), (a3, .inl (cI, 10, .inl x.2.2.2.2.2.2.2.2.2.2.1)), (a4, .inl (cI, 10, .inl x.2.2.2.2.2.2.2.2.2.2.2))] := hD
  refine lv_aload_n hx hb dT_attributes_0 rfl (lv_at hl 0 rfl) ?_
  refine lv_iload_n hx hb dT_attributes_1 rfl (lv_at hl 1 rfl) ?_
  refine lv_iload_n hx hb dT_attributes_2 rfl (lv_at hl 2 rfl) ?_
  refine kcI (isR := []) (isC := [0, 1, 2, 3, 4, 5, 6, 7]) (wr := []) (w2 := [(ao, .inr (0, [.ref au, .ref af, .ref ak, .int x.2.2.1, .int x.2.2.2.1, .int x.2.2.2.2.1, .int x.2.2.2.2.2.1])), (au, .inr (1, [.int x.1.1, .int x.1.2])), (af, .inr (1, [.int x.2.1.1, .int x.2.1.2])), (ak, .inr (2, [.ref a1, .ref a2, .ref a3, .ref a4, .int (nI x.2.2.2.2.2.2.1), .int x.2.2.2.2.2.2.2.1])), (a1, .inl (cI, 10, .inl x.2.2.2.2.2.2.2.2.1)), (a2, .inl (cI, 10, .inl x.2.2.2.2.2.2.2.2.2.1)), (a3, .inl (cI, 10, .inl x.2.2.2.2.2.2.2.2.2.2.1)), (a4, .inl (cI, 10, .inl x.2.2.2.2.2.2.2.2.2.2.2))]) (va_runV (As := [.int g1, .int g2]) (rest := []) ⟨hx, hb, hml, hown, hts⟩ (kt_row l D cI cZ ao au af ak a1 a2 a3 a4 x g1 g2 (hn) _) ⟨(callB_of 2 hts gd_yT_rowOrRefusal rfl rfl rfl (hts _ mw24) (hts _ mw193) (by decide +kernel) ⟨Nat.le_of_ble_eq_true rfl, Nat.le_of_ble_eq_true rfl⟩), hts _ mw195, hts _ mw10⟩ (kpreV hNw hP hD hK [0, 1, 2, 3, 4, 5, 6, 7] rfl (by decide) 0 rfl (ci := 0) rfl) rfl rfl hl.1 rfl (lv_room (Nat.le_of_ble_eq_true rfl)) dT_attributes_3 ⟨Nat.le_of_ble_eq_true rfl, Nat.le_of_ble_eq_true rfl⟩) hP hD hS hA [0, 1, 2, 3, 4, 5, 6, 7] rfl rfl (by decide) (by decide) (by decide) rfl (fun H locs hP hD hS => ?_)
  refine lv_istore_n hx hb dT_attributes_6 rfl hl (by decide) rfl (fun ls hl => ?_)
  have hl : lv_has ls 4 [(3, .int (zt_row x g1 g2)), (0, .ref ao), (1, .int g1), (2, .int g2)] := hl
  refine lv_iload_n hx hb dT_attributes_7 rfl (lv_at hl 0 rfl) ?_
  refine kJoin (pcJ := 24) (z := (if 0 ≤ (zt_row x g1 g2) then (x.2.2.2.2.2.2.2.2.2.1 (Int32.toNatClampNeg (zt_row x g1 g2))) else (zt_row x g1 g2))) (ws := [(ao, .inr (0, [.ref au, .ref af, .ref ak, .int x.2.2.1, .int x.2.2.2.1, .int x.2.2.2.2.1, .int x.2.2.2.2.2.1])), (au, .inr (1, [.int x.1.1, .int x.1.2])), (af, .inr (1, [.int x.2.1.1, .int x.2.1.2])), (ak, .inr (2, [.ref a1, .ref a2, .ref a3, .ref a4, .int (nI x.2.2.2.2.2.2.1), .int x.2.2.2.2.2.2.2.1])), (a1, .inl (cI, 10, .inl x.2.2.2.2.2.2.2.2.1)), (a2, .inl (cI, 10, .inl x.2.2.2.2.2.2.2.2.2.1)), (a3, .inl (cI, 10, .inl x.2.2.2.2.2.2.2.2.2.2.1)), (a4, .inl (cI, 10, .inl x.2.2.2.2.2.2.2.2.2.2.2))]) (rest := []) (D := D) (A := A) (H0 := s.heap) (fun J24 => ?_) (fun H locs hP hD hS => ?_)
  ·
    refine lv_if_ge (tgt := 15) hx hb dT_attributes_8 (by decide) (fun h1 => ?_) (fun h1 => ?_)
    ·
      refine lv_aload_n hx hb dT_attributes_15 rfl (lv_at hl 1 rfl) ?_
      refine va_get (D := D) (ci := 0) (v := .ref ak) (C := cnT) (T := ftT) (N := 7) hx hb hts inT hown hK hP 0 rfl rfl 2 (by decide) (hts _ mw84) (fun _ h9 => h9) rfl dT_attributes_16 ?_
      refine va_getN (D := D) (ci := 2) (v := .ref a2) (C := cnK) (T := ftK) (N := 6) hx hb hts inK hown hK hP 3 rfl rfl 1 (by decide) (va_Nw.use rfl (hNw _ mw60)) (fun _ h9 => h9) rfl dT_attributes_19 ?_
      refine lv_iload_n hx hb dT_attributes_22 rfl (lv_at hl 0 rfl) ?_
      refine va_iald hx hb hK hP 5 0 rfl rfl (zt_row_in hn h1) dT_attributes_23 ?_
      exact J24 _ _ hP hD hS _ ((if_pos h1).symm)
    ·
      refine lv_iload_n hx hb dT_attributes_11 rfl (lv_at hl 0 rfl) ?_
      refine lv_goto hx hb dT_attributes_12 (tgt := 24) (by decide) ?_
      exact J24 _ _ hP hD hS _ ((if_neg h1).symm)
  exact kretP (rfl) hx hb hr hlk hS hP hD hK dT_attributes_24

def zt_limit (x : XS) (g1 : Int32) (g2 : Int32) (g3 : Int32) : Int32 × XS := (if 0 ≤ (zt_row x g1 g2) then (if (zt_isFixedFor x g1 (zt_row x g1 g2)) = 0 then (if g3 = 0 then ((-5), x) else (if (g3 &&& (-509)) = 0 then (((upd x.2.2.2.2.2.2.2.2.2.1 (Int32.toNatClampNeg (zt_row x g1 g2)) (((x.2.2.2.2.2.2.2.2.2.1 (Int32.toNatClampNeg (zt_row x g1 g2))) &&& ((g3 &&& 504) ^^^ (-1))) ||| (g3 &&& 4))) (Int32.toNatClampNeg (zt_row x g1 g2))), (x.1, x.2.1, x.2.2.1, x.2.2.2.1, x.2.2.2.2.1, x.2.2.2.2.2.1, (x.2.2.2.2.2.2.1, x.2.2.2.2.2.2.2.1, x.2.2.2.2.2.2.2.2.1, (upd x.2.2.2.2.2.2.2.2.2.1 (Int32.toNatClampNeg (zt_row x g1 g2)) (((x.2.2.2.2.2.2.2.2.2.1 (Int32.toNatClampNeg (zt_row x g1 g2))) &&& ((g3 &&& 504) ^^^ (-1))) ||| (g3 &&& 4))), x.2.2.2.2.2.2.2.2.2.2.1, x.2.2.2.2.2.2.2.2.2.2.2))) else ((-5), x))) else ((-4), x)) else ((zt_row x g1 g2), x))

set_option maxHeartbeats 4000000 in
set_option maxRecDepth 100000 in
theorem kt_limit (l : Launch) (D : va_G) (cI cZ : ClassId) (ao au af ak a1 a2 a3 a4 : Nat) (x : XS) (g1 : Int32) (g2 : Int32) (g3 : Int32) (hn : x.2.2.2.2.2.2.1 ≤ 10) : kI l yT_limit wsT_limit (rmOf 3 66) D (kT cI cZ) [.ref ao, .int g1, .int g2, .int g3] (wX cI ao au af ak a1 a2 a3 a4 x) (zt_limit x g1 g2 g3).1 (wX cI ao au af ak a1 a2 a3 a4 ((zt_limit x g1 g2 g3).2)) := by
  intro sz
  refine kOf (Qc := fun A => kQi D (kT cI cZ) A (zt_limit x g1 g2 g3).1 (wX cI ao au af ak a1 a2 a3 a4 ((zt_limit x g1 g2 g3).2))) (cc := cT_limit) (maxL := 6) (ret := some .int) (by decide) rfl (Nat.le_of_ble_eq_true rfl) ?_ sz
  intro p e s m args below meth c A ls hx hb hml hown hts hNw hr hlk hin hA hS hP hD hK hl
  show W p l e (rmOf 3 66) s m args below meth c s.heap [] 0 0 (MQ below (kQi D (kT cI cZ) A (zt_limit x g1 g2 g3).1 (wX cI ao au af ak a1 a2 a3 a4 ((zt_limit x g1 g2 g3).2))) args s 0 0 A) (F0 m 0 ls [])
  have hts : ∀ q ∈ lw_g, q.before args s = true := fun q h => hts q (List.mem_cons_of_mem _ h)
  have hown : s.vm.findClass cnT = some m.cls := hown
  have hl : lv_has ls 6 [(0, .ref ao), (1, .int g1), (2, .int g2), (3, .int g3)] := hl
  have hP : va_P D vwCl [(ao, .inr (0, [.ref au, .ref af, .ref ak, .int x.2.2.1, .int x.2.2.2.1, .int x.2.2.2.2.1, .int x.2.2.2.2.2.1])), (au, .inr (1, [.int x.1.1, .int x.1.2])), (af, .inr (1, [.int x.2.1.1, .int x.2.1.2])), (ak, .inr (2, [.ref a1, .ref a2, .ref a3, .ref a4, .int (nI x.2.2.2.2.2.2.1), .int x.2.2.2.2.2.2.2.1])), (a1, .inl (cI, 10, .inl x.2.2.2.2.2.2.2.2.1)), (a2, .inl (cI, 10, .inl x.2.2.2.2.2.2.2.2.2.1)), (a3, .inl (cI, 10, .inl x.2.2.2.2.2.2.2.2.2.2.1)), (a4, .inl (cI, 10, .inl x.2.2.2.2.2.2.2.2.2.2.2))] s.heap := hP
  have hD : va_D A [(ao, .inr (0, [.ref au, .ref af, .ref ak, .int x.2.2.1, .int x.2.2.2.1, .int x.2.2.2.2.1, .int x.2.2.2.2.2.1])), (au, .inr (1, [.int x.1.1, .int x.1.2])), (af, .inr (1, [.int x.2.1.1, .int x.2.1.2])), (ak, .inr (2, [.ref a1, .ref a2, .ref a3, .ref a4, .int (nI x.2.2.2.2.2.2.1), .int x.2.2.2.2.2.2.2.1])), (a1, .inl (cI, 10, .inl x.2.2.2.2.2.2.2.2.1)), (a2, .inl (cI, 10, .inl x.2.2.2.2.2.2.2.2.2.1)), (a3, .inl (cI, 10, .inl x.2.2.2.2.2.2.2.2.2.2.1)), (a4, .inl (cI, 10, .inl x.2.2.2.2.2.2.2.2.2.2.2))] := hD
  refine lv_aload_n hx hb dT_limit_0 rfl (lv_at hl 0 rfl) ?_
  refine lv_iload_n hx hb dT_limit_1 rfl (lv_at hl 1 rfl) ?_
  refine lv_iload_n hx hb dT_limit_2 rfl (lv_at hl 2 rfl) ?_
  refine kcI (isR := []) (isC := [0, 1, 2, 3, 4, 5, 6, 7]) (wr := []) (w2 := [(ao, .inr (0, [.ref au, .ref af, .ref ak, .int x.2.2.1, .int x.2.2.2.1, .int x.2.2.2.2.1, .int x.2.2.2.2.2.1])), (au, .inr (1, [.int x.1.1, .int x.1.2])), (af, .inr (1, [.int x.2.1.1, .int x.2.1.2])), (ak, .inr (2, [.ref a1, .ref a2, .ref a3, .ref a4, .int (nI x.2.2.2.2.2.2.1), .int x.2.2.2.2.2.2.2.1])), (a1, .inl (cI, 10, .inl x.2.2.2.2.2.2.2.2.1)), (a2, .inl (cI, 10, .inl x.2.2.2.2.2.2.2.2.2.1)), (a3, .inl (cI, 10, .inl x.2.2.2.2.2.2.2.2.2.2.1)), (a4, .inl (cI, 10, .inl x.2.2.2.2.2.2.2.2.2.2.2))]) (va_runV (As := [.int g1, .int g2]) (rest := []) ⟨hx, hb, hml, hown, hts⟩ (kt_row l D cI cZ ao au af ak a1 a2 a3 a4 x g1 g2 (hn) _) ⟨(callB_of 2 hts gd_yT_rowOrRefusal rfl rfl rfl (hts _ mw24) (hts _ mw193) (by decide +kernel) ⟨Nat.le_of_ble_eq_true rfl, Nat.le_of_ble_eq_true rfl⟩), hts _ mw195, hts _ mw10⟩ (kpreV hNw hP hD hK [0, 1, 2, 3, 4, 5, 6, 7] rfl (by decide) 0 rfl (ci := 0) rfl) rfl rfl hl.1 rfl (lv_room (Nat.le_of_ble_eq_true rfl)) dT_limit_3 ⟨Nat.le_of_ble_eq_true rfl, Nat.le_of_ble_eq_true rfl⟩) hP hD hS hA [0, 1, 2, 3, 4, 5, 6, 7] rfl rfl (by decide) (by decide) (by decide) rfl (fun H locs hP hD hS => ?_)
  refine lv_istore hx hb dT_limit_6 hl (by decide) rfl (fun ls hl => ?_)
  have hl : lv_has ls 6 [(4, .int (zt_row x g1 g2)), (0, .ref ao), (1, .int g1), (2, .int g2), (3, .int g3)] := hl
  refine lv_iload hx hb dT_limit_8 (lv_at hl 0 rfl) ?_
  refine lv_if_ge (tgt := 16) hx hb dT_limit_10 (by decide) (fun h1 => ?_) (fun h1 => ?_)
  ·
    refine lv_aload_n hx hb dT_limit_16 rfl (lv_at hl 1 rfl) ?_
    refine lv_iload_n hx hb dT_limit_17 rfl (lv_at hl 2 rfl) ?_
    refine lv_iload hx hb dT_limit_18 (lv_at hl 0 rfl) ?_
    refine kcI (isR := []) (isC := [0, 1, 2, 3, 4, 5, 6, 7]) (wr := []) (w2 := [(ao, .inr (0, [.ref au, .ref af, .ref ak, .int x.2.2.1, .int x.2.2.2.1, .int x.2.2.2.2.1, .int x.2.2.2.2.2.1])), (au, .inr (1, [.int x.1.1, .int x.1.2])), (af, .inr (1, [.int x.2.1.1, .int x.2.1.2])), (ak, .inr (2, [.ref a1, .ref a2, .ref a3, .ref a4, .int (nI x.2.2.2.2.2.2.1), .int x.2.2.2.2.2.2.2.1])), (a1, .inl (cI, 10, .inl x.2.2.2.2.2.2.2.2.1)), (a2, .inl (cI, 10, .inl x.2.2.2.2.2.2.2.2.2.1)), (a3, .inl (cI, 10, .inl x.2.2.2.2.2.2.2.2.2.2.1)), (a4, .inl (cI, 10, .inl x.2.2.2.2.2.2.2.2.2.2.2))]) (va_runV (As := [.int g1, .int (zt_row x g1 g2)]) (rest := []) ⟨hx, hb, hml, hown, hts⟩ (kt_isFixedFor l D cI cZ ao au af ak a1 a2 a3 a4 x g1 (zt_row x g1 g2) (hn) _) ⟨(callB_of 2 hts gd_yT_isFixedFor rfl rfl rfl (hts _ mw24) (hts _ mw206) (by decide +kernel) ⟨Nat.le_of_ble_eq_true rfl, Nat.le_of_ble_eq_true rfl⟩), hts _ mw208, hts _ mw13⟩ (kpreV hNw hP hD hK [0, 1, 2, 3, 4, 5, 6, 7] rfl (by decide) 0 rfl (ci := 0) rfl) rfl rfl hl.1 rfl (lv_room (Nat.le_of_ble_eq_true rfl)) dT_limit_20 ⟨Nat.le_of_ble_eq_true rfl, Nat.le_of_ble_eq_true rfl⟩) hP hD hS hA [0, 1, 2, 3, 4, 5, 6, 7] rfl rfl (by decide) (by decide) (by decide) rfl (fun H locs hP hD hS => ?_)
    refine lv_if_eq (tgt := 29) hx hb dT_limit_23 (by decide) (fun h2 => ?_) (fun h2 => ?_)
    ·
      refine lv_iload_n hx hb dT_limit_29 rfl (lv_at hl 4 rfl) ?_
      refine lv_if_eq (tgt := 41) hx hb dT_limit_30 (by decide) (fun h3 => ?_) (fun h3 => ?_)
      ·
        refine lv_bipush (v := (-5)) hx hb dT_limit_41 (by decide) ?_
        exact kretI (wf := fun st => wX cI ao au af ak a1 a2 a3 a4 st) (st := x) (by first | (rw [zt_limit, if_pos h1, if_pos h2, if_pos h3]; done) | exact ((if_pos h1).trans ((if_pos h2).trans (if_pos h3)))) hx hb hr hlk hS hP hD hK dT_limit_43
      ·
        refine lv_iload_n hx hb dT_limit_33 rfl (lv_at hl 4 rfl) ?_
        refine lv_sipush (v := (-509)) hx hb dT_limit_34 (by decide) ?_
        refine lv_iand hx hb dT_limit_37 ?_
        refine lv_if_eq (tgt := 44) hx hb dT_limit_38 (by decide) (fun h4 => ?_) (fun h4 => ?_)
        ·
          refine lv_aload_n hx hb dT_limit_44 rfl (lv_at hl 1 rfl) ?_
          refine va_get (D := D) (ci := 0) (v := .ref ak) (C := cnT) (T := ftT) (N := 7) hx hb hts inT hown hK hP 0 rfl rfl 2 (by decide) (hts _ mw84) (fun _ h9 => h9) rfl dT_limit_45 ?_
          refine va_getN (D := D) (ci := 2) (v := .ref a2) (C := cnK) (T := ftK) (N := 6) hx hb hts inK hown hK hP 3 rfl rfl 1 (by decide) (va_Nw.use rfl (hNw _ mw60)) (fun _ h9 => h9) rfl dT_limit_48 ?_
          refine lv_iload hx hb dT_limit_51 (lv_at hl 0 rfl) ?_
          refine va_iald hx hb hK hP 5 0 rfl rfl (zt_row_in hn h1) dT_limit_53 ?_
          refine lv_iload_n hx hb dT_limit_54 rfl (lv_at hl 4 rfl) ?_
          refine lv_sipush (v := 504) hx hb dT_limit_55 (by decide) ?_
          refine lv_iand hx hb dT_limit_58 ?_
          refine lv_iconst (v := (-1)) hx hb dT_limit_59 (by decide) ?_
          refine lv_ixor hx hb dT_limit_60 ?_
          refine lv_iand hx hb dT_limit_61 ?_
          refine lv_istore hx hb dT_limit_62 hl (by decide) rfl (fun ls hl => ?_)
          have hl : lv_has ls 6 [(5, .int ((x.2.2.2.2.2.2.2.2.2.1 (Int32.toNatClampNeg (zt_row x g1 g2))) &&& ((g3 &&& 504) ^^^ (-1)))), (4, .int (zt_row x g1 g2)), (0, .ref ao), (1, .int g1), (2, .int g2), (3, .int g3)] := hl
          refine lv_aload_n hx hb dT_limit_64 rfl (lv_at hl 2 rfl) ?_
          refine va_get (D := D) (ci := 0) (v := .ref ak) (C := cnT) (T := ftT) (N := 7) hx hb hts inT hown hK hP 0 rfl rfl 2 (by decide) (hts _ mw84) (fun _ h9 => h9) rfl dT_limit_65 ?_
          refine va_getN (D := D) (ci := 2) (v := .ref a2) (C := cnK) (T := ftK) (N := 6) hx hb hts inK hown hK hP 3 rfl rfl 1 (by decide) (va_Nw.use rfl (hNw _ mw60)) (fun _ h9 => h9) rfl dT_limit_68 ?_
          refine lv_iload hx hb dT_limit_71 (lv_at hl 1 rfl) ?_
          refine lv_iload hx hb dT_limit_73 (lv_at hl 0 rfl) ?_
          refine lv_iload_n hx hb dT_limit_75 rfl (lv_at hl 5 rfl) ?_
          refine lv_iconst (v := 4) hx hb dT_limit_76 (by decide) ?_
          refine lv_iand hx hb dT_limit_77 ?_
          refine lv_ior hx hb dT_limit_78 ?_
          refine va_iast hx hb hK hP hD hS 5 0 rfl rfl (zt_row_in hn h1) dT_limit_79 (fun H locs hP hD hS => ?_)
          have hP : va_P D vwCl [(ao, .inr (0, [.ref au, .ref af, .ref ak, .int x.2.2.1, .int x.2.2.2.1, .int x.2.2.2.2.1, .int x.2.2.2.2.2.1])), (au, .inr (1, [.int x.1.1, .int x.1.2])), (af, .inr (1, [.int x.2.1.1, .int x.2.1.2])), (ak, .inr (2, [.ref a1, .ref a2, .ref a3, .ref a4, .int (nI x.2.2.2.2.2.2.1), .int x.2.2.2.2.2.2.2.1])), (a1, .inl (cI, 10, .inl x.2.2.2.2.2.2.2.2.1)), (a2, .inl (cI, 10, .inl (upd x.2.2.2.2.2.2.2.2.2.1 (Int32.toNatClampNeg (zt_row x g1 g2)) (((x.2.2.2.2.2.2.2.2.2.1 (Int32.toNatClampNeg (zt_row x g1 g2))) &&& ((g3 &&& 504) ^^^ (-1))) ||| (g3 &&& 4))))), (a3, .inl (cI, 10, .inl x.2.2.2.2.2.2.2.2.2.2.1)), (a4, .inl (cI, 10, .inl x.2.2.2.2.2.2.2.2.2.2.2))] H := hP
          have hD : va_D A [(ao, .inr (0, [.ref au, .ref af, .ref ak, .int x.2.2.1, .int x.2.2.2.1, .int x.2.2.2.2.1, .int x.2.2.2.2.2.1])), (au, .inr (1, [.int x.1.1, .int x.1.2])), (af, .inr (1, [.int x.2.1.1, .int x.2.1.2])), (ak, .inr (2, [.ref a1, .ref a2, .ref a3, .ref a4, .int (nI x.2.2.2.2.2.2.1), .int x.2.2.2.2.2.2.2.1])), (a1, .inl (cI, 10, .inl x.2.2.2.2.2.2.2.2.1)), (a2, .inl (cI, 10, .inl (upd x.2.2.2.2.2.2.2.2.2.1 (Int32.toNatClampNeg (zt_row x g1 g2)) (((x.2.2.2.2.2.2.2.2.2.1 (Int32.toNatClampNeg (zt_row x g1 g2))) &&& ((g3 &&& 504) ^^^ (-1))) ||| (g3 &&& 4))))), (a3, .inl (cI, 10, .inl x.2.2.2.2.2.2.2.2.2.2.1)), (a4, .inl (cI, 10, .inl x.2.2.2.2.2.2.2.2.2.2.2))] := hD
          refine lv_aload_n hx hb dT_limit_80 rfl (lv_at hl 2 rfl) ?_
          refine va_get (D := D) (ci := 0) (v := .ref ak) (C := cnT) (T := ftT) (N := 7) hx hb hts inT hown hK hP 0 rfl rfl 2 (by decide) (hts _ mw84) (fun _ h9 => h9) rfl dT_limit_81 ?_
          refine va_getN (D := D) (ci := 2) (v := .ref a2) (C := cnK) (T := ftK) (N := 6) hx hb hts inK hown hK hP 3 rfl rfl 1 (by decide) (va_Nw.use rfl (hNw _ mw60)) (fun _ h9 => h9) rfl dT_limit_84 ?_
          refine lv_iload hx hb dT_limit_87 (lv_at hl 1 rfl) ?_
          refine va_iald hx hb hK hP 5 0 rfl rfl (zt_row_in hn h1) dT_limit_89 ?_
          exact kretI (wf := fun st => wX cI ao au af ak a1 a2 a3 a4 st) (st := (x.1, x.2.1, x.2.2.1, x.2.2.2.1, x.2.2.2.2.1, x.2.2.2.2.2.1, (x.2.2.2.2.2.2.1, x.2.2.2.2.2.2.2.1, x.2.2.2.2.2.2.2.2.1, (upd x.2.2.2.2.2.2.2.2.2.1 (Int32.toNatClampNeg (zt_row x g1 g2)) (((x.2.2.2.2.2.2.2.2.2.1 (Int32.toNatClampNeg (zt_row x g1 g2))) &&& ((g3 &&& 504) ^^^ (-1))) ||| (g3 &&& 4))), x.2.2.2.2.2.2.2.2.2.2.1, x.2.2.2.2.2.2.2.2.2.2.2))) (by first | (rw [zt_limit, if_pos h1, if_pos h2, if_neg h3, if_pos h4]; done) | exact ((if_pos h1).trans ((if_pos h2).trans ((if_neg h3).trans (if_pos h4))))) hx hb hr hlk hS hP hD hK dT_limit_90
        ·
          refine lv_bipush (v := (-5)) hx hb dT_limit_41 (by decide) ?_
          exact kretI (wf := fun st => wX cI ao au af ak a1 a2 a3 a4 st) (st := x) (by first | (rw [zt_limit, if_pos h1, if_pos h2, if_neg h3, if_neg h4]; done) | exact ((if_pos h1).trans ((if_pos h2).trans ((if_neg h3).trans (if_neg h4))))) hx hb hr hlk hS hP hD hK dT_limit_43
    ·
      refine lv_bipush (v := (-4)) hx hb dT_limit_26 (by decide) ?_
      exact kretI (wf := fun st => wX cI ao au af ak a1 a2 a3 a4 st) (st := x) (by first | (rw [zt_limit, if_pos h1, if_neg h2]; done) | exact ((if_pos h1).trans (if_neg h2))) hx hb hr hlk hS hP hD hK dT_limit_28
  ·
    refine lv_iload hx hb dT_limit_13 (lv_at hl 0 rfl) ?_
    exact kretI (wf := fun st => wX cI ao au af ak a1 a2 a3 a4 st) (st := x) (by first | (rw [zt_limit, if_neg h1]; done) | exact (if_neg h1)) hx hb hr hlk hS hP hD hK dT_limit_15

def zt_trust (x : XS) (g1 : Int32) (g2 : Int32) : Int32 × XS := (if 0 ≤ (zt_row x g1 g2) then (if x.2.2.1 = 2 then (if (zt_isFixedFor x g1 (zt_row x g1 g2)) = 0 then (if (zk_has x.2.2.2.2.2.2 (zt_row x g1 g2) 1) = 0 then ((-5), x) else (if (zk_has x.2.2.2.2.2.2 (zt_row x g1 g2) 128) = 0 then ((-5), x) else (0, (x.1, x.2.1, x.2.2.1, x.2.2.2.1, x.2.2.2.2.1, x.2.2.2.2.2.1, (x.2.2.2.2.2.2.1, x.2.2.2.2.2.2.2.1, x.2.2.2.2.2.2.2.2.1, (upd x.2.2.2.2.2.2.2.2.2.1 (Int32.toNatClampNeg (zt_row x g1 g2)) ((x.2.2.2.2.2.2.2.2.2.1 (Int32.toNatClampNeg (zt_row x g1 g2))) ||| 512)), x.2.2.2.2.2.2.2.2.2.2.1, x.2.2.2.2.2.2.2.2.2.2.2))))) else ((-4), x)) else ((-3), x)) else ((zt_row x g1 g2), x))

set_option maxHeartbeats 4000000 in
set_option maxRecDepth 100000 in
theorem kt_trust (l : Launch) (D : va_G) (cI cZ : ClassId) (ao au af ak a1 a2 a3 a4 : Nat) (x : XS) (g1 : Int32) (g2 : Int32) (hn : x.2.2.2.2.2.2.1 ≤ 10) : kI l yT_trust wsT_trust (rmOf 3 66) D (kT cI cZ) [.ref ao, .int g1, .int g2] (wX cI ao au af ak a1 a2 a3 a4 x) (zt_trust x g1 g2).1 (wX cI ao au af ak a1 a2 a3 a4 ((zt_trust x g1 g2).2)) := by
  intro sz
  refine kOf (Qc := fun A => kQi D (kT cI cZ) A (zt_trust x g1 g2).1 (wX cI ao au af ak a1 a2 a3 a4 ((zt_trust x g1 g2).2))) (cc := cT_trust) (maxL := 4) (ret := some .int) (by decide) rfl (Nat.le_of_ble_eq_true rfl) ?_ sz
  intro p e s m args below meth c A ls hx hb hml hown hts hNw hr hlk hin hA hS hP hD hK hl
  show W p l e (rmOf 3 66) s m args below meth c s.heap [] 0 0 (MQ below (kQi D (kT cI cZ) A (zt_trust x g1 g2).1 (wX cI ao au af ak a1 a2 a3 a4 ((zt_trust x g1 g2).2))) args s 0 0 A) (F0 m 0 ls [])
  have hts : ∀ q ∈ lw_g, q.before args s = true := fun q h => hts q (List.mem_cons_of_mem _ h)
  have hown : s.vm.findClass cnT = some m.cls := hown
  have hl : lv_has ls 4 [(0, .ref ao), (1, .int g1), (2, .int g2)] := hl
  have hP : va_P D vwCl [(ao, .inr (0, [.ref au, .ref af, .ref ak, .int x.2.2.1, .int x.2.2.2.1, .int x.2.2.2.2.1, .int x.2.2.2.2.2.1])), (au, .inr (1, [.int x.1.1, .int x.1.2])), (af, .inr (1, [.int x.2.1.1, .int x.2.1.2])), (ak, .inr (2, [.ref a1, .ref a2, .ref a3, .ref a4, .int (nI x.2.2.2.2.2.2.1), .int x.2.2.2.2.2.2.2.1])), (a1, .inl (cI, 10, .inl x.2.2.2.2.2.2.2.2.1)), (a2, .inl (cI, 10, .inl x.2.2.2.2.2.2.2.2.2.1)), (a3, .inl (cI, 10, .inl x.2.2.2.2.2.2.2.2.2.2.1)), (a4, .inl (cI, 10, .inl x.2.2.2.2.2.2.2.2.2.2.2))] s.heap := hP
  have hD : va_D A [(ao, .inr (0, [.ref au, .ref af, .ref ak, .int x.2.2.1, .int x.2.2.2.1, .int x.2.2.2.2.1, .int x.2.2.2.2.2.1])), (au, .inr (1, [.int x.1.1, .int x.1.2])), (af, .inr (1, [.int x.2.1.1, .int x.2.1.2])), (ak, .inr (2, [.ref a1, .ref a2, .ref a3, .ref a4, .int (nI x.2.2.2.2.2.2.1), .int x.2.2.2.2.2.2.2.1])), (a1, .inl (cI, 10, .inl x.2.2.2.2.2.2.2.2.1)), (a2, .inl (cI, 10, .inl x.2.2.2.2.2.2.2.2.2.1)), (a3, .inl (cI, 10, .inl x.2.2.2.2.2.2.2.2.2.2.1)), (a4, .inl (cI, 10, .inl x.2.2.2.2.2.2.2.2.2.2.2))] := hD
  refine lv_aload_n hx hb dT_trust_0 rfl (lv_at hl 0 rfl) ?_
  refine lv_iload_n hx hb dT_trust_1 rfl (lv_at hl 1 rfl) ?_
  refine lv_iload_n hx hb dT_trust_2 rfl (lv_at hl 2 rfl) ?_
  refine kcI (isR := []) (isC := [0, 1, 2, 3, 4, 5, 6, 7]) (wr := []) (w2 := [(ao, .inr (0, [.ref au, .ref af, .ref ak, .int x.2.2.1, .int x.2.2.2.1, .int x.2.2.2.2.1, .int x.2.2.2.2.2.1])), (au, .inr (1, [.int x.1.1, .int x.1.2])), (af, .inr (1, [.int x.2.1.1, .int x.2.1.2])), (ak, .inr (2, [.ref a1, .ref a2, .ref a3, .ref a4, .int (nI x.2.2.2.2.2.2.1), .int x.2.2.2.2.2.2.2.1])), (a1, .inl (cI, 10, .inl x.2.2.2.2.2.2.2.2.1)), (a2, .inl (cI, 10, .inl x.2.2.2.2.2.2.2.2.2.1)), (a3, .inl (cI, 10, .inl x.2.2.2.2.2.2.2.2.2.2.1)), (a4, .inl (cI, 10, .inl x.2.2.2.2.2.2.2.2.2.2.2))]) (va_runV (As := [.int g1, .int g2]) (rest := []) ⟨hx, hb, hml, hown, hts⟩ (kt_row l D cI cZ ao au af ak a1 a2 a3 a4 x g1 g2 (hn) _) ⟨(callB_of 2 hts gd_yT_rowOrRefusal rfl rfl rfl (hts _ mw24) (hts _ mw193) (by decide +kernel) ⟨Nat.le_of_ble_eq_true rfl, Nat.le_of_ble_eq_true rfl⟩), hts _ mw195, hts _ mw10⟩ (kpreV hNw hP hD hK [0, 1, 2, 3, 4, 5, 6, 7] rfl (by decide) 0 rfl (ci := 0) rfl) rfl rfl hl.1 rfl (lv_room (Nat.le_of_ble_eq_true rfl)) dT_trust_3 ⟨Nat.le_of_ble_eq_true rfl, Nat.le_of_ble_eq_true rfl⟩) hP hD hS hA [0, 1, 2, 3, 4, 5, 6, 7] rfl rfl (by decide) (by decide) (by decide) rfl (fun H locs hP hD hS => ?_)
  refine lv_istore_n hx hb dT_trust_6 rfl hl (by decide) rfl (fun ls hl => ?_)
  have hl : lv_has ls 4 [(3, .int (zt_row x g1 g2)), (0, .ref ao), (1, .int g1), (2, .int g2)] := hl
  refine lv_iload_n hx hb dT_trust_7 rfl (lv_at hl 0 rfl) ?_
  refine lv_if_ge (tgt := 13) hx hb dT_trust_8 (by decide) (fun h1 => ?_) (fun h1 => ?_)
  ·
    refine lv_aload_n hx hb dT_trust_13 rfl (lv_at hl 1 rfl) ?_
    refine va_get (D := D) (ci := 0) (v := .int x.2.2.1) (C := cnT) (T := ftT) (N := 7) hx hb hts inT hown hK hP 0 rfl rfl 3 (by decide) (hts _ mw85) (fun _ h9 => h9) rfl dT_trust_14 ?_
    refine lv_iconst (v := 2) hx hb dT_trust_17 (by decide) ?_
    refine lv_icmp_eq (tgt := 24) hx hb dT_trust_18 (by decide) (fun h2 => ?_) (fun h2 => ?_)
    ·
      refine lv_aload_n hx hb dT_trust_24 rfl (lv_at hl 1 rfl) ?_
      refine lv_iload_n hx hb dT_trust_25 rfl (lv_at hl 2 rfl) ?_
      refine lv_iload_n hx hb dT_trust_26 rfl (lv_at hl 0 rfl) ?_
      refine kcI (isR := []) (isC := [0, 1, 2, 3, 4, 5, 6, 7]) (wr := []) (w2 := [(ao, .inr (0, [.ref au, .ref af, .ref ak, .int x.2.2.1, .int x.2.2.2.1, .int x.2.2.2.2.1, .int x.2.2.2.2.2.1])), (au, .inr (1, [.int x.1.1, .int x.1.2])), (af, .inr (1, [.int x.2.1.1, .int x.2.1.2])), (ak, .inr (2, [.ref a1, .ref a2, .ref a3, .ref a4, .int (nI x.2.2.2.2.2.2.1), .int x.2.2.2.2.2.2.2.1])), (a1, .inl (cI, 10, .inl x.2.2.2.2.2.2.2.2.1)), (a2, .inl (cI, 10, .inl x.2.2.2.2.2.2.2.2.2.1)), (a3, .inl (cI, 10, .inl x.2.2.2.2.2.2.2.2.2.2.1)), (a4, .inl (cI, 10, .inl x.2.2.2.2.2.2.2.2.2.2.2))]) (va_runV (As := [.int g1, .int (zt_row x g1 g2)]) (rest := []) ⟨hx, hb, hml, hown, hts⟩ (kt_isFixedFor l D cI cZ ao au af ak a1 a2 a3 a4 x g1 (zt_row x g1 g2) (hn) _) ⟨(callB_of 2 hts gd_yT_isFixedFor rfl rfl rfl (hts _ mw24) (hts _ mw206) (by decide +kernel) ⟨Nat.le_of_ble_eq_true rfl, Nat.le_of_ble_eq_true rfl⟩), hts _ mw208, hts _ mw13⟩ (kpreV hNw hP hD hK [0, 1, 2, 3, 4, 5, 6, 7] rfl (by decide) 0 rfl (ci := 0) rfl) rfl rfl hl.1 rfl (lv_room (Nat.le_of_ble_eq_true rfl)) dT_trust_27 ⟨Nat.le_of_ble_eq_true rfl, Nat.le_of_ble_eq_true rfl⟩) hP hD hS hA [0, 1, 2, 3, 4, 5, 6, 7] rfl rfl (by decide) (by decide) (by decide) rfl (fun H locs hP hD hS => ?_)
      refine lv_if_eq (tgt := 36) hx hb dT_trust_30 (by decide) (fun h3 => ?_) (fun h3 => ?_)
      ·
        refine lv_aload_n hx hb dT_trust_36 rfl (lv_at hl 1 rfl) ?_
        refine va_get (D := D) (ci := 0) (v := .ref ak) (C := cnT) (T := ftT) (N := 7) hx hb hts inT hown hK hP 0 rfl rfl 2 (by decide) (hts _ mw84) (fun _ h9 => h9) rfl dT_trust_37 ?_
        refine lv_iload_n hx hb dT_trust_40 rfl (lv_at hl 0 rfl) ?_
        refine lv_iconst (v := 1) hx hb dT_trust_41 (by decide) ?_
        refine kcI (isR := [0, 1, 2]) (isC := [3, 4, 5, 6, 7]) (wr := [(ao, .inr (0, [.ref au, .ref af, .ref ak, .int x.2.2.1, .int x.2.2.2.1, .int x.2.2.2.2.1, .int x.2.2.2.2.2.1])), (au, .inr (1, [.int x.1.1, .int x.1.2])), (af, .inr (1, [.int x.2.1.1, .int x.2.1.2]))]) (w2 := [(ao, .inr (0, [.ref au, .ref af, .ref ak, .int x.2.2.1, .int x.2.2.2.1, .int x.2.2.2.2.1, .int x.2.2.2.2.2.1])), (au, .inr (1, [.int x.1.1, .int x.1.2])), (af, .inr (1, [.int x.2.1.1, .int x.2.1.2])), (ak, .inr (2, [.ref a1, .ref a2, .ref a3, .ref a4, .int (nI x.2.2.2.2.2.2.1), .int x.2.2.2.2.2.2.2.1])), (a1, .inl (cI, 10, .inl x.2.2.2.2.2.2.2.2.1)), (a2, .inl (cI, 10, .inl x.2.2.2.2.2.2.2.2.2.1)), (a3, .inl (cI, 10, .inl x.2.2.2.2.2.2.2.2.2.2.1)), (a4, .inl (cI, 10, .inl x.2.2.2.2.2.2.2.2.2.2.2))]) (va_runVN (As := [.int (zt_row x g1 g2), .int 1]) (rest := []) ⟨hx, hb, hml, hown, hts⟩ (kk_has l D cI cZ ak a1 a2 a3 a4 x.2.2.2.2.2.2 (zt_row x g1 g2) 1 (hn) _) ⟨(va_cnB 2 hts gd_yK_has rfl rfl rfl (hNw _ mw205) (hts _ mw26) (by decide +kernel) ⟨Nat.le_of_ble_eq_true rfl, Nat.le_of_ble_eq_true rfl⟩), hts _ mw142, hts _ mw5⟩ (kpreV hNw hP hD hK [3, 4, 5, 6, 7] rfl (by decide) 3 rfl (ci := 2) rfl) rfl rfl hl.1 rfl (lv_room (Nat.le_of_ble_eq_true rfl)) dT_trust_42 ⟨Nat.le_of_ble_eq_true rfl, Nat.le_of_ble_eq_true rfl⟩) hP hD hS hA [0, 1, 2, 3, 4, 5, 6, 7] rfl rfl (by decide) (by decide) (by decide) rfl (fun H locs hP hD hS => ?_)
        refine lv_if_eq (tgt := 62) hx hb dT_trust_45 (by decide) (fun h4 => ?_) (fun h4 => ?_)
        ·
          refine lv_bipush (v := (-5)) hx hb dT_trust_62 (by decide) ?_
          exact kretI (wf := fun st => wX cI ao au af ak a1 a2 a3 a4 st) (st := x) (by first | (rw [zt_trust, if_pos h1, if_pos h2, if_pos h3, if_pos h4]; done) | exact ((if_pos h1).trans ((if_pos h2).trans ((if_pos h3).trans (if_pos h4))))) hx hb hr hlk hS hP hD hK dT_trust_64
        ·
          refine lv_aload_n hx hb dT_trust_48 rfl (lv_at hl 1 rfl) ?_
          refine va_get (D := D) (ci := 0) (v := .ref ak) (C := cnT) (T := ftT) (N := 7) hx hb hts inT hown hK hP 0 rfl rfl 2 (by decide) (hts _ mw84) (fun _ h9 => h9) rfl dT_trust_49 ?_
          refine lv_iload_n hx hb dT_trust_52 rfl (lv_at hl 0 rfl) ?_
          refine lv_sipush (v := 128) hx hb dT_trust_53 (by decide) ?_
          refine kcI (isR := [0, 1, 2]) (isC := [3, 4, 5, 6, 7]) (wr := [(ao, .inr (0, [.ref au, .ref af, .ref ak, .int x.2.2.1, .int x.2.2.2.1, .int x.2.2.2.2.1, .int x.2.2.2.2.2.1])), (au, .inr (1, [.int x.1.1, .int x.1.2])), (af, .inr (1, [.int x.2.1.1, .int x.2.1.2]))]) (w2 := [(ao, .inr (0, [.ref au, .ref af, .ref ak, .int x.2.2.1, .int x.2.2.2.1, .int x.2.2.2.2.1, .int x.2.2.2.2.2.1])), (au, .inr (1, [.int x.1.1, .int x.1.2])), (af, .inr (1, [.int x.2.1.1, .int x.2.1.2])), (ak, .inr (2, [.ref a1, .ref a2, .ref a3, .ref a4, .int (nI x.2.2.2.2.2.2.1), .int x.2.2.2.2.2.2.2.1])), (a1, .inl (cI, 10, .inl x.2.2.2.2.2.2.2.2.1)), (a2, .inl (cI, 10, .inl x.2.2.2.2.2.2.2.2.2.1)), (a3, .inl (cI, 10, .inl x.2.2.2.2.2.2.2.2.2.2.1)), (a4, .inl (cI, 10, .inl x.2.2.2.2.2.2.2.2.2.2.2))]) (va_runVN (As := [.int (zt_row x g1 g2), .int 128]) (rest := []) ⟨hx, hb, hml, hown, hts⟩ (kk_has l D cI cZ ak a1 a2 a3 a4 x.2.2.2.2.2.2 (zt_row x g1 g2) 128 (hn) _) ⟨(va_cnB 2 hts gd_yK_has rfl rfl rfl (hNw _ mw205) (hts _ mw26) (by decide +kernel) ⟨Nat.le_of_ble_eq_true rfl, Nat.le_of_ble_eq_true rfl⟩), hts _ mw142, hts _ mw5⟩ (kpreV hNw hP hD hK [3, 4, 5, 6, 7] rfl (by decide) 3 rfl (ci := 2) rfl) rfl rfl hl.1 rfl (lv_room (Nat.le_of_ble_eq_true rfl)) dT_trust_56 ⟨Nat.le_of_ble_eq_true rfl, Nat.le_of_ble_eq_true rfl⟩) hP hD hS hA [0, 1, 2, 3, 4, 5, 6, 7] rfl rfl (by decide) (by decide) (by decide) rfl (fun H locs hP hD hS => ?_)
          refine lv_if_ne (tgt := 65) hx hb dT_trust_59 (by decide) (fun h5 => ?_) (fun h5 => ?_)
          ·
            refine lv_aload_n hx hb dT_trust_65 rfl (lv_at hl 1 rfl) ?_
            refine va_get (D := D) (ci := 0) (v := .ref ak) (C := cnT) (T := ftT) (N := 7) hx hb hts inT hown hK hP 0 rfl rfl 2 (by decide) (hts _ mw84) (fun _ h9 => h9) rfl dT_trust_66 ?_
            refine va_getN (D := D) (ci := 2) (v := .ref a2) (C := cnK) (T := ftK) (N := 6) hx hb hts inK hown hK hP 3 rfl rfl 1 (by decide) (va_Nw.use rfl (hNw _ mw60)) (fun _ h9 => h9) rfl dT_trust_69 ?_
            refine lv_iload_n hx hb dT_trust_72 rfl (lv_at hl 0 rfl) ?_
            refine lv_dup2_11 hx hb dT_trust_73 rfl rfl ?_
            refine va_iald hx hb hK hP 5 0 rfl rfl (zt_row_in hn h1) dT_trust_74 ?_
            refine lv_sipush (v := 512) hx hb dT_trust_75 (by decide) ?_
            refine lv_ior hx hb dT_trust_78 ?_
            refine va_iast hx hb hK hP hD hS 5 0 rfl rfl (zt_row_in hn h1) dT_trust_79 (fun H locs hP hD hS => ?_)
            have hP : va_P D vwCl [(ao, .inr (0, [.ref au, .ref af, .ref ak, .int x.2.2.1, .int x.2.2.2.1, .int x.2.2.2.2.1, .int x.2.2.2.2.2.1])), (au, .inr (1, [.int x.1.1, .int x.1.2])), (af, .inr (1, [.int x.2.1.1, .int x.2.1.2])), (ak, .inr (2, [.ref a1, .ref a2, .ref a3, .ref a4, .int (nI x.2.2.2.2.2.2.1), .int x.2.2.2.2.2.2.2.1])), (a1, .inl (cI, 10, .inl x.2.2.2.2.2.2.2.2.1)), (a2, .inl (cI, 10, .inl (upd x.2.2.2.2.2.2.2.2.2.1 (Int32.toNatClampNeg (zt_row x g1 g2)) ((x.2.2.2.2.2.2.2.2.2.1 (Int32.toNatClampNeg (zt_row x g1 g2))) ||| 512)))), (a3, .inl (cI, 10, .inl x.2.2.2.2.2.2.2.2.2.2.1)), (a4, .inl (cI, 10, .inl x.2.2.2.2.2.2.2.2.2.2.2))] H := hP
            have hD : va_D A [(ao, .inr (0, [.ref au, .ref af, .ref ak, .int x.2.2.1, .int x.2.2.2.1, .int x.2.2.2.2.1, .int x.2.2.2.2.2.1])), (au, .inr (1, [.int x.1.1, .int x.1.2])), (af, .inr (1, [.int x.2.1.1, .int x.2.1.2])), (ak, .inr (2, [.ref a1, .ref a2, .ref a3, .ref a4, .int (nI x.2.2.2.2.2.2.1), .int x.2.2.2.2.2.2.2.1])), (a1, .inl (cI, 10, .inl x.2.2.2.2.2.2.2.2.1)), (a2, .inl (cI, 10, .inl (upd x.2.2.2.2.2.2.2.2.2.1 (Int32.toNatClampNeg (zt_row x g1 g2)) ((x.2.2.2.2.2.2.2.2.2.1 (Int32.toNatClampNeg (zt_row x g1 g2))) ||| 512)))), (a3, .inl (cI, 10, .inl x.2.2.2.2.2.2.2.2.2.2.1)), (a4, .inl (cI, 10, .inl x.2.2.2.2.2.2.2.2.2.2.2))] := hD
            refine lv_iconst (v := 0) hx hb dT_trust_80 (by decide) ?_
            exact kretI (wf := fun st => wX cI ao au af ak a1 a2 a3 a4 st) (st := (x.1, x.2.1, x.2.2.1, x.2.2.2.1, x.2.2.2.2.1, x.2.2.2.2.2.1, (x.2.2.2.2.2.2.1, x.2.2.2.2.2.2.2.1, x.2.2.2.2.2.2.2.2.1, (upd x.2.2.2.2.2.2.2.2.2.1 (Int32.toNatClampNeg (zt_row x g1 g2)) ((x.2.2.2.2.2.2.2.2.2.1 (Int32.toNatClampNeg (zt_row x g1 g2))) ||| 512)), x.2.2.2.2.2.2.2.2.2.2.1, x.2.2.2.2.2.2.2.2.2.2.2))) (by first | (rw [zt_trust, if_pos h1, if_pos h2, if_pos h3, if_neg h4, if_neg h5]; done) | exact ((if_pos h1).trans ((if_pos h2).trans ((if_pos h3).trans ((if_neg h4).trans (if_neg h5)))))) hx hb hr hlk hS hP hD hK dT_trust_81
          ·
            refine lv_bipush (v := (-5)) hx hb dT_trust_62 (by decide) ?_
            exact kretI (wf := fun st => wX cI ao au af ak a1 a2 a3 a4 st) (st := x) (by first | (rw [zt_trust, if_pos h1, if_pos h2, if_pos h3, if_neg h4, if_pos h5]; done) | exact ((if_pos h1).trans ((if_pos h2).trans ((if_pos h3).trans ((if_neg h4).trans (if_pos h5)))))) hx hb hr hlk hS hP hD hK dT_trust_64
      ·
        refine lv_bipush (v := (-4)) hx hb dT_trust_33 (by decide) ?_
        exact kretI (wf := fun st => wX cI ao au af ak a1 a2 a3 a4 st) (st := x) (by first | (rw [zt_trust, if_pos h1, if_pos h2, if_neg h3]; done) | exact ((if_pos h1).trans ((if_pos h2).trans (if_neg h3)))) hx hb hr hlk hS hP hD hK dT_trust_35
    ·
      refine lv_bipush (v := (-3)) hx hb dT_trust_21 (by decide) ?_
      exact kretI (wf := fun st => wX cI ao au af ak a1 a2 a3 a4 st) (st := x) (by first | (rw [zt_trust, if_pos h1, if_neg h2]; done) | exact ((if_pos h1).trans (if_neg h2))) hx hb hr hlk hS hP hD hK dT_trust_23
  ·
    refine lv_iload_n hx hb dT_trust_11 rfl (lv_at hl 0 rfl) ?_
    exact kretI (wf := fun st => wX cI ao au af ak a1 a2 a3 a4 st) (st := x) (by first | (rw [zt_trust, if_neg h1]; done) | exact (if_neg h1)) hx hb hr hlk hS hP hD hK dT_trust_12

def zt_read (x : XS) (g1 : Int32) (g2 : Int32) : Int64 := (if 0 ≤ (zt_row x g1 g2) then (if (zk_has x.2.2.2.2.2.2 (zt_row x g1 g2) 4) = 0 then (zt_answered (x.2.2.2.2.2.2.2.2.2.2.1 (Int32.toNatClampNeg (zt_row x g1 g2)))) else (-5)) else (Int32.toInt64 (zt_row x g1 g2)))

set_option maxHeartbeats 4000000 in
set_option maxRecDepth 100000 in
theorem kt_read (l : Launch) (D : va_G) (cI cZ : ClassId) (ao au af ak a1 a2 a3 a4 : Nat) (x : XS) (g1 : Int32) (g2 : Int32) (hn : x.2.2.2.2.2.2.1 ≤ 10) : kL l yT_read wsT_read (rmOf 3 66) D (kT cI cZ) [.ref ao, .int g1, .int g2] (wX cI ao au af ak a1 a2 a3 a4 x) (zt_read x g1 g2) (wX cI ao au af ak a1 a2 a3 a4 x) := by
  intro sz
  refine kOf (Qc := fun A => kQl D (kT cI cZ) A (zt_read x g1 g2) (wX cI ao au af ak a1 a2 a3 a4 x)) (cc := cT_read) (maxL := 4) (ret := some .long) (by decide) rfl (Nat.le_of_ble_eq_true rfl) ?_ sz
  intro p e s m args below meth c A ls hx hb hml hown hts hNw hr hlk hin hA hS hP hD hK hl
  show W p l e (rmOf 3 66) s m args below meth c s.heap [] 0 0 (MQ below (kQl D (kT cI cZ) A (zt_read x g1 g2) (wX cI ao au af ak a1 a2 a3 a4 x)) args s 0 0 A) (F0 m 0 ls [])
  have hts : ∀ q ∈ lw_g, q.before args s = true := fun q h => hts q (List.mem_cons_of_mem _ h)
  have hown : s.vm.findClass cnT = some m.cls := hown
  have hl : lv_has ls 4 [(0, .ref ao), (1, .int g1), (2, .int g2)] := hl
  have hP : va_P D vwCl [(ao, .inr (0, [.ref au, .ref af, .ref ak, .int x.2.2.1, .int x.2.2.2.1, .int x.2.2.2.2.1, .int x.2.2.2.2.2.1])), (au, .inr (1, [.int x.1.1, .int x.1.2])), (af, .inr (1, [.int x.2.1.1, .int x.2.1.2])), (ak, .inr (2, [.ref a1, .ref a2, .ref a3, .ref a4, .int (nI x.2.2.2.2.2.2.1), .int x.2.2.2.2.2.2.2.1])), (a1, .inl (cI, 10, .inl x.2.2.2.2.2.2.2.2.1)), (a2, .inl (cI, 10, .inl x.2.2.2.2.2.2.2.2.2.1)), (a3, .inl (cI, 10, .inl x.2.2.2.2.2.2.2.2.2.2.1)), (a4, .inl (cI, 10, .inl x.2.2.2.2.2.2.2.2.2.2.2))] s.heap := hP
  have hD : va_D A [(ao, .inr (0, [.ref au, .ref af, .ref ak, .int x.2.2.1, .int x.2.2.2.1, .int x.2.2.2.2.1, .int x.2.2.2.2.2.1])), (au, .inr (1, [.int x.1.1, .int x.1.2])), (af, .inr (1, [.int x.2.1.1, .int x.2.1.2])), (ak, .inr (2, [.ref a1, .ref a2, .ref a3, .ref a4, .int (nI x.2.2.2.2.2.2.1), .int x.2.2.2.2.2.2.2.1])), (a1, .inl (cI, 10, .inl x.2.2.2.2.2.2.2.2.1)), (a2, .inl (cI, 10, .inl x.2.2.2.2.2.2.2.2.2.1)), (a3, .inl (cI, 10, .inl x.2.2.2.2.2.2.2.2.2.2.1)), (a4, .inl (cI, 10, .inl x.2.2.2.2.2.2.2.2.2.2.2))] := hD
  refine lv_aload_n hx hb dT_read_0 rfl (lv_at hl 0 rfl) ?_
  refine lv_iload_n hx hb dT_read_1 rfl (lv_at hl 1 rfl) ?_
  refine lv_iload_n hx hb dT_read_2 rfl (lv_at hl 2 rfl) ?_
  refine kcI (isR := []) (isC := [0, 1, 2, 3, 4, 5, 6, 7]) (wr := []) (w2 := [(ao, .inr (0, [.ref au, .ref af, .ref ak, .int x.2.2.1, .int x.2.2.2.1, .int x.2.2.2.2.1, .int x.2.2.2.2.2.1])), (au, .inr (1, [.int x.1.1, .int x.1.2])), (af, .inr (1, [.int x.2.1.1, .int x.2.1.2])), (ak, .inr (2, [.ref a1, .ref a2, .ref a3, .ref a4, .int (nI x.2.2.2.2.2.2.1), .int x.2.2.2.2.2.2.2.1])), (a1, .inl (cI, 10, .inl x.2.2.2.2.2.2.2.2.1)), (a2, .inl (cI, 10, .inl x.2.2.2.2.2.2.2.2.2.1)), (a3, .inl (cI, 10, .inl x.2.2.2.2.2.2.2.2.2.2.1)), (a4, .inl (cI, 10, .inl x.2.2.2.2.2.2.2.2.2.2.2))]) (va_runV (As := [.int g1, .int g2]) (rest := []) ⟨hx, hb, hml, hown, hts⟩ (kt_row l D cI cZ ao au af ak a1 a2 a3 a4 x g1 g2 (hn) _) ⟨(callB_of 2 hts gd_yT_rowOrRefusal rfl rfl rfl (hts _ mw24) (hts _ mw193) (by decide +kernel) ⟨Nat.le_of_ble_eq_true rfl, Nat.le_of_ble_eq_true rfl⟩), hts _ mw195, hts _ mw10⟩ (kpreV hNw hP hD hK [0, 1, 2, 3, 4, 5, 6, 7] rfl (by decide) 0 rfl (ci := 0) rfl) rfl rfl hl.1 rfl (lv_room (Nat.le_of_ble_eq_true rfl)) dT_read_3 ⟨Nat.le_of_ble_eq_true rfl, Nat.le_of_ble_eq_true rfl⟩) hP hD hS hA [0, 1, 2, 3, 4, 5, 6, 7] rfl rfl (by decide) (by decide) (by decide) rfl (fun H locs hP hD hS => ?_)
  refine lv_istore_n hx hb dT_read_6 rfl hl (by decide) rfl (fun ls hl => ?_)
  have hl : lv_has ls 4 [(3, .int (zt_row x g1 g2)), (0, .ref ao), (1, .int g1), (2, .int g2)] := hl
  refine lv_iload_n hx hb dT_read_7 rfl (lv_at hl 0 rfl) ?_
  refine lv_if_ge (tgt := 14) hx hb dT_read_8 (by decide) (fun h1 => ?_) (fun h1 => ?_)
  ·
    refine lv_aload_n hx hb dT_read_14 rfl (lv_at hl 1 rfl) ?_
    refine va_get (D := D) (ci := 0) (v := .ref ak) (C := cnT) (T := ftT) (N := 7) hx hb hts inT hown hK hP 0 rfl rfl 2 (by decide) (hts _ mw84) (fun _ h9 => h9) rfl dT_read_15 ?_
    refine lv_iload_n hx hb dT_read_18 rfl (lv_at hl 0 rfl) ?_
    refine lv_iconst (v := 4) hx hb dT_read_19 (by decide) ?_
    refine kcI (isR := [0, 1, 2]) (isC := [3, 4, 5, 6, 7]) (wr := [(ao, .inr (0, [.ref au, .ref af, .ref ak, .int x.2.2.1, .int x.2.2.2.1, .int x.2.2.2.2.1, .int x.2.2.2.2.2.1])), (au, .inr (1, [.int x.1.1, .int x.1.2])), (af, .inr (1, [.int x.2.1.1, .int x.2.1.2]))]) (w2 := [(ao, .inr (0, [.ref au, .ref af, .ref ak, .int x.2.2.1, .int x.2.2.2.1, .int x.2.2.2.2.1, .int x.2.2.2.2.2.1])), (au, .inr (1, [.int x.1.1, .int x.1.2])), (af, .inr (1, [.int x.2.1.1, .int x.2.1.2])), (ak, .inr (2, [.ref a1, .ref a2, .ref a3, .ref a4, .int (nI x.2.2.2.2.2.2.1), .int x.2.2.2.2.2.2.2.1])), (a1, .inl (cI, 10, .inl x.2.2.2.2.2.2.2.2.1)), (a2, .inl (cI, 10, .inl x.2.2.2.2.2.2.2.2.2.1)), (a3, .inl (cI, 10, .inl x.2.2.2.2.2.2.2.2.2.2.1)), (a4, .inl (cI, 10, .inl x.2.2.2.2.2.2.2.2.2.2.2))]) (va_runVN (As := [.int (zt_row x g1 g2), .int 4]) (rest := []) ⟨hx, hb, hml, hown, hts⟩ (kk_has l D cI cZ ak a1 a2 a3 a4 x.2.2.2.2.2.2 (zt_row x g1 g2) 4 (hn) _) ⟨(va_cnB 2 hts gd_yK_has rfl rfl rfl (hNw _ mw205) (hts _ mw26) (by decide +kernel) ⟨Nat.le_of_ble_eq_true rfl, Nat.le_of_ble_eq_true rfl⟩), hts _ mw142, hts _ mw5⟩ (kpreV hNw hP hD hK [3, 4, 5, 6, 7] rfl (by decide) 3 rfl (ci := 2) rfl) rfl rfl hl.1 rfl (lv_room (Nat.le_of_ble_eq_true rfl)) dT_read_20 ⟨Nat.le_of_ble_eq_true rfl, Nat.le_of_ble_eq_true rfl⟩) hP hD hS hA [0, 1, 2, 3, 4, 5, 6, 7] rfl rfl (by decide) (by decide) (by decide) rfl (fun H locs hP hD hS => ?_)
    refine lv_if_eq (tgt := 30) hx hb dT_read_23 (by decide) (fun h2 => ?_) (fun h2 => ?_)
    ·
      refine lv_aload_n hx hb dT_read_30 rfl (lv_at hl 1 rfl) ?_
      refine va_get (D := D) (ci := 0) (v := .ref ak) (C := cnT) (T := ftT) (N := 7) hx hb hts inT hown hK hP 0 rfl rfl 2 (by decide) (hts _ mw84) (fun _ h9 => h9) rfl dT_read_31 ?_
      refine va_getN (D := D) (ci := 2) (v := .ref a3) (C := cnK) (T := ftK) (N := 6) hx hb hts inK hown hK hP 3 rfl rfl 2 (by decide) (va_Nw.use rfl (hNw _ mw62)) (fun _ h9 => h9) rfl dT_read_34 ?_
      refine lv_iload_n hx hb dT_read_37 rfl (lv_at hl 0 rfl) ?_
      refine va_iald hx hb hK hP 6 0 rfl rfl (zt_row_in hn h1) dT_read_38 ?_
      refine kcL (isR := [0, 1, 2, 3, 4, 5, 6, 7]) (isC := []) (wr := [(ao, .inr (0, [.ref au, .ref af, .ref ak, .int x.2.2.1, .int x.2.2.2.1, .int x.2.2.2.2.1, .int x.2.2.2.2.2.1])), (au, .inr (1, [.int x.1.1, .int x.1.2])), (af, .inr (1, [.int x.2.1.1, .int x.2.1.2])), (ak, .inr (2, [.ref a1, .ref a2, .ref a3, .ref a4, .int (nI x.2.2.2.2.2.2.1), .int x.2.2.2.2.2.2.2.1])), (a1, .inl (cI, 10, .inl x.2.2.2.2.2.2.2.2.1)), (a2, .inl (cI, 10, .inl x.2.2.2.2.2.2.2.2.2.1)), (a3, .inl (cI, 10, .inl x.2.2.2.2.2.2.2.2.2.2.1)), (a4, .inl (cI, 10, .inl x.2.2.2.2.2.2.2.2.2.2.2))]) (w2 := [(ao, .inr (0, [.ref au, .ref af, .ref ak, .int x.2.2.1, .int x.2.2.2.1, .int x.2.2.2.2.1, .int x.2.2.2.2.2.1])), (au, .inr (1, [.int x.1.1, .int x.1.2])), (af, .inr (1, [.int x.2.1.1, .int x.2.1.2])), (ak, .inr (2, [.ref a1, .ref a2, .ref a3, .ref a4, .int (nI x.2.2.2.2.2.2.1), .int x.2.2.2.2.2.2.2.1])), (a1, .inl (cI, 10, .inl x.2.2.2.2.2.2.2.2.1)), (a2, .inl (cI, 10, .inl x.2.2.2.2.2.2.2.2.2.1)), (a3, .inl (cI, 10, .inl x.2.2.2.2.2.2.2.2.2.2.1)), (a4, .inl (cI, 10, .inl x.2.2.2.2.2.2.2.2.2.2.2))]) (va_runS (As := [.int (x.2.2.2.2.2.2.2.2.2.2.1 (Int32.toNatClampNeg (zt_row x g1 g2)))]) (rest := []) ⟨hx, hb, hml, hown, hts⟩ (kt_answered l D cI cZ (x.2.2.2.2.2.2.2.2.2.2.1 (Int32.toNatClampNeg (zt_row x g1 g2))) _) ⟨(callB_of 1 hts gd_yT_answered rfl rfl rfl (hts _ mw24) (hts _ mw228) (by decide +kernel) ⟨Nat.le_of_ble_eq_true rfl, Nat.le_of_ble_eq_true rfl⟩), hts _ mw229⟩ (kpreS hNw hP hD hK [] rfl (by decide)) rfl rfl hl.1 rfl (lv_room (Nat.le_of_ble_eq_true rfl)) dT_read_39 ⟨Nat.le_of_ble_eq_true rfl, Nat.le_of_ble_eq_true rfl⟩) hP hD hS hA [0, 1, 2, 3, 4, 5, 6, 7] rfl rfl (by decide) (by decide) (by decide) rfl (fun H locs hP hD hS => ?_)
      exact kretL (by first | (rw [zt_read, if_pos h1, if_pos h2]; done) | exact ((if_pos h1).trans (if_pos h2))) hx hb hr hlk hS hP hD hK dT_read_42
    ·
      refine lv_ldc2 (v := (-5)) hx hb hown (hts _ mw227) dT_read_26 ?_
      exact kretL (by first | (rw [zt_read, if_pos h1, if_neg h2]; done) | exact ((if_pos h1).trans (if_neg h2))) hx hb hr hlk hS hP hD hK dT_read_29
  ·
    refine lv_iload_n hx hb dT_read_11 rfl (lv_at hl 0 rfl) ?_
    refine lv_i2l (v := (Int32.toInt64 (zt_row x g1 g2))) hx hb dT_read_12 rfl ?_
    exact kretL (by first | (rw [zt_read, if_neg h1]; done) | exact (if_neg h1)) hx hb hr hlk hS hP hD hK dT_read_13

def zt_encrypt (x : XS) (g1 : Int32) (g2 : Int32) (g3 : Int32) : Int64 := (if 0 ≤ (zt_use x g1 g2 16) then (zt_answered (zw_enc (x.2.2.2.2.2.2.2.2.2.2.1 (Int32.toNatClampNeg (zt_use x g1 g2 16))) g3)) else (Int32.toInt64 (zt_use x g1 g2 16)))

set_option maxHeartbeats 4000000 in
set_option maxRecDepth 100000 in
theorem kt_encrypt (l : Launch) (D : va_G) (cI cZ : ClassId) (ao au af ak a1 a2 a3 a4 : Nat) (x : XS) (g1 : Int32) (g2 : Int32) (g3 : Int32) (hn : x.2.2.2.2.2.2.1 ≤ 10) : kL l yT_encrypt wsT_encrypt (rmOf 4 90) D (kT cI cZ) [.ref ao, .int g1, .int g2, .int g3] (wX cI ao au af ak a1 a2 a3 a4 x) (zt_encrypt x g1 g2 g3) (wX cI ao au af ak a1 a2 a3 a4 x) := by
  intro sz
  refine kOf (Qc := fun A => kQl D (kT cI cZ) A (zt_encrypt x g1 g2 g3) (wX cI ao au af ak a1 a2 a3 a4 x)) (cc := cT_encrypt) (maxL := 5) (ret := some .long) (by decide) rfl (Nat.le_of_ble_eq_true rfl) ?_ sz
  intro p e s m args below meth c A ls hx hb hml hown hts hNw hr hlk hin hA hS hP hD hK hl
  show W p l e (rmOf 4 90) s m args below meth c s.heap [] 0 0 (MQ below (kQl D (kT cI cZ) A (zt_encrypt x g1 g2 g3) (wX cI ao au af ak a1 a2 a3 a4 x)) args s 0 0 A) (F0 m 0 ls [])
  have hts : ∀ q ∈ lw_g, q.before args s = true := fun q h => hts q (List.mem_cons_of_mem _ h)
  have hown : s.vm.findClass cnT = some m.cls := hown
  have hl : lv_has ls 5 [(0, .ref ao), (1, .int g1), (2, .int g2), (3, .int g3)] := hl
  have hP : va_P D vwCl [(ao, .inr (0, [.ref au, .ref af, .ref ak, .int x.2.2.1, .int x.2.2.2.1, .int x.2.2.2.2.1, .int x.2.2.2.2.2.1])), (au, .inr (1, [.int x.1.1, .int x.1.2])), (af, .inr (1, [.int x.2.1.1, .int x.2.1.2])), (ak, .inr (2, [.ref a1, .ref a2, .ref a3, .ref a4, .int (nI x.2.2.2.2.2.2.1), .int x.2.2.2.2.2.2.2.1])), (a1, .inl (cI, 10, .inl x.2.2.2.2.2.2.2.2.1)), (a2, .inl (cI, 10, .inl x.2.2.2.2.2.2.2.2.2.1)), (a3, .inl (cI, 10, .inl x.2.2.2.2.2.2.2.2.2.2.1)), (a4, .inl (cI, 10, .inl x.2.2.2.2.2.2.2.2.2.2.2))] s.heap := hP
  have hD : va_D A [(ao, .inr (0, [.ref au, .ref af, .ref ak, .int x.2.2.1, .int x.2.2.2.1, .int x.2.2.2.2.1, .int x.2.2.2.2.2.1])), (au, .inr (1, [.int x.1.1, .int x.1.2])), (af, .inr (1, [.int x.2.1.1, .int x.2.1.2])), (ak, .inr (2, [.ref a1, .ref a2, .ref a3, .ref a4, .int (nI x.2.2.2.2.2.2.1), .int x.2.2.2.2.2.2.2.1])), (a1, .inl (cI, 10, .inl x.2.2.2.2.2.2.2.2.1)), (a2, .inl (cI, 10, .inl x.2.2.2.2.2.2.2.2.2.1)), (a3, .inl (cI, 10, .inl x.2.2.2.2.2.2.2.2.2.2.1)), (a4, .inl (cI, 10, .inl x.2.2.2.2.2.2.2.2.2.2.2))] := hD
  refine lv_aload_n hx hb dT_encrypt_0 rfl (lv_at hl 0 rfl) ?_
  refine lv_iload_n hx hb dT_encrypt_1 rfl (lv_at hl 1 rfl) ?_
  refine lv_iload_n hx hb dT_encrypt_2 rfl (lv_at hl 2 rfl) ?_
  refine lv_bipush (v := 16) hx hb dT_encrypt_3 (by decide) ?_
  refine kcI (isR := []) (isC := [0, 1, 2, 3, 4, 5, 6, 7]) (wr := []) (w2 := [(ao, .inr (0, [.ref au, .ref af, .ref ak, .int x.2.2.1, .int x.2.2.2.1, .int x.2.2.2.2.1, .int x.2.2.2.2.2.1])), (au, .inr (1, [.int x.1.1, .int x.1.2])), (af, .inr (1, [.int x.2.1.1, .int x.2.1.2])), (ak, .inr (2, [.ref a1, .ref a2, .ref a3, .ref a4, .int (nI x.2.2.2.2.2.2.1), .int x.2.2.2.2.2.2.2.1])), (a1, .inl (cI, 10, .inl x.2.2.2.2.2.2.2.2.1)), (a2, .inl (cI, 10, .inl x.2.2.2.2.2.2.2.2.2.1)), (a3, .inl (cI, 10, .inl x.2.2.2.2.2.2.2.2.2.2.1)), (a4, .inl (cI, 10, .inl x.2.2.2.2.2.2.2.2.2.2.2))]) (va_runV (As := [.int g1, .int g2, .int 16]) (rest := []) ⟨hx, hb, hml, hown, hts⟩ (kt_use l D cI cZ ao au af ak a1 a2 a3 a4 x g1 g2 16 (hn) _) ⟨(callB_of 3 hts gd_yT_rowForUse rfl rfl rfl (hts _ mw24) (hts _ mw236) (by decide +kernel) ⟨Nat.le_of_ble_eq_true rfl, Nat.le_of_ble_eq_true rfl⟩), hts _ mw238, hts _ mw14⟩ (kpreV hNw hP hD hK [0, 1, 2, 3, 4, 5, 6, 7] rfl (by decide) 0 rfl (ci := 0) rfl) rfl rfl hl.1 rfl (lv_room (Nat.le_of_ble_eq_true rfl)) dT_encrypt_5 ⟨Nat.le_of_ble_eq_true rfl, Nat.le_of_ble_eq_true rfl⟩) hP hD hS hA [0, 1, 2, 3, 4, 5, 6, 7] rfl rfl (by decide) (by decide) (by decide) rfl (fun H locs hP hD hS => ?_)
  refine lv_istore hx hb dT_encrypt_8 hl (by decide) rfl (fun ls hl => ?_)
  have hl : lv_has ls 5 [(4, .int (zt_use x g1 g2 16)), (0, .ref ao), (1, .int g1), (2, .int g2), (3, .int g3)] := hl
  refine lv_iload hx hb dT_encrypt_10 (lv_at hl 0 rfl) ?_
  refine lv_if_ge (tgt := 21) hx hb dT_encrypt_12 (by decide) (fun h1 => ?_) (fun h1 => ?_)
  ·
    refine lv_aload_n hx hb dT_encrypt_21 rfl (lv_at hl 1 rfl) ?_
    refine va_get (D := D) (ci := 0) (v := .ref ak) (C := cnT) (T := ftT) (N := 7) hx hb hts inT hown hK hP 0 rfl rfl 2 (by decide) (hts _ mw84) (fun _ h9 => h9) rfl dT_encrypt_22 ?_
    refine va_getN (D := D) (ci := 2) (v := .ref a3) (C := cnK) (T := ftK) (N := 6) hx hb hts inK hown hK hP 3 rfl rfl 2 (by decide) (va_Nw.use rfl (hNw _ mw62)) (fun _ h9 => h9) rfl dT_encrypt_25 ?_
    refine lv_iload hx hb dT_encrypt_28 (lv_at hl 0 rfl) ?_
    refine va_iald hx hb hK hP 6 0 rfl rfl (zt_use_in hn h1) dT_encrypt_30 ?_
    refine lv_iload_n hx hb dT_encrypt_31 rfl (lv_at hl 4 rfl) ?_
    refine kcI (isR := [0, 1, 2, 3, 4, 5, 6, 7]) (isC := []) (wr := [(ao, .inr (0, [.ref au, .ref af, .ref ak, .int x.2.2.1, .int x.2.2.2.1, .int x.2.2.2.2.1, .int x.2.2.2.2.2.1])), (au, .inr (1, [.int x.1.1, .int x.1.2])), (af, .inr (1, [.int x.2.1.1, .int x.2.1.2])), (ak, .inr (2, [.ref a1, .ref a2, .ref a3, .ref a4, .int (nI x.2.2.2.2.2.2.1), .int x.2.2.2.2.2.2.2.1])), (a1, .inl (cI, 10, .inl x.2.2.2.2.2.2.2.2.1)), (a2, .inl (cI, 10, .inl x.2.2.2.2.2.2.2.2.2.1)), (a3, .inl (cI, 10, .inl x.2.2.2.2.2.2.2.2.2.2.1)), (a4, .inl (cI, 10, .inl x.2.2.2.2.2.2.2.2.2.2.2))]) (w2 := [(ao, .inr (0, [.ref au, .ref af, .ref ak, .int x.2.2.1, .int x.2.2.2.1, .int x.2.2.2.2.1, .int x.2.2.2.2.2.1])), (au, .inr (1, [.int x.1.1, .int x.1.2])), (af, .inr (1, [.int x.2.1.1, .int x.2.1.2])), (ak, .inr (2, [.ref a1, .ref a2, .ref a3, .ref a4, .int (nI x.2.2.2.2.2.2.1), .int x.2.2.2.2.2.2.2.1])), (a1, .inl (cI, 10, .inl x.2.2.2.2.2.2.2.2.1)), (a2, .inl (cI, 10, .inl x.2.2.2.2.2.2.2.2.2.1)), (a3, .inl (cI, 10, .inl x.2.2.2.2.2.2.2.2.2.2.1)), (a4, .inl (cI, 10, .inl x.2.2.2.2.2.2.2.2.2.2.2))]) (va_runSN (As := [.int (x.2.2.2.2.2.2.2.2.2.2.1 (Int32.toNatClampNeg (zt_use x g1 g2 16))), .int g3]) (rest := []) ⟨hx, hb, hml, hown, hts⟩ (kw_enc l D cI cZ (x.2.2.2.2.2.2.2.2.2.2.1 (Int32.toNatClampNeg (zt_use x g1 g2 16))) g3 _) ⟨(va_cnB 2 hts gd_yW_enc rfl rfl rfl (hNw _ mw240) (hts _ mw28) (by decide +kernel) ⟨Nat.le_of_ble_eq_true rfl, Nat.le_of_ble_eq_true rfl⟩), hts _ mw241, trivial⟩ (kpreS hNw hP hD hK [] rfl (by decide)) rfl rfl hl.1 rfl (lv_room (Nat.le_of_ble_eq_true rfl)) dT_encrypt_32 ⟨Nat.le_of_ble_eq_true rfl, Nat.le_of_ble_eq_true rfl⟩) hP hD hS hA [0, 1, 2, 3, 4, 5, 6, 7] rfl rfl (by decide) (by decide) (by decide) rfl (fun H locs hP hD hS => ?_)
    refine kcL (isR := [0, 1, 2, 3, 4, 5, 6, 7]) (isC := []) (wr := [(ao, .inr (0, [.ref au, .ref af, .ref ak, .int x.2.2.1, .int x.2.2.2.1, .int x.2.2.2.2.1, .int x.2.2.2.2.2.1])), (au, .inr (1, [.int x.1.1, .int x.1.2])), (af, .inr (1, [.int x.2.1.1, .int x.2.1.2])), (ak, .inr (2, [.ref a1, .ref a2, .ref a3, .ref a4, .int (nI x.2.2.2.2.2.2.1), .int x.2.2.2.2.2.2.2.1])), (a1, .inl (cI, 10, .inl x.2.2.2.2.2.2.2.2.1)), (a2, .inl (cI, 10, .inl x.2.2.2.2.2.2.2.2.2.1)), (a3, .inl (cI, 10, .inl x.2.2.2.2.2.2.2.2.2.2.1)), (a4, .inl (cI, 10, .inl x.2.2.2.2.2.2.2.2.2.2.2))]) (w2 := [(ao, .inr (0, [.ref au, .ref af, .ref ak, .int x.2.2.1, .int x.2.2.2.1, .int x.2.2.2.2.1, .int x.2.2.2.2.2.1])), (au, .inr (1, [.int x.1.1, .int x.1.2])), (af, .inr (1, [.int x.2.1.1, .int x.2.1.2])), (ak, .inr (2, [.ref a1, .ref a2, .ref a3, .ref a4, .int (nI x.2.2.2.2.2.2.1), .int x.2.2.2.2.2.2.2.1])), (a1, .inl (cI, 10, .inl x.2.2.2.2.2.2.2.2.1)), (a2, .inl (cI, 10, .inl x.2.2.2.2.2.2.2.2.2.1)), (a3, .inl (cI, 10, .inl x.2.2.2.2.2.2.2.2.2.2.1)), (a4, .inl (cI, 10, .inl x.2.2.2.2.2.2.2.2.2.2.2))]) (va_runS (As := [.int (zw_enc (x.2.2.2.2.2.2.2.2.2.2.1 (Int32.toNatClampNeg (zt_use x g1 g2 16))) g3)]) (rest := []) ⟨hx, hb, hml, hown, hts⟩ (kt_answered l D cI cZ (zw_enc (x.2.2.2.2.2.2.2.2.2.2.1 (Int32.toNatClampNeg (zt_use x g1 g2 16))) g3) _) ⟨(callB_of 1 hts gd_yT_answered rfl rfl rfl (hts _ mw24) (hts _ mw228) (by decide +kernel) ⟨Nat.le_of_ble_eq_true rfl, Nat.le_of_ble_eq_true rfl⟩), hts _ mw229⟩ (kpreS hNw hP hD hK [] rfl (by decide)) rfl rfl hl.1 rfl (lv_room (Nat.le_of_ble_eq_true rfl)) dT_encrypt_35 ⟨Nat.le_of_ble_eq_true rfl, Nat.le_of_ble_eq_true rfl⟩) hP hD hS hA [0, 1, 2, 3, 4, 5, 6, 7] rfl rfl (by decide) (by decide) (by decide) rfl (fun H locs hP hD hS => ?_)
    exact kretL (by first | (rw [zt_encrypt, if_pos h1]; done) | exact (if_pos h1)) hx hb hr hlk hS hP hD hK dT_encrypt_38
  ·
    refine lv_iload hx hb dT_encrypt_15 (lv_at hl 0 rfl) ?_
    refine lv_i2l (v := (Int32.toInt64 (zt_use x g1 g2 16))) hx hb dT_encrypt_17 rfl ?_
    refine lv_goto hx hb dT_encrypt_18 (tgt := 38) (by decide) ?_
    exact kretL (by first | (rw [zt_encrypt, if_neg h1]; done) | exact (if_neg h1)) hx hb hr hlk hS hP hD hK dT_encrypt_38

def zt_decrypt (x : XS) (g1 : Int32) (g2 : Int32) (g3 : Int32) : Int64 := (if 0 ≤ (zt_use x g1 g2 32) then (zt_answered (zw_dec (x.2.2.2.2.2.2.2.2.2.2.1 (Int32.toNatClampNeg (zt_use x g1 g2 32))) g3)) else (Int32.toInt64 (zt_use x g1 g2 32)))

set_option maxHeartbeats 4000000 in
set_option maxRecDepth 100000 in
theorem kt_decrypt (l : Launch) (D : va_G) (cI cZ : ClassId) (ao au af ak a1 a2 a3 a4 : Nat) (x : XS) (g1 : Int32) (g2 : Int32) (g3 : Int32) (hn : x.2.2.2.2.2.2.1 ≤ 10) : kL l yT_decrypt wsT_decrypt (rmOf 4 90) D (kT cI cZ) [.ref ao, .int g1, .int g2, .int g3] (wX cI ao au af ak a1 a2 a3 a4 x) (zt_decrypt x g1 g2 g3) (wX cI ao au af ak a1 a2 a3 a4 x) := by
  intro sz
  refine kOf (Qc := fun A => kQl D (kT cI cZ) A (zt_decrypt x g1 g2 g3) (wX cI ao au af ak a1 a2 a3 a4 x)) (cc := cT_decrypt) (maxL := 5) (ret := some .long) (by decide) rfl (Nat.le_of_ble_eq_true rfl) ?_ sz
  intro p e s m args below meth c A ls hx hb hml hown hts hNw hr hlk hin hA hS hP hD hK hl
  show W p l e (rmOf 4 90) s m args below meth c s.heap [] 0 0 (MQ below (kQl D (kT cI cZ) A (zt_decrypt x g1 g2 g3) (wX cI ao au af ak a1 a2 a3 a4 x)) args s 0 0 A) (F0 m 0 ls [])
  have hts : ∀ q ∈ lw_g, q.before args s = true := fun q h => hts q (List.mem_cons_of_mem _ h)
  have hown : s.vm.findClass cnT = some m.cls := hown
  have hl : lv_has ls 5 [(0, .ref ao), (1, .int g1), (2, .int g2), (3, .int g3)] := hl
  have hP : va_P D vwCl [(ao, .inr (0, [.ref au, .ref af, .ref ak, .int x.2.2.1, .int x.2.2.2.1, .int x.2.2.2.2.1, .int x.2.2.2.2.2.1])), (au, .inr (1, [.int x.1.1, .int x.1.2])), (af, .inr (1, [.int x.2.1.1, .int x.2.1.2])), (ak, .inr (2, [.ref a1, .ref a2, .ref a3, .ref a4, .int (nI x.2.2.2.2.2.2.1), .int x.2.2.2.2.2.2.2.1])), (a1, .inl (cI, 10, .inl x.2.2.2.2.2.2.2.2.1)), (a2, .inl (cI, 10, .inl x.2.2.2.2.2.2.2.2.2.1)), (a3, .inl (cI, 10, .inl x.2.2.2.2.2.2.2.2.2.2.1)), (a4, .inl (cI, 10, .inl x.2.2.2.2.2.2.2.2.2.2.2))] s.heap := hP
  have hD : va_D A [(ao, .inr (0, [.ref au, .ref af, .ref ak, .int x.2.2.1, .int x.2.2.2.1, .int x.2.2.2.2.1, .int x.2.2.2.2.2.1])), (au, .inr (1, [.int x.1.1, .int x.1.2])), (af, .inr (1, [.int x.2.1.1, .int x.2.1.2])), (ak, .inr (2, [.ref a1, .ref a2, .ref a3, .ref a4, .int (nI x.2.2.2.2.2.2.1), .int x.2.2.2.2.2.2.2.1])), (a1, .inl (cI, 10, .inl x.2.2.2.2.2.2.2.2.1)), (a2, .inl (cI, 10, .inl x.2.2.2.2.2.2.2.2.2.1)), (a3, .inl (cI, 10, .inl x.2.2.2.2.2.2.2.2.2.2.1)), (a4, .inl (cI, 10, .inl x.2.2.2.2.2.2.2.2.2.2.2))] := hD
  refine lv_aload_n hx hb dT_decrypt_0 rfl (lv_at hl 0 rfl) ?_
  refine lv_iload_n hx hb dT_decrypt_1 rfl (lv_at hl 1 rfl) ?_
  refine lv_iload_n hx hb dT_decrypt_2 rfl (lv_at hl 2 rfl) ?_
  refine lv_bipush (v := 32) hx hb dT_decrypt_3 (by decide) ?_
  refine kcI (isR := []) (isC := [0, 1, 2, 3, 4, 5, 6, 7]) (wr := []) (w2 := [(ao, .inr (0, [.ref au, .ref af, .ref ak, .int x.2.2.1, .int x.2.2.2.1, .int x.2.2.2.2.1, .int x.2.2.2.2.2.1])), (au, .inr (1, [.int x.1.1, .int x.1.2])), (af, .inr (1, [.int x.2.1.1, .int x.2.1.2])), (ak, .inr (2, [.ref a1, .ref a2, .ref a3, .ref a4, .int (nI x.2.2.2.2.2.2.1), .int x.2.2.2.2.2.2.2.1])), (a1, .inl (cI, 10, .inl x.2.2.2.2.2.2.2.2.1)), (a2, .inl (cI, 10, .inl x.2.2.2.2.2.2.2.2.2.1)), (a3, .inl (cI, 10, .inl x.2.2.2.2.2.2.2.2.2.2.1)), (a4, .inl (cI, 10, .inl x.2.2.2.2.2.2.2.2.2.2.2))]) (va_runV (As := [.int g1, .int g2, .int 32]) (rest := []) ⟨hx, hb, hml, hown, hts⟩ (kt_use l D cI cZ ao au af ak a1 a2 a3 a4 x g1 g2 32 (hn) _) ⟨(callB_of 3 hts gd_yT_rowForUse rfl rfl rfl (hts _ mw24) (hts _ mw236) (by decide +kernel) ⟨Nat.le_of_ble_eq_true rfl, Nat.le_of_ble_eq_true rfl⟩), hts _ mw238, hts _ mw14⟩ (kpreV hNw hP hD hK [0, 1, 2, 3, 4, 5, 6, 7] rfl (by decide) 0 rfl (ci := 0) rfl) rfl rfl hl.1 rfl (lv_room (Nat.le_of_ble_eq_true rfl)) dT_decrypt_5 ⟨Nat.le_of_ble_eq_true rfl, Nat.le_of_ble_eq_true rfl⟩) hP hD hS hA [0, 1, 2, 3, 4, 5, 6, 7] rfl rfl (by decide) (by decide) (by decide) rfl (fun H locs hP hD hS => ?_)
  refine lv_istore hx hb dT_decrypt_8 hl (by decide) rfl (fun ls hl => ?_)
  have hl : lv_has ls 5 [(4, .int (zt_use x g1 g2 32)), (0, .ref ao), (1, .int g1), (2, .int g2), (3, .int g3)] := hl
  refine lv_iload hx hb dT_decrypt_10 (lv_at hl 0 rfl) ?_
  refine lv_if_ge (tgt := 21) hx hb dT_decrypt_12 (by decide) (fun h1 => ?_) (fun h1 => ?_)
  ·
    refine lv_aload_n hx hb dT_decrypt_21 rfl (lv_at hl 1 rfl) ?_
    refine va_get (D := D) (ci := 0) (v := .ref ak) (C := cnT) (T := ftT) (N := 7) hx hb hts inT hown hK hP 0 rfl rfl 2 (by decide) (hts _ mw84) (fun _ h9 => h9) rfl dT_decrypt_22 ?_
    refine va_getN (D := D) (ci := 2) (v := .ref a3) (C := cnK) (T := ftK) (N := 6) hx hb hts inK hown hK hP 3 rfl rfl 2 (by decide) (va_Nw.use rfl (hNw _ mw62)) (fun _ h9 => h9) rfl dT_decrypt_25 ?_
    refine lv_iload hx hb dT_decrypt_28 (lv_at hl 0 rfl) ?_
    refine va_iald hx hb hK hP 6 0 rfl rfl (zt_use_in hn h1) dT_decrypt_30 ?_
    refine lv_iload_n hx hb dT_decrypt_31 rfl (lv_at hl 4 rfl) ?_
    refine kcI (isR := [0, 1, 2, 3, 4, 5, 6, 7]) (isC := []) (wr := [(ao, .inr (0, [.ref au, .ref af, .ref ak, .int x.2.2.1, .int x.2.2.2.1, .int x.2.2.2.2.1, .int x.2.2.2.2.2.1])), (au, .inr (1, [.int x.1.1, .int x.1.2])), (af, .inr (1, [.int x.2.1.1, .int x.2.1.2])), (ak, .inr (2, [.ref a1, .ref a2, .ref a3, .ref a4, .int (nI x.2.2.2.2.2.2.1), .int x.2.2.2.2.2.2.2.1])), (a1, .inl (cI, 10, .inl x.2.2.2.2.2.2.2.2.1)), (a2, .inl (cI, 10, .inl x.2.2.2.2.2.2.2.2.2.1)), (a3, .inl (cI, 10, .inl x.2.2.2.2.2.2.2.2.2.2.1)), (a4, .inl (cI, 10, .inl x.2.2.2.2.2.2.2.2.2.2.2))]) (w2 := [(ao, .inr (0, [.ref au, .ref af, .ref ak, .int x.2.2.1, .int x.2.2.2.1, .int x.2.2.2.2.1, .int x.2.2.2.2.2.1])), (au, .inr (1, [.int x.1.1, .int x.1.2])), (af, .inr (1, [.int x.2.1.1, .int x.2.1.2])), (ak, .inr (2, [.ref a1, .ref a2, .ref a3, .ref a4, .int (nI x.2.2.2.2.2.2.1), .int x.2.2.2.2.2.2.2.1])), (a1, .inl (cI, 10, .inl x.2.2.2.2.2.2.2.2.1)), (a2, .inl (cI, 10, .inl x.2.2.2.2.2.2.2.2.2.1)), (a3, .inl (cI, 10, .inl x.2.2.2.2.2.2.2.2.2.2.1)), (a4, .inl (cI, 10, .inl x.2.2.2.2.2.2.2.2.2.2.2))]) (va_runSN (As := [.int (x.2.2.2.2.2.2.2.2.2.2.1 (Int32.toNatClampNeg (zt_use x g1 g2 32))), .int g3]) (rest := []) ⟨hx, hb, hml, hown, hts⟩ (kw_dec l D cI cZ (x.2.2.2.2.2.2.2.2.2.2.1 (Int32.toNatClampNeg (zt_use x g1 g2 32))) g3 _) ⟨(va_cnB 2 hts gd_yW_dec rfl rfl rfl (hNw _ mw253) (hts _ mw28) (by decide +kernel) ⟨Nat.le_of_ble_eq_true rfl, Nat.le_of_ble_eq_true rfl⟩), hts _ mw254, trivial⟩ (kpreS hNw hP hD hK [] rfl (by decide)) rfl rfl hl.1 rfl (lv_room (Nat.le_of_ble_eq_true rfl)) dT_decrypt_32 ⟨Nat.le_of_ble_eq_true rfl, Nat.le_of_ble_eq_true rfl⟩) hP hD hS hA [0, 1, 2, 3, 4, 5, 6, 7] rfl rfl (by decide) (by decide) (by decide) rfl (fun H locs hP hD hS => ?_)
    refine kcL (isR := [0, 1, 2, 3, 4, 5, 6, 7]) (isC := []) (wr := [(ao, .inr (0, [.ref au, .ref af, .ref ak, .int x.2.2.1, .int x.2.2.2.1, .int x.2.2.2.2.1, .int x.2.2.2.2.2.1])), (au, .inr (1, [.int x.1.1, .int x.1.2])), (af, .inr (1, [.int x.2.1.1, .int x.2.1.2])), (ak, .inr (2, [.ref a1, .ref a2, .ref a3, .ref a4, .int (nI x.2.2.2.2.2.2.1), .int x.2.2.2.2.2.2.2.1])), (a1, .inl (cI, 10, .inl x.2.2.2.2.2.2.2.2.1)), (a2, .inl (cI, 10, .inl x.2.2.2.2.2.2.2.2.2.1)), (a3, .inl (cI, 10, .inl x.2.2.2.2.2.2.2.2.2.2.1)), (a4, .inl (cI, 10, .inl x.2.2.2.2.2.2.2.2.2.2.2))]) (w2 := [(ao, .inr (0, [.ref au, .ref af, .ref ak, .int x.2.2.1, .int x.2.2.2.1, .int x.2.2.2.2.1, .int x.2.2.2.2.2.1])), (au, .inr (1, [.int x.1.1, .int x.1.2])), (af, .inr (1, [.int x.2.1.1, .int x.2.1.2])), (ak, .inr (2, [.ref a1, .ref a2, .ref a3, .ref a4, .int (nI x.2.2.2.2.2.2.1), .int x.2.2.2.2.2.2.2.1])), (a1, .inl (cI, 10, .inl x.2.2.2.2.2.2.2.2.1)), (a2, .inl (cI, 10, .inl x.2.2.2.2.2.2.2.2.2.1)), (a3, .inl (cI, 10, .inl x.2.2.2.2.2.2.2.2.2.2.1)), (a4, .inl (cI, 10, .inl x.2.2.2.2.2.2.2.2.2.2.2))]) (va_runS (As := [.int (zw_dec (x.2.2.2.2.2.2.2.2.2.2.1 (Int32.toNatClampNeg (zt_use x g1 g2 32))) g3)]) (rest := []) ⟨hx, hb, hml, hown, hts⟩ (kt_answered l D cI cZ (zw_dec (x.2.2.2.2.2.2.2.2.2.2.1 (Int32.toNatClampNeg (zt_use x g1 g2 32))) g3) _) ⟨(callB_of 1 hts gd_yT_answered rfl rfl rfl (hts _ mw24) (hts _ mw228) (by decide +kernel) ⟨Nat.le_of_ble_eq_true rfl, Nat.le_of_ble_eq_true rfl⟩), hts _ mw229⟩ (kpreS hNw hP hD hK [] rfl (by decide)) rfl rfl hl.1 rfl (lv_room (Nat.le_of_ble_eq_true rfl)) dT_decrypt_35 ⟨Nat.le_of_ble_eq_true rfl, Nat.le_of_ble_eq_true rfl⟩) hP hD hS hA [0, 1, 2, 3, 4, 5, 6, 7] rfl rfl (by decide) (by decide) (by decide) rfl (fun H locs hP hD hS => ?_)
    exact kretL (by first | (rw [zt_decrypt, if_pos h1]; done) | exact (if_pos h1)) hx hb hr hlk hS hP hD hK dT_decrypt_38
  ·
    refine lv_iload hx hb dT_decrypt_15 (lv_at hl 0 rfl) ?_
    refine lv_i2l (v := (Int32.toInt64 (zt_use x g1 g2 32))) hx hb dT_decrypt_17 rfl ?_
    refine lv_goto hx hb dT_decrypt_18 (tgt := 38) (by decide) ?_
    exact kretL (by first | (rw [zt_decrypt, if_neg h1]; done) | exact (if_neg h1)) hx hb hr hlk hS hP hD hK dT_decrypt_38

def zt_sign (x : XS) (g1 : Int32) (g2 : Int32) (g3 : Int32) : Int64 := (if 0 ≤ (zt_use x g1 g2 64) then (zt_answered (zw_mac (x.2.2.2.2.2.2.2.2.2.2.1 (Int32.toNatClampNeg (zt_use x g1 g2 64))) g3)) else (Int32.toInt64 (zt_use x g1 g2 64)))

set_option maxHeartbeats 4000000 in
set_option maxRecDepth 100000 in
theorem kt_sign (l : Launch) (D : va_G) (cI cZ : ClassId) (ao au af ak a1 a2 a3 a4 : Nat) (x : XS) (g1 : Int32) (g2 : Int32) (g3 : Int32) (hn : x.2.2.2.2.2.2.1 ≤ 10) : kL l yT_sign wsT_sign (rmOf 4 90) D (kT cI cZ) [.ref ao, .int g1, .int g2, .int g3] (wX cI ao au af ak a1 a2 a3 a4 x) (zt_sign x g1 g2 g3) (wX cI ao au af ak a1 a2 a3 a4 x) := by
  intro sz
  refine kOf (Qc := fun A => kQl D (kT cI cZ) A (zt_sign x g1 g2 g3) (wX cI ao au af ak a1 a2 a3 a4 x)) (cc := cT_sign) (maxL := 5) (ret := some .long) (by decide) rfl (Nat.le_of_ble_eq_true rfl) ?_ sz
  intro p e s m args below meth c A ls hx hb hml hown hts hNw hr hlk hin hA hS hP hD hK hl
  show W p l e (rmOf 4 90) s m args below meth c s.heap [] 0 0 (MQ below (kQl D (kT cI cZ) A (zt_sign x g1 g2 g3) (wX cI ao au af ak a1 a2 a3 a4 x)) args s 0 0 A) (F0 m 0 ls [])
  have hts : ∀ q ∈ lw_g, q.before args s = true := fun q h => hts q (List.mem_cons_of_mem _ h)
  have hown : s.vm.findClass cnT = some m.cls := hown
  have hl : lv_has ls 5 [(0, .ref ao), (1, .int g1), (2, .int g2), (3, .int g3)] := hl
  have hP : va_P D vwCl [(ao, .inr (0, [.ref au, .ref af, .ref ak, .int x.2.2.1, .int x.2.2.2.1, .int x.2.2.2.2.1, .int x.2.2.2.2.2.1])), (au, .inr (1, [.int x.1.1, .int x.1.2])), (af, .inr (1, [.int x.2.1.1, .int x.2.1.2])), (ak, .inr (2, [.ref a1, .ref a2, .ref a3, .ref a4, .int (nI x.2.2.2.2.2.2.1), .int x.2.2.2.2.2.2.2.1])), (a1, .inl (cI, 10, .inl x.2.2.2.2.2.2.2.2.1)), (a2, .inl (cI, 10, .inl x.2.2.2.2.2.2.2.2.2.1)), (a3, .inl (cI, 10, .inl x.2.2.2.2.2.2.2.2.2.2.1)), (a4, .inl (cI, 10, .inl x.2.2.2.2.2.2.2.2.2.2.2))] s.heap := hP
  have hD : va_D A [(ao, .inr (0, [.ref au, .ref af, .ref ak, .int x.2.2.1, .int x.2.2.2.1, .int x.2.2.2.2.1, .int x.2.2.2.2.2.1])), (au, .inr (1, [.int x.1.1, .int x.1.2])), (af, .inr (1, [.int x.2.1.1, .int x.2.1.2])), (ak, .inr (2, [.ref a1, .ref a2, .ref a3, .ref a4, .int (nI x.2.2.2.2.2.2.1), .int x.2.2.2.2.2.2.2.1])), (a1, .inl (cI, 10, .inl x.2.2.2.2.2.2.2.2.1)), (a2, .inl (cI, 10, .inl x.2.2.2.2.2.2.2.2.2.1)), (a3, .inl (cI, 10, .inl x.2.2.2.2.2.2.2.2.2.2.1)), (a4, .inl (cI, 10, .inl x.2.2.2.2.2.2.2.2.2.2.2))] := hD
  refine lv_aload_n hx hb dT_sign_0 rfl (lv_at hl 0 rfl) ?_
  refine lv_iload_n hx hb dT_sign_1 rfl (lv_at hl 1 rfl) ?_
  refine lv_iload_n hx hb dT_sign_2 rfl (lv_at hl 2 rfl) ?_
  refine lv_bipush (v := 64) hx hb dT_sign_3 (by decide) ?_
  refine kcI (isR := []) (isC := [0, 1, 2, 3, 4, 5, 6, 7]) (wr := []) (w2 := [(ao, .inr (0, [.ref au, .ref af, .ref ak, .int x.2.2.1, .int x.2.2.2.1, .int x.2.2.2.2.1, .int x.2.2.2.2.2.1])), (au, .inr (1, [.int x.1.1, .int x.1.2])), (af, .inr (1, [.int x.2.1.1, .int x.2.1.2])), (ak, .inr (2, [.ref a1, .ref a2, .ref a3, .ref a4, .int (nI x.2.2.2.2.2.2.1), .int x.2.2.2.2.2.2.2.1])), (a1, .inl (cI, 10, .inl x.2.2.2.2.2.2.2.2.1)), (a2, .inl (cI, 10, .inl x.2.2.2.2.2.2.2.2.2.1)), (a3, .inl (cI, 10, .inl x.2.2.2.2.2.2.2.2.2.2.1)), (a4, .inl (cI, 10, .inl x.2.2.2.2.2.2.2.2.2.2.2))]) (va_runV (As := [.int g1, .int g2, .int 64]) (rest := []) ⟨hx, hb, hml, hown, hts⟩ (kt_use l D cI cZ ao au af ak a1 a2 a3 a4 x g1 g2 64 (hn) _) ⟨(callB_of 3 hts gd_yT_rowForUse rfl rfl rfl (hts _ mw24) (hts _ mw236) (by decide +kernel) ⟨Nat.le_of_ble_eq_true rfl, Nat.le_of_ble_eq_true rfl⟩), hts _ mw238, hts _ mw14⟩ (kpreV hNw hP hD hK [0, 1, 2, 3, 4, 5, 6, 7] rfl (by decide) 0 rfl (ci := 0) rfl) rfl rfl hl.1 rfl (lv_room (Nat.le_of_ble_eq_true rfl)) dT_sign_5 ⟨Nat.le_of_ble_eq_true rfl, Nat.le_of_ble_eq_true rfl⟩) hP hD hS hA [0, 1, 2, 3, 4, 5, 6, 7] rfl rfl (by decide) (by decide) (by decide) rfl (fun H locs hP hD hS => ?_)
  refine lv_istore hx hb dT_sign_8 hl (by decide) rfl (fun ls hl => ?_)
  have hl : lv_has ls 5 [(4, .int (zt_use x g1 g2 64)), (0, .ref ao), (1, .int g1), (2, .int g2), (3, .int g3)] := hl
  refine lv_iload hx hb dT_sign_10 (lv_at hl 0 rfl) ?_
  refine lv_if_ge (tgt := 21) hx hb dT_sign_12 (by decide) (fun h1 => ?_) (fun h1 => ?_)
  ·
    refine lv_aload_n hx hb dT_sign_21 rfl (lv_at hl 1 rfl) ?_
    refine va_get (D := D) (ci := 0) (v := .ref ak) (C := cnT) (T := ftT) (N := 7) hx hb hts inT hown hK hP 0 rfl rfl 2 (by decide) (hts _ mw84) (fun _ h9 => h9) rfl dT_sign_22 ?_
    refine va_getN (D := D) (ci := 2) (v := .ref a3) (C := cnK) (T := ftK) (N := 6) hx hb hts inK hown hK hP 3 rfl rfl 2 (by decide) (va_Nw.use rfl (hNw _ mw62)) (fun _ h9 => h9) rfl dT_sign_25 ?_
    refine lv_iload hx hb dT_sign_28 (lv_at hl 0 rfl) ?_
    refine va_iald hx hb hK hP 6 0 rfl rfl (zt_use_in hn h1) dT_sign_30 ?_
    refine lv_iload_n hx hb dT_sign_31 rfl (lv_at hl 4 rfl) ?_
    refine kcI (isR := [0, 1, 2, 3, 4, 5, 6, 7]) (isC := []) (wr := [(ao, .inr (0, [.ref au, .ref af, .ref ak, .int x.2.2.1, .int x.2.2.2.1, .int x.2.2.2.2.1, .int x.2.2.2.2.2.1])), (au, .inr (1, [.int x.1.1, .int x.1.2])), (af, .inr (1, [.int x.2.1.1, .int x.2.1.2])), (ak, .inr (2, [.ref a1, .ref a2, .ref a3, .ref a4, .int (nI x.2.2.2.2.2.2.1), .int x.2.2.2.2.2.2.2.1])), (a1, .inl (cI, 10, .inl x.2.2.2.2.2.2.2.2.1)), (a2, .inl (cI, 10, .inl x.2.2.2.2.2.2.2.2.2.1)), (a3, .inl (cI, 10, .inl x.2.2.2.2.2.2.2.2.2.2.1)), (a4, .inl (cI, 10, .inl x.2.2.2.2.2.2.2.2.2.2.2))]) (w2 := [(ao, .inr (0, [.ref au, .ref af, .ref ak, .int x.2.2.1, .int x.2.2.2.1, .int x.2.2.2.2.1, .int x.2.2.2.2.2.1])), (au, .inr (1, [.int x.1.1, .int x.1.2])), (af, .inr (1, [.int x.2.1.1, .int x.2.1.2])), (ak, .inr (2, [.ref a1, .ref a2, .ref a3, .ref a4, .int (nI x.2.2.2.2.2.2.1), .int x.2.2.2.2.2.2.2.1])), (a1, .inl (cI, 10, .inl x.2.2.2.2.2.2.2.2.1)), (a2, .inl (cI, 10, .inl x.2.2.2.2.2.2.2.2.2.1)), (a3, .inl (cI, 10, .inl x.2.2.2.2.2.2.2.2.2.2.1)), (a4, .inl (cI, 10, .inl x.2.2.2.2.2.2.2.2.2.2.2))]) (va_runSN (As := [.int (x.2.2.2.2.2.2.2.2.2.2.1 (Int32.toNatClampNeg (zt_use x g1 g2 64))), .int g3]) (rest := []) ⟨hx, hb, hml, hown, hts⟩ (kw_mac l D cI cZ (x.2.2.2.2.2.2.2.2.2.2.1 (Int32.toNatClampNeg (zt_use x g1 g2 64))) g3 _) ⟨(va_cnB 2 hts gd_yW_mac rfl rfl rfl (hNw _ mw179) (hts _ mw28) (by decide +kernel) ⟨Nat.le_of_ble_eq_true rfl, Nat.le_of_ble_eq_true rfl⟩), hts _ mw180, trivial⟩ (kpreS hNw hP hD hK [] rfl (by decide)) rfl rfl hl.1 rfl (lv_room (Nat.le_of_ble_eq_true rfl)) dT_sign_32 ⟨Nat.le_of_ble_eq_true rfl, Nat.le_of_ble_eq_true rfl⟩) hP hD hS hA [0, 1, 2, 3, 4, 5, 6, 7] rfl rfl (by decide) (by decide) (by decide) rfl (fun H locs hP hD hS => ?_)
    refine kcL (isR := [0, 1, 2, 3, 4, 5, 6, 7]) (isC := []) (wr := [(ao, .inr (0, [.ref au, .ref af, .ref ak, .int x.2.2.1, .int x.2.2.2.1, .int x.2.2.2.2.1, .int x.2.2.2.2.2.1])), (au, .inr (1, [.int x.1.1, .int x.1.2])), (af, .inr (1, [.int x.2.1.1, .int x.2.1.2])), (ak, .inr (2, [.ref a1, .ref a2, .ref a3, .ref a4, .int (nI x.2.2.2.2.2.2.1), .int x.2.2.2.2.2.2.2.1])), (a1, .inl (cI, 10, .inl x.2.2.2.2.2.2.2.2.1)), (a2, .inl (cI, 10, .inl x.2.2.2.2.2.2.2.2.2.1)), (a3, .inl (cI, 10, .inl x.2.2.2.2.2.2.2.2.2.2.1)), (a4, .inl (cI, 10, .inl x.2.2.2.2.2.2.2.2.2.2.2))]) (w2 := [(ao, .inr (0, [.ref au, .ref af, .ref ak, .int x.2.2.1, .int x.2.2.2.1, .int x.2.2.2.2.1, .int x.2.2.2.2.2.1])), (au, .inr (1, [.int x.1.1, .int x.1.2])), (af, .inr (1, [.int x.2.1.1, .int x.2.1.2])), (ak, .inr (2, [.ref a1, .ref a2, .ref a3, .ref a4, .int (nI x.2.2.2.2.2.2.1), .int x.2.2.2.2.2.2.2.1])), (a1, .inl (cI, 10, .inl x.2.2.2.2.2.2.2.2.1)), (a2, .inl (cI, 10, .inl x.2.2.2.2.2.2.2.2.2.1)), (a3, .inl (cI, 10, .inl x.2.2.2.2.2.2.2.2.2.2.1)), (a4, .inl (cI, 10, .inl x.2.2.2.2.2.2.2.2.2.2.2))]) (va_runS (As := [.int (zw_mac (x.2.2.2.2.2.2.2.2.2.2.1 (Int32.toNatClampNeg (zt_use x g1 g2 64))) g3)]) (rest := []) ⟨hx, hb, hml, hown, hts⟩ (kt_answered l D cI cZ (zw_mac (x.2.2.2.2.2.2.2.2.2.2.1 (Int32.toNatClampNeg (zt_use x g1 g2 64))) g3) _) ⟨(callB_of 1 hts gd_yT_answered rfl rfl rfl (hts _ mw24) (hts _ mw228) (by decide +kernel) ⟨Nat.le_of_ble_eq_true rfl, Nat.le_of_ble_eq_true rfl⟩), hts _ mw229⟩ (kpreS hNw hP hD hK [] rfl (by decide)) rfl rfl hl.1 rfl (lv_room (Nat.le_of_ble_eq_true rfl)) dT_sign_35 ⟨Nat.le_of_ble_eq_true rfl, Nat.le_of_ble_eq_true rfl⟩) hP hD hS hA [0, 1, 2, 3, 4, 5, 6, 7] rfl rfl (by decide) (by decide) (by decide) rfl (fun H locs hP hD hS => ?_)
    exact kretL (by first | (rw [zt_sign, if_pos h1]; done) | exact (if_pos h1)) hx hb hr hlk hS hP hD hK dT_sign_38
  ·
    refine lv_iload hx hb dT_sign_15 (lv_at hl 0 rfl) ?_
    refine lv_i2l (v := (Int32.toInt64 (zt_use x g1 g2 64))) hx hb dT_sign_17 rfl ?_
    refine lv_goto hx hb dT_sign_18 (tgt := 38) (by decide) ?_
    exact kretL (by first | (rw [zt_sign, if_neg h1]; done) | exact (if_neg h1)) hx hb hr hlk hS hP hD hK dT_sign_38

def zt_wrap (x : XS) (g1 : Int32) (g2 : Int32) (g3 : Int32) : Int64 := (if 0 ≤ (zt_row x g1 g2) then (if 0 ≤ (zt_row x g1 g3) then (if (if (zk_has x.2.2.2.2.2.2 (zt_row x g1 g2) 128) = 0 then (0 : Int32) else (if (zk_has x.2.2.2.2.2.2 (zt_row x g1 g2) 512) = 0 then (0 : Int32) else (1 : Int32))) = 0 then (-5) else (if (zk_has x.2.2.2.2.2.2 (zt_row x g1 g3) 8) = 0 then (-5) else ((zlshl (zt_tagOf (x.2.2.2.2.2.2.2.2.2.2.1 (Int32.toNatClampNeg (zt_row x g1 g2))) (x.2.2.2.2.2.2.2.2.2.2.1 (Int32.toNatClampNeg (zt_row x g1 g3)))) 32) + (zt_answered (zw_enc (x.2.2.2.2.2.2.2.2.2.2.1 (Int32.toNatClampNeg (zt_row x g1 g2))) (x.2.2.2.2.2.2.2.2.2.2.1 (Int32.toNatClampNeg (zt_row x g1 g3)))))))) else (Int32.toInt64 (zt_row x g1 g3))) else (Int32.toInt64 (zt_row x g1 g2)))

set_option maxHeartbeats 4000000 in
set_option maxRecDepth 100000 in
theorem kt_wrap (l : Launch) (D : va_G) (cI cZ : ClassId) (ao au af ak a1 a2 a3 a4 : Nat) (x : XS) (g1 : Int32) (g2 : Int32) (g3 : Int32) (hn : x.2.2.2.2.2.2.1 ≤ 10) : kL l yT_wrap wsT_wrap (rmOf 3 69) D (kT cI cZ) [.ref ao, .int g1, .int g2, .int g3] (wX cI ao au af ak a1 a2 a3 a4 x) (zt_wrap x g1 g2 g3) (wX cI ao au af ak a1 a2 a3 a4 x) := by
  intro sz
  refine kOf (Qc := fun A => kQl D (kT cI cZ) A (zt_wrap x g1 g2 g3) (wX cI ao au af ak a1 a2 a3 a4 x)) (cc := cT_wrap) (maxL := 9) (ret := some .long) (by decide) rfl (Nat.le_of_ble_eq_true rfl) ?_ sz
  intro p e s m args below meth c A ls hx hb hml hown hts hNw hr hlk hin hA hS hP hD hK hl
  show W p l e (rmOf 3 69) s m args below meth c s.heap [] 0 0 (MQ below (kQl D (kT cI cZ) A (zt_wrap x g1 g2 g3) (wX cI ao au af ak a1 a2 a3 a4 x)) args s 0 0 A) (F0 m 0 ls [])
  have hts : ∀ q ∈ lw_g, q.before args s = true := fun q h => hts q (List.mem_cons_of_mem _ h)
  have hown : s.vm.findClass cnT = some m.cls := hown
  have hl : lv_has ls 9 [(0, .ref ao), (1, .int g1), (2, .int g2), (3, .int g3)] := hl
  have hP : va_P D vwCl [(ao, .inr (0, [.ref au, .ref af, .ref ak, .int x.2.2.1, .int x.2.2.2.1, .int x.2.2.2.2.1, .int x.2.2.2.2.2.1])), (au, .inr (1, [.int x.1.1, .int x.1.2])), (af, .inr (1, [.int x.2.1.1, .int x.2.1.2])), (ak, .inr (2, [.ref a1, .ref a2, .ref a3, .ref a4, .int (nI x.2.2.2.2.2.2.1), .int x.2.2.2.2.2.2.2.1])), (a1, .inl (cI, 10, .inl x.2.2.2.2.2.2.2.2.1)), (a2, .inl (cI, 10, .inl x.2.2.2.2.2.2.2.2.2.1)), (a3, .inl (cI, 10, .inl x.2.2.2.2.2.2.2.2.2.2.1)), (a4, .inl (cI, 10, .inl x.2.2.2.2.2.2.2.2.2.2.2))] s.heap := hP
  have hD : va_D A [(ao, .inr (0, [.ref au, .ref af, .ref ak, .int x.2.2.1, .int x.2.2.2.1, .int x.2.2.2.2.1, .int x.2.2.2.2.2.1])), (au, .inr (1, [.int x.1.1, .int x.1.2])), (af, .inr (1, [.int x.2.1.1, .int x.2.1.2])), (ak, .inr (2, [.ref a1, .ref a2, .ref a3, .ref a4, .int (nI x.2.2.2.2.2.2.1), .int x.2.2.2.2.2.2.2.1])), (a1, .inl (cI, 10, .inl x.2.2.2.2.2.2.2.2.1)), (a2, .inl (cI, 10, .inl x.2.2.2.2.2.2.2.2.2.1)), (a3, .inl (cI, 10, .inl x.2.2.2.2.2.2.2.2.2.2.1)), (a4, .inl (cI, 10, .inl x.2.2.2.2.2.2.2.2.2.2.2))] := hD
  refine lv_aload_n hx hb dT_wrap_0 rfl (lv_at hl 0 rfl) ?_
  refine lv_iload_n hx hb dT_wrap_1 rfl (lv_at hl 1 rfl) ?_
  refine lv_iload_n hx hb dT_wrap_2 rfl (lv_at hl 2 rfl) ?_
  refine kcI (isR := []) (isC := [0, 1, 2, 3, 4, 5, 6, 7]) (wr := []) (w2 := [(ao, .inr (0, [.ref au, .ref af, .ref ak, .int x.2.2.1, .int x.2.2.2.1, .int x.2.2.2.2.1, .int x.2.2.2.2.2.1])), (au, .inr (1, [.int x.1.1, .int x.1.2])), (af, .inr (1, [.int x.2.1.1, .int x.2.1.2])), (ak, .inr (2, [.ref a1, .ref a2, .ref a3, .ref a4, .int (nI x.2.2.2.2.2.2.1), .int x.2.2.2.2.2.2.2.1])), (a1, .inl (cI, 10, .inl x.2.2.2.2.2.2.2.2.1)), (a2, .inl (cI, 10, .inl x.2.2.2.2.2.2.2.2.2.1)), (a3, .inl (cI, 10, .inl x.2.2.2.2.2.2.2.2.2.2.1)), (a4, .inl (cI, 10, .inl x.2.2.2.2.2.2.2.2.2.2.2))]) (va_runV (As := [.int g1, .int g2]) (rest := []) ⟨hx, hb, hml, hown, hts⟩ (kt_row l D cI cZ ao au af ak a1 a2 a3 a4 x g1 g2 (hn) _) ⟨(callB_of 2 hts gd_yT_rowOrRefusal rfl rfl rfl (hts _ mw24) (hts _ mw193) (by decide +kernel) ⟨Nat.le_of_ble_eq_true rfl, Nat.le_of_ble_eq_true rfl⟩), hts _ mw195, hts _ mw10⟩ (kpreV hNw hP hD hK [0, 1, 2, 3, 4, 5, 6, 7] rfl (by decide) 0 rfl (ci := 0) rfl) rfl rfl hl.1 rfl (lv_room (Nat.le_of_ble_eq_true rfl)) dT_wrap_3 ⟨Nat.le_of_ble_eq_true rfl, Nat.le_of_ble_eq_true rfl⟩) hP hD hS hA [0, 1, 2, 3, 4, 5, 6, 7] rfl rfl (by decide) (by decide) (by decide) rfl (fun H locs hP hD hS => ?_)
  refine lv_istore hx hb dT_wrap_6 hl (by decide) rfl (fun ls hl => ?_)
  have hl : lv_has ls 9 [(4, .int (zt_row x g1 g2)), (0, .ref ao), (1, .int g1), (2, .int g2), (3, .int g3)] := hl
  refine lv_iload hx hb dT_wrap_8 (lv_at hl 0 rfl) ?_
  refine lv_if_ge (tgt := 17) hx hb dT_wrap_10 (by decide) (fun h1 => ?_) (fun h1 => ?_)
  ·
    refine lv_aload_n hx hb dT_wrap_17 rfl (lv_at hl 1 rfl) ?_
    refine lv_iload_n hx hb dT_wrap_18 rfl (lv_at hl 2 rfl) ?_
    refine lv_iload_n hx hb dT_wrap_19 rfl (lv_at hl 4 rfl) ?_
    refine kcI (isR := []) (isC := [0, 1, 2, 3, 4, 5, 6, 7]) (wr := []) (w2 := [(ao, .inr (0, [.ref au, .ref af, .ref ak, .int x.2.2.1, .int x.2.2.2.1, .int x.2.2.2.2.1, .int x.2.2.2.2.2.1])), (au, .inr (1, [.int x.1.1, .int x.1.2])), (af, .inr (1, [.int x.2.1.1, .int x.2.1.2])), (ak, .inr (2, [.ref a1, .ref a2, .ref a3, .ref a4, .int (nI x.2.2.2.2.2.2.1), .int x.2.2.2.2.2.2.2.1])), (a1, .inl (cI, 10, .inl x.2.2.2.2.2.2.2.2.1)), (a2, .inl (cI, 10, .inl x.2.2.2.2.2.2.2.2.2.1)), (a3, .inl (cI, 10, .inl x.2.2.2.2.2.2.2.2.2.2.1)), (a4, .inl (cI, 10, .inl x.2.2.2.2.2.2.2.2.2.2.2))]) (va_runV (As := [.int g1, .int g3]) (rest := []) ⟨hx, hb, hml, hown, hts⟩ (kt_row l D cI cZ ao au af ak a1 a2 a3 a4 x g1 g3 (hn) _) ⟨(callB_of 2 hts gd_yT_rowOrRefusal rfl rfl rfl (hts _ mw24) (hts _ mw193) (by decide +kernel) ⟨Nat.le_of_ble_eq_true rfl, Nat.le_of_ble_eq_true rfl⟩), hts _ mw195, hts _ mw10⟩ (kpreV hNw hP hD hK [0, 1, 2, 3, 4, 5, 6, 7] rfl (by decide) 0 rfl (ci := 0) rfl) rfl rfl hl.1 rfl (lv_room (Nat.le_of_ble_eq_true rfl)) dT_wrap_20 ⟨Nat.le_of_ble_eq_true rfl, Nat.le_of_ble_eq_true rfl⟩) hP hD hS hA [0, 1, 2, 3, 4, 5, 6, 7] rfl rfl (by decide) (by decide) (by decide) rfl (fun H locs hP hD hS => ?_)
    refine lv_istore hx hb dT_wrap_23 hl (by decide) rfl (fun ls hl => ?_)
    have hl : lv_has ls 9 [(5, .int (zt_row x g1 g3)), (4, .int (zt_row x g1 g2)), (0, .ref ao), (1, .int g1), (2, .int g2), (3, .int g3)] := hl
    refine lv_iload hx hb dT_wrap_25 (lv_at hl 0 rfl) ?_
    refine lv_if_ge (tgt := 34) hx hb dT_wrap_27 (by decide) (fun h2 => ?_) (fun h2 => ?_)
    ·
      refine lv_aload_n hx hb dT_wrap_34 rfl (lv_at hl 2 rfl) ?_
      refine va_get (D := D) (ci := 0) (v := .ref ak) (C := cnT) (T := ftT) (N := 7) hx hb hts inT hown hK hP 0 rfl rfl 2 (by decide) (hts _ mw84) (fun _ h9 => h9) rfl dT_wrap_35 ?_
      refine lv_iload hx hb dT_wrap_38 (lv_at hl 1 rfl) ?_
      refine lv_sipush (v := 128) hx hb dT_wrap_40 (by decide) ?_
      refine kcI (isR := [0, 1, 2]) (isC := [3, 4, 5, 6, 7]) (wr := [(ao, .inr (0, [.ref au, .ref af, .ref ak, .int x.2.2.1, .int x.2.2.2.1, .int x.2.2.2.2.1, .int x.2.2.2.2.2.1])), (au, .inr (1, [.int x.1.1, .int x.1.2])), (af, .inr (1, [.int x.2.1.1, .int x.2.1.2]))]) (w2 := [(ao, .inr (0, [.ref au, .ref af, .ref ak, .int x.2.2.1, .int x.2.2.2.1, .int x.2.2.2.2.1, .int x.2.2.2.2.2.1])), (au, .inr (1, [.int x.1.1, .int x.1.2])), (af, .inr (1, [.int x.2.1.1, .int x.2.1.2])), (ak, .inr (2, [.ref a1, .ref a2, .ref a3, .ref a4, .int (nI x.2.2.2.2.2.2.1), .int x.2.2.2.2.2.2.2.1])), (a1, .inl (cI, 10, .inl x.2.2.2.2.2.2.2.2.1)), (a2, .inl (cI, 10, .inl x.2.2.2.2.2.2.2.2.2.1)), (a3, .inl (cI, 10, .inl x.2.2.2.2.2.2.2.2.2.2.1)), (a4, .inl (cI, 10, .inl x.2.2.2.2.2.2.2.2.2.2.2))]) (va_runVN (As := [.int (zt_row x g1 g2), .int 128]) (rest := []) ⟨hx, hb, hml, hown, hts⟩ (kk_has l D cI cZ ak a1 a2 a3 a4 x.2.2.2.2.2.2 (zt_row x g1 g2) 128 (hn) _) ⟨(va_cnB 2 hts gd_yK_has rfl rfl rfl (hNw _ mw205) (hts _ mw26) (by decide +kernel) ⟨Nat.le_of_ble_eq_true rfl, Nat.le_of_ble_eq_true rfl⟩), hts _ mw142, hts _ mw5⟩ (kpreV hNw hP hD hK [3, 4, 5, 6, 7] rfl (by decide) 3 rfl (ci := 2) rfl) rfl rfl hl.1 rfl (lv_room (Nat.le_of_ble_eq_true rfl)) dT_wrap_43 ⟨Nat.le_of_ble_eq_true rfl, Nat.le_of_ble_eq_true rfl⟩) hP hD hS hA [0, 1, 2, 3, 4, 5, 6, 7] rfl rfl (by decide) (by decide) (by decide) rfl (fun H locs hP hD hS => ?_)
      refine kJoin (pcJ := 69) (z := (if (zk_has x.2.2.2.2.2.2 (zt_row x g1 g2) 128) = 0 then (0 : Int32) else (if (zk_has x.2.2.2.2.2.2 (zt_row x g1 g2) 512) = 0 then (0 : Int32) else (1 : Int32)))) (ws := [(ao, .inr (0, [.ref au, .ref af, .ref ak, .int x.2.2.1, .int x.2.2.2.1, .int x.2.2.2.2.1, .int x.2.2.2.2.2.1])), (au, .inr (1, [.int x.1.1, .int x.1.2])), (af, .inr (1, [.int x.2.1.1, .int x.2.1.2])), (ak, .inr (2, [.ref a1, .ref a2, .ref a3, .ref a4, .int (nI x.2.2.2.2.2.2.1), .int x.2.2.2.2.2.2.2.1])), (a1, .inl (cI, 10, .inl x.2.2.2.2.2.2.2.2.1)), (a2, .inl (cI, 10, .inl x.2.2.2.2.2.2.2.2.2.1)), (a3, .inl (cI, 10, .inl x.2.2.2.2.2.2.2.2.2.2.1)), (a4, .inl (cI, 10, .inl x.2.2.2.2.2.2.2.2.2.2.2))]) (rest := []) (D := D) (A := A) (H0 := s.heap) (fun J69 => ?_) (fun H locs hP hD hS => ?_)
      ·
        refine lv_if_eq (tgt := 68) hx hb dT_wrap_46 (by decide) (fun h3 => ?_) (fun h3 => ?_)
        ·
          refine lv_iconst (v := 0) hx hb dT_wrap_68 (by decide) ?_
          exact J69 _ _ hP hD hS _ ((if_pos h3).symm)
        ·
          refine lv_aload_n hx hb dT_wrap_49 rfl (lv_at hl 2 rfl) ?_
          refine va_get (D := D) (ci := 0) (v := .ref ak) (C := cnT) (T := ftT) (N := 7) hx hb hts inT hown hK hP 0 rfl rfl 2 (by decide) (hts _ mw84) (fun _ h9 => h9) rfl dT_wrap_50 ?_
          refine lv_iload hx hb dT_wrap_53 (lv_at hl 1 rfl) ?_
          refine lv_sipush (v := 512) hx hb dT_wrap_55 (by decide) ?_
          refine kcI (isR := [0, 1, 2]) (isC := [3, 4, 5, 6, 7]) (wr := [(ao, .inr (0, [.ref au, .ref af, .ref ak, .int x.2.2.1, .int x.2.2.2.1, .int x.2.2.2.2.1, .int x.2.2.2.2.2.1])), (au, .inr (1, [.int x.1.1, .int x.1.2])), (af, .inr (1, [.int x.2.1.1, .int x.2.1.2]))]) (w2 := [(ao, .inr (0, [.ref au, .ref af, .ref ak, .int x.2.2.1, .int x.2.2.2.1, .int x.2.2.2.2.1, .int x.2.2.2.2.2.1])), (au, .inr (1, [.int x.1.1, .int x.1.2])), (af, .inr (1, [.int x.2.1.1, .int x.2.1.2])), (ak, .inr (2, [.ref a1, .ref a2, .ref a3, .ref a4, .int (nI x.2.2.2.2.2.2.1), .int x.2.2.2.2.2.2.2.1])), (a1, .inl (cI, 10, .inl x.2.2.2.2.2.2.2.2.1)), (a2, .inl (cI, 10, .inl x.2.2.2.2.2.2.2.2.2.1)), (a3, .inl (cI, 10, .inl x.2.2.2.2.2.2.2.2.2.2.1)), (a4, .inl (cI, 10, .inl x.2.2.2.2.2.2.2.2.2.2.2))]) (va_runVN (As := [.int (zt_row x g1 g2), .int 512]) (rest := []) ⟨hx, hb, hml, hown, hts⟩ (kk_has l D cI cZ ak a1 a2 a3 a4 x.2.2.2.2.2.2 (zt_row x g1 g2) 512 (hn) _) ⟨(va_cnB 2 hts gd_yK_has rfl rfl rfl (hNw _ mw205) (hts _ mw26) (by decide +kernel) ⟨Nat.le_of_ble_eq_true rfl, Nat.le_of_ble_eq_true rfl⟩), hts _ mw142, hts _ mw5⟩ (kpreV hNw hP hD hK [3, 4, 5, 6, 7] rfl (by decide) 3 rfl (ci := 2) rfl) rfl rfl hl.1 rfl (lv_room (Nat.le_of_ble_eq_true rfl)) dT_wrap_58 ⟨Nat.le_of_ble_eq_true rfl, Nat.le_of_ble_eq_true rfl⟩) hP hD hS hA [0, 1, 2, 3, 4, 5, 6, 7] rfl rfl (by decide) (by decide) (by decide) rfl (fun H locs hP hD hS => ?_)
          refine lv_if_eq (tgt := 68) hx hb dT_wrap_61 (by decide) (fun h4 => ?_) (fun h4 => ?_)
          ·
            refine lv_iconst (v := 0) hx hb dT_wrap_68 (by decide) ?_
            exact J69 _ _ hP hD hS _ (((if_neg h3).trans (if_pos h4)).symm)
          ·
            refine lv_iconst (v := 1) hx hb dT_wrap_64 (by decide) ?_
            refine lv_goto hx hb dT_wrap_65 (tgt := 69) (by decide) ?_
            exact J69 _ _ hP hD hS _ (((if_neg h3).trans (if_neg h4)).symm)
      refine lv_istore hx hb dT_wrap_69 hl (by decide) rfl (fun ls hl => ?_)
      have hl : lv_has ls 9 [(6, .int (if (zk_has x.2.2.2.2.2.2 (zt_row x g1 g2) 128) = 0 then (0 : Int32) else (if (zk_has x.2.2.2.2.2.2 (zt_row x g1 g2) 512) = 0 then (0 : Int32) else (1 : Int32)))), (5, .int (zt_row x g1 g3)), (4, .int (zt_row x g1 g2)), (0, .ref ao), (1, .int g1), (2, .int g2), (3, .int g3)] := hl
      refine lv_iload hx hb dT_wrap_71 (lv_at hl 0 rfl) ?_
      refine lv_if_eq (tgt := 90) hx hb dT_wrap_73 (by decide) (fun h5 => ?_) (fun h5 => ?_)
      ·
        refine lv_ldc2 (v := (-5)) hx hb hown (hts _ mw227) dT_wrap_90 ?_
        exact kretL (by first | (rw [zt_wrap, if_pos h1, if_pos h2, if_pos h5]; done) | exact ((if_pos h1).trans ((if_pos h2).trans (if_pos h5)))) hx hb hr hlk hS hP hD hK dT_wrap_93
      ·
        refine lv_aload_n hx hb dT_wrap_76 rfl (lv_at hl 3 rfl) ?_
        refine va_get (D := D) (ci := 0) (v := .ref ak) (C := cnT) (T := ftT) (N := 7) hx hb hts inT hown hK hP 0 rfl rfl 2 (by decide) (hts _ mw84) (fun _ h9 => h9) rfl dT_wrap_77 ?_
        refine lv_iload hx hb dT_wrap_80 (lv_at hl 1 rfl) ?_
        refine lv_bipush (v := 8) hx hb dT_wrap_82 (by decide) ?_
        refine kcI (isR := [0, 1, 2]) (isC := [3, 4, 5, 6, 7]) (wr := [(ao, .inr (0, [.ref au, .ref af, .ref ak, .int x.2.2.1, .int x.2.2.2.1, .int x.2.2.2.2.1, .int x.2.2.2.2.2.1])), (au, .inr (1, [.int x.1.1, .int x.1.2])), (af, .inr (1, [.int x.2.1.1, .int x.2.1.2]))]) (w2 := [(ao, .inr (0, [.ref au, .ref af, .ref ak, .int x.2.2.1, .int x.2.2.2.1, .int x.2.2.2.2.1, .int x.2.2.2.2.2.1])), (au, .inr (1, [.int x.1.1, .int x.1.2])), (af, .inr (1, [.int x.2.1.1, .int x.2.1.2])), (ak, .inr (2, [.ref a1, .ref a2, .ref a3, .ref a4, .int (nI x.2.2.2.2.2.2.1), .int x.2.2.2.2.2.2.2.1])), (a1, .inl (cI, 10, .inl x.2.2.2.2.2.2.2.2.1)), (a2, .inl (cI, 10, .inl x.2.2.2.2.2.2.2.2.2.1)), (a3, .inl (cI, 10, .inl x.2.2.2.2.2.2.2.2.2.2.1)), (a4, .inl (cI, 10, .inl x.2.2.2.2.2.2.2.2.2.2.2))]) (va_runVN (As := [.int (zt_row x g1 g3), .int 8]) (rest := []) ⟨hx, hb, hml, hown, hts⟩ (kk_has l D cI cZ ak a1 a2 a3 a4 x.2.2.2.2.2.2 (zt_row x g1 g3) 8 (hn) _) ⟨(va_cnB 2 hts gd_yK_has rfl rfl rfl (hNw _ mw205) (hts _ mw26) (by decide +kernel) ⟨Nat.le_of_ble_eq_true rfl, Nat.le_of_ble_eq_true rfl⟩), hts _ mw142, hts _ mw5⟩ (kpreV hNw hP hD hK [3, 4, 5, 6, 7] rfl (by decide) 3 rfl (ci := 2) rfl) rfl rfl hl.1 rfl (lv_room (Nat.le_of_ble_eq_true rfl)) dT_wrap_84 ⟨Nat.le_of_ble_eq_true rfl, Nat.le_of_ble_eq_true rfl⟩) hP hD hS hA [0, 1, 2, 3, 4, 5, 6, 7] rfl rfl (by decide) (by decide) (by decide) rfl (fun H locs hP hD hS => ?_)
        refine lv_if_ne (tgt := 94) hx hb dT_wrap_87 (by decide) (fun h6 => ?_) (fun h6 => ?_)
        ·
          refine lv_aload_n hx hb dT_wrap_94 rfl (lv_at hl 3 rfl) ?_
          refine va_get (D := D) (ci := 0) (v := .ref ak) (C := cnT) (T := ftT) (N := 7) hx hb hts inT hown hK hP 0 rfl rfl 2 (by decide) (hts _ mw84) (fun _ h9 => h9) rfl dT_wrap_95 ?_
          refine va_getN (D := D) (ci := 2) (v := .ref a3) (C := cnK) (T := ftK) (N := 6) hx hb hts inK hown hK hP 3 rfl rfl 2 (by decide) (va_Nw.use rfl (hNw _ mw62)) (fun _ h9 => h9) rfl dT_wrap_98 ?_
          refine lv_iload hx hb dT_wrap_101 (lv_at hl 2 rfl) ?_
          refine va_iald hx hb hK hP 6 0 rfl rfl (zt_row_in hn h1) dT_wrap_103 ?_
          refine lv_istore hx hb dT_wrap_104 hl (by decide) rfl (fun ls hl => ?_)
          have hl : lv_has ls 9 [(7, .int (x.2.2.2.2.2.2.2.2.2.2.1 (Int32.toNatClampNeg (zt_row x g1 g2)))), (6, .int (if (zk_has x.2.2.2.2.2.2 (zt_row x g1 g2) 128) = 0 then (0 : Int32) else (if (zk_has x.2.2.2.2.2.2 (zt_row x g1 g2) 512) = 0 then (0 : Int32) else (1 : Int32)))), (5, .int (zt_row x g1 g3)), (4, .int (zt_row x g1 g2)), (0, .ref ao), (1, .int g1), (2, .int g2), (3, .int g3)] := hl
          refine lv_aload_n hx hb dT_wrap_106 rfl (lv_at hl 4 rfl) ?_
          refine va_get (D := D) (ci := 0) (v := .ref ak) (C := cnT) (T := ftT) (N := 7) hx hb hts inT hown hK hP 0 rfl rfl 2 (by decide) (hts _ mw84) (fun _ h9 => h9) rfl dT_wrap_107 ?_
          refine va_getN (D := D) (ci := 2) (v := .ref a3) (C := cnK) (T := ftK) (N := 6) hx hb hts inK hown hK hP 3 rfl rfl 2 (by decide) (va_Nw.use rfl (hNw _ mw62)) (fun _ h9 => h9) rfl dT_wrap_110 ?_
          refine lv_iload hx hb dT_wrap_113 (lv_at hl 2 rfl) ?_
          refine va_iald hx hb hK hP 6 0 rfl rfl (zt_row_in hn h2) dT_wrap_115 ?_
          refine lv_istore hx hb dT_wrap_116 hl (by decide) rfl (fun ls hl => ?_)
          have hl : lv_has ls 9 [(8, .int (x.2.2.2.2.2.2.2.2.2.2.1 (Int32.toNatClampNeg (zt_row x g1 g3)))), (7, .int (x.2.2.2.2.2.2.2.2.2.2.1 (Int32.toNatClampNeg (zt_row x g1 g2)))), (6, .int (if (zk_has x.2.2.2.2.2.2 (zt_row x g1 g2) 128) = 0 then (0 : Int32) else (if (zk_has x.2.2.2.2.2.2 (zt_row x g1 g2) 512) = 0 then (0 : Int32) else (1 : Int32)))), (5, .int (zt_row x g1 g3)), (4, .int (zt_row x g1 g2)), (0, .ref ao), (1, .int g1), (2, .int g2), (3, .int g3)] := hl
          refine lv_iload hx hb dT_wrap_118 (lv_at hl 1 rfl) ?_
          refine lv_iload hx hb dT_wrap_120 (lv_at hl 0 rfl) ?_
          refine kcL (isR := [0, 1, 2, 3, 4, 5, 6, 7]) (isC := []) (wr := [(ao, .inr (0, [.ref au, .ref af, .ref ak, .int x.2.2.1, .int x.2.2.2.1, .int x.2.2.2.2.1, .int x.2.2.2.2.2.1])), (au, .inr (1, [.int x.1.1, .int x.1.2])), (af, .inr (1, [.int x.2.1.1, .int x.2.1.2])), (ak, .inr (2, [.ref a1, .ref a2, .ref a3, .ref a4, .int (nI x.2.2.2.2.2.2.1), .int x.2.2.2.2.2.2.2.1])), (a1, .inl (cI, 10, .inl x.2.2.2.2.2.2.2.2.1)), (a2, .inl (cI, 10, .inl x.2.2.2.2.2.2.2.2.2.1)), (a3, .inl (cI, 10, .inl x.2.2.2.2.2.2.2.2.2.2.1)), (a4, .inl (cI, 10, .inl x.2.2.2.2.2.2.2.2.2.2.2))]) (w2 := [(ao, .inr (0, [.ref au, .ref af, .ref ak, .int x.2.2.1, .int x.2.2.2.1, .int x.2.2.2.2.1, .int x.2.2.2.2.2.1])), (au, .inr (1, [.int x.1.1, .int x.1.2])), (af, .inr (1, [.int x.2.1.1, .int x.2.1.2])), (ak, .inr (2, [.ref a1, .ref a2, .ref a3, .ref a4, .int (nI x.2.2.2.2.2.2.1), .int x.2.2.2.2.2.2.2.1])), (a1, .inl (cI, 10, .inl x.2.2.2.2.2.2.2.2.1)), (a2, .inl (cI, 10, .inl x.2.2.2.2.2.2.2.2.2.1)), (a3, .inl (cI, 10, .inl x.2.2.2.2.2.2.2.2.2.2.1)), (a4, .inl (cI, 10, .inl x.2.2.2.2.2.2.2.2.2.2.2))]) (va_runS (As := [.int (x.2.2.2.2.2.2.2.2.2.2.1 (Int32.toNatClampNeg (zt_row x g1 g2))), .int (x.2.2.2.2.2.2.2.2.2.2.1 (Int32.toNatClampNeg (zt_row x g1 g3)))]) (rest := []) ⟨hx, hb, hml, hown, hts⟩ (kt_tagOf l D cI cZ (x.2.2.2.2.2.2.2.2.2.2.1 (Int32.toNatClampNeg (zt_row x g1 g2))) (x.2.2.2.2.2.2.2.2.2.2.1 (Int32.toNatClampNeg (zt_row x g1 g3))) _) ⟨(callB_of 2 hts gd_yT_tagOf rfl rfl rfl (hts _ mw24) (hts _ mw264) (by decide +kernel) ⟨Nat.le_of_ble_eq_true rfl, Nat.le_of_ble_eq_true rfl⟩), hts _ mw265⟩ (kpreS hNw hP hD hK [] rfl (by decide)) rfl rfl hl.1 rfl (lv_room (Nat.le_of_ble_eq_true rfl)) dT_wrap_122 ⟨Nat.le_of_ble_eq_true rfl, Nat.le_of_ble_eq_true rfl⟩) hP hD hS hA [0, 1, 2, 3, 4, 5, 6, 7] rfl rfl (by decide) (by decide) (by decide) rfl (fun H locs hP hD hS => ?_)
          refine lv_bipush (v := 32) hx hb dT_wrap_125 (by decide) ?_
          refine lv_lshl (v := (zlshl (zt_tagOf (x.2.2.2.2.2.2.2.2.2.2.1 (Int32.toNatClampNeg (zt_row x g1 g2))) (x.2.2.2.2.2.2.2.2.2.2.1 (Int32.toNatClampNeg (zt_row x g1 g3)))) 32)) hx hb dT_wrap_127 rfl ?_
          refine lv_iload hx hb dT_wrap_128 (lv_at hl 1 rfl) ?_
          refine lv_iload hx hb dT_wrap_130 (lv_at hl 0 rfl) ?_
          refine kcI (isR := [0, 1, 2, 3, 4, 5, 6, 7]) (isC := []) (wr := [(ao, .inr (0, [.ref au, .ref af, .ref ak, .int x.2.2.1, .int x.2.2.2.1, .int x.2.2.2.2.1, .int x.2.2.2.2.2.1])), (au, .inr (1, [.int x.1.1, .int x.1.2])), (af, .inr (1, [.int x.2.1.1, .int x.2.1.2])), (ak, .inr (2, [.ref a1, .ref a2, .ref a3, .ref a4, .int (nI x.2.2.2.2.2.2.1), .int x.2.2.2.2.2.2.2.1])), (a1, .inl (cI, 10, .inl x.2.2.2.2.2.2.2.2.1)), (a2, .inl (cI, 10, .inl x.2.2.2.2.2.2.2.2.2.1)), (a3, .inl (cI, 10, .inl x.2.2.2.2.2.2.2.2.2.2.1)), (a4, .inl (cI, 10, .inl x.2.2.2.2.2.2.2.2.2.2.2))]) (w2 := [(ao, .inr (0, [.ref au, .ref af, .ref ak, .int x.2.2.1, .int x.2.2.2.1, .int x.2.2.2.2.1, .int x.2.2.2.2.2.1])), (au, .inr (1, [.int x.1.1, .int x.1.2])), (af, .inr (1, [.int x.2.1.1, .int x.2.1.2])), (ak, .inr (2, [.ref a1, .ref a2, .ref a3, .ref a4, .int (nI x.2.2.2.2.2.2.1), .int x.2.2.2.2.2.2.2.1])), (a1, .inl (cI, 10, .inl x.2.2.2.2.2.2.2.2.1)), (a2, .inl (cI, 10, .inl x.2.2.2.2.2.2.2.2.2.1)), (a3, .inl (cI, 10, .inl x.2.2.2.2.2.2.2.2.2.2.1)), (a4, .inl (cI, 10, .inl x.2.2.2.2.2.2.2.2.2.2.2))]) (va_runSN (As := [.int (x.2.2.2.2.2.2.2.2.2.2.1 (Int32.toNatClampNeg (zt_row x g1 g2))), .int (x.2.2.2.2.2.2.2.2.2.2.1 (Int32.toNatClampNeg (zt_row x g1 g3)))]) (rest := [.long (zlshl (zt_tagOf (x.2.2.2.2.2.2.2.2.2.2.1 (Int32.toNatClampNeg (zt_row x g1 g2))) (x.2.2.2.2.2.2.2.2.2.2.1 (Int32.toNatClampNeg (zt_row x g1 g3)))) 32)]) ⟨hx, hb, hml, hown, hts⟩ (kw_enc l D cI cZ (x.2.2.2.2.2.2.2.2.2.2.1 (Int32.toNatClampNeg (zt_row x g1 g2))) (x.2.2.2.2.2.2.2.2.2.2.1 (Int32.toNatClampNeg (zt_row x g1 g3))) _) ⟨(va_cnB 2 hts gd_yW_enc rfl rfl rfl (hNw _ mw240) (hts _ mw28) (by decide +kernel) ⟨Nat.le_of_ble_eq_true rfl, Nat.le_of_ble_eq_true rfl⟩), hts _ mw241, trivial⟩ (kpreS hNw hP hD hK [] rfl (by decide)) rfl rfl hl.1 rfl (lv_room (Nat.le_of_ble_eq_true rfl)) dT_wrap_132 ⟨Nat.le_of_ble_eq_true rfl, Nat.le_of_ble_eq_true rfl⟩) hP hD hS hA [0, 1, 2, 3, 4, 5, 6, 7] rfl rfl (by decide) (by decide) (by decide) rfl (fun H locs hP hD hS => ?_)
          refine kcL (isR := [0, 1, 2, 3, 4, 5, 6, 7]) (isC := []) (wr := [(ao, .inr (0, [.ref au, .ref af, .ref ak, .int x.2.2.1, .int x.2.2.2.1, .int x.2.2.2.2.1, .int x.2.2.2.2.2.1])), (au, .inr (1, [.int x.1.1, .int x.1.2])), (af, .inr (1, [.int x.2.1.1, .int x.2.1.2])), (ak, .inr (2, [.ref a1, .ref a2, .ref a3, .ref a4, .int (nI x.2.2.2.2.2.2.1), .int x.2.2.2.2.2.2.2.1])), (a1, .inl (cI, 10, .inl x.2.2.2.2.2.2.2.2.1)), (a2, .inl (cI, 10, .inl x.2.2.2.2.2.2.2.2.2.1)), (a3, .inl (cI, 10, .inl x.2.2.2.2.2.2.2.2.2.2.1)), (a4, .inl (cI, 10, .inl x.2.2.2.2.2.2.2.2.2.2.2))]) (w2 := [(ao, .inr (0, [.ref au, .ref af, .ref ak, .int x.2.2.1, .int x.2.2.2.1, .int x.2.2.2.2.1, .int x.2.2.2.2.2.1])), (au, .inr (1, [.int x.1.1, .int x.1.2])), (af, .inr (1, [.int x.2.1.1, .int x.2.1.2])), (ak, .inr (2, [.ref a1, .ref a2, .ref a3, .ref a4, .int (nI x.2.2.2.2.2.2.1), .int x.2.2.2.2.2.2.2.1])), (a1, .inl (cI, 10, .inl x.2.2.2.2.2.2.2.2.1)), (a2, .inl (cI, 10, .inl x.2.2.2.2.2.2.2.2.2.1)), (a3, .inl (cI, 10, .inl x.2.2.2.2.2.2.2.2.2.2.1)), (a4, .inl (cI, 10, .inl x.2.2.2.2.2.2.2.2.2.2.2))]) (va_runS (As := [.int (zw_enc (x.2.2.2.2.2.2.2.2.2.2.1 (Int32.toNatClampNeg (zt_row x g1 g2))) (x.2.2.2.2.2.2.2.2.2.2.1 (Int32.toNatClampNeg (zt_row x g1 g3))))]) (rest := [.long (zlshl (zt_tagOf (x.2.2.2.2.2.2.2.2.2.2.1 (Int32.toNatClampNeg (zt_row x g1 g2))) (x.2.2.2.2.2.2.2.2.2.2.1 (Int32.toNatClampNeg (zt_row x g1 g3)))) 32)]) ⟨hx, hb, hml, hown, hts⟩ (kt_answered l D cI cZ (zw_enc (x.2.2.2.2.2.2.2.2.2.2.1 (Int32.toNatClampNeg (zt_row x g1 g2))) (x.2.2.2.2.2.2.2.2.2.2.1 (Int32.toNatClampNeg (zt_row x g1 g3)))) _) ⟨(callB_of 1 hts gd_yT_answered rfl rfl rfl (hts _ mw24) (hts _ mw228) (by decide +kernel) ⟨Nat.le_of_ble_eq_true rfl, Nat.le_of_ble_eq_true rfl⟩), hts _ mw229⟩ (kpreS hNw hP hD hK [] rfl (by decide)) rfl rfl hl.1 rfl (lv_room (Nat.le_of_ble_eq_true rfl)) dT_wrap_135 ⟨Nat.le_of_ble_eq_true rfl, Nat.le_of_ble_eq_true rfl⟩) hP hD hS hA [0, 1, 2, 3, 4, 5, 6, 7] rfl rfl (by decide) (by decide) (by decide) rfl (fun H locs hP hD hS => ?_)
          refine lv_ladd hx hb dT_wrap_138 ?_
          exact kretL (by first | (rw [zt_wrap, if_pos h1, if_pos h2, if_neg h5, if_neg h6]; done) | exact ((if_pos h1).trans ((if_pos h2).trans ((if_neg h5).trans (if_neg h6))))) hx hb hr hlk hS hP hD hK dT_wrap_139
        ·
          refine lv_ldc2 (v := (-5)) hx hb hown (hts _ mw227) dT_wrap_90 ?_
          exact kretL (by first | (rw [zt_wrap, if_pos h1, if_pos h2, if_neg h5, if_pos h6]; done) | exact ((if_pos h1).trans ((if_pos h2).trans ((if_neg h5).trans (if_pos h6))))) hx hb hr hlk hS hP hD hK dT_wrap_93
    ·
      refine lv_iload hx hb dT_wrap_30 (lv_at hl 0 rfl) ?_
      refine lv_i2l (v := (Int32.toInt64 (zt_row x g1 g3))) hx hb dT_wrap_32 rfl ?_
      exact kretL (by first | (rw [zt_wrap, if_pos h1, if_neg h2]; done) | exact ((if_pos h1).trans (if_neg h2))) hx hb hr hlk hS hP hD hK dT_wrap_33
  ·
    refine lv_iload hx hb dT_wrap_13 (lv_at hl 0 rfl) ?_
    refine lv_i2l (v := (Int32.toInt64 (zt_row x g1 g2))) hx hb dT_wrap_15 rfl ?_
    exact kretL (by first | (rw [zt_wrap, if_neg h1]; done) | exact (if_neg h1)) hx hb hr hlk hS hP hD hK dT_wrap_16

def zt_unwrap (x : XS) (g1 : Int32) (g2 : Int32) (g3 : Int64) (g4 : Int32) : Int32 × XS := (if 0 ≤ (zt_row x g1 g2) then (if (zt_refusal x g1 g4 (if (zk_has x.2.2.2.2.2.2 (zt_row x g1 g2) 256) = 0 then (0 : Int32) else (if (g4 &&& 128) = 0 then (1 : Int32) else (0 : Int32)))) = 0 then (if (lg_cmp (zlush g3 32) (zt_tagOf (x.2.2.2.2.2.2.2.2.2.2.1 (Int32.toNatClampNeg (zt_row x g1 g2))) (zw_dec (x.2.2.2.2.2.2.2.2.2.2.1 (Int32.toNatClampNeg (zt_row x g1 g2))) (Int64.toInt32 g3)))) = 0 then ((zk_add x.2.2.2.2.2.2 g4 (zw_dec (x.2.2.2.2.2.2.2.2.2.2.1 (Int32.toNatClampNeg (zt_row x g1 g2))) (Int64.toInt32 g3)) g1).1, (x.1, x.2.1, x.2.2.1, x.2.2.2.1, x.2.2.2.2.1, x.2.2.2.2.2.1, (zk_add x.2.2.2.2.2.2 g4 (zw_dec (x.2.2.2.2.2.2.2.2.2.2.1 (Int32.toNatClampNeg (zt_row x g1 g2))) (Int64.toInt32 g3)) g1).2)) else ((-7), x)) else ((zt_refusal x g1 g4 (if (zk_has x.2.2.2.2.2.2 (zt_row x g1 g2) 256) = 0 then (0 : Int32) else (if (g4 &&& 128) = 0 then (1 : Int32) else (0 : Int32)))), x)) else ((zt_row x g1 g2), x))

set_option maxHeartbeats 4000000 in
set_option maxRecDepth 100000 in
theorem kt_unwrap (l : Launch) (D : va_G) (cI cZ : ClassId) (ao au af ak a1 a2 a3 a4 : Nat) (x : XS) (g1 : Int32) (g2 : Int32) (g3 : Int64) (g4 : Int32) (hn : x.2.2.2.2.2.2.1 ≤ 10) : kI l yT_unwrap wsT_unwrap (rmOf 3 69) D (kT cI cZ) [.ref ao, .int g1, .int g2, .long g3, .int g4] (wX cI ao au af ak a1 a2 a3 a4 x) (zt_unwrap x g1 g2 g3 g4).1 (wX cI ao au af ak a1 a2 a3 a4 ((zt_unwrap x g1 g2 g3 g4).2)) := by
  intro sz
  refine kOf (Qc := fun A => kQi D (kT cI cZ) A (zt_unwrap x g1 g2 g3 g4).1 (wX cI ao au af ak a1 a2 a3 a4 ((zt_unwrap x g1 g2 g3 g4).2))) (cc := cT_unwrap) (maxL := 11) (ret := some .int) (by decide) rfl (Nat.le_of_ble_eq_true rfl) ?_ sz
  intro p e s m args below meth c A ls hx hb hml hown hts hNw hr hlk hin hA hS hP hD hK hl
  show W p l e (rmOf 3 69) s m args below meth c s.heap [] 0 0 (MQ below (kQi D (kT cI cZ) A (zt_unwrap x g1 g2 g3 g4).1 (wX cI ao au af ak a1 a2 a3 a4 ((zt_unwrap x g1 g2 g3 g4).2))) args s 0 0 A) (F0 m 0 ls [])
  have hts : ∀ q ∈ lw_g, q.before args s = true := fun q h => hts q (List.mem_cons_of_mem _ h)
  have hown : s.vm.findClass cnT = some m.cls := hown
  have hl : lv_has ls 11 [(0, .ref ao), (1, .int g1), (2, .int g2), (3, .long g3), (5, .int g4)] := hl
  have hP : va_P D vwCl [(ao, .inr (0, [.ref au, .ref af, .ref ak, .int x.2.2.1, .int x.2.2.2.1, .int x.2.2.2.2.1, .int x.2.2.2.2.2.1])), (au, .inr (1, [.int x.1.1, .int x.1.2])), (af, .inr (1, [.int x.2.1.1, .int x.2.1.2])), (ak, .inr (2, [.ref a1, .ref a2, .ref a3, .ref a4, .int (nI x.2.2.2.2.2.2.1), .int x.2.2.2.2.2.2.2.1])), (a1, .inl (cI, 10, .inl x.2.2.2.2.2.2.2.2.1)), (a2, .inl (cI, 10, .inl x.2.2.2.2.2.2.2.2.2.1)), (a3, .inl (cI, 10, .inl x.2.2.2.2.2.2.2.2.2.2.1)), (a4, .inl (cI, 10, .inl x.2.2.2.2.2.2.2.2.2.2.2))] s.heap := hP
  have hD : va_D A [(ao, .inr (0, [.ref au, .ref af, .ref ak, .int x.2.2.1, .int x.2.2.2.1, .int x.2.2.2.2.1, .int x.2.2.2.2.2.1])), (au, .inr (1, [.int x.1.1, .int x.1.2])), (af, .inr (1, [.int x.2.1.1, .int x.2.1.2])), (ak, .inr (2, [.ref a1, .ref a2, .ref a3, .ref a4, .int (nI x.2.2.2.2.2.2.1), .int x.2.2.2.2.2.2.2.1])), (a1, .inl (cI, 10, .inl x.2.2.2.2.2.2.2.2.1)), (a2, .inl (cI, 10, .inl x.2.2.2.2.2.2.2.2.2.1)), (a3, .inl (cI, 10, .inl x.2.2.2.2.2.2.2.2.2.2.1)), (a4, .inl (cI, 10, .inl x.2.2.2.2.2.2.2.2.2.2.2))] := hD
  refine lv_aload_n hx hb dT_unwrap_0 rfl (lv_at hl 0 rfl) ?_
  refine lv_iload_n hx hb dT_unwrap_1 rfl (lv_at hl 1 rfl) ?_
  refine lv_iload_n hx hb dT_unwrap_2 rfl (lv_at hl 2 rfl) ?_
  refine kcI (isR := []) (isC := [0, 1, 2, 3, 4, 5, 6, 7]) (wr := []) (w2 := [(ao, .inr (0, [.ref au, .ref af, .ref ak, .int x.2.2.1, .int x.2.2.2.1, .int x.2.2.2.2.1, .int x.2.2.2.2.2.1])), (au, .inr (1, [.int x.1.1, .int x.1.2])), (af, .inr (1, [.int x.2.1.1, .int x.2.1.2])), (ak, .inr (2, [.ref a1, .ref a2, .ref a3, .ref a4, .int (nI x.2.2.2.2.2.2.1), .int x.2.2.2.2.2.2.2.1])), (a1, .inl (cI, 10, .inl x.2.2.2.2.2.2.2.2.1)), (a2, .inl (cI, 10, .inl x.2.2.2.2.2.2.2.2.2.1)), (a3, .inl (cI, 10, .inl x.2.2.2.2.2.2.2.2.2.2.1)), (a4, .inl (cI, 10, .inl x.2.2.2.2.2.2.2.2.2.2.2))]) (va_runV (As := [.int g1, .int g2]) (rest := []) ⟨hx, hb, hml, hown, hts⟩ (kt_row l D cI cZ ao au af ak a1 a2 a3 a4 x g1 g2 (hn) _) ⟨(callB_of 2 hts gd_yT_rowOrRefusal rfl rfl rfl (hts _ mw24) (hts _ mw193) (by decide +kernel) ⟨Nat.le_of_ble_eq_true rfl, Nat.le_of_ble_eq_true rfl⟩), hts _ mw195, hts _ mw10⟩ (kpreV hNw hP hD hK [0, 1, 2, 3, 4, 5, 6, 7] rfl (by decide) 0 rfl (ci := 0) rfl) rfl rfl hl.1 rfl (lv_room (Nat.le_of_ble_eq_true rfl)) dT_unwrap_3 ⟨Nat.le_of_ble_eq_true rfl, Nat.le_of_ble_eq_true rfl⟩) hP hD hS hA [0, 1, 2, 3, 4, 5, 6, 7] rfl rfl (by decide) (by decide) (by decide) rfl (fun H locs hP hD hS => ?_)
  refine lv_istore hx hb dT_unwrap_6 hl (by decide) rfl (fun ls hl => ?_)
  have hl : lv_has ls 11 [(6, .int (zt_row x g1 g2)), (0, .ref ao), (1, .int g1), (2, .int g2), (3, .long g3), (5, .int g4)] := hl
  refine lv_iload hx hb dT_unwrap_8 (lv_at hl 0 rfl) ?_
  refine lv_if_ge (tgt := 16) hx hb dT_unwrap_10 (by decide) (fun h1 => ?_) (fun h1 => ?_)
  ·
    refine lv_aload_n hx hb dT_unwrap_16 rfl (lv_at hl 1 rfl) ?_
    refine va_get (D := D) (ci := 0) (v := .ref ak) (C := cnT) (T := ftT) (N := 7) hx hb hts inT hown hK hP 0 rfl rfl 2 (by decide) (hts _ mw84) (fun _ h9 => h9) rfl dT_unwrap_17 ?_
    refine lv_iload hx hb dT_unwrap_20 (lv_at hl 0 rfl) ?_
    refine lv_sipush (v := 256) hx hb dT_unwrap_22 (by decide) ?_
    refine kcI (isR := [0, 1, 2]) (isC := [3, 4, 5, 6, 7]) (wr := [(ao, .inr (0, [.ref au, .ref af, .ref ak, .int x.2.2.1, .int x.2.2.2.1, .int x.2.2.2.2.1, .int x.2.2.2.2.2.1])), (au, .inr (1, [.int x.1.1, .int x.1.2])), (af, .inr (1, [.int x.2.1.1, .int x.2.1.2]))]) (w2 := [(ao, .inr (0, [.ref au, .ref af, .ref ak, .int x.2.2.1, .int x.2.2.2.1, .int x.2.2.2.2.1, .int x.2.2.2.2.2.1])), (au, .inr (1, [.int x.1.1, .int x.1.2])), (af, .inr (1, [.int x.2.1.1, .int x.2.1.2])), (ak, .inr (2, [.ref a1, .ref a2, .ref a3, .ref a4, .int (nI x.2.2.2.2.2.2.1), .int x.2.2.2.2.2.2.2.1])), (a1, .inl (cI, 10, .inl x.2.2.2.2.2.2.2.2.1)), (a2, .inl (cI, 10, .inl x.2.2.2.2.2.2.2.2.2.1)), (a3, .inl (cI, 10, .inl x.2.2.2.2.2.2.2.2.2.2.1)), (a4, .inl (cI, 10, .inl x.2.2.2.2.2.2.2.2.2.2.2))]) (va_runVN (As := [.int (zt_row x g1 g2), .int 256]) (rest := []) ⟨hx, hb, hml, hown, hts⟩ (kk_has l D cI cZ ak a1 a2 a3 a4 x.2.2.2.2.2.2 (zt_row x g1 g2) 256 (hn) _) ⟨(va_cnB 2 hts gd_yK_has rfl rfl rfl (hNw _ mw205) (hts _ mw26) (by decide +kernel) ⟨Nat.le_of_ble_eq_true rfl, Nat.le_of_ble_eq_true rfl⟩), hts _ mw142, hts _ mw5⟩ (kpreV hNw hP hD hK [3, 4, 5, 6, 7] rfl (by decide) 3 rfl (ci := 2) rfl) rfl rfl hl.1 rfl (lv_room (Nat.le_of_ble_eq_true rfl)) dT_unwrap_25 ⟨Nat.le_of_ble_eq_true rfl, Nat.le_of_ble_eq_true rfl⟩) hP hD hS hA [0, 1, 2, 3, 4, 5, 6, 7] rfl rfl (by decide) (by decide) (by decide) rfl (fun H locs hP hD hS => ?_)
    refine kJoin (pcJ := 45) (z := (if (zk_has x.2.2.2.2.2.2 (zt_row x g1 g2) 256) = 0 then (0 : Int32) else (if (g4 &&& 128) = 0 then (1 : Int32) else (0 : Int32)))) (ws := [(ao, .inr (0, [.ref au, .ref af, .ref ak, .int x.2.2.1, .int x.2.2.2.1, .int x.2.2.2.2.1, .int x.2.2.2.2.2.1])), (au, .inr (1, [.int x.1.1, .int x.1.2])), (af, .inr (1, [.int x.2.1.1, .int x.2.1.2])), (ak, .inr (2, [.ref a1, .ref a2, .ref a3, .ref a4, .int (nI x.2.2.2.2.2.2.1), .int x.2.2.2.2.2.2.2.1])), (a1, .inl (cI, 10, .inl x.2.2.2.2.2.2.2.2.1)), (a2, .inl (cI, 10, .inl x.2.2.2.2.2.2.2.2.2.1)), (a3, .inl (cI, 10, .inl x.2.2.2.2.2.2.2.2.2.2.1)), (a4, .inl (cI, 10, .inl x.2.2.2.2.2.2.2.2.2.2.2))]) (rest := []) (D := D) (A := A) (H0 := s.heap) (fun J45 => ?_) (fun H locs hP hD hS => ?_)
    ·
      refine lv_if_eq (tgt := 44) hx hb dT_unwrap_28 (by decide) (fun h2 => ?_) (fun h2 => ?_)
      ·
        refine lv_iconst (v := 0) hx hb dT_unwrap_44 (by decide) ?_
        exact J45 _ _ hP hD hS _ ((if_pos h2).symm)
      ·
        refine lv_iload hx hb dT_unwrap_31 (lv_at hl 5 rfl) ?_
        refine lv_sipush (v := 128) hx hb dT_unwrap_33 (by decide) ?_
        refine lv_iand hx hb dT_unwrap_36 ?_
        refine lv_if_ne (tgt := 44) hx hb dT_unwrap_37 (by decide) (fun h3 => ?_) (fun h3 => ?_)
        ·
          refine lv_iconst (v := 0) hx hb dT_unwrap_44 (by decide) ?_
          exact J45 _ _ hP hD hS _ (((if_neg h2).trans (if_neg h3)).symm)
        ·
          refine lv_iconst (v := 1) hx hb dT_unwrap_40 (by decide) ?_
          refine lv_goto hx hb dT_unwrap_41 (tgt := 45) (by decide) ?_
          exact J45 _ _ hP hD hS _ (((if_neg h2).trans (if_pos h3)).symm)
    refine lv_istore hx hb dT_unwrap_45 hl (by decide) rfl (fun ls hl => ?_)
    have hl : lv_has ls 11 [(7, .int (if (zk_has x.2.2.2.2.2.2 (zt_row x g1 g2) 256) = 0 then (0 : Int32) else (if (g4 &&& 128) = 0 then (1 : Int32) else (0 : Int32)))), (6, .int (zt_row x g1 g2)), (0, .ref ao), (1, .int g1), (2, .int g2), (3, .long g3), (5, .int g4)] := hl
    refine lv_aload_n hx hb dT_unwrap_47 rfl (lv_at hl 2 rfl) ?_
    refine lv_iload_n hx hb dT_unwrap_48 rfl (lv_at hl 3 rfl) ?_
    refine lv_iload hx hb dT_unwrap_49 (lv_at hl 6 rfl) ?_
    refine lv_iload hx hb dT_unwrap_51 (lv_at hl 0 rfl) ?_
    refine kcI (isR := []) (isC := [0, 1, 2, 3, 4, 5, 6, 7]) (wr := []) (w2 := [(ao, .inr (0, [.ref au, .ref af, .ref ak, .int x.2.2.1, .int x.2.2.2.1, .int x.2.2.2.2.1, .int x.2.2.2.2.2.1])), (au, .inr (1, [.int x.1.1, .int x.1.2])), (af, .inr (1, [.int x.2.1.1, .int x.2.1.2])), (ak, .inr (2, [.ref a1, .ref a2, .ref a3, .ref a4, .int (nI x.2.2.2.2.2.2.1), .int x.2.2.2.2.2.2.2.1])), (a1, .inl (cI, 10, .inl x.2.2.2.2.2.2.2.2.1)), (a2, .inl (cI, 10, .inl x.2.2.2.2.2.2.2.2.2.1)), (a3, .inl (cI, 10, .inl x.2.2.2.2.2.2.2.2.2.2.1)), (a4, .inl (cI, 10, .inl x.2.2.2.2.2.2.2.2.2.2.2))]) (va_runV (As := [.int g1, .int g4, .int (if (zk_has x.2.2.2.2.2.2 (zt_row x g1 g2) 256) = 0 then (0 : Int32) else (if (g4 &&& 128) = 0 then (1 : Int32) else (0 : Int32)))]) (rest := []) ⟨hx, hb, hml, hown, hts⟩ (kt_refusal l D cI cZ ao au af ak a1 a2 a3 a4 x g1 g4 (if (zk_has x.2.2.2.2.2.2 (zt_row x g1 g2) 256) = 0 then (0 : Int32) else (if (g4 &&& 128) = 0 then (1 : Int32) else (0 : Int32))) (hn) _) ⟨(callB_of 3 hts gd_yT_refusalToMake rfl rfl rfl (hts _ mw24) (hts _ mw156) (by decide +kernel) ⟨Nat.le_of_ble_eq_true rfl, Nat.le_of_ble_eq_true rfl⟩), hts _ mw158, hts _ mw7⟩ (kpreV hNw hP hD hK [0, 1, 2, 3, 4, 5, 6, 7] rfl (by decide) 0 rfl (ci := 0) rfl) rfl rfl hl.1 rfl (lv_room (Nat.le_of_ble_eq_true rfl)) dT_unwrap_53 ⟨Nat.le_of_ble_eq_true rfl, Nat.le_of_ble_eq_true rfl⟩) hP hD hS hA [0, 1, 2, 3, 4, 5, 6, 7] rfl rfl (by decide) (by decide) (by decide) rfl (fun H locs hP hD hS => ?_)
    refine lv_istore hx hb dT_unwrap_56 hl (by decide) rfl (fun ls hl => ?_)
    have hl : lv_has ls 11 [(8, .int (zt_refusal x g1 g4 (if (zk_has x.2.2.2.2.2.2 (zt_row x g1 g2) 256) = 0 then (0 : Int32) else (if (g4 &&& 128) = 0 then (1 : Int32) else (0 : Int32))))), (7, .int (if (zk_has x.2.2.2.2.2.2 (zt_row x g1 g2) 256) = 0 then (0 : Int32) else (if (g4 &&& 128) = 0 then (1 : Int32) else (0 : Int32)))), (6, .int (zt_row x g1 g2)), (0, .ref ao), (1, .int g1), (2, .int g2), (3, .long g3), (5, .int g4)] := hl
    refine lv_iload hx hb dT_unwrap_58 (lv_at hl 0 rfl) ?_
    refine lv_if_eq (tgt := 66) hx hb dT_unwrap_60 (by decide) (fun h4 => ?_) (fun h4 => ?_)
    ·
      refine lv_aload_n hx hb dT_unwrap_66 rfl (lv_at hl 3 rfl) ?_
      refine va_get (D := D) (ci := 0) (v := .ref ak) (C := cnT) (T := ftT) (N := 7) hx hb hts inT hown hK hP 0 rfl rfl 2 (by decide) (hts _ mw84) (fun _ h9 => h9) rfl dT_unwrap_67 ?_
      refine va_getN (D := D) (ci := 2) (v := .ref a3) (C := cnK) (T := ftK) (N := 6) hx hb hts inK hown hK hP 3 rfl rfl 2 (by decide) (va_Nw.use rfl (hNw _ mw62)) (fun _ h9 => h9) rfl dT_unwrap_70 ?_
      refine lv_iload hx hb dT_unwrap_73 (lv_at hl 2 rfl) ?_
      refine va_iald hx hb hK hP 6 0 rfl rfl (zt_row_in hn h1) dT_unwrap_75 ?_
      refine lv_istore hx hb dT_unwrap_76 hl (by decide) rfl (fun ls hl => ?_)
      have hl : lv_has ls 11 [(9, .int (x.2.2.2.2.2.2.2.2.2.2.1 (Int32.toNatClampNeg (zt_row x g1 g2)))), (8, .int (zt_refusal x g1 g4 (if (zk_has x.2.2.2.2.2.2 (zt_row x g1 g2) 256) = 0 then (0 : Int32) else (if (g4 &&& 128) = 0 then (1 : Int32) else (0 : Int32))))), (7, .int (if (zk_has x.2.2.2.2.2.2 (zt_row x g1 g2) 256) = 0 then (0 : Int32) else (if (g4 &&& 128) = 0 then (1 : Int32) else (0 : Int32)))), (6, .int (zt_row x g1 g2)), (0, .ref ao), (1, .int g1), (2, .int g2), (3, .long g3), (5, .int g4)] := hl
      refine lv_iload hx hb dT_unwrap_78 (lv_at hl 0 rfl) ?_
      refine lv_lload_n hx hb dT_unwrap_80 rfl (lv_at hl 7 rfl) ?_
      refine lv_l2i (v := (Int64.toInt32 g3)) hx hb dT_unwrap_81 rfl ?_
      refine kcI (isR := [0, 1, 2, 3, 4, 5, 6, 7]) (isC := []) (wr := [(ao, .inr (0, [.ref au, .ref af, .ref ak, .int x.2.2.1, .int x.2.2.2.1, .int x.2.2.2.2.1, .int x.2.2.2.2.2.1])), (au, .inr (1, [.int x.1.1, .int x.1.2])), (af, .inr (1, [.int x.2.1.1, .int x.2.1.2])), (ak, .inr (2, [.ref a1, .ref a2, .ref a3, .ref a4, .int (nI x.2.2.2.2.2.2.1), .int x.2.2.2.2.2.2.2.1])), (a1, .inl (cI, 10, .inl x.2.2.2.2.2.2.2.2.1)), (a2, .inl (cI, 10, .inl x.2.2.2.2.2.2.2.2.2.1)), (a3, .inl (cI, 10, .inl x.2.2.2.2.2.2.2.2.2.2.1)), (a4, .inl (cI, 10, .inl x.2.2.2.2.2.2.2.2.2.2.2))]) (w2 := [(ao, .inr (0, [.ref au, .ref af, .ref ak, .int x.2.2.1, .int x.2.2.2.1, .int x.2.2.2.2.1, .int x.2.2.2.2.2.1])), (au, .inr (1, [.int x.1.1, .int x.1.2])), (af, .inr (1, [.int x.2.1.1, .int x.2.1.2])), (ak, .inr (2, [.ref a1, .ref a2, .ref a3, .ref a4, .int (nI x.2.2.2.2.2.2.1), .int x.2.2.2.2.2.2.2.1])), (a1, .inl (cI, 10, .inl x.2.2.2.2.2.2.2.2.1)), (a2, .inl (cI, 10, .inl x.2.2.2.2.2.2.2.2.2.1)), (a3, .inl (cI, 10, .inl x.2.2.2.2.2.2.2.2.2.2.1)), (a4, .inl (cI, 10, .inl x.2.2.2.2.2.2.2.2.2.2.2))]) (va_runSN (As := [.int (x.2.2.2.2.2.2.2.2.2.2.1 (Int32.toNatClampNeg (zt_row x g1 g2))), .int (Int64.toInt32 g3)]) (rest := []) ⟨hx, hb, hml, hown, hts⟩ (kw_dec l D cI cZ (x.2.2.2.2.2.2.2.2.2.2.1 (Int32.toNatClampNeg (zt_row x g1 g2))) (Int64.toInt32 g3) _) ⟨(va_cnB 2 hts gd_yW_dec rfl rfl rfl (hNw _ mw253) (hts _ mw28) (by decide +kernel) ⟨Nat.le_of_ble_eq_true rfl, Nat.le_of_ble_eq_true rfl⟩), hts _ mw254, trivial⟩ (kpreS hNw hP hD hK [] rfl (by decide)) rfl rfl hl.1 rfl (lv_room (Nat.le_of_ble_eq_true rfl)) dT_unwrap_82 ⟨Nat.le_of_ble_eq_true rfl, Nat.le_of_ble_eq_true rfl⟩) hP hD hS hA [0, 1, 2, 3, 4, 5, 6, 7] rfl rfl (by decide) (by decide) (by decide) rfl (fun H locs hP hD hS => ?_)
      refine lv_istore hx hb dT_unwrap_85 hl (by decide) rfl (fun ls hl => ?_)
      have hl : lv_has ls 11 [(10, .int (zw_dec (x.2.2.2.2.2.2.2.2.2.2.1 (Int32.toNatClampNeg (zt_row x g1 g2))) (Int64.toInt32 g3))), (9, .int (x.2.2.2.2.2.2.2.2.2.2.1 (Int32.toNatClampNeg (zt_row x g1 g2)))), (8, .int (zt_refusal x g1 g4 (if (zk_has x.2.2.2.2.2.2 (zt_row x g1 g2) 256) = 0 then (0 : Int32) else (if (g4 &&& 128) = 0 then (1 : Int32) else (0 : Int32))))), (7, .int (if (zk_has x.2.2.2.2.2.2 (zt_row x g1 g2) 256) = 0 then (0 : Int32) else (if (g4 &&& 128) = 0 then (1 : Int32) else (0 : Int32)))), (6, .int (zt_row x g1 g2)), (0, .ref ao), (1, .int g1), (2, .int g2), (3, .long g3), (5, .int g4)] := hl
      refine lv_lload_n hx hb dT_unwrap_87 rfl (lv_at hl 8 rfl) ?_
      refine lv_bipush (v := 32) hx hb dT_unwrap_88 (by decide) ?_
      refine lv_lushr (v := (zlush g3 32)) hx hb dT_unwrap_90 rfl ?_
      refine lv_iload hx hb dT_unwrap_91 (lv_at hl 1 rfl) ?_
      refine lv_iload hx hb dT_unwrap_93 (lv_at hl 0 rfl) ?_
      refine kcL (isR := [0, 1, 2, 3, 4, 5, 6, 7]) (isC := []) (wr := [(ao, .inr (0, [.ref au, .ref af, .ref ak, .int x.2.2.1, .int x.2.2.2.1, .int x.2.2.2.2.1, .int x.2.2.2.2.2.1])), (au, .inr (1, [.int x.1.1, .int x.1.2])), (af, .inr (1, [.int x.2.1.1, .int x.2.1.2])), (ak, .inr (2, [.ref a1, .ref a2, .ref a3, .ref a4, .int (nI x.2.2.2.2.2.2.1), .int x.2.2.2.2.2.2.2.1])), (a1, .inl (cI, 10, .inl x.2.2.2.2.2.2.2.2.1)), (a2, .inl (cI, 10, .inl x.2.2.2.2.2.2.2.2.2.1)), (a3, .inl (cI, 10, .inl x.2.2.2.2.2.2.2.2.2.2.1)), (a4, .inl (cI, 10, .inl x.2.2.2.2.2.2.2.2.2.2.2))]) (w2 := [(ao, .inr (0, [.ref au, .ref af, .ref ak, .int x.2.2.1, .int x.2.2.2.1, .int x.2.2.2.2.1, .int x.2.2.2.2.2.1])), (au, .inr (1, [.int x.1.1, .int x.1.2])), (af, .inr (1, [.int x.2.1.1, .int x.2.1.2])), (ak, .inr (2, [.ref a1, .ref a2, .ref a3, .ref a4, .int (nI x.2.2.2.2.2.2.1), .int x.2.2.2.2.2.2.2.1])), (a1, .inl (cI, 10, .inl x.2.2.2.2.2.2.2.2.1)), (a2, .inl (cI, 10, .inl x.2.2.2.2.2.2.2.2.2.1)), (a3, .inl (cI, 10, .inl x.2.2.2.2.2.2.2.2.2.2.1)), (a4, .inl (cI, 10, .inl x.2.2.2.2.2.2.2.2.2.2.2))]) (va_runS (As := [.int (x.2.2.2.2.2.2.2.2.2.2.1 (Int32.toNatClampNeg (zt_row x g1 g2))), .int (zw_dec (x.2.2.2.2.2.2.2.2.2.2.1 (Int32.toNatClampNeg (zt_row x g1 g2))) (Int64.toInt32 g3))]) (rest := [.long (zlush g3 32)]) ⟨hx, hb, hml, hown, hts⟩ (kt_tagOf l D cI cZ (x.2.2.2.2.2.2.2.2.2.2.1 (Int32.toNatClampNeg (zt_row x g1 g2))) (zw_dec (x.2.2.2.2.2.2.2.2.2.2.1 (Int32.toNatClampNeg (zt_row x g1 g2))) (Int64.toInt32 g3)) _) ⟨(callB_of 2 hts gd_yT_tagOf rfl rfl rfl (hts _ mw24) (hts _ mw264) (by decide +kernel) ⟨Nat.le_of_ble_eq_true rfl, Nat.le_of_ble_eq_true rfl⟩), hts _ mw265⟩ (kpreS hNw hP hD hK [] rfl (by decide)) rfl rfl hl.1 rfl (lv_room (Nat.le_of_ble_eq_true rfl)) dT_unwrap_95 ⟨Nat.le_of_ble_eq_true rfl, Nat.le_of_ble_eq_true rfl⟩) hP hD hS hA [0, 1, 2, 3, 4, 5, 6, 7] rfl rfl (by decide) (by decide) (by decide) rfl (fun H locs hP hD hS => ?_)
      refine W.lcmp hx hb dT_unwrap_98 ?_
      refine lv_if_eq (tgt := 105) hx hb dT_unwrap_99 (by decide) (fun h5 => ?_) (fun h5 => ?_)
      ·
        refine lv_aload_n hx hb dT_unwrap_105 rfl (lv_at hl 5 rfl) ?_
        refine va_get (D := D) (ci := 0) (v := .ref ak) (C := cnT) (T := ftT) (N := 7) hx hb hts inT hown hK hP 0 rfl rfl 2 (by decide) (hts _ mw84) (fun _ h9 => h9) rfl dT_unwrap_106 ?_
        refine lv_iload hx hb dT_unwrap_109 (lv_at hl 9 rfl) ?_
        refine lv_iload hx hb dT_unwrap_111 (lv_at hl 0 rfl) ?_
        refine lv_iload_n hx hb dT_unwrap_113 rfl (lv_at hl 6 rfl) ?_
        refine kcI (isR := [0, 1, 2]) (isC := [3, 4, 5, 6, 7]) (wr := [(ao, .inr (0, [.ref au, .ref af, .ref ak, .int x.2.2.1, .int x.2.2.2.1, .int x.2.2.2.2.1, .int x.2.2.2.2.2.1])), (au, .inr (1, [.int x.1.1, .int x.1.2])), (af, .inr (1, [.int x.2.1.1, .int x.2.1.2]))]) (w2 := [(ao, .inr (0, [.ref au, .ref af, .ref ak, .int x.2.2.1, .int x.2.2.2.1, .int x.2.2.2.2.1, .int x.2.2.2.2.2.1])), (au, .inr (1, [.int x.1.1, .int x.1.2])), (af, .inr (1, [.int x.2.1.1, .int x.2.1.2])), (ak, .inr (2, [.ref a1, .ref a2, .ref a3, .ref a4, .int (nI (zk_add x.2.2.2.2.2.2 g4 (zw_dec (x.2.2.2.2.2.2.2.2.2.2.1 (Int32.toNatClampNeg (zt_row x g1 g2))) (Int64.toInt32 g3)) g1).2.1), .int ((zk_add x.2.2.2.2.2.2 g4 (zw_dec (x.2.2.2.2.2.2.2.2.2.2.1 (Int32.toNatClampNeg (zt_row x g1 g2))) (Int64.toInt32 g3)) g1).2.2.1)])), (a1, .inl (cI, 10, .inl ((zk_add x.2.2.2.2.2.2 g4 (zw_dec (x.2.2.2.2.2.2.2.2.2.2.1 (Int32.toNatClampNeg (zt_row x g1 g2))) (Int64.toInt32 g3)) g1).2.2.2.1))), (a2, .inl (cI, 10, .inl ((zk_add x.2.2.2.2.2.2 g4 (zw_dec (x.2.2.2.2.2.2.2.2.2.2.1 (Int32.toNatClampNeg (zt_row x g1 g2))) (Int64.toInt32 g3)) g1).2.2.2.2.1))), (a3, .inl (cI, 10, .inl ((zk_add x.2.2.2.2.2.2 g4 (zw_dec (x.2.2.2.2.2.2.2.2.2.2.1 (Int32.toNatClampNeg (zt_row x g1 g2))) (Int64.toInt32 g3)) g1).2.2.2.2.2.1))), (a4, .inl (cI, 10, .inl ((zk_add x.2.2.2.2.2.2 g4 (zw_dec (x.2.2.2.2.2.2.2.2.2.2.1 (Int32.toNatClampNeg (zt_row x g1 g2))) (Int64.toInt32 g3)) g1).2.2.2.2.2.2)))]) (va_runVN (As := [.int g4, .int (zw_dec (x.2.2.2.2.2.2.2.2.2.2.1 (Int32.toNatClampNeg (zt_row x g1 g2))) (Int64.toInt32 g3)), .int g1]) (rest := []) ⟨hx, hb, hml, hown, hts⟩ (kk_add l D cI cZ ak a1 a2 a3 a4 x.2.2.2.2.2.2 g4 (zw_dec (x.2.2.2.2.2.2.2.2.2.2.1 (Int32.toNatClampNeg (zt_row x g1 g2))) (Int64.toInt32 g3)) g1 (hn) _) ⟨(va_cnB 3 hts gd_yK_add rfl rfl rfl (hNw _ mw170) (hts _ mw26) (by decide +kernel) ⟨Nat.le_of_ble_eq_true rfl, Nat.le_of_ble_eq_true rfl⟩), hts _ mw172, hts _ mw9⟩ (kpreV hNw hP hD hK [3, 4, 5, 6, 7] rfl (by decide) 3 rfl (ci := 2) rfl) rfl rfl hl.1 rfl (lv_room (Nat.le_of_ble_eq_true rfl)) dT_unwrap_114 ⟨Nat.le_of_ble_eq_true rfl, Nat.le_of_ble_eq_true rfl⟩) hP hD hS hA [0, 1, 2, 3, 4, 5, 6, 7] rfl rfl (by decide) (by decide) (by decide) rfl (fun H locs hP hD hS => ?_)
        exact kretI (wf := fun st => wX cI ao au af ak a1 a2 a3 a4 st) (st := (x.1, x.2.1, x.2.2.1, x.2.2.2.1, x.2.2.2.2.1, x.2.2.2.2.2.1, (zk_add x.2.2.2.2.2.2 g4 (zw_dec (x.2.2.2.2.2.2.2.2.2.2.1 (Int32.toNatClampNeg (zt_row x g1 g2))) (Int64.toInt32 g3)) g1).2)) (by first | (rw [zt_unwrap, if_pos h1, if_pos h4, if_pos h5]; done) | exact ((if_pos h1).trans ((if_pos h4).trans (if_pos h5)))) hx hb hr hlk hS hP hD hK dT_unwrap_117
      ·
        refine lv_bipush (v := (-7)) hx hb dT_unwrap_102 (by decide) ?_
        exact kretI (wf := fun st => wX cI ao au af ak a1 a2 a3 a4 st) (st := x) (by first | (rw [zt_unwrap, if_pos h1, if_pos h4, if_neg h5]; done) | exact ((if_pos h1).trans ((if_pos h4).trans (if_neg h5)))) hx hb hr hlk hS hP hD hK dT_unwrap_104
    ·
      refine lv_iload hx hb dT_unwrap_63 (lv_at hl 0 rfl) ?_
      exact kretI (wf := fun st => wX cI ao au af ak a1 a2 a3 a4 st) (st := x) (by first | (rw [zt_unwrap, if_pos h1, if_neg h4]; done) | exact ((if_pos h1).trans (if_neg h4))) hx hb hr hlk hS hP hD hK dT_unwrap_65
  ·
    refine lv_iload hx hb dT_unwrap_13 (lv_at hl 0 rfl) ?_
    exact kretI (wf := fun st => wX cI ao au af ak a1 a2 a3 a4 st) (st := x) (by first | (rw [zt_unwrap, if_neg h1]; done) | exact (if_neg h1)) hx hb hr hlk hS hP hD hK dT_unwrap_15

def zt_fnd (x : XS) (k : Int32) : Nat → Nat → Int32 → Int32
  | 0, _, _ => 0
  | f + 1, i, b => if zt_isVisible x (nI i) = 0 then zt_fnd x k f (i + 1) b else if b = k then x.2.2.2.2.2.2.2.2.1 i else zt_fnd x k f (i + 1) (b + 1)
def zt_find (x : XS) (g1 g2 : Int32) : Int32 := if zt_isOpen x g1 = 0 then (-1) else zt_fnd x g2 x.2.2.2.2.2.2.1 0 0

set_option maxHeartbeats 4000000 in
set_option maxRecDepth 100000 in
theorem kt_find (l : Launch) (D : va_G) (cI cZ : ClassId) (ao au af ak a1 a2 a3 a4 : Nat) (x : XS) (g1 : Int32) (g2 : Int32) (hn : x.2.2.2.2.2.2.1 ≤ 10) : kI l yT_find wsT_find (rmOf 2 43) D (kT cI cZ) [.ref ao, .int g1, .int g2] (wX cI ao au af ak a1 a2 a3 a4 x) (zt_find x g1 g2) (wX cI ao au af ak a1 a2 a3 a4 x) := by
  intro sz
  refine kOf (Qc := fun A => kQi D (kT cI cZ) A (zt_find x g1 g2) (wX cI ao au af ak a1 a2 a3 a4 x)) (cc := cT_find) (maxL := 5) (ret := some .int) (by decide) rfl (Nat.le_of_ble_eq_true rfl) ?_ sz
  intro p e s m args below meth c A ls hx hb hml hown hts hNw hr hlk hin hA hS hP hD hK hl
  show W p l e (rmOf 2 43) s m args below meth c s.heap [] 0 0 (MQ below (kQi D (kT cI cZ) A (zt_find x g1 g2) (wX cI ao au af ak a1 a2 a3 a4 x)) args s 0 0 A) (F0 m 0 ls [])
  have hts : ∀ q ∈ lw_g, q.before args s = true := fun q h => hts q (List.mem_cons_of_mem _ h)
  have hown : s.vm.findClass cnT = some m.cls := hown
  have hl : lv_has ls 5 [(0, .ref ao), (1, .int g1), (2, .int g2)] := hl
  have hP : va_P D vwCl [(ao, .inr (0, [.ref au, .ref af, .ref ak, .int x.2.2.1, .int x.2.2.2.1, .int x.2.2.2.2.1, .int x.2.2.2.2.2.1])), (au, .inr (1, [.int x.1.1, .int x.1.2])), (af, .inr (1, [.int x.2.1.1, .int x.2.1.2])), (ak, .inr (2, [.ref a1, .ref a2, .ref a3, .ref a4, .int (nI x.2.2.2.2.2.2.1), .int x.2.2.2.2.2.2.2.1])), (a1, .inl (cI, 10, .inl x.2.2.2.2.2.2.2.2.1)), (a2, .inl (cI, 10, .inl x.2.2.2.2.2.2.2.2.2.1)), (a3, .inl (cI, 10, .inl x.2.2.2.2.2.2.2.2.2.2.1)), (a4, .inl (cI, 10, .inl x.2.2.2.2.2.2.2.2.2.2.2))] s.heap := hP
  have hD : va_D A [(ao, .inr (0, [.ref au, .ref af, .ref ak, .int x.2.2.1, .int x.2.2.2.1, .int x.2.2.2.2.1, .int x.2.2.2.2.2.1])), (au, .inr (1, [.int x.1.1, .int x.1.2])), (af, .inr (1, [.int x.2.1.1, .int x.2.1.2])), (ak, .inr (2, [.ref a1, .ref a2, .ref a3, .ref a4, .int (nI x.2.2.2.2.2.2.1), .int x.2.2.2.2.2.2.2.1])), (a1, .inl (cI, 10, .inl x.2.2.2.2.2.2.2.2.1)), (a2, .inl (cI, 10, .inl x.2.2.2.2.2.2.2.2.2.1)), (a3, .inl (cI, 10, .inl x.2.2.2.2.2.2.2.2.2.2.1)), (a4, .inl (cI, 10, .inl x.2.2.2.2.2.2.2.2.2.2.2))] := hD
  have L : ∀ (f : Nat) (i : Nat) (b : Int32) (ls : Array Slot) (H : Heap) (locs : List Loc), (i + f = x.2.2.2.2.2.2.1) → (zt_find x g1 g2 = zt_fnd x g2 f i b) → lv_has ls 5 [(4, .int (nI i)), (3, .int b), (0, .ref ao), (1, .int g1), (2, .int g2)] → va_P D vwCl [(ao, .inr (0, [.ref au, .ref af, .ref ak, .int x.2.2.1, .int x.2.2.2.1, .int x.2.2.2.2.1, .int x.2.2.2.2.2.1])), (au, .inr (1, [.int x.1.1, .int x.1.2])), (af, .inr (1, [.int x.2.1.1, .int x.2.1.2])), (ak, .inr (2, [.ref a1, .ref a2, .ref a3, .ref a4, .int (nI x.2.2.2.2.2.2.1), .int x.2.2.2.2.2.2.2.1])), (a1, .inl (cI, 10, .inl x.2.2.2.2.2.2.2.2.1)), (a2, .inl (cI, 10, .inl x.2.2.2.2.2.2.2.2.2.1)), (a3, .inl (cI, 10, .inl x.2.2.2.2.2.2.2.2.2.2.1)), (a4, .inl (cI, 10, .inl x.2.2.2.2.2.2.2.2.2.2.2))] H → va_D A [(ao, .inr (0, [.ref au, .ref af, .ref ak, .int x.2.2.1, .int x.2.2.2.1, .int x.2.2.2.2.1, .int x.2.2.2.2.2.1])), (au, .inr (1, [.int x.1.1, .int x.1.2])), (af, .inr (1, [.int x.2.1.1, .int x.2.1.2])), (ak, .inr (2, [.ref a1, .ref a2, .ref a3, .ref a4, .int (nI x.2.2.2.2.2.2.1), .int x.2.2.2.2.2.2.2.1])), (a1, .inl (cI, 10, .inl x.2.2.2.2.2.2.2.2.1)), (a2, .inl (cI, 10, .inl x.2.2.2.2.2.2.2.2.2.1)), (a3, .inl (cI, 10, .inl x.2.2.2.2.2.2.2.2.2.2.1)), (a4, .inl (cI, 10, .inl x.2.2.2.2.2.2.2.2.2.2.2))] → va_S A s.heap H locs → W p l e (rmOf 2 43) s m args below meth c H locs 0 0 (MQ below (kQi D (kT cI cZ) A (zt_find x g1 g2) (wX cI ao au af ak a1 a2 a3 a4 x)) args s 0 0 A) (F0 m 15 ls []) := by
    intro f
    induction f with
    | zero =>
      intro i b ls H locs hf he hl hP hD hS
      refine lv_iload hx hb dT_find_15 (lv_at hl 0 rfl) ?_
      refine lv_aload_n hx hb dT_find_17 rfl (lv_at hl 2 rfl) ?_
      refine va_get (D := D) (ci := 0) (v := .ref ak) (C := cnT) (T := ftT) (N := 7) hx hb hts inT hown hK hP 0 rfl rfl 2 (by decide) (hts _ mw84) (fun _ h9 => h9) rfl dT_find_18 ?_
      refine va_getN (D := D) (ci := 2) (v := .int (nI x.2.2.2.2.2.2.1)) (C := cnK) (T := ftK) (N := 6) hx hb hts inK hown hK hP 3 rfl rfl 4 (by decide) (va_Nw.use rfl (hNw _ mw65)) (fun _ h9 => h9) rfl dT_find_21 ?_
      refine lv_icmp_ge (tgt := 61) hx hb dT_find_24 (by decide) (fun _ => ?_) (fun h => absurd (nI_le (by omega) (by omega)) h)
      refine lv_iconst (v := 0) hx hb dT_find_61 (by decide) ?_
      exact kretP (he) hx hb hr hlk hS hP hD hK dT_find_62
    | succ f ih =>
      intro i b ls H locs hf he hl hP hD hS
      refine lv_iload hx hb dT_find_15 (lv_at hl 0 rfl) ?_
      refine lv_aload_n hx hb dT_find_17 rfl (lv_at hl 2 rfl) ?_
      refine va_get (D := D) (ci := 0) (v := .ref ak) (C := cnT) (T := ftT) (N := 7) hx hb hts inT hown hK hP 0 rfl rfl 2 (by decide) (hts _ mw84) (fun _ h9 => h9) rfl dT_find_18 ?_
      refine va_getN (D := D) (ci := 2) (v := .int (nI x.2.2.2.2.2.2.1)) (C := cnK) (T := ftK) (N := 6) hx hb hts inK hown hK hP 3 rfl rfl 4 (by decide) (va_Nw.use rfl (hNw _ mw65)) (fun _ h9 => h9) rfl dT_find_21 ?_
      refine lv_icmp_ge (tgt := 61) hx hb dT_find_24 (by decide) (fun h => absurd h (nI_ge (by omega) (by omega))) (fun _ => ?_)
      refine lv_aload_n hx hb dT_find_27 rfl (lv_at hl 2 rfl) ?_
      refine lv_iload hx hb dT_find_28 (lv_at hl 0 rfl) ?_
      refine kcI (isR := []) (isC := [0, 1, 2, 3, 4, 5, 6, 7]) (wr := []) (w2 := [(ao, .inr (0, [.ref au, .ref af, .ref ak, .int x.2.2.1, .int x.2.2.2.1, .int x.2.2.2.2.1, .int x.2.2.2.2.2.1])), (au, .inr (1, [.int x.1.1, .int x.1.2])), (af, .inr (1, [.int x.2.1.1, .int x.2.1.2])), (ak, .inr (2, [.ref a1, .ref a2, .ref a3, .ref a4, .int (nI x.2.2.2.2.2.2.1), .int x.2.2.2.2.2.2.2.1])), (a1, .inl (cI, 10, .inl x.2.2.2.2.2.2.2.2.1)), (a2, .inl (cI, 10, .inl x.2.2.2.2.2.2.2.2.2.1)), (a3, .inl (cI, 10, .inl x.2.2.2.2.2.2.2.2.2.2.1)), (a4, .inl (cI, 10, .inl x.2.2.2.2.2.2.2.2.2.2.2))]) (va_runV (As := [.int (nI i)]) (rest := []) ⟨hx, hb, hml, hown, hts⟩ (kt_isVisible l D cI cZ ao au af ak a1 a2 a3 a4 x (nI i) (hn) _) ⟨(callB_of 1 hts gd_yT_isVisible rfl rfl rfl (hts _ mw24) (hts _ mw201) (by decide +kernel) ⟨Nat.le_of_ble_eq_true rfl, Nat.le_of_ble_eq_true rfl⟩), hts _ mw203, hts _ mw12⟩ (kpreV hNw hP hD hK [0, 1, 2, 3, 4, 5, 6, 7] rfl (by decide) 0 rfl (ci := 0) rfl) rfl rfl hl.1 rfl (lv_room (Nat.le_of_ble_eq_true rfl)) dT_find_30 ⟨Nat.le_of_ble_eq_true rfl, Nat.le_of_ble_eq_true rfl⟩) hP hD hS hA [0, 1, 2, 3, 4, 5, 6, 7] rfl rfl (by decide) (by decide) (by decide) rfl (fun H locs hP hD hS => ?_)
      refine lv_if_eq (tgt := 55) hx hb dT_find_33 (by decide) (fun h1 => ?_) (fun h1 => ?_)
      ·
        refine lv_iinc (k := 0) (v := (nI (i + 1))) hx hb dT_find_55 hl rfl (kincN1 _) (by decide) rfl (fun ls hl => ?_)
        have hl : lv_has ls 5 [(4, .int (nI (i + 1))), (3, .int b), (0, .ref ao), (1, .int g1), (2, .int g2)] := hl
        refine lv_goto hx hb dT_find_58 (tgt := 15) (by decide) ?_
        exact ih (i + 1) b _ _ _ (by omega) (by rw [he, zt_fnd, if_pos h1]) (lv_sub hl [0, 1, 2, 3, 4] rfl) hP hD hS
      ·
        refine lv_iload_n hx hb dT_find_36 rfl (lv_at hl 1 rfl) ?_
        refine lv_iload_n hx hb dT_find_37 rfl (lv_at hl 4 rfl) ?_
        refine lv_icmp_ne (tgt := 52) hx hb dT_find_38 (by decide) (fun h2 => ?_) (fun h2 => ?_)
        ·
          refine lv_iinc (k := 1) (v := (b + 1)) hx hb dT_find_52 hl rfl (kinc1 _) (by decide) rfl (fun ls hl => ?_)
          have hl : lv_has ls 5 [(3, .int (b + 1)), (4, .int (nI i)), (0, .ref ao), (1, .int g1), (2, .int g2)] := hl
          refine lv_iinc (k := 1) (v := (nI (i + 1))) hx hb dT_find_55 hl rfl (kincN1 _) (by decide) rfl (fun ls hl => ?_)
          have hl : lv_has ls 5 [(4, .int (nI (i + 1))), (3, .int (b + 1)), (0, .ref ao), (1, .int g1), (2, .int g2)] := hl
          refine lv_goto hx hb dT_find_58 (tgt := 15) (by decide) ?_
          exact ih (i + 1) (b + 1) _ _ _ (by omega) (by rw [he, zt_fnd, if_neg h1, if_neg h2]) (lv_sub hl [0, 1, 2, 3, 4] rfl) hP hD hS
        ·
          refine lv_aload_n hx hb dT_find_41 rfl (lv_at hl 2 rfl) ?_
          refine va_get (D := D) (ci := 0) (v := .ref ak) (C := cnT) (T := ftT) (N := 7) hx hb hts inT hown hK hP 0 rfl rfl 2 (by decide) (hts _ mw84) (fun _ h9 => h9) rfl dT_find_42 ?_
          refine va_getN (D := D) (ci := 2) (v := .ref a1) (C := cnK) (T := ftK) (N := 6) hx hb hts inK hown hK hP 3 rfl rfl 0 (by decide) (va_Nw.use rfl (hNw _ mw58)) (fun _ h9 => h9) rfl dT_find_45 ?_
          refine lv_iload hx hb dT_find_48 (lv_at hl 0 rfl) ?_
          refine va_iald hx hb hK hP 4 0 rfl rfl (vp_in_nI (by omega) (by decide)) dT_find_50 ?_
          refine kTop (y := (x.2.2.2.2.2.2.2.2.1 i)) (by rw [nI_clamp (by omega)]) ?_
          exact kretP (by rw [he, zt_fnd, if_neg h1, if_pos h2]) hx hb hr hlk hS hP hD hK dT_find_51
  refine lv_aload_n hx hb dT_find_0 rfl (lv_at hl 0 rfl) ?_
  refine lv_iload_n hx hb dT_find_1 rfl (lv_at hl 1 rfl) ?_
  refine kcI (isR := []) (isC := [0, 1, 2, 3, 4, 5, 6, 7]) (wr := []) (w2 := [(ao, .inr (0, [.ref au, .ref af, .ref ak, .int x.2.2.1, .int x.2.2.2.1, .int x.2.2.2.2.1, .int x.2.2.2.2.2.1])), (au, .inr (1, [.int x.1.1, .int x.1.2])), (af, .inr (1, [.int x.2.1.1, .int x.2.1.2])), (ak, .inr (2, [.ref a1, .ref a2, .ref a3, .ref a4, .int (nI x.2.2.2.2.2.2.1), .int x.2.2.2.2.2.2.2.1])), (a1, .inl (cI, 10, .inl x.2.2.2.2.2.2.2.2.1)), (a2, .inl (cI, 10, .inl x.2.2.2.2.2.2.2.2.2.1)), (a3, .inl (cI, 10, .inl x.2.2.2.2.2.2.2.2.2.2.1)), (a4, .inl (cI, 10, .inl x.2.2.2.2.2.2.2.2.2.2.2))]) (va_runV (As := [.int g1]) (rest := []) ⟨hx, hb, hml, hown, hts⟩ (kt_isOpen l D cI cZ ao au af ak a1 a2 a3 a4 x g1 _) ⟨(callB_of 1 hts gd_yT_isOpen rfl rfl rfl (hts _ mw24) (hts _ mw108) (by decide +kernel) ⟨Nat.le_of_ble_eq_true rfl, Nat.le_of_ble_eq_true rfl⟩), hts _ mw110, hts _ mw0⟩ (kpreV hNw hP hD hK [0, 1, 2, 3, 4, 5, 6, 7] rfl (by decide) 0 rfl (ci := 0) rfl) rfl rfl hl.1 rfl (lv_room (Nat.le_of_ble_eq_true rfl)) dT_find_2 ⟨Nat.le_of_ble_eq_true rfl, Nat.le_of_ble_eq_true rfl⟩) hP hD hS hA [0, 1, 2, 3, 4, 5, 6, 7] rfl rfl (by decide) (by decide) (by decide) rfl (fun H locs hP hD hS => ?_)
  refine lv_if_ne (tgt := 10) hx hb dT_find_5 (by decide) (fun h1 => ?_) (fun h1 => ?_)
  ·
    refine lv_iconst (v := 0) hx hb dT_find_10 (by decide) ?_
    refine lv_istore_n hx hb dT_find_11 rfl hl (by decide) rfl (fun ls hl => ?_)
    have hl : lv_has ls 5 [(3, .int 0), (0, .ref ao), (1, .int g1), (2, .int g2)] := hl
    refine lv_iconst (v := 0) hx hb dT_find_12 (by decide) ?_
    refine lv_istore hx hb dT_find_13 hl (by decide) rfl (fun ls hl => ?_)
    have hl : lv_has ls 5 [(4, .int 0), (3, .int 0), (0, .ref ao), (1, .int g1), (2, .int g2)] := hl
    exact L x.2.2.2.2.2.2.1 0 0 _ _ _ (by omega) (by rw [zt_find, if_neg h1]) (lv_sub hl [0, 1, 2, 3, 4] rfl) hP hD hS
  ·
    refine lv_iconst (v := (-1)) hx hb dT_find_8 (by decide) ?_
    exact kretP (by first | (rw [zt_find, if_pos h1]; done) | exact (if_pos h1)) hx hb hr hlk hS hP hD hK dT_find_9

def zt_status (x : XS) (g1 : Int32) : Int32 := (if g1 = 0 then x.2.2.1 else (if g1 = 1 then (x.2.2.2.2.1 + (8 * x.2.2.2.2.2.1)) else (if g1 = 2 then x.1.2 else (if g1 = 3 then x.2.1.2 else (if g1 = 4 then (nI x.2.2.2.2.2.2.1) else (if g1 = 5 then x.2.2.2.2.2.2.2.1 else (-1)))))))

set_option maxHeartbeats 4000000 in
set_option maxRecDepth 100000 in
theorem kt_status (l : Launch) (D : va_G) (cI cZ : ClassId) (ao au af ak a1 a2 a3 a4 : Nat) (x : XS) (g1 : Int32) (hn : x.2.2.2.2.2.2.1 ≤ 10) : kI l yT_status wsT_status (rmOf 0 0) D (kT cI cZ) [.ref ao, .int g1] (wX cI ao au af ak a1 a2 a3 a4 x) (zt_status x g1) (wX cI ao au af ak a1 a2 a3 a4 x) := by
  intro sz
  refine kOf (Qc := fun A => kQi D (kT cI cZ) A (zt_status x g1) (wX cI ao au af ak a1 a2 a3 a4 x)) (cc := cT_status) (maxL := 2) (ret := some .int) (by decide) rfl (Nat.le_of_ble_eq_true rfl) ?_ sz
  intro p e s m args below meth c A ls hx hb hml hown hts hNw hr hlk hin hA hS hP hD hK hl
  show W p l e (rmOf 0 0) s m args below meth c s.heap [] 0 0 (MQ below (kQi D (kT cI cZ) A (zt_status x g1) (wX cI ao au af ak a1 a2 a3 a4 x)) args s 0 0 A) (F0 m 0 ls [])
  have hts : ∀ q ∈ lw_g, q.before args s = true := fun q h => hts q (List.mem_cons_of_mem _ h)
  have hown : s.vm.findClass cnT = some m.cls := hown
  have hl : lv_has ls 2 [(0, .ref ao), (1, .int g1)] := hl
  have hP : va_P D vwCl [(ao, .inr (0, [.ref au, .ref af, .ref ak, .int x.2.2.1, .int x.2.2.2.1, .int x.2.2.2.2.1, .int x.2.2.2.2.2.1])), (au, .inr (1, [.int x.1.1, .int x.1.2])), (af, .inr (1, [.int x.2.1.1, .int x.2.1.2])), (ak, .inr (2, [.ref a1, .ref a2, .ref a3, .ref a4, .int (nI x.2.2.2.2.2.2.1), .int x.2.2.2.2.2.2.2.1])), (a1, .inl (cI, 10, .inl x.2.2.2.2.2.2.2.2.1)), (a2, .inl (cI, 10, .inl x.2.2.2.2.2.2.2.2.2.1)), (a3, .inl (cI, 10, .inl x.2.2.2.2.2.2.2.2.2.2.1)), (a4, .inl (cI, 10, .inl x.2.2.2.2.2.2.2.2.2.2.2))] s.heap := hP
  have hD : va_D A [(ao, .inr (0, [.ref au, .ref af, .ref ak, .int x.2.2.1, .int x.2.2.2.1, .int x.2.2.2.2.1, .int x.2.2.2.2.2.1])), (au, .inr (1, [.int x.1.1, .int x.1.2])), (af, .inr (1, [.int x.2.1.1, .int x.2.1.2])), (ak, .inr (2, [.ref a1, .ref a2, .ref a3, .ref a4, .int (nI x.2.2.2.2.2.2.1), .int x.2.2.2.2.2.2.2.1])), (a1, .inl (cI, 10, .inl x.2.2.2.2.2.2.2.2.1)), (a2, .inl (cI, 10, .inl x.2.2.2.2.2.2.2.2.2.1)), (a3, .inl (cI, 10, .inl x.2.2.2.2.2.2.2.2.2.2.1)), (a4, .inl (cI, 10, .inl x.2.2.2.2.2.2.2.2.2.2.2))] := hD
  refine lv_iload_n hx hb dT_status_0 rfl (lv_at hl 1 rfl) ?_
  by_cases q0 : g1 = 0
  ·
    subst q0
    refine lv_tableIn (x := 0) (off := 39) (tgt := 40) hx hb dT_status_1 (by decide) (by decide) (by decide) (by decide) ?_
    refine lv_aload_n hx hb dT_status_40 rfl (lv_at hl 0 rfl) ?_
    refine va_get (D := D) (ci := 0) (v := .int x.2.2.1) (C := cnT) (T := ftT) (N := 7) hx hb hts inT hown hK hP 0 rfl rfl 3 (by decide) (hts _ mw85) (fun _ h9 => h9) rfl dT_status_41 ?_
    exact kretP (by first | (rw [zt_status, if_pos (rfl : (0 : Int32) = 0)]; done) | exact (if_pos (rfl : (0 : Int32) = 0))) hx hb hr hlk hS hP hD hK dT_status_44
  by_cases q1 : g1 = 1
  ·
    subst q1
    refine lv_tableIn (x := 1) (off := 44) (tgt := 45) hx hb dT_status_1 (by decide) (by decide) (by decide) (by decide) ?_
    refine lv_aload_n hx hb dT_status_45 rfl (lv_at hl 0 rfl) ?_
    refine va_get (D := D) (ci := 0) (v := .int x.2.2.2.2.1) (C := cnT) (T := ftT) (N := 7) hx hb hts inT hown hK hP 0 rfl rfl 5 (by decide) (hts _ mw87) (fun _ h9 => h9) rfl dT_status_46 ?_
    refine lv_bipush (v := 8) hx hb dT_status_49 (by decide) ?_
    refine lv_aload_n hx hb dT_status_51 rfl (lv_at hl 0 rfl) ?_
    refine va_get (D := D) (ci := 0) (v := .int x.2.2.2.2.2.1) (C := cnT) (T := ftT) (N := 7) hx hb hts inT hown hK hP 0 rfl rfl 6 (by decide) (hts _ mw88) (fun _ h9 => h9) rfl dT_status_52 ?_
    refine lv_imul hx hb dT_status_55 ?_
    refine lv_iadd hx hb dT_status_56 ?_
    exact kretP (by first | (rw [zt_status, if_neg (show ¬ (1 : Int32) = 0 by decide), if_pos (rfl : (1 : Int32) = 1)]; done) | exact ((if_neg (show ¬ (1 : Int32) = 0 by decide)).trans (if_pos (rfl : (1 : Int32) = 1)))) hx hb hr hlk hS hP hD hK dT_status_57
  by_cases q2 : g1 = 2
  ·
    subst q2
    refine lv_tableIn (x := 2) (off := 57) (tgt := 58) hx hb dT_status_1 (by decide) (by decide) (by decide) (by decide) ?_
    refine lv_aload_n hx hb dT_status_58 rfl (lv_at hl 0 rfl) ?_
    refine va_get (D := D) (ci := 0) (v := .ref au) (C := cnT) (T := ftT) (N := 7) hx hb hts inT hown hK hP 0 rfl rfl 0 (by decide) (hts _ mw82) (fun _ h9 => h9) rfl dT_status_59 ?_
    refine va_getN (D := D) (ci := 1) (v := .int x.1.2) (C := cnR) (T := ftR) (N := 2) hx hb hts inR hown hK hP 1 rfl rfl 1 (by decide) (va_Nw.use rfl (hNw _ mw45)) (fun _ h9 => h9) rfl dT_status_62 ?_
    exact kretP (by first | (rw [zt_status, if_neg (show ¬ (2 : Int32) = 0 by decide), if_neg (show ¬ (2 : Int32) = 1 by decide), if_pos (rfl : (2 : Int32) = 2)]; done) | exact ((if_neg (show ¬ (2 : Int32) = 0 by decide)).trans ((if_neg (show ¬ (2 : Int32) = 1 by decide)).trans (if_pos (rfl : (2 : Int32) = 2))))) hx hb hr hlk hS hP hD hK dT_status_65
  by_cases q3 : g1 = 3
  ·
    subst q3
    refine lv_tableIn (x := 3) (off := 65) (tgt := 66) hx hb dT_status_1 (by decide) (by decide) (by decide) (by decide) ?_
    refine lv_aload_n hx hb dT_status_66 rfl (lv_at hl 0 rfl) ?_
    refine va_get (D := D) (ci := 0) (v := .ref af) (C := cnT) (T := ftT) (N := 7) hx hb hts inT hown hK hP 0 rfl rfl 1 (by decide) (hts _ mw83) (fun _ h9 => h9) rfl dT_status_67 ?_
    refine va_getN (D := D) (ci := 1) (v := .int x.2.1.2) (C := cnR) (T := ftR) (N := 2) hx hb hts inR hown hK hP 2 rfl rfl 1 (by decide) (va_Nw.use rfl (hNw _ mw45)) (fun _ h9 => h9) rfl dT_status_70 ?_
    exact kretP (by first | (rw [zt_status, if_neg (show ¬ (3 : Int32) = 0 by decide), if_neg (show ¬ (3 : Int32) = 1 by decide), if_neg (show ¬ (3 : Int32) = 2 by decide), if_pos (rfl : (3 : Int32) = 3)]; done) | exact ((if_neg (show ¬ (3 : Int32) = 0 by decide)).trans ((if_neg (show ¬ (3 : Int32) = 1 by decide)).trans ((if_neg (show ¬ (3 : Int32) = 2 by decide)).trans (if_pos (rfl : (3 : Int32) = 3)))))) hx hb hr hlk hS hP hD hK dT_status_73
  by_cases q4 : g1 = 4
  ·
    subst q4
    refine lv_tableIn (x := 4) (off := 73) (tgt := 74) hx hb dT_status_1 (by decide) (by decide) (by decide) (by decide) ?_
    refine lv_aload_n hx hb dT_status_74 rfl (lv_at hl 0 rfl) ?_
    refine va_get (D := D) (ci := 0) (v := .ref ak) (C := cnT) (T := ftT) (N := 7) hx hb hts inT hown hK hP 0 rfl rfl 2 (by decide) (hts _ mw84) (fun _ h9 => h9) rfl dT_status_75 ?_
    refine va_getN (D := D) (ci := 2) (v := .int (nI x.2.2.2.2.2.2.1)) (C := cnK) (T := ftK) (N := 6) hx hb hts inK hown hK hP 3 rfl rfl 4 (by decide) (va_Nw.use rfl (hNw _ mw65)) (fun _ h9 => h9) rfl dT_status_78 ?_
    exact kretP (by first | (rw [zt_status, if_neg (show ¬ (4 : Int32) = 0 by decide), if_neg (show ¬ (4 : Int32) = 1 by decide), if_neg (show ¬ (4 : Int32) = 2 by decide), if_neg (show ¬ (4 : Int32) = 3 by decide), if_pos (rfl : (4 : Int32) = 4)]; done) | exact ((if_neg (show ¬ (4 : Int32) = 0 by decide)).trans ((if_neg (show ¬ (4 : Int32) = 1 by decide)).trans ((if_neg (show ¬ (4 : Int32) = 2 by decide)).trans ((if_neg (show ¬ (4 : Int32) = 3 by decide)).trans (if_pos (rfl : (4 : Int32) = 4))))))) hx hb hr hlk hS hP hD hK dT_status_81
  by_cases q5 : g1 = 5
  ·
    subst q5
    refine lv_tableIn (x := 5) (off := 81) (tgt := 82) hx hb dT_status_1 (by decide) (by decide) (by decide) (by decide) ?_
    refine lv_aload_n hx hb dT_status_82 rfl (lv_at hl 0 rfl) ?_
    refine va_get (D := D) (ci := 0) (v := .ref ak) (C := cnT) (T := ftT) (N := 7) hx hb hts inT hown hK hP 0 rfl rfl 2 (by decide) (hts _ mw84) (fun _ h9 => h9) rfl dT_status_83 ?_
    refine va_getN (D := D) (ci := 2) (v := .int x.2.2.2.2.2.2.2.1) (C := cnK) (T := ftK) (N := 6) hx hb hts inK hown hK hP 3 rfl rfl 5 (by decide) (va_Nw.use rfl (hNw _ mw67)) (fun _ h9 => h9) rfl dT_status_86 ?_
    exact kretP (by first | (rw [zt_status, if_neg (show ¬ (5 : Int32) = 0 by decide), if_neg (show ¬ (5 : Int32) = 1 by decide), if_neg (show ¬ (5 : Int32) = 2 by decide), if_neg (show ¬ (5 : Int32) = 3 by decide), if_neg (show ¬ (5 : Int32) = 4 by decide), if_pos (rfl : (5 : Int32) = 5)]; done) | exact ((if_neg (show ¬ (5 : Int32) = 0 by decide)).trans ((if_neg (show ¬ (5 : Int32) = 1 by decide)).trans ((if_neg (show ¬ (5 : Int32) = 2 by decide)).trans ((if_neg (show ¬ (5 : Int32) = 3 by decide)).trans ((if_neg (show ¬ (5 : Int32) = 4 by decide)).trans (if_pos (rfl : (5 : Int32) = 5)))))))) hx hb hr hlk hS hP hD hK dT_status_89
  refine lv_tableOut (tgt := 90) hx hb dT_status_1 (ksw6 q0 q1 q2 q3 q4 q5) (by decide) ?_
  refine lv_iconst (v := (-1)) hx hb dT_status_90 (by decide) ?_
  exact kretP (by first | (rw [zt_status, if_neg q0, if_neg q1, if_neg q2, if_neg q3, if_neg q4, if_neg q5]; done) | exact ((if_neg q0).trans ((if_neg q1).trans ((if_neg q2).trans ((if_neg q3).trans ((if_neg q4).trans (if_neg q5))))))) hx hb hr hlk hS hP hD hK dT_status_91
