def zw_byteOf (g1 : Int32) (g2 : Int32) : Int32 := ((zush g1 (8 * g2)) &&& 255)

set_option maxHeartbeats 4000000 in
set_option maxRecDepth 100000 in
theorem kw_byteOf (l : Launch) (D : va_G) (cI cZ : ClassId) (g1 : Int32) (g2 : Int32) : kI l yW_byteOf wsW_byteOf (rmOf 0 0) D (kT cI cZ) [.int g1, .int g2] [] (zw_byteOf g1 g2) [] := by
  intro sz
  refine kOf (Qc := fun A => kQi D (kT cI cZ) A (zw_byteOf g1 g2) []) (cc := cW_byteOf) (maxL := 2) (ret := some .int) (by decide) rfl (Nat.le_of_ble_eq_true rfl) ?_ sz
  intro p e s m args below meth c A ls hx hb hml hown hts hNw hr hlk hin hA hS hP hD hK hl
  show W p l e (rmOf 0 0) s m args below meth c s.heap [] 0 0 (MQ below (kQi D (kT cI cZ) A (zw_byteOf g1 g2) []) args s 0 0 A) (F0 m 0 ls [])
  have hts : ∀ q ∈ lw_g, q.before args s = true := fun q h => hts q (List.mem_cons_of_mem _ h)
  have hown : s.vm.findClass cnW = some m.cls := hown
  have hl : lv_has ls 2 [(0, .int g1), (1, .int g2)] := hl
  have hP : va_P D vwCl [] s.heap := hP
  have hD : va_D A [] := hD
  refine lv_iload_n hx hb dW_byteOf_0 rfl (lv_at hl 0 rfl) ?_
  refine lv_bipush (v := 8) hx hb dW_byteOf_1 (by decide) ?_
  refine lv_iload_n hx hb dW_byteOf_3 rfl (lv_at hl 1 rfl) ?_
  refine lv_imul hx hb dW_byteOf_4 ?_
  refine lv_iushr (v := (zush g1 (8 * g2))) hx hb dW_byteOf_5 rfl ?_
  refine lv_sipush (v := 255) hx hb dW_byteOf_6 (by decide) ?_
  refine lv_iand hx hb dW_byteOf_9 ?_
  exact kretP (rfl) hx hb hr hlk hS hP hD hK dW_byteOf_10

def zw_half (g1 : Int32) (g2 : Int32) (g3 : Int32) : Int32 := (((((g3 * 40503) + ((zw_byteOf g1 g2) * 257)) + (g2 * 4099)) ^^^ (zush (((g3 * 40503) + ((zw_byteOf g1 g2) * 257)) + (g2 * 4099)) 7)) &&& 65535)

set_option maxHeartbeats 4000000 in
set_option maxRecDepth 100000 in
theorem kw_half (l : Launch) (D : va_G) (cI cZ : ClassId) (g1 : Int32) (g2 : Int32) (g3 : Int32) : kI l yW_half wsW_half (rmOf 1 21) D (kT cI cZ) [.int g1, .int g2, .int g3] [] (zw_half g1 g2 g3) [] := by
  intro sz
  refine kOf (Qc := fun A => kQi D (kT cI cZ) A (zw_half g1 g2 g3) []) (cc := cW_half) (maxL := 4) (ret := some .int) (by decide) rfl (Nat.le_of_ble_eq_true rfl) ?_ sz
  intro p e s m args below meth c A ls hx hb hml hown hts hNw hr hlk hin hA hS hP hD hK hl
  show W p l e (rmOf 1 21) s m args below meth c s.heap [] 0 0 (MQ below (kQi D (kT cI cZ) A (zw_half g1 g2 g3) []) args s 0 0 A) (F0 m 0 ls [])
  have hts : ∀ q ∈ lw_g, q.before args s = true := fun q h => hts q (List.mem_cons_of_mem _ h)
  have hown : s.vm.findClass cnW = some m.cls := hown
  have hl : lv_has ls 4 [(0, .int g1), (1, .int g2), (2, .int g3)] := hl
  have hP : va_P D vwCl [] s.heap := hP
  have hD : va_D A [] := hD
  refine lv_iload_n hx hb dW_half_0 rfl (lv_at hl 2 rfl) ?_
  refine lv_ldc (v := 40503) hx hb hown (hts _ mw247) dW_half_1 ?_
  refine lv_imul hx hb dW_half_3 ?_
  refine lv_iload_n hx hb dW_half_4 rfl (lv_at hl 0 rfl) ?_
  refine lv_iload_n hx hb dW_half_5 rfl (lv_at hl 1 rfl) ?_
  refine kcI (isR := []) (isC := []) (wr := []) (w2 := []) (va_runS (As := [.int g1, .int g2]) (rest := [.int (g3 * 40503)]) ⟨hx, hb, hml, hown, hts⟩ (kw_byteOf l D cI cZ g1 g2 _) ⟨(callB_of 2 hts gd_yW_byteOf rfl rfl rfl (hts _ mw28) (hts _ mw182) (by decide +kernel) ⟨Nat.le_of_ble_eq_true rfl, Nat.le_of_ble_eq_true rfl⟩), hts _ mw183⟩ (kpreS hNw hP hD hK [] rfl (by decide)) rfl rfl hl.1 rfl (lv_room (Nat.le_of_ble_eq_true rfl)) dW_half_6 ⟨Nat.le_of_ble_eq_true rfl, Nat.le_of_ble_eq_true rfl⟩) hP hD hS hA [] rfl rfl (by decide) (by decide) (by decide) rfl (fun H locs hP hD hS => ?_)
  refine lv_sipush (v := 257) hx hb dW_half_9 (by decide) ?_
  refine lv_imul hx hb dW_half_12 ?_
  refine lv_iadd hx hb dW_half_13 ?_
  refine lv_iload_n hx hb dW_half_14 rfl (lv_at hl 1 rfl) ?_
  refine lv_sipush (v := 4099) hx hb dW_half_15 (by decide) ?_
  refine lv_imul hx hb dW_half_18 ?_
  refine lv_iadd hx hb dW_half_19 ?_
  refine lv_istore_n hx hb dW_half_20 rfl hl (by decide) rfl (fun ls hl => ?_)
  have hl : lv_has ls 4 [(3, .int (((g3 * 40503) + ((zw_byteOf g1 g2) * 257)) + (g2 * 4099))), (0, .int g1), (1, .int g2), (2, .int g3)] := hl
  refine lv_iload_n hx hb dW_half_21 rfl (lv_at hl 0 rfl) ?_
  refine lv_iload_n hx hb dW_half_22 rfl (lv_at hl 0 rfl) ?_
  refine lv_bipush (v := 7) hx hb dW_half_23 (by decide) ?_
  refine lv_iushr (v := (zush (((g3 * 40503) + ((zw_byteOf g1 g2) * 257)) + (g2 * 4099)) 7)) hx hb dW_half_25 rfl ?_
  refine lv_ixor hx hb dW_half_26 ?_
  refine lv_ldc (v := 65535) hx hb hown (hts _ mw243) dW_half_27 ?_
  refine lv_iand hx hb dW_half_29 ?_
  exact kretP (rfl) hx hb hr hlk hS hP hD hK dW_half_30

def zw_enc (g1 : Int32) (g2 : Int32) : Int32 := (((((zush g2 16) ^^^ (zw_half g1 0 (g2 &&& 65535))) ^^^ (zw_half g1 2 ((g2 &&& 65535) ^^^ (zw_half g1 1 ((zush g2 16) ^^^ (zw_half g1 0 (g2 &&& 65535))))))) * 65536) + (((g2 &&& 65535) ^^^ (zw_half g1 1 ((zush g2 16) ^^^ (zw_half g1 0 (g2 &&& 65535))))) ^^^ (zw_half g1 3 (((zush g2 16) ^^^ (zw_half g1 0 (g2 &&& 65535))) ^^^ (zw_half g1 2 ((g2 &&& 65535) ^^^ (zw_half g1 1 ((zush g2 16) ^^^ (zw_half g1 0 (g2 &&& 65535))))))))))

set_option maxHeartbeats 4000000 in
set_option maxRecDepth 100000 in
theorem kw_enc (l : Launch) (D : va_G) (cI cZ : ClassId) (g1 : Int32) (g2 : Int32) : kI l yW_enc wsW_enc (rmOf 2 44) D (kT cI cZ) [.int g1, .int g2] [] (zw_enc g1 g2) [] := by
  intro sz
  refine kOf (Qc := fun A => kQi D (kT cI cZ) A (zw_enc g1 g2) []) (cc := cW_enc) (maxL := 6) (ret := some .int) (by decide) rfl (Nat.le_of_ble_eq_true rfl) ?_ sz
  intro p e s m args below meth c A ls hx hb hml hown hts hNw hr hlk hin hA hS hP hD hK hl
  show W p l e (rmOf 2 44) s m args below meth c s.heap [] 0 0 (MQ below (kQi D (kT cI cZ) A (zw_enc g1 g2) []) args s 0 0 A) (F0 m 0 ls [])
  have hts : ∀ q ∈ lw_g, q.before args s = true := fun q h => hts q (List.mem_cons_of_mem _ h)
  have hown : s.vm.findClass cnW = some m.cls := hown
  have hl : lv_has ls 6 [(0, .int g1), (1, .int g2)] := hl
  have hP : va_P D vwCl [] s.heap := hP
  have hD : va_D A [] := hD
  refine lv_iload_n hx hb dW_enc_0 rfl (lv_at hl 1 rfl) ?_
  refine lv_bipush (v := 16) hx hb dW_enc_1 (by decide) ?_
  refine lv_iushr (v := (zush g2 16)) hx hb dW_enc_3 rfl ?_
  refine lv_istore_n hx hb dW_enc_4 rfl hl (by decide) rfl (fun ls hl => ?_)
  have hl : lv_has ls 6 [(2, .int (zush g2 16)), (0, .int g1), (1, .int g2)] := hl
  refine lv_iload_n hx hb dW_enc_5 rfl (lv_at hl 2 rfl) ?_
  refine lv_ldc (v := 65535) hx hb hown (hts _ mw243) dW_enc_6 ?_
  refine lv_iand hx hb dW_enc_8 ?_
  refine lv_istore_n hx hb dW_enc_9 rfl hl (by decide) rfl (fun ls hl => ?_)
  have hl : lv_has ls 6 [(3, .int (g2 &&& 65535)), (2, .int (zush g2 16)), (0, .int g1), (1, .int g2)] := hl
  refine lv_iconst (v := 0) hx hb dW_enc_10 (by decide) ?_
  refine lv_istore hx hb dW_enc_11 hl (by decide) rfl (fun ls hl => ?_)
  have hl : lv_has ls 6 [(4, .int 0), (3, .int (g2 &&& 65535)), (2, .int (zush g2 16)), (0, .int g1), (1, .int g2)] := hl
  refine lv_iload hx hb dW_enc_13 (lv_at hl 0 rfl) ?_
  refine lv_iconst (v := 4) hx hb dW_enc_15 (by decide) ?_
  refine lv_icmp_ge (tgt := 41) hx hb dW_enc_16 (by decide) (fun h => absurd h (by decide)) (fun _ => ?_)
  refine lv_iload_n hx hb dW_enc_19 rfl (lv_at hl 2 rfl) ?_
  refine lv_iload_n hx hb dW_enc_20 rfl (lv_at hl 3 rfl) ?_
  refine lv_iload hx hb dW_enc_21 (lv_at hl 0 rfl) ?_
  refine lv_iload_n hx hb dW_enc_23 rfl (lv_at hl 1 rfl) ?_
  refine kcI (isR := []) (isC := []) (wr := []) (w2 := []) (va_runS (As := [.int g1, .int 0, .int (g2 &&& 65535)]) (rest := [.int (zush g2 16)]) ⟨hx, hb, hml, hown, hts⟩ (kw_half l D cI cZ g1 0 (g2 &&& 65535) _) ⟨(callB_of 3 hts gd_yW_half rfl rfl rfl (hts _ mw28) (hts _ mw244) (by decide +kernel) ⟨Nat.le_of_ble_eq_true rfl, Nat.le_of_ble_eq_true rfl⟩), hts _ mw245⟩ (kpreS hNw hP hD hK [] rfl (by decide)) rfl rfl hl.1 rfl (lv_room (Nat.le_of_ble_eq_true rfl)) dW_enc_24 ⟨Nat.le_of_ble_eq_true rfl, Nat.le_of_ble_eq_true rfl⟩) hP hD hS hA [] rfl rfl (by decide) (by decide) (by decide) rfl (fun H locs hP hD hS => ?_)
  refine lv_ixor hx hb dW_enc_27 ?_
  refine lv_istore hx hb dW_enc_28 hl (by decide) rfl (fun ls hl => ?_)
  have hl : lv_has ls 6 [(5, .int ((zush g2 16) ^^^ (zw_half g1 0 (g2 &&& 65535)))), (4, .int 0), (3, .int (g2 &&& 65535)), (2, .int (zush g2 16)), (0, .int g1), (1, .int g2)] := hl
  refine lv_iload_n hx hb dW_enc_30 rfl (lv_at hl 2 rfl) ?_
  refine lv_istore_n hx hb dW_enc_31 rfl hl (by decide) rfl (fun ls hl => ?_)
  have hl : lv_has ls 6 [(2, .int (g2 &&& 65535)), (5, .int ((zush g2 16) ^^^ (zw_half g1 0 (g2 &&& 65535)))), (4, .int 0), (3, .int (g2 &&& 65535)), (0, .int g1), (1, .int g2)] := hl
  refine lv_iload hx hb dW_enc_32 (lv_at hl 1 rfl) ?_
  refine lv_istore_n hx hb dW_enc_34 rfl hl (by decide) rfl (fun ls hl => ?_)
  have hl : lv_has ls 6 [(3, .int ((zush g2 16) ^^^ (zw_half g1 0 (g2 &&& 65535)))), (2, .int (g2 &&& 65535)), (5, .int ((zush g2 16) ^^^ (zw_half g1 0 (g2 &&& 65535)))), (4, .int 0), (0, .int g1), (1, .int g2)] := hl
  refine lv_iinc (k := 3) (v := 1) hx hb dW_enc_35 hl rfl (by decide) (by decide) rfl (fun ls hl => ?_)
  have hl : lv_has ls 6 [(4, .int 1), (3, .int ((zush g2 16) ^^^ (zw_half g1 0 (g2 &&& 65535)))), (2, .int (g2 &&& 65535)), (5, .int ((zush g2 16) ^^^ (zw_half g1 0 (g2 &&& 65535)))), (0, .int g1), (1, .int g2)] := hl
  refine lv_goto hx hb dW_enc_38 (tgt := 13) (by decide) ?_
  refine lv_iload hx hb dW_enc_13 (lv_at hl 0 rfl) ?_
  refine lv_iconst (v := 4) hx hb dW_enc_15 (by decide) ?_
  refine lv_icmp_ge (tgt := 41) hx hb dW_enc_16 (by decide) (fun h => absurd h (by decide)) (fun _ => ?_)
  refine lv_iload_n hx hb dW_enc_19 rfl (lv_at hl 2 rfl) ?_
  refine lv_iload_n hx hb dW_enc_20 rfl (lv_at hl 4 rfl) ?_
  refine lv_iload hx hb dW_enc_21 (lv_at hl 0 rfl) ?_
  refine lv_iload_n hx hb dW_enc_23 rfl (lv_at hl 1 rfl) ?_
  refine kcI (isR := []) (isC := []) (wr := []) (w2 := []) (va_runS (As := [.int g1, .int 1, .int ((zush g2 16) ^^^ (zw_half g1 0 (g2 &&& 65535)))]) (rest := [.int (g2 &&& 65535)]) ⟨hx, hb, hml, hown, hts⟩ (kw_half l D cI cZ g1 1 ((zush g2 16) ^^^ (zw_half g1 0 (g2 &&& 65535))) _) ⟨(callB_of 3 hts gd_yW_half rfl rfl rfl (hts _ mw28) (hts _ mw244) (by decide +kernel) ⟨Nat.le_of_ble_eq_true rfl, Nat.le_of_ble_eq_true rfl⟩), hts _ mw245⟩ (kpreS hNw hP hD hK [] rfl (by decide)) rfl rfl hl.1 rfl (lv_room (Nat.le_of_ble_eq_true rfl)) dW_enc_24 ⟨Nat.le_of_ble_eq_true rfl, Nat.le_of_ble_eq_true rfl⟩) hP hD hS hA [] rfl rfl (by decide) (by decide) (by decide) rfl (fun H locs hP hD hS => ?_)
  refine lv_ixor hx hb dW_enc_27 ?_
  refine lv_istore hx hb dW_enc_28 hl (by decide) rfl (fun ls hl => ?_)
  have hl : lv_has ls 6 [(5, .int ((g2 &&& 65535) ^^^ (zw_half g1 1 ((zush g2 16) ^^^ (zw_half g1 0 (g2 &&& 65535)))))), (4, .int 1), (3, .int ((zush g2 16) ^^^ (zw_half g1 0 (g2 &&& 65535)))), (2, .int (g2 &&& 65535)), (0, .int g1), (1, .int g2)] := hl
  refine lv_iload_n hx hb dW_enc_30 rfl (lv_at hl 2 rfl) ?_
  refine lv_istore_n hx hb dW_enc_31 rfl hl (by decide) rfl (fun ls hl => ?_)
  have hl : lv_has ls 6 [(2, .int ((zush g2 16) ^^^ (zw_half g1 0 (g2 &&& 65535)))), (5, .int ((g2 &&& 65535) ^^^ (zw_half g1 1 ((zush g2 16) ^^^ (zw_half g1 0 (g2 &&& 65535)))))), (4, .int 1), (3, .int ((zush g2 16) ^^^ (zw_half g1 0 (g2 &&& 65535)))), (0, .int g1), (1, .int g2)] := hl
  refine lv_iload hx hb dW_enc_32 (lv_at hl 1 rfl) ?_
  refine lv_istore_n hx hb dW_enc_34 rfl hl (by decide) rfl (fun ls hl => ?_)
  have hl : lv_has ls 6 [(3, .int ((g2 &&& 65535) ^^^ (zw_half g1 1 ((zush g2 16) ^^^ (zw_half g1 0 (g2 &&& 65535)))))), (2, .int ((zush g2 16) ^^^ (zw_half g1 0 (g2 &&& 65535)))), (5, .int ((g2 &&& 65535) ^^^ (zw_half g1 1 ((zush g2 16) ^^^ (zw_half g1 0 (g2 &&& 65535)))))), (4, .int 1), (0, .int g1), (1, .int g2)] := hl
  refine lv_iinc (k := 3) (v := 2) hx hb dW_enc_35 hl rfl (by decide) (by decide) rfl (fun ls hl => ?_)
  have hl : lv_has ls 6 [(4, .int 2), (3, .int ((g2 &&& 65535) ^^^ (zw_half g1 1 ((zush g2 16) ^^^ (zw_half g1 0 (g2 &&& 65535)))))), (2, .int ((zush g2 16) ^^^ (zw_half g1 0 (g2 &&& 65535)))), (5, .int ((g2 &&& 65535) ^^^ (zw_half g1 1 ((zush g2 16) ^^^ (zw_half g1 0 (g2 &&& 65535)))))), (0, .int g1), (1, .int g2)] := hl
  refine lv_goto hx hb dW_enc_38 (tgt := 13) (by decide) ?_
  refine lv_iload hx hb dW_enc_13 (lv_at hl 0 rfl) ?_
  refine lv_iconst (v := 4) hx hb dW_enc_15 (by decide) ?_
  refine lv_icmp_ge (tgt := 41) hx hb dW_enc_16 (by decide) (fun h => absurd h (by decide)) (fun _ => ?_)
  refine lv_iload_n hx hb dW_enc_19 rfl (lv_at hl 2 rfl) ?_
  refine lv_iload_n hx hb dW_enc_20 rfl (lv_at hl 4 rfl) ?_
  refine lv_iload hx hb dW_enc_21 (lv_at hl 0 rfl) ?_
  refine lv_iload_n hx hb dW_enc_23 rfl (lv_at hl 1 rfl) ?_
  refine kcI (isR := []) (isC := []) (wr := []) (w2 := []) (va_runS (As := [.int g1, .int 2, .int ((g2 &&& 65535) ^^^ (zw_half g1 1 ((zush g2 16) ^^^ (zw_half g1 0 (g2 &&& 65535)))))]) (rest := [.int ((zush g2 16) ^^^ (zw_half g1 0 (g2 &&& 65535)))]) ⟨hx, hb, hml, hown, hts⟩ (kw_half l D cI cZ g1 2 ((g2 &&& 65535) ^^^ (zw_half g1 1 ((zush g2 16) ^^^ (zw_half g1 0 (g2 &&& 65535))))) _) ⟨(callB_of 3 hts gd_yW_half rfl rfl rfl (hts _ mw28) (hts _ mw244) (by decide +kernel) ⟨Nat.le_of_ble_eq_true rfl, Nat.le_of_ble_eq_true rfl⟩), hts _ mw245⟩ (kpreS hNw hP hD hK [] rfl (by decide)) rfl rfl hl.1 rfl (lv_room (Nat.le_of_ble_eq_true rfl)) dW_enc_24 ⟨Nat.le_of_ble_eq_true rfl, Nat.le_of_ble_eq_true rfl⟩) hP hD hS hA [] rfl rfl (by decide) (by decide) (by decide) rfl (fun H locs hP hD hS => ?_)
  refine lv_ixor hx hb dW_enc_27 ?_
  refine lv_istore hx hb dW_enc_28 hl (by decide) rfl (fun ls hl => ?_)
  have hl : lv_has ls 6 [(5, .int (((zush g2 16) ^^^ (zw_half g1 0 (g2 &&& 65535))) ^^^ (zw_half g1 2 ((g2 &&& 65535) ^^^ (zw_half g1 1 ((zush g2 16) ^^^ (zw_half g1 0 (g2 &&& 65535)))))))), (4, .int 2), (3, .int ((g2 &&& 65535) ^^^ (zw_half g1 1 ((zush g2 16) ^^^ (zw_half g1 0 (g2 &&& 65535)))))), (2, .int ((zush g2 16) ^^^ (zw_half g1 0 (g2 &&& 65535)))), (0, .int g1), (1, .int g2)] := hl
  refine lv_iload_n hx hb dW_enc_30 rfl (lv_at hl 2 rfl) ?_
  refine lv_istore_n hx hb dW_enc_31 rfl hl (by decide) rfl (fun ls hl => ?_)
  have hl : lv_has ls 6 [(2, .int ((g2 &&& 65535) ^^^ (zw_half g1 1 ((zush g2 16) ^^^ (zw_half g1 0 (g2 &&& 65535)))))), (5, .int (((zush g2 16) ^^^ (zw_half g1 0 (g2 &&& 65535))) ^^^ (zw_half g1 2 ((g2 &&& 65535) ^^^ (zw_half g1 1 ((zush g2 16) ^^^ (zw_half g1 0 (g2 &&& 65535)))))))), (4, .int 2), (3, .int ((g2 &&& 65535) ^^^ (zw_half g1 1 ((zush g2 16) ^^^ (zw_half g1 0 (g2 &&& 65535)))))), (0, .int g1), (1, .int g2)] := hl
  refine lv_iload hx hb dW_enc_32 (lv_at hl 1 rfl) ?_
  refine lv_istore_n hx hb dW_enc_34 rfl hl (by decide) rfl (fun ls hl => ?_)
  have hl : lv_has ls 6 [(3, .int (((zush g2 16) ^^^ (zw_half g1 0 (g2 &&& 65535))) ^^^ (zw_half g1 2 ((g2 &&& 65535) ^^^ (zw_half g1 1 ((zush g2 16) ^^^ (zw_half g1 0 (g2 &&& 65535)))))))), (2, .int ((g2 &&& 65535) ^^^ (zw_half g1 1 ((zush g2 16) ^^^ (zw_half g1 0 (g2 &&& 65535)))))), (5, .int (((zush g2 16) ^^^ (zw_half g1 0 (g2 &&& 65535))) ^^^ (zw_half g1 2 ((g2 &&& 65535) ^^^ (zw_half g1 1 ((zush g2 16) ^^^ (zw_half g1 0 (g2 &&& 65535)))))))), (4, .int 2), (0, .int g1), (1, .int g2)] := hl
  refine lv_iinc (k := 3) (v := 3) hx hb dW_enc_35 hl rfl (by decide) (by decide) rfl (fun ls hl => ?_)
  have hl : lv_has ls 6 [(4, .int 3), (3, .int (((zush g2 16) ^^^ (zw_half g1 0 (g2 &&& 65535))) ^^^ (zw_half g1 2 ((g2 &&& 65535) ^^^ (zw_half g1 1 ((zush g2 16) ^^^ (zw_half g1 0 (g2 &&& 65535)))))))), (2, .int ((g2 &&& 65535) ^^^ (zw_half g1 1 ((zush g2 16) ^^^ (zw_half g1 0 (g2 &&& 65535)))))), (5, .int (((zush g2 16) ^^^ (zw_half g1 0 (g2 &&& 65535))) ^^^ (zw_half g1 2 ((g2 &&& 65535) ^^^ (zw_half g1 1 ((zush g2 16) ^^^ (zw_half g1 0 (g2 &&& 65535)))))))), (0, .int g1), (1, .int g2)] := hl
  refine lv_goto hx hb dW_enc_38 (tgt := 13) (by decide) ?_
  refine lv_iload hx hb dW_enc_13 (lv_at hl 0 rfl) ?_
  refine lv_iconst (v := 4) hx hb dW_enc_15 (by decide) ?_
  refine lv_icmp_ge (tgt := 41) hx hb dW_enc_16 (by decide) (fun h => absurd h (by decide)) (fun _ => ?_)
  refine lv_iload_n hx hb dW_enc_19 rfl (lv_at hl 2 rfl) ?_
  refine lv_iload_n hx hb dW_enc_20 rfl (lv_at hl 4 rfl) ?_
  refine lv_iload hx hb dW_enc_21 (lv_at hl 0 rfl) ?_
  refine lv_iload_n hx hb dW_enc_23 rfl (lv_at hl 1 rfl) ?_
  refine kcI (isR := []) (isC := []) (wr := []) (w2 := []) (va_runS (As := [.int g1, .int 3, .int (((zush g2 16) ^^^ (zw_half g1 0 (g2 &&& 65535))) ^^^ (zw_half g1 2 ((g2 &&& 65535) ^^^ (zw_half g1 1 ((zush g2 16) ^^^ (zw_half g1 0 (g2 &&& 65535)))))))]) (rest := [.int ((g2 &&& 65535) ^^^ (zw_half g1 1 ((zush g2 16) ^^^ (zw_half g1 0 (g2 &&& 65535)))))]) ⟨hx, hb, hml, hown, hts⟩ (kw_half l D cI cZ g1 3 (((zush g2 16) ^^^ (zw_half g1 0 (g2 &&& 65535))) ^^^ (zw_half g1 2 ((g2 &&& 65535) ^^^ (zw_half g1 1 ((zush g2 16) ^^^ (zw_half g1 0 (g2 &&& 65535))))))) _) ⟨(callB_of 3 hts gd_yW_half rfl rfl rfl (hts _ mw28) (hts _ mw244) (by decide +kernel) ⟨Nat.le_of_ble_eq_true rfl, Nat.le_of_ble_eq_true rfl⟩), hts _ mw245⟩ (kpreS hNw hP hD hK [] rfl (by decide)) rfl rfl hl.1 rfl (lv_room (Nat.le_of_ble_eq_true rfl)) dW_enc_24 ⟨Nat.le_of_ble_eq_true rfl, Nat.le_of_ble_eq_true rfl⟩) hP hD hS hA [] rfl rfl (by decide) (by decide) (by decide) rfl (fun H locs hP hD hS => ?_)
  refine lv_ixor hx hb dW_enc_27 ?_
  refine lv_istore hx hb dW_enc_28 hl (by decide) rfl (fun ls hl => ?_)
  have hl : lv_has ls 6 [(5, .int (((g2 &&& 65535) ^^^ (zw_half g1 1 ((zush g2 16) ^^^ (zw_half g1 0 (g2 &&& 65535))))) ^^^ (zw_half g1 3 (((zush g2 16) ^^^ (zw_half g1 0 (g2 &&& 65535))) ^^^ (zw_half g1 2 ((g2 &&& 65535) ^^^ (zw_half g1 1 ((zush g2 16) ^^^ (zw_half g1 0 (g2 &&& 65535)))))))))), (4, .int 3), (3, .int (((zush g2 16) ^^^ (zw_half g1 0 (g2 &&& 65535))) ^^^ (zw_half g1 2 ((g2 &&& 65535) ^^^ (zw_half g1 1 ((zush g2 16) ^^^ (zw_half g1 0 (g2 &&& 65535)))))))), (2, .int ((g2 &&& 65535) ^^^ (zw_half g1 1 ((zush g2 16) ^^^ (zw_half g1 0 (g2 &&& 65535)))))), (0, .int g1), (1, .int g2)] := hl
  refine lv_iload_n hx hb dW_enc_30 rfl (lv_at hl 2 rfl) ?_
  refine lv_istore_n hx hb dW_enc_31 rfl hl (by decide) rfl (fun ls hl => ?_)
  have hl : lv_has ls 6 [(2, .int (((zush g2 16) ^^^ (zw_half g1 0 (g2 &&& 65535))) ^^^ (zw_half g1 2 ((g2 &&& 65535) ^^^ (zw_half g1 1 ((zush g2 16) ^^^ (zw_half g1 0 (g2 &&& 65535)))))))), (5, .int (((g2 &&& 65535) ^^^ (zw_half g1 1 ((zush g2 16) ^^^ (zw_half g1 0 (g2 &&& 65535))))) ^^^ (zw_half g1 3 (((zush g2 16) ^^^ (zw_half g1 0 (g2 &&& 65535))) ^^^ (zw_half g1 2 ((g2 &&& 65535) ^^^ (zw_half g1 1 ((zush g2 16) ^^^ (zw_half g1 0 (g2 &&& 65535)))))))))), (4, .int 3), (3, .int (((zush g2 16) ^^^ (zw_half g1 0 (g2 &&& 65535))) ^^^ (zw_half g1 2 ((g2 &&& 65535) ^^^ (zw_half g1 1 ((zush g2 16) ^^^ (zw_half g1 0 (g2 &&& 65535)))))))), (0, .int g1), (1, .int g2)] := hl
  refine lv_iload hx hb dW_enc_32 (lv_at hl 1 rfl) ?_
  refine lv_istore_n hx hb dW_enc_34 rfl hl (by decide) rfl (fun ls hl => ?_)
  have hl : lv_has ls 6 [(3, .int (((g2 &&& 65535) ^^^ (zw_half g1 1 ((zush g2 16) ^^^ (zw_half g1 0 (g2 &&& 65535))))) ^^^ (zw_half g1 3 (((zush g2 16) ^^^ (zw_half g1 0 (g2 &&& 65535))) ^^^ (zw_half g1 2 ((g2 &&& 65535) ^^^ (zw_half g1 1 ((zush g2 16) ^^^ (zw_half g1 0 (g2 &&& 65535)))))))))), (2, .int (((zush g2 16) ^^^ (zw_half g1 0 (g2 &&& 65535))) ^^^ (zw_half g1 2 ((g2 &&& 65535) ^^^ (zw_half g1 1 ((zush g2 16) ^^^ (zw_half g1 0 (g2 &&& 65535)))))))), (5, .int (((g2 &&& 65535) ^^^ (zw_half g1 1 ((zush g2 16) ^^^ (zw_half g1 0 (g2 &&& 65535))))) ^^^ (zw_half g1 3 (((zush g2 16) ^^^ (zw_half g1 0 (g2 &&& 65535))) ^^^ (zw_half g1 2 ((g2 &&& 65535) ^^^ (zw_half g1 1 ((zush g2 16) ^^^ (zw_half g1 0 (g2 &&& 65535)))))))))), (4, .int 3), (0, .int g1), (1, .int g2)] := hl
  refine lv_iinc (k := 3) (v := 4) hx hb dW_enc_35 hl rfl (by decide) (by decide) rfl (fun ls hl => ?_)
  have hl : lv_has ls 6 [(4, .int 4), (3, .int (((g2 &&& 65535) ^^^ (zw_half g1 1 ((zush g2 16) ^^^ (zw_half g1 0 (g2 &&& 65535))))) ^^^ (zw_half g1 3 (((zush g2 16) ^^^ (zw_half g1 0 (g2 &&& 65535))) ^^^ (zw_half g1 2 ((g2 &&& 65535) ^^^ (zw_half g1 1 ((zush g2 16) ^^^ (zw_half g1 0 (g2 &&& 65535)))))))))), (2, .int (((zush g2 16) ^^^ (zw_half g1 0 (g2 &&& 65535))) ^^^ (zw_half g1 2 ((g2 &&& 65535) ^^^ (zw_half g1 1 ((zush g2 16) ^^^ (zw_half g1 0 (g2 &&& 65535)))))))), (5, .int (((g2 &&& 65535) ^^^ (zw_half g1 1 ((zush g2 16) ^^^ (zw_half g1 0 (g2 &&& 65535))))) ^^^ (zw_half g1 3 (((zush g2 16) ^^^ (zw_half g1 0 (g2 &&& 65535))) ^^^ (zw_half g1 2 ((g2 &&& 65535) ^^^ (zw_half g1 1 ((zush g2 16) ^^^ (zw_half g1 0 (g2 &&& 65535)))))))))), (0, .int g1), (1, .int g2)] := hl
  refine lv_goto hx hb dW_enc_38 (tgt := 13) (by decide) ?_
  refine lv_iload hx hb dW_enc_13 (lv_at hl 0 rfl) ?_
  refine lv_iconst (v := 4) hx hb dW_enc_15 (by decide) ?_
  refine lv_icmp_ge (tgt := 41) hx hb dW_enc_16 (by decide) (fun _ => ?_) (fun h => absurd h (by decide))
  refine lv_iload_n hx hb dW_enc_41 rfl (lv_at hl 2 rfl) ?_
  refine lv_ldc (v := 65536) hx hb hown (hts _ mw248) dW_enc_42 ?_
  refine lv_imul hx hb dW_enc_44 ?_
  refine lv_iload_n hx hb dW_enc_45 rfl (lv_at hl 1 rfl) ?_
  refine lv_iadd hx hb dW_enc_46 ?_
  exact kretP (rfl) hx hb hr hlk hS hP hD hK dW_enc_47

def zw_dec (g1 : Int32) (g2 : Int32) : Int32 := (((((zush g2 16) ^^^ (zw_half g1 2 ((g2 &&& 65535) ^^^ (zw_half g1 3 (zush g2 16))))) ^^^ (zw_half g1 0 (((g2 &&& 65535) ^^^ (zw_half g1 3 (zush g2 16))) ^^^ (zw_half g1 1 ((zush g2 16) ^^^ (zw_half g1 2 ((g2 &&& 65535) ^^^ (zw_half g1 3 (zush g2 16))))))))) * 65536) + (((g2 &&& 65535) ^^^ (zw_half g1 3 (zush g2 16))) ^^^ (zw_half g1 1 ((zush g2 16) ^^^ (zw_half g1 2 ((g2 &&& 65535) ^^^ (zw_half g1 3 (zush g2 16))))))))

set_option maxHeartbeats 4000000 in
set_option maxRecDepth 100000 in
theorem kw_dec (l : Launch) (D : va_G) (cI cZ : ClassId) (g1 : Int32) (g2 : Int32) : kI l yW_dec wsW_dec (rmOf 2 44) D (kT cI cZ) [.int g1, .int g2] [] (zw_dec g1 g2) [] := by
  intro sz
  refine kOf (Qc := fun A => kQi D (kT cI cZ) A (zw_dec g1 g2) []) (cc := cW_dec) (maxL := 6) (ret := some .int) (by decide) rfl (Nat.le_of_ble_eq_true rfl) ?_ sz
  intro p e s m args below meth c A ls hx hb hml hown hts hNw hr hlk hin hA hS hP hD hK hl
  show W p l e (rmOf 2 44) s m args below meth c s.heap [] 0 0 (MQ below (kQi D (kT cI cZ) A (zw_dec g1 g2) []) args s 0 0 A) (F0 m 0 ls [])
  have hts : ∀ q ∈ lw_g, q.before args s = true := fun q h => hts q (List.mem_cons_of_mem _ h)
  have hown : s.vm.findClass cnW = some m.cls := hown
  have hl : lv_has ls 6 [(0, .int g1), (1, .int g2)] := hl
  have hP : va_P D vwCl [] s.heap := hP
  have hD : va_D A [] := hD
  refine lv_iload_n hx hb dW_dec_0 rfl (lv_at hl 1 rfl) ?_
  refine lv_bipush (v := 16) hx hb dW_dec_1 (by decide) ?_
  refine lv_iushr (v := (zush g2 16)) hx hb dW_dec_3 rfl ?_
  refine lv_istore_n hx hb dW_dec_4 rfl hl (by decide) rfl (fun ls hl => ?_)
  have hl : lv_has ls 6 [(2, .int (zush g2 16)), (0, .int g1), (1, .int g2)] := hl
  refine lv_iload_n hx hb dW_dec_5 rfl (lv_at hl 2 rfl) ?_
  refine lv_ldc (v := 65535) hx hb hown (hts _ mw243) dW_dec_6 ?_
  refine lv_iand hx hb dW_dec_8 ?_
  refine lv_istore_n hx hb dW_dec_9 rfl hl (by decide) rfl (fun ls hl => ?_)
  have hl : lv_has ls 6 [(3, .int (g2 &&& 65535)), (2, .int (zush g2 16)), (0, .int g1), (1, .int g2)] := hl
  refine lv_iconst (v := 3) hx hb dW_dec_10 (by decide) ?_
  refine lv_istore hx hb dW_dec_11 hl (by decide) rfl (fun ls hl => ?_)
  have hl : lv_has ls 6 [(4, .int 3), (3, .int (g2 &&& 65535)), (2, .int (zush g2 16)), (0, .int g1), (1, .int g2)] := hl
  refine lv_iload hx hb dW_dec_13 (lv_at hl 0 rfl) ?_
  refine lv_if_lt (tgt := 40) hx hb dW_dec_15 (by decide) (fun h => absurd h (by decide)) (fun _ => ?_)
  refine lv_iload_n hx hb dW_dec_18 rfl (lv_at hl 1 rfl) ?_
  refine lv_iload_n hx hb dW_dec_19 rfl (lv_at hl 3 rfl) ?_
  refine lv_iload hx hb dW_dec_20 (lv_at hl 0 rfl) ?_
  refine lv_iload_n hx hb dW_dec_22 rfl (lv_at hl 2 rfl) ?_
  refine kcI (isR := []) (isC := []) (wr := []) (w2 := []) (va_runS (As := [.int g1, .int 3, .int (zush g2 16)]) (rest := [.int (g2 &&& 65535)]) ⟨hx, hb, hml, hown, hts⟩ (kw_half l D cI cZ g1 3 (zush g2 16) _) ⟨(callB_of 3 hts gd_yW_half rfl rfl rfl (hts _ mw28) (hts _ mw244) (by decide +kernel) ⟨Nat.le_of_ble_eq_true rfl, Nat.le_of_ble_eq_true rfl⟩), hts _ mw245⟩ (kpreS hNw hP hD hK [] rfl (by decide)) rfl rfl hl.1 rfl (lv_room (Nat.le_of_ble_eq_true rfl)) dW_dec_23 ⟨Nat.le_of_ble_eq_true rfl, Nat.le_of_ble_eq_true rfl⟩) hP hD hS hA [] rfl rfl (by decide) (by decide) (by decide) rfl (fun H locs hP hD hS => ?_)
  refine lv_ixor hx hb dW_dec_26 ?_
  refine lv_istore hx hb dW_dec_27 hl (by decide) rfl (fun ls hl => ?_)
  have hl : lv_has ls 6 [(5, .int ((g2 &&& 65535) ^^^ (zw_half g1 3 (zush g2 16)))), (4, .int 3), (3, .int (g2 &&& 65535)), (2, .int (zush g2 16)), (0, .int g1), (1, .int g2)] := hl
  refine lv_iload_n hx hb dW_dec_29 rfl (lv_at hl 3 rfl) ?_
  refine lv_istore_n hx hb dW_dec_30 rfl hl (by decide) rfl (fun ls hl => ?_)
  have hl : lv_has ls 6 [(3, .int (zush g2 16)), (5, .int ((g2 &&& 65535) ^^^ (zw_half g1 3 (zush g2 16)))), (4, .int 3), (2, .int (zush g2 16)), (0, .int g1), (1, .int g2)] := hl
  refine lv_iload hx hb dW_dec_31 (lv_at hl 1 rfl) ?_
  refine lv_istore_n hx hb dW_dec_33 rfl hl (by decide) rfl (fun ls hl => ?_)
  have hl : lv_has ls 6 [(2, .int ((g2 &&& 65535) ^^^ (zw_half g1 3 (zush g2 16)))), (3, .int (zush g2 16)), (5, .int ((g2 &&& 65535) ^^^ (zw_half g1 3 (zush g2 16)))), (4, .int 3), (0, .int g1), (1, .int g2)] := hl
  refine lv_iinc (k := 3) (v := 2) hx hb dW_dec_34 hl rfl (by decide) (by decide) rfl (fun ls hl => ?_)
  have hl : lv_has ls 6 [(4, .int 2), (2, .int ((g2 &&& 65535) ^^^ (zw_half g1 3 (zush g2 16)))), (3, .int (zush g2 16)), (5, .int ((g2 &&& 65535) ^^^ (zw_half g1 3 (zush g2 16)))), (0, .int g1), (1, .int g2)] := hl
  refine lv_goto hx hb dW_dec_37 (tgt := 13) (by decide) ?_
  refine lv_iload hx hb dW_dec_13 (lv_at hl 0 rfl) ?_
  refine lv_if_lt (tgt := 40) hx hb dW_dec_15 (by decide) (fun h => absurd h (by decide)) (fun _ => ?_)
  refine lv_iload_n hx hb dW_dec_18 rfl (lv_at hl 2 rfl) ?_
  refine lv_iload_n hx hb dW_dec_19 rfl (lv_at hl 4 rfl) ?_
  refine lv_iload hx hb dW_dec_20 (lv_at hl 0 rfl) ?_
  refine lv_iload_n hx hb dW_dec_22 rfl (lv_at hl 1 rfl) ?_
  refine kcI (isR := []) (isC := []) (wr := []) (w2 := []) (va_runS (As := [.int g1, .int 2, .int ((g2 &&& 65535) ^^^ (zw_half g1 3 (zush g2 16)))]) (rest := [.int (zush g2 16)]) ⟨hx, hb, hml, hown, hts⟩ (kw_half l D cI cZ g1 2 ((g2 &&& 65535) ^^^ (zw_half g1 3 (zush g2 16))) _) ⟨(callB_of 3 hts gd_yW_half rfl rfl rfl (hts _ mw28) (hts _ mw244) (by decide +kernel) ⟨Nat.le_of_ble_eq_true rfl, Nat.le_of_ble_eq_true rfl⟩), hts _ mw245⟩ (kpreS hNw hP hD hK [] rfl (by decide)) rfl rfl hl.1 rfl (lv_room (Nat.le_of_ble_eq_true rfl)) dW_dec_23 ⟨Nat.le_of_ble_eq_true rfl, Nat.le_of_ble_eq_true rfl⟩) hP hD hS hA [] rfl rfl (by decide) (by decide) (by decide) rfl (fun H locs hP hD hS => ?_)
  refine lv_ixor hx hb dW_dec_26 ?_
  refine lv_istore hx hb dW_dec_27 hl (by decide) rfl (fun ls hl => ?_)
  have hl : lv_has ls 6 [(5, .int ((zush g2 16) ^^^ (zw_half g1 2 ((g2 &&& 65535) ^^^ (zw_half g1 3 (zush g2 16)))))), (4, .int 2), (2, .int ((g2 &&& 65535) ^^^ (zw_half g1 3 (zush g2 16)))), (3, .int (zush g2 16)), (0, .int g1), (1, .int g2)] := hl
  refine lv_iload_n hx hb dW_dec_29 rfl (lv_at hl 2 rfl) ?_
  refine lv_istore_n hx hb dW_dec_30 rfl hl (by decide) rfl (fun ls hl => ?_)
  have hl : lv_has ls 6 [(3, .int ((g2 &&& 65535) ^^^ (zw_half g1 3 (zush g2 16)))), (5, .int ((zush g2 16) ^^^ (zw_half g1 2 ((g2 &&& 65535) ^^^ (zw_half g1 3 (zush g2 16)))))), (4, .int 2), (2, .int ((g2 &&& 65535) ^^^ (zw_half g1 3 (zush g2 16)))), (0, .int g1), (1, .int g2)] := hl
  refine lv_iload hx hb dW_dec_31 (lv_at hl 1 rfl) ?_
  refine lv_istore_n hx hb dW_dec_33 rfl hl (by decide) rfl (fun ls hl => ?_)
  have hl : lv_has ls 6 [(2, .int ((zush g2 16) ^^^ (zw_half g1 2 ((g2 &&& 65535) ^^^ (zw_half g1 3 (zush g2 16)))))), (3, .int ((g2 &&& 65535) ^^^ (zw_half g1 3 (zush g2 16)))), (5, .int ((zush g2 16) ^^^ (zw_half g1 2 ((g2 &&& 65535) ^^^ (zw_half g1 3 (zush g2 16)))))), (4, .int 2), (0, .int g1), (1, .int g2)] := hl
  refine lv_iinc (k := 3) (v := 1) hx hb dW_dec_34 hl rfl (by decide) (by decide) rfl (fun ls hl => ?_)
  have hl : lv_has ls 6 [(4, .int 1), (2, .int ((zush g2 16) ^^^ (zw_half g1 2 ((g2 &&& 65535) ^^^ (zw_half g1 3 (zush g2 16)))))), (3, .int ((g2 &&& 65535) ^^^ (zw_half g1 3 (zush g2 16)))), (5, .int ((zush g2 16) ^^^ (zw_half g1 2 ((g2 &&& 65535) ^^^ (zw_half g1 3 (zush g2 16)))))), (0, .int g1), (1, .int g2)] := hl
  refine lv_goto hx hb dW_dec_37 (tgt := 13) (by decide) ?_
  refine lv_iload hx hb dW_dec_13 (lv_at hl 0 rfl) ?_
  refine lv_if_lt (tgt := 40) hx hb dW_dec_15 (by decide) (fun h => absurd h (by decide)) (fun _ => ?_)
  refine lv_iload_n hx hb dW_dec_18 rfl (lv_at hl 2 rfl) ?_
  refine lv_iload_n hx hb dW_dec_19 rfl (lv_at hl 4 rfl) ?_
  refine lv_iload hx hb dW_dec_20 (lv_at hl 0 rfl) ?_
  refine lv_iload_n hx hb dW_dec_22 rfl (lv_at hl 1 rfl) ?_
  refine kcI (isR := []) (isC := []) (wr := []) (w2 := []) (va_runS (As := [.int g1, .int 1, .int ((zush g2 16) ^^^ (zw_half g1 2 ((g2 &&& 65535) ^^^ (zw_half g1 3 (zush g2 16)))))]) (rest := [.int ((g2 &&& 65535) ^^^ (zw_half g1 3 (zush g2 16)))]) ⟨hx, hb, hml, hown, hts⟩ (kw_half l D cI cZ g1 1 ((zush g2 16) ^^^ (zw_half g1 2 ((g2 &&& 65535) ^^^ (zw_half g1 3 (zush g2 16))))) _) ⟨(callB_of 3 hts gd_yW_half rfl rfl rfl (hts _ mw28) (hts _ mw244) (by decide +kernel) ⟨Nat.le_of_ble_eq_true rfl, Nat.le_of_ble_eq_true rfl⟩), hts _ mw245⟩ (kpreS hNw hP hD hK [] rfl (by decide)) rfl rfl hl.1 rfl (lv_room (Nat.le_of_ble_eq_true rfl)) dW_dec_23 ⟨Nat.le_of_ble_eq_true rfl, Nat.le_of_ble_eq_true rfl⟩) hP hD hS hA [] rfl rfl (by decide) (by decide) (by decide) rfl (fun H locs hP hD hS => ?_)
  refine lv_ixor hx hb dW_dec_26 ?_
  refine lv_istore hx hb dW_dec_27 hl (by decide) rfl (fun ls hl => ?_)
  have hl : lv_has ls 6 [(5, .int (((g2 &&& 65535) ^^^ (zw_half g1 3 (zush g2 16))) ^^^ (zw_half g1 1 ((zush g2 16) ^^^ (zw_half g1 2 ((g2 &&& 65535) ^^^ (zw_half g1 3 (zush g2 16)))))))), (4, .int 1), (2, .int ((zush g2 16) ^^^ (zw_half g1 2 ((g2 &&& 65535) ^^^ (zw_half g1 3 (zush g2 16)))))), (3, .int ((g2 &&& 65535) ^^^ (zw_half g1 3 (zush g2 16)))), (0, .int g1), (1, .int g2)] := hl
  refine lv_iload_n hx hb dW_dec_29 rfl (lv_at hl 2 rfl) ?_
  refine lv_istore_n hx hb dW_dec_30 rfl hl (by decide) rfl (fun ls hl => ?_)
  have hl : lv_has ls 6 [(3, .int ((zush g2 16) ^^^ (zw_half g1 2 ((g2 &&& 65535) ^^^ (zw_half g1 3 (zush g2 16)))))), (5, .int (((g2 &&& 65535) ^^^ (zw_half g1 3 (zush g2 16))) ^^^ (zw_half g1 1 ((zush g2 16) ^^^ (zw_half g1 2 ((g2 &&& 65535) ^^^ (zw_half g1 3 (zush g2 16)))))))), (4, .int 1), (2, .int ((zush g2 16) ^^^ (zw_half g1 2 ((g2 &&& 65535) ^^^ (zw_half g1 3 (zush g2 16)))))), (0, .int g1), (1, .int g2)] := hl
  refine lv_iload hx hb dW_dec_31 (lv_at hl 1 rfl) ?_
  refine lv_istore_n hx hb dW_dec_33 rfl hl (by decide) rfl (fun ls hl => ?_)
  have hl : lv_has ls 6 [(2, .int (((g2 &&& 65535) ^^^ (zw_half g1 3 (zush g2 16))) ^^^ (zw_half g1 1 ((zush g2 16) ^^^ (zw_half g1 2 ((g2 &&& 65535) ^^^ (zw_half g1 3 (zush g2 16)))))))), (3, .int ((zush g2 16) ^^^ (zw_half g1 2 ((g2 &&& 65535) ^^^ (zw_half g1 3 (zush g2 16)))))), (5, .int (((g2 &&& 65535) ^^^ (zw_half g1 3 (zush g2 16))) ^^^ (zw_half g1 1 ((zush g2 16) ^^^ (zw_half g1 2 ((g2 &&& 65535) ^^^ (zw_half g1 3 (zush g2 16)))))))), (4, .int 1), (0, .int g1), (1, .int g2)] := hl
  refine lv_iinc (k := 3) (v := 0) hx hb dW_dec_34 hl rfl (by decide) (by decide) rfl (fun ls hl => ?_)
  have hl : lv_has ls 6 [(4, .int 0), (2, .int (((g2 &&& 65535) ^^^ (zw_half g1 3 (zush g2 16))) ^^^ (zw_half g1 1 ((zush g2 16) ^^^ (zw_half g1 2 ((g2 &&& 65535) ^^^ (zw_half g1 3 (zush g2 16)))))))), (3, .int ((zush g2 16) ^^^ (zw_half g1 2 ((g2 &&& 65535) ^^^ (zw_half g1 3 (zush g2 16)))))), (5, .int (((g2 &&& 65535) ^^^ (zw_half g1 3 (zush g2 16))) ^^^ (zw_half g1 1 ((zush g2 16) ^^^ (zw_half g1 2 ((g2 &&& 65535) ^^^ (zw_half g1 3 (zush g2 16)))))))), (0, .int g1), (1, .int g2)] := hl
  refine lv_goto hx hb dW_dec_37 (tgt := 13) (by decide) ?_
  refine lv_iload hx hb dW_dec_13 (lv_at hl 0 rfl) ?_
  refine lv_if_lt (tgt := 40) hx hb dW_dec_15 (by decide) (fun h => absurd h (by decide)) (fun _ => ?_)
  refine lv_iload_n hx hb dW_dec_18 rfl (lv_at hl 2 rfl) ?_
  refine lv_iload_n hx hb dW_dec_19 rfl (lv_at hl 4 rfl) ?_
  refine lv_iload hx hb dW_dec_20 (lv_at hl 0 rfl) ?_
  refine lv_iload_n hx hb dW_dec_22 rfl (lv_at hl 1 rfl) ?_
  refine kcI (isR := []) (isC := []) (wr := []) (w2 := []) (va_runS (As := [.int g1, .int 0, .int (((g2 &&& 65535) ^^^ (zw_half g1 3 (zush g2 16))) ^^^ (zw_half g1 1 ((zush g2 16) ^^^ (zw_half g1 2 ((g2 &&& 65535) ^^^ (zw_half g1 3 (zush g2 16)))))))]) (rest := [.int ((zush g2 16) ^^^ (zw_half g1 2 ((g2 &&& 65535) ^^^ (zw_half g1 3 (zush g2 16)))))]) ⟨hx, hb, hml, hown, hts⟩ (kw_half l D cI cZ g1 0 (((g2 &&& 65535) ^^^ (zw_half g1 3 (zush g2 16))) ^^^ (zw_half g1 1 ((zush g2 16) ^^^ (zw_half g1 2 ((g2 &&& 65535) ^^^ (zw_half g1 3 (zush g2 16))))))) _) ⟨(callB_of 3 hts gd_yW_half rfl rfl rfl (hts _ mw28) (hts _ mw244) (by decide +kernel) ⟨Nat.le_of_ble_eq_true rfl, Nat.le_of_ble_eq_true rfl⟩), hts _ mw245⟩ (kpreS hNw hP hD hK [] rfl (by decide)) rfl rfl hl.1 rfl (lv_room (Nat.le_of_ble_eq_true rfl)) dW_dec_23 ⟨Nat.le_of_ble_eq_true rfl, Nat.le_of_ble_eq_true rfl⟩) hP hD hS hA [] rfl rfl (by decide) (by decide) (by decide) rfl (fun H locs hP hD hS => ?_)
  refine lv_ixor hx hb dW_dec_26 ?_
  refine lv_istore hx hb dW_dec_27 hl (by decide) rfl (fun ls hl => ?_)
  have hl : lv_has ls 6 [(5, .int (((zush g2 16) ^^^ (zw_half g1 2 ((g2 &&& 65535) ^^^ (zw_half g1 3 (zush g2 16))))) ^^^ (zw_half g1 0 (((g2 &&& 65535) ^^^ (zw_half g1 3 (zush g2 16))) ^^^ (zw_half g1 1 ((zush g2 16) ^^^ (zw_half g1 2 ((g2 &&& 65535) ^^^ (zw_half g1 3 (zush g2 16)))))))))), (4, .int 0), (2, .int (((g2 &&& 65535) ^^^ (zw_half g1 3 (zush g2 16))) ^^^ (zw_half g1 1 ((zush g2 16) ^^^ (zw_half g1 2 ((g2 &&& 65535) ^^^ (zw_half g1 3 (zush g2 16)))))))), (3, .int ((zush g2 16) ^^^ (zw_half g1 2 ((g2 &&& 65535) ^^^ (zw_half g1 3 (zush g2 16)))))), (0, .int g1), (1, .int g2)] := hl
  refine lv_iload_n hx hb dW_dec_29 rfl (lv_at hl 2 rfl) ?_
  refine lv_istore_n hx hb dW_dec_30 rfl hl (by decide) rfl (fun ls hl => ?_)
  have hl : lv_has ls 6 [(3, .int (((g2 &&& 65535) ^^^ (zw_half g1 3 (zush g2 16))) ^^^ (zw_half g1 1 ((zush g2 16) ^^^ (zw_half g1 2 ((g2 &&& 65535) ^^^ (zw_half g1 3 (zush g2 16)))))))), (5, .int (((zush g2 16) ^^^ (zw_half g1 2 ((g2 &&& 65535) ^^^ (zw_half g1 3 (zush g2 16))))) ^^^ (zw_half g1 0 (((g2 &&& 65535) ^^^ (zw_half g1 3 (zush g2 16))) ^^^ (zw_half g1 1 ((zush g2 16) ^^^ (zw_half g1 2 ((g2 &&& 65535) ^^^ (zw_half g1 3 (zush g2 16)))))))))), (4, .int 0), (2, .int (((g2 &&& 65535) ^^^ (zw_half g1 3 (zush g2 16))) ^^^ (zw_half g1 1 ((zush g2 16) ^^^ (zw_half g1 2 ((g2 &&& 65535) ^^^ (zw_half g1 3 (zush g2 16)))))))), (0, .int g1), (1, .int g2)] := hl
  refine lv_iload hx hb dW_dec_31 (lv_at hl 1 rfl) ?_
  refine lv_istore_n hx hb dW_dec_33 rfl hl (by decide) rfl (fun ls hl => ?_)
  have hl : lv_has ls 6 [(2, .int (((zush g2 16) ^^^ (zw_half g1 2 ((g2 &&& 65535) ^^^ (zw_half g1 3 (zush g2 16))))) ^^^ (zw_half g1 0 (((g2 &&& 65535) ^^^ (zw_half g1 3 (zush g2 16))) ^^^ (zw_half g1 1 ((zush g2 16) ^^^ (zw_half g1 2 ((g2 &&& 65535) ^^^ (zw_half g1 3 (zush g2 16)))))))))), (3, .int (((g2 &&& 65535) ^^^ (zw_half g1 3 (zush g2 16))) ^^^ (zw_half g1 1 ((zush g2 16) ^^^ (zw_half g1 2 ((g2 &&& 65535) ^^^ (zw_half g1 3 (zush g2 16)))))))), (5, .int (((zush g2 16) ^^^ (zw_half g1 2 ((g2 &&& 65535) ^^^ (zw_half g1 3 (zush g2 16))))) ^^^ (zw_half g1 0 (((g2 &&& 65535) ^^^ (zw_half g1 3 (zush g2 16))) ^^^ (zw_half g1 1 ((zush g2 16) ^^^ (zw_half g1 2 ((g2 &&& 65535) ^^^ (zw_half g1 3 (zush g2 16)))))))))), (4, .int 0), (0, .int g1), (1, .int g2)] := hl
  refine lv_iinc (k := 3) (v := (-1)) hx hb dW_dec_34 hl rfl (by decide) (by decide) rfl (fun ls hl => ?_)
  have hl : lv_has ls 6 [(4, .int (-1)), (2, .int (((zush g2 16) ^^^ (zw_half g1 2 ((g2 &&& 65535) ^^^ (zw_half g1 3 (zush g2 16))))) ^^^ (zw_half g1 0 (((g2 &&& 65535) ^^^ (zw_half g1 3 (zush g2 16))) ^^^ (zw_half g1 1 ((zush g2 16) ^^^ (zw_half g1 2 ((g2 &&& 65535) ^^^ (zw_half g1 3 (zush g2 16)))))))))), (3, .int (((g2 &&& 65535) ^^^ (zw_half g1 3 (zush g2 16))) ^^^ (zw_half g1 1 ((zush g2 16) ^^^ (zw_half g1 2 ((g2 &&& 65535) ^^^ (zw_half g1 3 (zush g2 16)))))))), (5, .int (((zush g2 16) ^^^ (zw_half g1 2 ((g2 &&& 65535) ^^^ (zw_half g1 3 (zush g2 16))))) ^^^ (zw_half g1 0 (((g2 &&& 65535) ^^^ (zw_half g1 3 (zush g2 16))) ^^^ (zw_half g1 1 ((zush g2 16) ^^^ (zw_half g1 2 ((g2 &&& 65535) ^^^ (zw_half g1 3 (zush g2 16)))))))))), (0, .int g1), (1, .int g2)] := hl
  refine lv_goto hx hb dW_dec_37 (tgt := 13) (by decide) ?_
  refine lv_iload hx hb dW_dec_13 (lv_at hl 0 rfl) ?_
  refine lv_if_lt (tgt := 40) hx hb dW_dec_15 (by decide) (fun _ => ?_) (fun h => absurd h (by decide))
  refine lv_iload_n hx hb dW_dec_40 rfl (lv_at hl 1 rfl) ?_
  refine lv_ldc (v := 65536) hx hb hown (hts _ mw248) dW_dec_41 ?_
  refine lv_imul hx hb dW_dec_43 ?_
  refine lv_iload_n hx hb dW_dec_44 rfl (lv_at hl 2 rfl) ?_
  refine lv_iadd hx hb dW_dec_45 ?_
  exact kretP (rfl) hx hb hr hlk hS hP hD hK dW_dec_46

def zmac1 (h b : Int32) : Int32 := (((h ^^^ b) * 16777619) ^^^ (zush ((h ^^^ b) * 16777619) 13))

def zw_mac (g1 : Int32) (g2 : Int32) : Int32 := (zmac1 (zmac1 (zmac1 (zmac1 g1 (zw_byteOf g2 0)) (zw_byteOf g2 1)) (zw_byteOf g2 2)) (zw_byteOf g2 3))

set_option maxHeartbeats 4000000 in
set_option maxRecDepth 100000 in
theorem kw_mac (l : Launch) (D : va_G) (cI cZ : ClassId) (g1 : Int32) (g2 : Int32) : kI l yW_mac wsW_mac (rmOf 1 21) D (kT cI cZ) [.int g1, .int g2] [] (zw_mac g1 g2) [] := by
  intro sz
  refine kOf (Qc := fun A => kQi D (kT cI cZ) A (zw_mac g1 g2) []) (cc := cW_mac) (maxL := 4) (ret := some .int) (by decide) rfl (Nat.le_of_ble_eq_true rfl) ?_ sz
  intro p e s m args below meth c A ls hx hb hml hown hts hNw hr hlk hin hA hS hP hD hK hl
  show W p l e (rmOf 1 21) s m args below meth c s.heap [] 0 0 (MQ below (kQi D (kT cI cZ) A (zw_mac g1 g2) []) args s 0 0 A) (F0 m 0 ls [])
  have hts : ∀ q ∈ lw_g, q.before args s = true := fun q h => hts q (List.mem_cons_of_mem _ h)
  have hown : s.vm.findClass cnW = some m.cls := hown
  have hl : lv_has ls 4 [(0, .int g1), (1, .int g2)] := hl
  have hP : va_P D vwCl [] s.heap := hP
  have hD : va_D A [] := hD
  refine lv_iload_n hx hb dW_mac_0 rfl (lv_at hl 0 rfl) ?_
  refine lv_istore_n hx hb dW_mac_1 rfl hl (by decide) rfl (fun ls hl => ?_)
  have hl : lv_has ls 4 [(2, .int g1), (0, .int g1), (1, .int g2)] := hl
  refine lv_iconst (v := 0) hx hb dW_mac_2 (by decide) ?_
  refine lv_istore_n hx hb dW_mac_3 rfl hl (by decide) rfl (fun ls hl => ?_)
  have hl : lv_has ls 4 [(3, .int 0), (2, .int g1), (0, .int g1), (1, .int g2)] := hl
  refine lv_iload_n hx hb dW_mac_4 rfl (lv_at hl 0 rfl) ?_
  refine lv_iconst (v := 4) hx hb dW_mac_5 (by decide) ?_
  refine lv_icmp_ge (tgt := 33) hx hb dW_mac_6 (by decide) (fun h => absurd h (by decide)) (fun _ => ?_)
  refine lv_iload_n hx hb dW_mac_9 rfl (lv_at hl 1 rfl) ?_
  refine lv_iload_n hx hb dW_mac_10 rfl (lv_at hl 3 rfl) ?_
  refine lv_iload_n hx hb dW_mac_11 rfl (lv_at hl 0 rfl) ?_
  refine kcI (isR := []) (isC := []) (wr := []) (w2 := []) (va_runS (As := [.int g2, .int 0]) (rest := [.int g1]) ⟨hx, hb, hml, hown, hts⟩ (kw_byteOf l D cI cZ g2 0 _) ⟨(callB_of 2 hts gd_yW_byteOf rfl rfl rfl (hts _ mw28) (hts _ mw182) (by decide +kernel) ⟨Nat.le_of_ble_eq_true rfl, Nat.le_of_ble_eq_true rfl⟩), hts _ mw183⟩ (kpreS hNw hP hD hK [] rfl (by decide)) rfl rfl hl.1 rfl (lv_room (Nat.le_of_ble_eq_true rfl)) dW_mac_12 ⟨Nat.le_of_ble_eq_true rfl, Nat.le_of_ble_eq_true rfl⟩) hP hD hS hA [] rfl rfl (by decide) (by decide) (by decide) rfl (fun H locs hP hD hS => ?_)
  refine lv_ixor hx hb dW_mac_15 ?_
  refine lv_ldc (v := 16777619) hx hb hown (hts _ mw185) dW_mac_16 ?_
  refine lv_imul hx hb dW_mac_18 ?_
  refine lv_istore_n hx hb dW_mac_19 rfl hl (by decide) rfl (fun ls hl => ?_)
  have hl : lv_has ls 4 [(2, .int ((g1 ^^^ (zw_byteOf g2 0)) * 16777619)), (3, .int 0), (0, .int g1), (1, .int g2)] := hl
  refine lv_iload_n hx hb dW_mac_20 rfl (lv_at hl 0 rfl) ?_
  refine lv_iload_n hx hb dW_mac_21 rfl (lv_at hl 0 rfl) ?_
  refine lv_bipush (v := 13) hx hb dW_mac_22 (by decide) ?_
  refine lv_iushr (v := (zush ((g1 ^^^ (zw_byteOf g2 0)) * 16777619) 13)) hx hb dW_mac_24 rfl ?_
  refine lv_ixor hx hb dW_mac_25 ?_
  refine kTop (y := (zmac1 g1 (zw_byteOf g2 0))) (rfl) ?_
  refine lv_istore_n hx hb dW_mac_26 rfl hl (by decide) rfl (fun ls hl => ?_)
  have hl : lv_has ls 4 [(2, .int (zmac1 g1 (zw_byteOf g2 0))), (3, .int 0), (0, .int g1), (1, .int g2)] := hl
  refine lv_iinc (k := 1) (v := 1) hx hb dW_mac_27 hl rfl (by decide) (by decide) rfl (fun ls hl => ?_)
  have hl : lv_has ls 4 [(3, .int 1), (2, .int (zmac1 g1 (zw_byteOf g2 0))), (0, .int g1), (1, .int g2)] := hl
  refine lv_goto hx hb dW_mac_30 (tgt := 4) (by decide) ?_
  refine lv_iload_n hx hb dW_mac_4 rfl (lv_at hl 0 rfl) ?_
  refine lv_iconst (v := 4) hx hb dW_mac_5 (by decide) ?_
  refine lv_icmp_ge (tgt := 33) hx hb dW_mac_6 (by decide) (fun h => absurd h (by decide)) (fun _ => ?_)
  refine lv_iload_n hx hb dW_mac_9 rfl (lv_at hl 1 rfl) ?_
  refine lv_iload_n hx hb dW_mac_10 rfl (lv_at hl 3 rfl) ?_
  refine lv_iload_n hx hb dW_mac_11 rfl (lv_at hl 0 rfl) ?_
  refine kcI (isR := []) (isC := []) (wr := []) (w2 := []) (va_runS (As := [.int g2, .int 1]) (rest := [.int (zmac1 g1 (zw_byteOf g2 0))]) ⟨hx, hb, hml, hown, hts⟩ (kw_byteOf l D cI cZ g2 1 _) ⟨(callB_of 2 hts gd_yW_byteOf rfl rfl rfl (hts _ mw28) (hts _ mw182) (by decide +kernel) ⟨Nat.le_of_ble_eq_true rfl, Nat.le_of_ble_eq_true rfl⟩), hts _ mw183⟩ (kpreS hNw hP hD hK [] rfl (by decide)) rfl rfl hl.1 rfl (lv_room (Nat.le_of_ble_eq_true rfl)) dW_mac_12 ⟨Nat.le_of_ble_eq_true rfl, Nat.le_of_ble_eq_true rfl⟩) hP hD hS hA [] rfl rfl (by decide) (by decide) (by decide) rfl (fun H locs hP hD hS => ?_)
  refine lv_ixor hx hb dW_mac_15 ?_
  refine lv_ldc (v := 16777619) hx hb hown (hts _ mw185) dW_mac_16 ?_
  refine lv_imul hx hb dW_mac_18 ?_
  refine lv_istore_n hx hb dW_mac_19 rfl hl (by decide) rfl (fun ls hl => ?_)
  have hl : lv_has ls 4 [(2, .int (((zmac1 g1 (zw_byteOf g2 0)) ^^^ (zw_byteOf g2 1)) * 16777619)), (3, .int 1), (0, .int g1), (1, .int g2)] := hl
  refine lv_iload_n hx hb dW_mac_20 rfl (lv_at hl 0 rfl) ?_
  refine lv_iload_n hx hb dW_mac_21 rfl (lv_at hl 0 rfl) ?_
  refine lv_bipush (v := 13) hx hb dW_mac_22 (by decide) ?_
  refine lv_iushr (v := (zush (((zmac1 g1 (zw_byteOf g2 0)) ^^^ (zw_byteOf g2 1)) * 16777619) 13)) hx hb dW_mac_24 rfl ?_
  refine lv_ixor hx hb dW_mac_25 ?_
  refine kTop (y := (zmac1 (zmac1 g1 (zw_byteOf g2 0)) (zw_byteOf g2 1))) (rfl) ?_
  refine lv_istore_n hx hb dW_mac_26 rfl hl (by decide) rfl (fun ls hl => ?_)
  have hl : lv_has ls 4 [(2, .int (zmac1 (zmac1 g1 (zw_byteOf g2 0)) (zw_byteOf g2 1))), (3, .int 1), (0, .int g1), (1, .int g2)] := hl
  refine lv_iinc (k := 1) (v := 2) hx hb dW_mac_27 hl rfl (by decide) (by decide) rfl (fun ls hl => ?_)
  have hl : lv_has ls 4 [(3, .int 2), (2, .int (zmac1 (zmac1 g1 (zw_byteOf g2 0)) (zw_byteOf g2 1))), (0, .int g1), (1, .int g2)] := hl
  refine lv_goto hx hb dW_mac_30 (tgt := 4) (by decide) ?_
  refine lv_iload_n hx hb dW_mac_4 rfl (lv_at hl 0 rfl) ?_
  refine lv_iconst (v := 4) hx hb dW_mac_5 (by decide) ?_
  refine lv_icmp_ge (tgt := 33) hx hb dW_mac_6 (by decide) (fun h => absurd h (by decide)) (fun _ => ?_)
  refine lv_iload_n hx hb dW_mac_9 rfl (lv_at hl 1 rfl) ?_
  refine lv_iload_n hx hb dW_mac_10 rfl (lv_at hl 3 rfl) ?_
  refine lv_iload_n hx hb dW_mac_11 rfl (lv_at hl 0 rfl) ?_
  refine kcI (isR := []) (isC := []) (wr := []) (w2 := []) (va_runS (As := [.int g2, .int 2]) (rest := [.int (zmac1 (zmac1 g1 (zw_byteOf g2 0)) (zw_byteOf g2 1))]) ⟨hx, hb, hml, hown, hts⟩ (kw_byteOf l D cI cZ g2 2 _) ⟨(callB_of 2 hts gd_yW_byteOf rfl rfl rfl (hts _ mw28) (hts _ mw182) (by decide +kernel) ⟨Nat.le_of_ble_eq_true rfl, Nat.le_of_ble_eq_true rfl⟩), hts _ mw183⟩ (kpreS hNw hP hD hK [] rfl (by decide)) rfl rfl hl.1 rfl (lv_room (Nat.le_of_ble_eq_true rfl)) dW_mac_12 ⟨Nat.le_of_ble_eq_true rfl, Nat.le_of_ble_eq_true rfl⟩) hP hD hS hA [] rfl rfl (by decide) (by decide) (by decide) rfl (fun H locs hP hD hS => ?_)
  refine lv_ixor hx hb dW_mac_15 ?_
  refine lv_ldc (v := 16777619) hx hb hown (hts _ mw185) dW_mac_16 ?_
  refine lv_imul hx hb dW_mac_18 ?_
  refine lv_istore_n hx hb dW_mac_19 rfl hl (by decide) rfl (fun ls hl => ?_)
  have hl : lv_has ls 4 [(2, .int (((zmac1 (zmac1 g1 (zw_byteOf g2 0)) (zw_byteOf g2 1)) ^^^ (zw_byteOf g2 2)) * 16777619)), (3, .int 2), (0, .int g1), (1, .int g2)] := hl
  refine lv_iload_n hx hb dW_mac_20 rfl (lv_at hl 0 rfl) ?_
  refine lv_iload_n hx hb dW_mac_21 rfl (lv_at hl 0 rfl) ?_
  refine lv_bipush (v := 13) hx hb dW_mac_22 (by decide) ?_
  refine lv_iushr (v := (zush (((zmac1 (zmac1 g1 (zw_byteOf g2 0)) (zw_byteOf g2 1)) ^^^ (zw_byteOf g2 2)) * 16777619) 13)) hx hb dW_mac_24 rfl ?_
  refine lv_ixor hx hb dW_mac_25 ?_
  refine kTop (y := (zmac1 (zmac1 (zmac1 g1 (zw_byteOf g2 0)) (zw_byteOf g2 1)) (zw_byteOf g2 2))) (rfl) ?_
  refine lv_istore_n hx hb dW_mac_26 rfl hl (by decide) rfl (fun ls hl => ?_)
  have hl : lv_has ls 4 [(2, .int (zmac1 (zmac1 (zmac1 g1 (zw_byteOf g2 0)) (zw_byteOf g2 1)) (zw_byteOf g2 2))), (3, .int 2), (0, .int g1), (1, .int g2)] := hl
  refine lv_iinc (k := 1) (v := 3) hx hb dW_mac_27 hl rfl (by decide) (by decide) rfl (fun ls hl => ?_)
  have hl : lv_has ls 4 [(3, .int 3), (2, .int (zmac1 (zmac1 (zmac1 g1 (zw_byteOf g2 0)) (zw_byteOf g2 1)) (zw_byteOf g2 2))), (0, .int g1), (1, .int g2)] := hl
  refine lv_goto hx hb dW_mac_30 (tgt := 4) (by decide) ?_
  refine lv_iload_n hx hb dW_mac_4 rfl (lv_at hl 0 rfl) ?_
  refine lv_iconst (v := 4) hx hb dW_mac_5 (by decide) ?_
  refine lv_icmp_ge (tgt := 33) hx hb dW_mac_6 (by decide) (fun h => absurd h (by decide)) (fun _ => ?_)
  refine lv_iload_n hx hb dW_mac_9 rfl (lv_at hl 1 rfl) ?_
  refine lv_iload_n hx hb dW_mac_10 rfl (lv_at hl 3 rfl) ?_
  refine lv_iload_n hx hb dW_mac_11 rfl (lv_at hl 0 rfl) ?_
  refine kcI (isR := []) (isC := []) (wr := []) (w2 := []) (va_runS (As := [.int g2, .int 3]) (rest := [.int (zmac1 (zmac1 (zmac1 g1 (zw_byteOf g2 0)) (zw_byteOf g2 1)) (zw_byteOf g2 2))]) ⟨hx, hb, hml, hown, hts⟩ (kw_byteOf l D cI cZ g2 3 _) ⟨(callB_of 2 hts gd_yW_byteOf rfl rfl rfl (hts _ mw28) (hts _ mw182) (by decide +kernel) ⟨Nat.le_of_ble_eq_true rfl, Nat.le_of_ble_eq_true rfl⟩), hts _ mw183⟩ (kpreS hNw hP hD hK [] rfl (by decide)) rfl rfl hl.1 rfl (lv_room (Nat.le_of_ble_eq_true rfl)) dW_mac_12 ⟨Nat.le_of_ble_eq_true rfl, Nat.le_of_ble_eq_true rfl⟩) hP hD hS hA [] rfl rfl (by decide) (by decide) (by decide) rfl (fun H locs hP hD hS => ?_)
  refine lv_ixor hx hb dW_mac_15 ?_
  refine lv_ldc (v := 16777619) hx hb hown (hts _ mw185) dW_mac_16 ?_
  refine lv_imul hx hb dW_mac_18 ?_
  refine lv_istore_n hx hb dW_mac_19 rfl hl (by decide) rfl (fun ls hl => ?_)
  have hl : lv_has ls 4 [(2, .int (((zmac1 (zmac1 (zmac1 g1 (zw_byteOf g2 0)) (zw_byteOf g2 1)) (zw_byteOf g2 2)) ^^^ (zw_byteOf g2 3)) * 16777619)), (3, .int 3), (0, .int g1), (1, .int g2)] := hl
  refine lv_iload_n hx hb dW_mac_20 rfl (lv_at hl 0 rfl) ?_
  refine lv_iload_n hx hb dW_mac_21 rfl (lv_at hl 0 rfl) ?_
  refine lv_bipush (v := 13) hx hb dW_mac_22 (by decide) ?_
  refine lv_iushr (v := (zush (((zmac1 (zmac1 (zmac1 g1 (zw_byteOf g2 0)) (zw_byteOf g2 1)) (zw_byteOf g2 2)) ^^^ (zw_byteOf g2 3)) * 16777619) 13)) hx hb dW_mac_24 rfl ?_
  refine lv_ixor hx hb dW_mac_25 ?_
  refine kTop (y := (zmac1 (zmac1 (zmac1 (zmac1 g1 (zw_byteOf g2 0)) (zw_byteOf g2 1)) (zw_byteOf g2 2)) (zw_byteOf g2 3))) (rfl) ?_
  refine lv_istore_n hx hb dW_mac_26 rfl hl (by decide) rfl (fun ls hl => ?_)
  have hl : lv_has ls 4 [(2, .int (zmac1 (zmac1 (zmac1 (zmac1 g1 (zw_byteOf g2 0)) (zw_byteOf g2 1)) (zw_byteOf g2 2)) (zw_byteOf g2 3))), (3, .int 3), (0, .int g1), (1, .int g2)] := hl
  refine lv_iinc (k := 1) (v := 4) hx hb dW_mac_27 hl rfl (by decide) (by decide) rfl (fun ls hl => ?_)
  have hl : lv_has ls 4 [(3, .int 4), (2, .int (zmac1 (zmac1 (zmac1 (zmac1 g1 (zw_byteOf g2 0)) (zw_byteOf g2 1)) (zw_byteOf g2 2)) (zw_byteOf g2 3))), (0, .int g1), (1, .int g2)] := hl
  refine lv_goto hx hb dW_mac_30 (tgt := 4) (by decide) ?_
  refine lv_iload_n hx hb dW_mac_4 rfl (lv_at hl 0 rfl) ?_
  refine lv_iconst (v := 4) hx hb dW_mac_5 (by decide) ?_
  refine lv_icmp_ge (tgt := 33) hx hb dW_mac_6 (by decide) (fun _ => ?_) (fun h => absurd h (by decide))
  refine lv_iload_n hx hb dW_mac_33 rfl (lv_at hl 1 rfl) ?_
  exact kretP (rfl) hx hb hr hlk hS hP hD hK dW_mac_34

def zt_hasBoth (g1 : Int32) (g2 : Int32) (g3 : Int32) : Int32 := (if (g1 &&& g2) = 0 then (0 : Int32) else (if (g1 &&& g3) = 0 then (0 : Int32) else (1 : Int32)))

set_option maxHeartbeats 4000000 in
set_option maxRecDepth 100000 in
theorem kt_hasBoth (l : Launch) (D : va_G) (cI cZ : ClassId) (g1 : Int32) (g2 : Int32) (g3 : Int32) : kI l yT_hasBoth wsT_hasBoth (rmOf 0 0) D (kT cI cZ) [.int g1, .int g2, .int g3] [] (zt_hasBoth g1 g2 g3) [] := by
  intro sz
  refine kOf (Qc := fun A => kQi D (kT cI cZ) A (zt_hasBoth g1 g2 g3) []) (cc := cT_hasBoth) (maxL := 3) (ret := some .boolean) (by decide) rfl (Nat.le_of_ble_eq_true rfl) ?_ sz
  intro p e s m args below meth c A ls hx hb hml hown hts hNw hr hlk hin hA hS hP hD hK hl
  show W p l e (rmOf 0 0) s m args below meth c s.heap [] 0 0 (MQ below (kQi D (kT cI cZ) A (zt_hasBoth g1 g2 g3) []) args s 0 0 A) (F0 m 0 ls [])
  have hts : ∀ q ∈ lw_g, q.before args s = true := fun q h => hts q (List.mem_cons_of_mem _ h)
  have hown : s.vm.findClass cnT = some m.cls := hown
  have hl : lv_has ls 3 [(0, .int g1), (1, .int g2), (2, .int g3)] := hl
  have hP : va_P D vwCl [] s.heap := hP
  have hD : va_D A [] := hD
  refine lv_iload_n hx hb dT_hasBoth_0 rfl (lv_at hl 0 rfl) ?_
  refine lv_iload_n hx hb dT_hasBoth_1 rfl (lv_at hl 1 rfl) ?_
  refine lv_iand hx hb dT_hasBoth_2 ?_
  refine kJoin (pcJ := 17) (z := (if (g1 &&& g2) = 0 then (0 : Int32) else (if (g1 &&& g3) = 0 then (0 : Int32) else (1 : Int32)))) (ws := []) (rest := []) (D := D) (A := A) (H0 := s.heap) (fun J17 => ?_) (fun H locs hP hD hS => ?_)
  ·
    refine lv_if_eq (tgt := 16) hx hb dT_hasBoth_3 (by decide) (fun h1 => ?_) (fun h1 => ?_)
    ·
      refine lv_iconst (v := 0) hx hb dT_hasBoth_16 (by decide) ?_
      exact J17 _ _ hP hD hS _ ((if_pos h1).symm)
    ·
      refine lv_iload_n hx hb dT_hasBoth_6 rfl (lv_at hl 0 rfl) ?_
      refine lv_iload_n hx hb dT_hasBoth_7 rfl (lv_at hl 2 rfl) ?_
      refine lv_iand hx hb dT_hasBoth_8 ?_
      refine lv_if_eq (tgt := 16) hx hb dT_hasBoth_9 (by decide) (fun h2 => ?_) (fun h2 => ?_)
      ·
        refine lv_iconst (v := 0) hx hb dT_hasBoth_16 (by decide) ?_
        exact J17 _ _ hP hD hS _ (((if_neg h1).trans (if_pos h2)).symm)
      ·
        refine lv_iconst (v := 1) hx hb dT_hasBoth_12 (by decide) ?_
        refine lv_goto hx hb dT_hasBoth_13 (tgt := 17) (by decide) ?_
        exact J17 _ _ hP hD hS _ (((if_neg h1).trans (if_neg h2)).symm)
  exact kretZ (rfl) (kz_ite kz0 (kz_ite kz0 kz1)) hx hb hr hlk hS hP hD hK dT_hasBoth_17

def zt_areGood (g1 : Int32) : Int32 := (if g1 < 0 then (0 : Int32) else (if 511 < g1 then (0 : Int32) else (if (zt_hasBoth g1 128 32) = 0 then (if (zt_hasBoth g1 256 16) = 0 then (1 : Int32) else (0 : Int32)) else (0 : Int32))))

set_option maxHeartbeats 4000000 in
set_option maxRecDepth 100000 in
theorem kt_areGood (l : Launch) (D : va_G) (cI cZ : ClassId) (g1 : Int32) : kI l yT_areGood wsT_areGood (rmOf 1 22) D (kT cI cZ) [.int g1] [] (zt_areGood g1) [] := by
  intro sz
  refine kOf (Qc := fun A => kQi D (kT cI cZ) A (zt_areGood g1) []) (cc := cT_areGood) (maxL := 1) (ret := some .boolean) (by decide) rfl (Nat.le_of_ble_eq_true rfl) ?_ sz
  intro p e s m args below meth c A ls hx hb hml hown hts hNw hr hlk hin hA hS hP hD hK hl
  show W p l e (rmOf 1 22) s m args below meth c s.heap [] 0 0 (MQ below (kQi D (kT cI cZ) A (zt_areGood g1) []) args s 0 0 A) (F0 m 0 ls [])
  have hts : ∀ q ∈ lw_g, q.before args s = true := fun q h => hts q (List.mem_cons_of_mem _ h)
  have hown : s.vm.findClass cnT = some m.cls := hown
  have hl : lv_has ls 1 [(0, .int g1)] := hl
  have hP : va_P D vwCl [] s.heap := hP
  have hD : va_D A [] := hD
  refine lv_iload_n hx hb dT_areGood_0 rfl (lv_at hl 0 rfl) ?_
  refine kJoin (pcJ := 40) (z := (if g1 < 0 then (0 : Int32) else (if 511 < g1 then (0 : Int32) else (if (zt_hasBoth g1 128 32) = 0 then (if (zt_hasBoth g1 256 16) = 0 then (1 : Int32) else (0 : Int32)) else (0 : Int32))))) (ws := []) (rest := []) (D := D) (A := A) (H0 := s.heap) (fun J40 => ?_) (fun H locs hP hD hS => ?_)
  ·
    refine lv_if_lt (tgt := 39) hx hb dT_areGood_1 (by decide) (fun h1 => ?_) (fun h1 => ?_)
    ·
      refine lv_iconst (v := 0) hx hb dT_areGood_39 (by decide) ?_
      exact J40 _ _ hP hD hS _ ((if_pos h1).symm)
    ·
      refine lv_iload_n hx hb dT_areGood_4 rfl (lv_at hl 0 rfl) ?_
      refine lv_sipush (v := 511) hx hb dT_areGood_5 (by decide) ?_
      refine lv_icmp_gt (tgt := 39) hx hb dT_areGood_8 (by decide) (fun h2 => ?_) (fun h2 => ?_)
      ·
        refine lv_iconst (v := 0) hx hb dT_areGood_39 (by decide) ?_
        exact J40 _ _ hP hD hS _ (((if_neg h1).trans (if_pos h2)).symm)
      ·
        refine lv_iload_n hx hb dT_areGood_11 rfl (lv_at hl 0 rfl) ?_
        refine lv_sipush (v := 128) hx hb dT_areGood_12 (by decide) ?_
        refine lv_bipush (v := 32) hx hb dT_areGood_15 (by decide) ?_
        refine kcI (isR := []) (isC := []) (wr := []) (w2 := []) (va_runS (As := [.int g1, .int 128, .int 32]) (rest := []) ⟨hx, hb, hml, hown, hts⟩ (kt_hasBoth l D cI cZ g1 128 32 _) ⟨(callB_of 3 hts gd_yT_hasBoth rfl rfl rfl (hts _ mw24) (hts _ mw167) (by decide +kernel) ⟨Nat.le_of_ble_eq_true rfl, Nat.le_of_ble_eq_true rfl⟩), hts _ mw168⟩ (kpreS hNw hP hD hK [] rfl (by decide)) rfl rfl hl.1 rfl (lv_room (Nat.le_of_ble_eq_true rfl)) dT_areGood_17 ⟨Nat.le_of_ble_eq_true rfl, Nat.le_of_ble_eq_true rfl⟩) hP hD hS hA [] rfl rfl (by decide) (by decide) (by decide) rfl (fun H locs hP hD hS => ?_)
        refine lv_if_ne (tgt := 39) hx hb dT_areGood_20 (by decide) (fun h3 => ?_) (fun h3 => ?_)
        ·
          refine lv_iconst (v := 0) hx hb dT_areGood_39 (by decide) ?_
          exact J40 _ _ hP hD hS _ (((if_neg h1).trans ((if_neg h2).trans (if_neg h3))).symm)
        ·
          refine lv_iload_n hx hb dT_areGood_23 rfl (lv_at hl 0 rfl) ?_
          refine lv_sipush (v := 256) hx hb dT_areGood_24 (by decide) ?_
          refine lv_bipush (v := 16) hx hb dT_areGood_27 (by decide) ?_
          refine kcI (isR := []) (isC := []) (wr := []) (w2 := []) (va_runS (As := [.int g1, .int 256, .int 16]) (rest := []) ⟨hx, hb, hml, hown, hts⟩ (kt_hasBoth l D cI cZ g1 256 16 _) ⟨(callB_of 3 hts gd_yT_hasBoth rfl rfl rfl (hts _ mw24) (hts _ mw167) (by decide +kernel) ⟨Nat.le_of_ble_eq_true rfl, Nat.le_of_ble_eq_true rfl⟩), hts _ mw168⟩ (kpreS hNw hP hD hK [] rfl (by decide)) rfl rfl hl.1 rfl (lv_room (Nat.le_of_ble_eq_true rfl)) dT_areGood_29 ⟨Nat.le_of_ble_eq_true rfl, Nat.le_of_ble_eq_true rfl⟩) hP hD hS hA [] rfl rfl (by decide) (by decide) (by decide) rfl (fun H locs hP hD hS => ?_)
          refine lv_if_ne (tgt := 39) hx hb dT_areGood_32 (by decide) (fun h4 => ?_) (fun h4 => ?_)
          ·
            refine lv_iconst (v := 0) hx hb dT_areGood_39 (by decide) ?_
            exact J40 _ _ hP hD hS _ (((if_neg h1).trans ((if_neg h2).trans ((if_pos h3).trans (if_neg h4)))).symm)
          ·
            refine lv_iconst (v := 1) hx hb dT_areGood_35 (by decide) ?_
            refine lv_goto hx hb dT_areGood_36 (tgt := 40) (by decide) ?_
            exact J40 _ _ hP hD hS _ (((if_neg h1).trans ((if_neg h2).trans ((if_pos h3).trans (if_pos h4)))).symm)
  exact kretZ (rfl) (kz_ite kz0 (kz_ite kz0 (kz_ite (kz_ite kz1 kz0) kz0))) hx hb hr hlk hS hP hD hK dT_areGood_40

def zt_originOf (g1 : Int32) : Int32 := ((1024 ||| (if (g1 &&& 4) = 0 then (0 : Int32) else (2048 : Int32))) ||| (if (g1 &&& 8) = 0 then (4096 : Int32) else (0 : Int32)))

set_option maxHeartbeats 4000000 in
set_option maxRecDepth 100000 in
theorem kt_originOf (l : Launch) (D : va_G) (cI cZ : ClassId) (g1 : Int32) : kI l yT_originOf wsT_originOf (rmOf 0 0) D (kT cI cZ) [.int g1] [] (zt_originOf g1) [] := by
  intro sz
  refine kOf (Qc := fun A => kQi D (kT cI cZ) A (zt_originOf g1) []) (cc := cT_originOf) (maxL := 3) (ret := some .int) (by decide) rfl (Nat.le_of_ble_eq_true rfl) ?_ sz
  intro p e s m args below meth c A ls hx hb hml hown hts hNw hr hlk hin hA hS hP hD hK hl
  show W p l e (rmOf 0 0) s m args below meth c s.heap [] 0 0 (MQ below (kQi D (kT cI cZ) A (zt_originOf g1) []) args s 0 0 A) (F0 m 0 ls [])
  have hts : ∀ q ∈ lw_g, q.before args s = true := fun q h => hts q (List.mem_cons_of_mem _ h)
  have hown : s.vm.findClass cnT = some m.cls := hown
  have hl : lv_has ls 3 [(0, .int g1)] := hl
  have hP : va_P D vwCl [] s.heap := hP
  have hD : va_D A [] := hD
  refine lv_iload_n hx hb dT_originOf_0 rfl (lv_at hl 0 rfl) ?_
  refine lv_iconst (v := 4) hx hb dT_originOf_1 (by decide) ?_
  refine lv_iand hx hb dT_originOf_2 ?_
  refine kJoin (pcJ := 13) (z := (if (g1 &&& 4) = 0 then (0 : Int32) else (2048 : Int32))) (ws := []) (rest := []) (D := D) (A := A) (H0 := s.heap) (fun J13 => ?_) (fun H locs hP hD hS => ?_)
  ·
    refine lv_if_eq (tgt := 12) hx hb dT_originOf_3 (by decide) (fun h1 => ?_) (fun h1 => ?_)
    ·
      refine lv_iconst (v := 0) hx hb dT_originOf_12 (by decide) ?_
      exact J13 _ _ hP hD hS _ ((if_pos h1).symm)
    ·
      refine lv_sipush (v := 2048) hx hb dT_originOf_6 (by decide) ?_
      refine lv_goto hx hb dT_originOf_9 (tgt := 13) (by decide) ?_
      exact J13 _ _ hP hD hS _ ((if_neg h1).symm)
  refine lv_istore_n hx hb dT_originOf_13 rfl hl (by decide) rfl (fun ls hl => ?_)
  have hl : lv_has ls 3 [(1, .int (if (g1 &&& 4) = 0 then (0 : Int32) else (2048 : Int32))), (0, .int g1)] := hl
  refine lv_iload_n hx hb dT_originOf_14 rfl (lv_at hl 1 rfl) ?_
  refine lv_bipush (v := 8) hx hb dT_originOf_15 (by decide) ?_
  refine lv_iand hx hb dT_originOf_17 ?_
  refine kJoin (pcJ := 28) (z := (if (g1 &&& 8) = 0 then (4096 : Int32) else (0 : Int32))) (ws := []) (rest := []) (D := D) (A := A) (H0 := s.heap) (fun J28 => ?_) (fun H locs hP hD hS => ?_)
  ·
    refine lv_if_ne (tgt := 27) hx hb dT_originOf_18 (by decide) (fun h2 => ?_) (fun h2 => ?_)
    ·
      refine lv_iconst (v := 0) hx hb dT_originOf_27 (by decide) ?_
      exact J28 _ _ hP hD hS _ ((if_neg h2).symm)
    ·
      refine lv_sipush (v := 4096) hx hb dT_originOf_21 (by decide) ?_
      refine lv_goto hx hb dT_originOf_24 (tgt := 28) (by decide) ?_
      exact J28 _ _ hP hD hS _ ((if_pos h2).symm)
  refine lv_istore_n hx hb dT_originOf_28 rfl hl (by decide) rfl (fun ls hl => ?_)
  have hl : lv_has ls 3 [(2, .int (if (g1 &&& 8) = 0 then (4096 : Int32) else (0 : Int32))), (1, .int (if (g1 &&& 4) = 0 then (0 : Int32) else (2048 : Int32))), (0, .int g1)] := hl
  refine lv_sipush (v := 1024) hx hb dT_originOf_29 (by decide) ?_
  refine lv_iload_n hx hb dT_originOf_32 rfl (lv_at hl 1 rfl) ?_
  refine lv_ior hx hb dT_originOf_33 ?_
  refine lv_iload_n hx hb dT_originOf_34 rfl (lv_at hl 0 rfl) ?_
  refine lv_ior hx hb dT_originOf_35 ?_
  exact kretP (rfl) hx hb hr hlk hS hP hD hK dT_originOf_36

def zt_answered (g1 : Int32) : Int64 := ((Int32.toInt64 g1) &&& 4294967295)

set_option maxHeartbeats 4000000 in
set_option maxRecDepth 100000 in
theorem kt_answered (l : Launch) (D : va_G) (cI cZ : ClassId) (g1 : Int32) : kL l yT_answered wsT_answered (rmOf 0 0) D (kT cI cZ) [.int g1] [] (zt_answered g1) [] := by
  intro sz
  refine kOf (Qc := fun A => kQl D (kT cI cZ) A (zt_answered g1) []) (cc := cT_answered) (maxL := 1) (ret := some .long) (by decide) rfl (Nat.le_of_ble_eq_true rfl) ?_ sz
  intro p e s m args below meth c A ls hx hb hml hown hts hNw hr hlk hin hA hS hP hD hK hl
  show W p l e (rmOf 0 0) s m args below meth c s.heap [] 0 0 (MQ below (kQl D (kT cI cZ) A (zt_answered g1) []) args s 0 0 A) (F0 m 0 ls [])
  have hts : ∀ q ∈ lw_g, q.before args s = true := fun q h => hts q (List.mem_cons_of_mem _ h)
  have hown : s.vm.findClass cnT = some m.cls := hown
  have hl : lv_has ls 1 [(0, .int g1)] := hl
  have hP : va_P D vwCl [] s.heap := hP
  have hD : va_D A [] := hD
  refine lv_iload_n hx hb dT_answered_0 rfl (lv_at hl 0 rfl) ?_
  refine lv_i2l (v := (Int32.toInt64 g1)) hx hb dT_answered_1 rfl ?_
  refine lv_ldc2 (v := 4294967295) hx hb hown (hts _ mw231) dT_answered_2 ?_
  refine lv_land hx hb dT_answered_5 ?_
  exact kretL (rfl) hx hb hr hlk hS hP hD hK dT_answered_6

def zt_tagOf (g1 : Int32) (g2 : Int32) : Int64 := (Int32.toInt64 ((zw_mac g1 g2) &&& 2147483647))

set_option maxHeartbeats 4000000 in
set_option maxRecDepth 100000 in
theorem kt_tagOf (l : Launch) (D : va_G) (cI cZ : ClassId) (g1 : Int32) (g2 : Int32) : kL l yT_tagOf wsT_tagOf (rmOf 2 44) D (kT cI cZ) [.int g1, .int g2] [] (zt_tagOf g1 g2) [] := by
  intro sz
  refine kOf (Qc := fun A => kQl D (kT cI cZ) A (zt_tagOf g1 g2) []) (cc := cT_tagOf) (maxL := 2) (ret := some .long) (by decide) rfl (Nat.le_of_ble_eq_true rfl) ?_ sz
  intro p e s m args below meth c A ls hx hb hml hown hts hNw hr hlk hin hA hS hP hD hK hl
  show W p l e (rmOf 2 44) s m args below meth c s.heap [] 0 0 (MQ below (kQl D (kT cI cZ) A (zt_tagOf g1 g2) []) args s 0 0 A) (F0 m 0 ls [])
  have hts : ∀ q ∈ lw_g, q.before args s = true := fun q h => hts q (List.mem_cons_of_mem _ h)
  have hown : s.vm.findClass cnT = some m.cls := hown
  have hl : lv_has ls 2 [(0, .int g1), (1, .int g2)] := hl
  have hP : va_P D vwCl [] s.heap := hP
  have hD : va_D A [] := hD
  refine lv_iload_n hx hb dT_tagOf_0 rfl (lv_at hl 0 rfl) ?_
  refine lv_iload_n hx hb dT_tagOf_1 rfl (lv_at hl 1 rfl) ?_
  refine kcI (isR := []) (isC := []) (wr := []) (w2 := []) (va_runSN (As := [.int g1, .int g2]) (rest := []) ⟨hx, hb, hml, hown, hts⟩ (kw_mac l D cI cZ g1 g2 _) ⟨(va_cnB 2 hts gd_yW_mac rfl rfl rfl (hNw _ mw179) (hts _ mw28) (by decide +kernel) ⟨Nat.le_of_ble_eq_true rfl, Nat.le_of_ble_eq_true rfl⟩), hts _ mw180, trivial⟩ (kpreS hNw hP hD hK [] rfl (by decide)) rfl rfl hl.1 rfl (lv_room (Nat.le_of_ble_eq_true rfl)) dT_tagOf_2 ⟨Nat.le_of_ble_eq_true rfl, Nat.le_of_ble_eq_true rfl⟩) hP hD hS hA [] rfl rfl (by decide) (by decide) (by decide) rfl (fun H locs hP hD hS => ?_)
  refine lv_ldc (v := 2147483647) hx hb hown (hts _ mw267) dT_tagOf_5 ?_
  refine lv_iand hx hb dT_tagOf_7 ?_
  refine lv_i2l (v := (Int32.toInt64 ((zw_mac g1 g2) &&& 2147483647))) hx hb dT_tagOf_8 rfl ?_
  exact kretL (rfl) hx hb hr hlk hS hP hD hK dT_tagOf_9

def zm_has (g1 : Int32) (g2 : Int32) : Int32 := (if (g1 &&& g2) = 0 then (0 : Int32) else (1 : Int32))

set_option maxHeartbeats 4000000 in
set_option maxRecDepth 100000 in
theorem km_has (l : Launch) (D : va_G) (cI cZ : ClassId) (g1 : Int32) (g2 : Int32) : kI l yM_has wsM_has (rmOf 0 0) D (kT cI cZ) [.int g1, .int g2] [] (zm_has g1 g2) [] := by
  intro sz
  refine kOf (Qc := fun A => kQi D (kT cI cZ) A (zm_has g1 g2) []) (cc := cM_has) (maxL := 2) (ret := some .boolean) (by decide) rfl (Nat.le_of_ble_eq_true rfl) ?_ sz
  intro p e s m args below meth c A ls hx hb hml hown hts hNw hr hlk hin hA hS hP hD hK hl
  show W p l e (rmOf 0 0) s m args below meth c s.heap [] 0 0 (MQ below (kQi D (kT cI cZ) A (zm_has g1 g2) []) args s 0 0 A) (F0 m 0 ls [])
  have hts : ∀ q ∈ lw_g, q.before args s = true := fun q h => hts q (List.mem_cons_of_mem _ h)
  have hown : s.vm.findClass cnM = some m.cls := hown
  have hl : lv_has ls 2 [(0, .int g1), (1, .int g2)] := hl
  have hP : va_P D vwCl [] s.heap := hP
  have hD : va_D A [] := hD
  refine lv_iload_n hx hb dM_has_0 rfl (lv_at hl 0 rfl) ?_
  refine lv_iload_n hx hb dM_has_1 rfl (lv_at hl 1 rfl) ?_
  refine lv_iand hx hb dM_has_2 ?_
  refine kJoin (pcJ := 11) (z := (if (g1 &&& g2) = 0 then (0 : Int32) else (1 : Int32))) (ws := []) (rest := []) (D := D) (A := A) (H0 := s.heap) (fun J11 => ?_) (fun H locs hP hD hS => ?_)
  ·
    refine lv_if_eq (tgt := 10) hx hb dM_has_3 (by decide) (fun h1 => ?_) (fun h1 => ?_)
    ·
      refine lv_iconst (v := 0) hx hb dM_has_10 (by decide) ?_
      exact J11 _ _ hP hD hS _ ((if_pos h1).symm)
    ·
      refine lv_iconst (v := 1) hx hb dM_has_6 (by decide) ?_
      refine lv_goto hx hb dM_has_7 (tgt := 11) (by decide) ?_
      exact J11 _ _ hP hD hS _ ((if_neg h1).symm)
  exact kretZ (rfl) (kz_ite kz0 kz1) hx hb hr hlk hS hP hD hK dM_has_11

def zm_half (g1 : Int32) (g2 : Int32) (g3 : Int32) : Int32 := (((((g3 * 40503) + (((zush g1 (8 * g2)) &&& 255) * 257)) + (g2 * 4099)) ^^^ (zush (((g3 * 40503) + (((zush g1 (8 * g2)) &&& 255) * 257)) + (g2 * 4099)) 7)) &&& 65535)

set_option maxHeartbeats 4000000 in
set_option maxRecDepth 100000 in
theorem km_half (l : Launch) (D : va_G) (cI cZ : ClassId) (g1 : Int32) (g2 : Int32) (g3 : Int32) : kI l yM_half wsM_half (rmOf 0 0) D (kT cI cZ) [.int g1, .int g2, .int g3] [] (zm_half g1 g2 g3) [] := by
  intro sz
  refine kOf (Qc := fun A => kQi D (kT cI cZ) A (zm_half g1 g2 g3) []) (cc := cM_half) (maxL := 4) (ret := some .int) (by decide) rfl (Nat.le_of_ble_eq_true rfl) ?_ sz
  intro p e s m args below meth c A ls hx hb hml hown hts hNw hr hlk hin hA hS hP hD hK hl
  show W p l e (rmOf 0 0) s m args below meth c s.heap [] 0 0 (MQ below (kQi D (kT cI cZ) A (zm_half g1 g2 g3) []) args s 0 0 A) (F0 m 0 ls [])
  have hts : ∀ q ∈ lw_g, q.before args s = true := fun q h => hts q (List.mem_cons_of_mem _ h)
  have hown : s.vm.findClass cnM = some m.cls := hown
  have hl : lv_has ls 4 [(0, .int g1), (1, .int g2), (2, .int g3)] := hl
  have hP : va_P D vwCl [] s.heap := hP
  have hD : va_D A [] := hD
  refine lv_iload_n hx hb dM_half_0 rfl (lv_at hl 2 rfl) ?_
  refine lv_ldc (v := 40503) hx hb hown (hts _ mw427) dM_half_1 ?_
  refine lv_imul hx hb dM_half_3 ?_
  refine lv_iload_n hx hb dM_half_4 rfl (lv_at hl 0 rfl) ?_
  refine lv_bipush (v := 8) hx hb dM_half_5 (by decide) ?_
  refine lv_iload_n hx hb dM_half_7 rfl (lv_at hl 1 rfl) ?_
  refine lv_imul hx hb dM_half_8 ?_
  refine lv_iushr (v := (zush g1 (8 * g2))) hx hb dM_half_9 rfl ?_
  refine lv_sipush (v := 255) hx hb dM_half_10 (by decide) ?_
  refine lv_iand hx hb dM_half_13 ?_
  refine lv_sipush (v := 257) hx hb dM_half_14 (by decide) ?_
  refine lv_imul hx hb dM_half_17 ?_
  refine lv_iadd hx hb dM_half_18 ?_
  refine lv_iload_n hx hb dM_half_19 rfl (lv_at hl 1 rfl) ?_
  refine lv_sipush (v := 4099) hx hb dM_half_20 (by decide) ?_
  refine lv_imul hx hb dM_half_23 ?_
  refine lv_iadd hx hb dM_half_24 ?_
  refine lv_istore_n hx hb dM_half_25 rfl hl (by decide) rfl (fun ls hl => ?_)
  have hl : lv_has ls 4 [(3, .int (((g3 * 40503) + (((zush g1 (8 * g2)) &&& 255) * 257)) + (g2 * 4099))), (0, .int g1), (1, .int g2), (2, .int g3)] := hl
  refine lv_iload_n hx hb dM_half_26 rfl (lv_at hl 0 rfl) ?_
  refine lv_iload_n hx hb dM_half_27 rfl (lv_at hl 0 rfl) ?_
  refine lv_bipush (v := 7) hx hb dM_half_28 (by decide) ?_
  refine lv_iushr (v := (zush (((g3 * 40503) + (((zush g1 (8 * g2)) &&& 255) * 257)) + (g2 * 4099)) 7)) hx hb dM_half_30 rfl ?_
  refine lv_ixor hx hb dM_half_31 ?_
  refine lv_ldc (v := 65535) hx hb hown (hts _ mw423) dM_half_32 ?_
  refine lv_iand hx hb dM_half_34 ?_
  exact kretP (rfl) hx hb hr hlk hS hP hD hK dM_half_35

def zm_rounds (g1 : Int32) (g2 : Int32) (g3 : Int32) : Int32 := (if g3 = 0 then (((((if g3 = 0 then (zush g2 16) else (g2 &&& 65535)) ^^^ (zm_half g1 (if g3 = 0 then (2 : Int32) else (1 : Int32)) ((if g3 = 0 then (g2 &&& 65535) else (zush g2 16)) ^^^ (zm_half g1 (if g3 = 0 then (3 : Int32) else (0 : Int32)) (if g3 = 0 then (zush g2 16) else (g2 &&& 65535)))))) ^^^ (zm_half g1 (if g3 = 0 then (0 : Int32) else (3 : Int32)) (((if g3 = 0 then (g2 &&& 65535) else (zush g2 16)) ^^^ (zm_half g1 (if g3 = 0 then (3 : Int32) else (0 : Int32)) (if g3 = 0 then (zush g2 16) else (g2 &&& 65535)))) ^^^ (zm_half g1 (if g3 = 0 then (1 : Int32) else (2 : Int32)) ((if g3 = 0 then (zush g2 16) else (g2 &&& 65535)) ^^^ (zm_half g1 (if g3 = 0 then (2 : Int32) else (1 : Int32)) ((if g3 = 0 then (g2 &&& 65535) else (zush g2 16)) ^^^ (zm_half g1 (if g3 = 0 then (3 : Int32) else (0 : Int32)) (if g3 = 0 then (zush g2 16) else (g2 &&& 65535)))))))))) * 65536) + (((if g3 = 0 then (g2 &&& 65535) else (zush g2 16)) ^^^ (zm_half g1 (if g3 = 0 then (3 : Int32) else (0 : Int32)) (if g3 = 0 then (zush g2 16) else (g2 &&& 65535)))) ^^^ (zm_half g1 (if g3 = 0 then (1 : Int32) else (2 : Int32)) ((if g3 = 0 then (zush g2 16) else (g2 &&& 65535)) ^^^ (zm_half g1 (if g3 = 0 then (2 : Int32) else (1 : Int32)) ((if g3 = 0 then (g2 &&& 65535) else (zush g2 16)) ^^^ (zm_half g1 (if g3 = 0 then (3 : Int32) else (0 : Int32)) (if g3 = 0 then (zush g2 16) else (g2 &&& 65535))))))))) else (((((if g3 = 0 then (g2 &&& 65535) else (zush g2 16)) ^^^ (zm_half g1 (if g3 = 0 then (3 : Int32) else (0 : Int32)) (if g3 = 0 then (zush g2 16) else (g2 &&& 65535)))) ^^^ (zm_half g1 (if g3 = 0 then (1 : Int32) else (2 : Int32)) ((if g3 = 0 then (zush g2 16) else (g2 &&& 65535)) ^^^ (zm_half g1 (if g3 = 0 then (2 : Int32) else (1 : Int32)) ((if g3 = 0 then (g2 &&& 65535) else (zush g2 16)) ^^^ (zm_half g1 (if g3 = 0 then (3 : Int32) else (0 : Int32)) (if g3 = 0 then (zush g2 16) else (g2 &&& 65535)))))))) * 65536) + (((if g3 = 0 then (zush g2 16) else (g2 &&& 65535)) ^^^ (zm_half g1 (if g3 = 0 then (2 : Int32) else (1 : Int32)) ((if g3 = 0 then (g2 &&& 65535) else (zush g2 16)) ^^^ (zm_half g1 (if g3 = 0 then (3 : Int32) else (0 : Int32)) (if g3 = 0 then (zush g2 16) else (g2 &&& 65535)))))) ^^^ (zm_half g1 (if g3 = 0 then (0 : Int32) else (3 : Int32)) (((if g3 = 0 then (g2 &&& 65535) else (zush g2 16)) ^^^ (zm_half g1 (if g3 = 0 then (3 : Int32) else (0 : Int32)) (if g3 = 0 then (zush g2 16) else (g2 &&& 65535)))) ^^^ (zm_half g1 (if g3 = 0 then (1 : Int32) else (2 : Int32)) ((if g3 = 0 then (zush g2 16) else (g2 &&& 65535)) ^^^ (zm_half g1 (if g3 = 0 then (2 : Int32) else (1 : Int32)) ((if g3 = 0 then (g2 &&& 65535) else (zush g2 16)) ^^^ (zm_half g1 (if g3 = 0 then (3 : Int32) else (0 : Int32)) (if g3 = 0 then (zush g2 16) else (g2 &&& 65535))))))))))))

set_option maxHeartbeats 4000000 in
set_option maxRecDepth 100000 in
theorem km_rounds (l : Launch) (D : va_G) (cI cZ : ClassId) (g1 : Int32) (g2 : Int32) (g3 : Int32) : kI l yM_rounds wsM_rounds (rmOf 1 23) D (kT cI cZ) [.int g1, .int g2, .int g3] [] (zm_rounds g1 g2 g3) [] := by
  intro sz
  refine kOf (Qc := fun A => kQi D (kT cI cZ) A (zm_rounds g1 g2 g3) []) (cc := cM_rounds) (maxL := 7) (ret := some .int) (by decide) rfl (Nat.le_of_ble_eq_true rfl) ?_ sz
  intro p e s m args below meth c A ls hx hb hml hown hts hNw hr hlk hin hA hS hP hD hK hl
  show W p l e (rmOf 1 23) s m args below meth c s.heap [] 0 0 (MQ below (kQi D (kT cI cZ) A (zm_rounds g1 g2 g3) []) args s 0 0 A) (F0 m 0 ls [])
  have hts : ∀ q ∈ lw_g, q.before args s = true := fun q h => hts q (List.mem_cons_of_mem _ h)
  have hown : s.vm.findClass cnM = some m.cls := hown
  have hl : lv_has ls 7 [(0, .int g1), (1, .int g2), (2, .int g3)] := hl
  have hP : va_P D vwCl [] s.heap := hP
  have hD : va_D A [] := hD
  refine lv_iload_n hx hb dM_rounds_0 rfl (lv_at hl 2 rfl) ?_
  refine kJoin (pcJ := 15) (z := (if g3 = 0 then (g2 &&& 65535) else (zush g2 16))) (ws := []) (rest := []) (D := D) (A := A) (H0 := s.heap) (fun J15 => ?_) (fun H locs hP hD hS => ?_)
  ·
    refine lv_if_eq (tgt := 11) hx hb dM_rounds_1 (by decide) (fun h1 => ?_) (fun h1 => ?_)
    ·
      refine lv_iload_n hx hb dM_rounds_11 rfl (lv_at hl 1 rfl) ?_
      refine lv_ldc (v := 65535) hx hb hown (hts _ mw423) dM_rounds_12 ?_
      refine lv_iand hx hb dM_rounds_14 ?_
      exact J15 _ _ hP hD hS _ ((if_pos h1).symm)
    ·
      refine lv_iload_n hx hb dM_rounds_4 rfl (lv_at hl 1 rfl) ?_
      refine lv_bipush (v := 16) hx hb dM_rounds_5 (by decide) ?_
      refine lv_iushr (v := (zush g2 16)) hx hb dM_rounds_7 rfl ?_
      refine lv_goto hx hb dM_rounds_8 (tgt := 15) (by decide) ?_
      exact J15 _ _ hP hD hS _ ((if_neg h1).symm)
  refine lv_istore_n hx hb dM_rounds_15 rfl hl (by decide) rfl (fun ls hl => ?_)
  have hl : lv_has ls 7 [(3, .int (if g3 = 0 then (g2 &&& 65535) else (zush g2 16))), (0, .int g1), (1, .int g2), (2, .int g3)] := hl
  refine lv_iload_n hx hb dM_rounds_16 rfl (lv_at hl 3 rfl) ?_
  refine kJoin (pcJ := 31) (z := (if g3 = 0 then (zush g2 16) else (g2 &&& 65535))) (ws := []) (rest := []) (D := D) (A := A) (H0 := s.heap) (fun J31 => ?_) (fun H locs hP hD hS => ?_)
  ·
    refine lv_if_eq (tgt := 27) hx hb dM_rounds_17 (by decide) (fun h2 => ?_) (fun h2 => ?_)
    ·
      refine lv_iload_n hx hb dM_rounds_27 rfl (lv_at hl 2 rfl) ?_
      refine lv_bipush (v := 16) hx hb dM_rounds_28 (by decide) ?_
      refine lv_iushr (v := (zush g2 16)) hx hb dM_rounds_30 rfl ?_
      exact J31 _ _ hP hD hS _ ((if_pos h2).symm)
    ·
      refine lv_iload_n hx hb dM_rounds_20 rfl (lv_at hl 2 rfl) ?_
      refine lv_ldc (v := 65535) hx hb hown (hts _ mw423) dM_rounds_21 ?_
      refine lv_iand hx hb dM_rounds_23 ?_
      refine lv_goto hx hb dM_rounds_24 (tgt := 31) (by decide) ?_
      exact J31 _ _ hP hD hS _ ((if_neg h2).symm)
  refine lv_istore hx hb dM_rounds_31 hl (by decide) rfl (fun ls hl => ?_)
  have hl : lv_has ls 7 [(4, .int (if g3 = 0 then (zush g2 16) else (g2 &&& 65535))), (3, .int (if g3 = 0 then (g2 &&& 65535) else (zush g2 16))), (0, .int g1), (1, .int g2), (2, .int g3)] := hl
  refine lv_iconst (v := 0) hx hb dM_rounds_33 (by decide) ?_
  refine lv_istore hx hb dM_rounds_34 hl (by decide) rfl (fun ls hl => ?_)
  have hl : lv_has ls 7 [(5, .int 0), (4, .int (if g3 = 0 then (zush g2 16) else (g2 &&& 65535))), (3, .int (if g3 = 0 then (g2 &&& 65535) else (zush g2 16))), (0, .int g1), (1, .int g2), (2, .int g3)] := hl
  refine lv_iload hx hb dM_rounds_36 (lv_at hl 0 rfl) ?_
  refine lv_iconst (v := 4) hx hb dM_rounds_38 (by decide) ?_
  refine lv_icmp_ge (tgt := 78) hx hb dM_rounds_39 (by decide) (fun h => absurd h (by decide)) (fun _ => ?_)
  refine lv_iload_n hx hb dM_rounds_42 rfl (lv_at hl 2 rfl) ?_
  refine lv_iload_n hx hb dM_rounds_43 rfl (lv_at hl 3 rfl) ?_
  refine lv_iload_n hx hb dM_rounds_44 rfl (lv_at hl 5 rfl) ?_
  refine kJoin (pcJ := 57) (z := (if g3 = 0 then (3 : Int32) else (0 : Int32))) (ws := []) (rest := [.int g1, .int (if g3 = 0 then (g2 &&& 65535) else (zush g2 16))]) (D := D) (A := A) (H0 := s.heap) (fun J57 => ?_) (fun H locs hP hD hS => ?_)
  ·
    refine lv_if_eq (tgt := 53) hx hb dM_rounds_45 (by decide) (fun h3 => ?_) (fun h3 => ?_)
    ·
      refine lv_iconst (v := 3) hx hb dM_rounds_53 (by decide) ?_
      refine lv_iload hx hb dM_rounds_54 (lv_at hl 0 rfl) ?_
      refine lv_isub hx hb dM_rounds_56 ?_
      refine kTop (y := 3) (by decide) ?_
      exact J57 _ _ hP hD hS _ ((if_pos h3).symm)
    ·
      refine lv_iload hx hb dM_rounds_48 (lv_at hl 0 rfl) ?_
      refine lv_goto hx hb dM_rounds_50 (tgt := 57) (by decide) ?_
      exact J57 _ _ hP hD hS _ ((if_neg h3).symm)
  refine lv_iload hx hb dM_rounds_57 (lv_at hl 1 rfl) ?_
  refine kcI (isR := []) (isC := []) (wr := []) (w2 := []) (va_runS (As := [.int g1, .int (if g3 = 0 then (3 : Int32) else (0 : Int32)), .int (if g3 = 0 then (zush g2 16) else (g2 &&& 65535))]) (rest := [.int (if g3 = 0 then (g2 &&& 65535) else (zush g2 16))]) ⟨hx, hb, hml, hown, hts⟩ (km_half l D cI cZ g1 (if g3 = 0 then (3 : Int32) else (0 : Int32)) (if g3 = 0 then (zush g2 16) else (g2 &&& 65535)) _) ⟨(callB_of 3 hts gd_yM_half rfl rfl rfl (hts _ mw27) (hts _ mw424) (by decide +kernel) ⟨Nat.le_of_ble_eq_true rfl, Nat.le_of_ble_eq_true rfl⟩), hts _ mw425⟩ (kpreS hNw hP hD hK [] rfl (by decide)) rfl rfl hl.1 rfl (lv_room (Nat.le_of_ble_eq_true rfl)) dM_rounds_59 ⟨Nat.le_of_ble_eq_true rfl, Nat.le_of_ble_eq_true rfl⟩) hP hD hS hA [] rfl rfl (by decide) (by decide) (by decide) rfl (fun H locs hP hD hS => ?_)
  refine lv_ixor hx hb dM_rounds_62 ?_
  refine lv_istore hx hb dM_rounds_63 hl (by decide) rfl (fun ls hl => ?_)
  have hl : lv_has ls 7 [(6, .int ((if g3 = 0 then (g2 &&& 65535) else (zush g2 16)) ^^^ (zm_half g1 (if g3 = 0 then (3 : Int32) else (0 : Int32)) (if g3 = 0 then (zush g2 16) else (g2 &&& 65535))))), (5, .int 0), (4, .int (if g3 = 0 then (zush g2 16) else (g2 &&& 65535))), (3, .int (if g3 = 0 then (g2 &&& 65535) else (zush g2 16))), (0, .int g1), (1, .int g2), (2, .int g3)] := hl
  refine lv_iload hx hb dM_rounds_65 (lv_at hl 2 rfl) ?_
  refine lv_istore_n hx hb dM_rounds_67 rfl hl (by decide) rfl (fun ls hl => ?_)
  have hl : lv_has ls 7 [(3, .int (if g3 = 0 then (zush g2 16) else (g2 &&& 65535))), (6, .int ((if g3 = 0 then (g2 &&& 65535) else (zush g2 16)) ^^^ (zm_half g1 (if g3 = 0 then (3 : Int32) else (0 : Int32)) (if g3 = 0 then (zush g2 16) else (g2 &&& 65535))))), (5, .int 0), (4, .int (if g3 = 0 then (zush g2 16) else (g2 &&& 65535))), (0, .int g1), (1, .int g2), (2, .int g3)] := hl
  refine lv_iload hx hb dM_rounds_68 (lv_at hl 1 rfl) ?_
  refine lv_istore hx hb dM_rounds_70 hl (by decide) rfl (fun ls hl => ?_)
  have hl : lv_has ls 7 [(4, .int ((if g3 = 0 then (g2 &&& 65535) else (zush g2 16)) ^^^ (zm_half g1 (if g3 = 0 then (3 : Int32) else (0 : Int32)) (if g3 = 0 then (zush g2 16) else (g2 &&& 65535))))), (3, .int (if g3 = 0 then (zush g2 16) else (g2 &&& 65535))), (6, .int ((if g3 = 0 then (g2 &&& 65535) else (zush g2 16)) ^^^ (zm_half g1 (if g3 = 0 then (3 : Int32) else (0 : Int32)) (if g3 = 0 then (zush g2 16) else (g2 &&& 65535))))), (5, .int 0), (0, .int g1), (1, .int g2), (2, .int g3)] := hl
  refine lv_iinc (k := 3) (v := 1) hx hb dM_rounds_72 hl rfl (by decide) (by decide) rfl (fun ls hl => ?_)
  have hl : lv_has ls 7 [(5, .int 1), (4, .int ((if g3 = 0 then (g2 &&& 65535) else (zush g2 16)) ^^^ (zm_half g1 (if g3 = 0 then (3 : Int32) else (0 : Int32)) (if g3 = 0 then (zush g2 16) else (g2 &&& 65535))))), (3, .int (if g3 = 0 then (zush g2 16) else (g2 &&& 65535))), (6, .int ((if g3 = 0 then (g2 &&& 65535) else (zush g2 16)) ^^^ (zm_half g1 (if g3 = 0 then (3 : Int32) else (0 : Int32)) (if g3 = 0 then (zush g2 16) else (g2 &&& 65535))))), (0, .int g1), (1, .int g2), (2, .int g3)] := hl
  refine lv_goto hx hb dM_rounds_75 (tgt := 36) (by decide) ?_
  refine lv_iload hx hb dM_rounds_36 (lv_at hl 0 rfl) ?_
  refine lv_iconst (v := 4) hx hb dM_rounds_38 (by decide) ?_
  refine lv_icmp_ge (tgt := 78) hx hb dM_rounds_39 (by decide) (fun h => absurd h (by decide)) (fun _ => ?_)
  refine lv_iload_n hx hb dM_rounds_42 rfl (lv_at hl 2 rfl) ?_
  refine lv_iload_n hx hb dM_rounds_43 rfl (lv_at hl 4 rfl) ?_
  refine lv_iload_n hx hb dM_rounds_44 rfl (lv_at hl 6 rfl) ?_
  refine kJoin (pcJ := 57) (z := (if g3 = 0 then (2 : Int32) else (1 : Int32))) (ws := []) (rest := [.int g1, .int (if g3 = 0 then (zush g2 16) else (g2 &&& 65535))]) (D := D) (A := A) (H0 := s.heap) (fun J57 => ?_) (fun H locs hP hD hS => ?_)
  ·
    refine lv_if_eq (tgt := 53) hx hb dM_rounds_45 (by decide) (fun h4 => ?_) (fun h4 => ?_)
    ·
      refine lv_iconst (v := 3) hx hb dM_rounds_53 (by decide) ?_
      refine lv_iload hx hb dM_rounds_54 (lv_at hl 0 rfl) ?_
      refine lv_isub hx hb dM_rounds_56 ?_
      refine kTop (y := 2) (by decide) ?_
      exact J57 _ _ hP hD hS _ ((if_pos h4).symm)
    ·
      refine lv_iload hx hb dM_rounds_48 (lv_at hl 0 rfl) ?_
      refine lv_goto hx hb dM_rounds_50 (tgt := 57) (by decide) ?_
      exact J57 _ _ hP hD hS _ ((if_neg h4).symm)
  refine lv_iload hx hb dM_rounds_57 (lv_at hl 1 rfl) ?_
  refine kcI (isR := []) (isC := []) (wr := []) (w2 := []) (va_runS (As := [.int g1, .int (if g3 = 0 then (2 : Int32) else (1 : Int32)), .int ((if g3 = 0 then (g2 &&& 65535) else (zush g2 16)) ^^^ (zm_half g1 (if g3 = 0 then (3 : Int32) else (0 : Int32)) (if g3 = 0 then (zush g2 16) else (g2 &&& 65535))))]) (rest := [.int (if g3 = 0 then (zush g2 16) else (g2 &&& 65535))]) ⟨hx, hb, hml, hown, hts⟩ (km_half l D cI cZ g1 (if g3 = 0 then (2 : Int32) else (1 : Int32)) ((if g3 = 0 then (g2 &&& 65535) else (zush g2 16)) ^^^ (zm_half g1 (if g3 = 0 then (3 : Int32) else (0 : Int32)) (if g3 = 0 then (zush g2 16) else (g2 &&& 65535)))) _) ⟨(callB_of 3 hts gd_yM_half rfl rfl rfl (hts _ mw27) (hts _ mw424) (by decide +kernel) ⟨Nat.le_of_ble_eq_true rfl, Nat.le_of_ble_eq_true rfl⟩), hts _ mw425⟩ (kpreS hNw hP hD hK [] rfl (by decide)) rfl rfl hl.1 rfl (lv_room (Nat.le_of_ble_eq_true rfl)) dM_rounds_59 ⟨Nat.le_of_ble_eq_true rfl, Nat.le_of_ble_eq_true rfl⟩) hP hD hS hA [] rfl rfl (by decide) (by decide) (by decide) rfl (fun H locs hP hD hS => ?_)
  refine lv_ixor hx hb dM_rounds_62 ?_
  refine lv_istore hx hb dM_rounds_63 hl (by decide) rfl (fun ls hl => ?_)
  have hl : lv_has ls 7 [(6, .int ((if g3 = 0 then (zush g2 16) else (g2 &&& 65535)) ^^^ (zm_half g1 (if g3 = 0 then (2 : Int32) else (1 : Int32)) ((if g3 = 0 then (g2 &&& 65535) else (zush g2 16)) ^^^ (zm_half g1 (if g3 = 0 then (3 : Int32) else (0 : Int32)) (if g3 = 0 then (zush g2 16) else (g2 &&& 65535))))))), (5, .int 1), (4, .int ((if g3 = 0 then (g2 &&& 65535) else (zush g2 16)) ^^^ (zm_half g1 (if g3 = 0 then (3 : Int32) else (0 : Int32)) (if g3 = 0 then (zush g2 16) else (g2 &&& 65535))))), (3, .int (if g3 = 0 then (zush g2 16) else (g2 &&& 65535))), (0, .int g1), (1, .int g2), (2, .int g3)] := hl
  refine lv_iload hx hb dM_rounds_65 (lv_at hl 2 rfl) ?_
  refine lv_istore_n hx hb dM_rounds_67 rfl hl (by decide) rfl (fun ls hl => ?_)
  have hl : lv_has ls 7 [(3, .int ((if g3 = 0 then (g2 &&& 65535) else (zush g2 16)) ^^^ (zm_half g1 (if g3 = 0 then (3 : Int32) else (0 : Int32)) (if g3 = 0 then (zush g2 16) else (g2 &&& 65535))))), (6, .int ((if g3 = 0 then (zush g2 16) else (g2 &&& 65535)) ^^^ (zm_half g1 (if g3 = 0 then (2 : Int32) else (1 : Int32)) ((if g3 = 0 then (g2 &&& 65535) else (zush g2 16)) ^^^ (zm_half g1 (if g3 = 0 then (3 : Int32) else (0 : Int32)) (if g3 = 0 then (zush g2 16) else (g2 &&& 65535))))))), (5, .int 1), (4, .int ((if g3 = 0 then (g2 &&& 65535) else (zush g2 16)) ^^^ (zm_half g1 (if g3 = 0 then (3 : Int32) else (0 : Int32)) (if g3 = 0 then (zush g2 16) else (g2 &&& 65535))))), (0, .int g1), (1, .int g2), (2, .int g3)] := hl
  refine lv_iload hx hb dM_rounds_68 (lv_at hl 1 rfl) ?_
  refine lv_istore hx hb dM_rounds_70 hl (by decide) rfl (fun ls hl => ?_)
  have hl : lv_has ls 7 [(4, .int ((if g3 = 0 then (zush g2 16) else (g2 &&& 65535)) ^^^ (zm_half g1 (if g3 = 0 then (2 : Int32) else (1 : Int32)) ((if g3 = 0 then (g2 &&& 65535) else (zush g2 16)) ^^^ (zm_half g1 (if g3 = 0 then (3 : Int32) else (0 : Int32)) (if g3 = 0 then (zush g2 16) else (g2 &&& 65535))))))), (3, .int ((if g3 = 0 then (g2 &&& 65535) else (zush g2 16)) ^^^ (zm_half g1 (if g3 = 0 then (3 : Int32) else (0 : Int32)) (if g3 = 0 then (zush g2 16) else (g2 &&& 65535))))), (6, .int ((if g3 = 0 then (zush g2 16) else (g2 &&& 65535)) ^^^ (zm_half g1 (if g3 = 0 then (2 : Int32) else (1 : Int32)) ((if g3 = 0 then (g2 &&& 65535) else (zush g2 16)) ^^^ (zm_half g1 (if g3 = 0 then (3 : Int32) else (0 : Int32)) (if g3 = 0 then (zush g2 16) else (g2 &&& 65535))))))), (5, .int 1), (0, .int g1), (1, .int g2), (2, .int g3)] := hl
  refine lv_iinc (k := 3) (v := 2) hx hb dM_rounds_72 hl rfl (by decide) (by decide) rfl (fun ls hl => ?_)
  have hl : lv_has ls 7 [(5, .int 2), (4, .int ((if g3 = 0 then (zush g2 16) else (g2 &&& 65535)) ^^^ (zm_half g1 (if g3 = 0 then (2 : Int32) else (1 : Int32)) ((if g3 = 0 then (g2 &&& 65535) else (zush g2 16)) ^^^ (zm_half g1 (if g3 = 0 then (3 : Int32) else (0 : Int32)) (if g3 = 0 then (zush g2 16) else (g2 &&& 65535))))))), (3, .int ((if g3 = 0 then (g2 &&& 65535) else (zush g2 16)) ^^^ (zm_half g1 (if g3 = 0 then (3 : Int32) else (0 : Int32)) (if g3 = 0 then (zush g2 16) else (g2 &&& 65535))))), (6, .int ((if g3 = 0 then (zush g2 16) else (g2 &&& 65535)) ^^^ (zm_half g1 (if g3 = 0 then (2 : Int32) else (1 : Int32)) ((if g3 = 0 then (g2 &&& 65535) else (zush g2 16)) ^^^ (zm_half g1 (if g3 = 0 then (3 : Int32) else (0 : Int32)) (if g3 = 0 then (zush g2 16) else (g2 &&& 65535))))))), (0, .int g1), (1, .int g2), (2, .int g3)] := hl
  refine lv_goto hx hb dM_rounds_75 (tgt := 36) (by decide) ?_
  refine lv_iload hx hb dM_rounds_36 (lv_at hl 0 rfl) ?_
  refine lv_iconst (v := 4) hx hb dM_rounds_38 (by decide) ?_
  refine lv_icmp_ge (tgt := 78) hx hb dM_rounds_39 (by decide) (fun h => absurd h (by decide)) (fun _ => ?_)
  refine lv_iload_n hx hb dM_rounds_42 rfl (lv_at hl 2 rfl) ?_
  refine lv_iload_n hx hb dM_rounds_43 rfl (lv_at hl 4 rfl) ?_
  refine lv_iload_n hx hb dM_rounds_44 rfl (lv_at hl 6 rfl) ?_
  refine kJoin (pcJ := 57) (z := (if g3 = 0 then (1 : Int32) else (2 : Int32))) (ws := []) (rest := [.int g1, .int ((if g3 = 0 then (g2 &&& 65535) else (zush g2 16)) ^^^ (zm_half g1 (if g3 = 0 then (3 : Int32) else (0 : Int32)) (if g3 = 0 then (zush g2 16) else (g2 &&& 65535))))]) (D := D) (A := A) (H0 := s.heap) (fun J57 => ?_) (fun H locs hP hD hS => ?_)
  ·
    refine lv_if_eq (tgt := 53) hx hb dM_rounds_45 (by decide) (fun h5 => ?_) (fun h5 => ?_)
    ·
      refine lv_iconst (v := 3) hx hb dM_rounds_53 (by decide) ?_
      refine lv_iload hx hb dM_rounds_54 (lv_at hl 0 rfl) ?_
      refine lv_isub hx hb dM_rounds_56 ?_
      refine kTop (y := 1) (by decide) ?_
      exact J57 _ _ hP hD hS _ ((if_pos h5).symm)
    ·
      refine lv_iload hx hb dM_rounds_48 (lv_at hl 0 rfl) ?_
      refine lv_goto hx hb dM_rounds_50 (tgt := 57) (by decide) ?_
      exact J57 _ _ hP hD hS _ ((if_neg h5).symm)
  refine lv_iload hx hb dM_rounds_57 (lv_at hl 1 rfl) ?_
  refine kcI (isR := []) (isC := []) (wr := []) (w2 := []) (va_runS (As := [.int g1, .int (if g3 = 0 then (1 : Int32) else (2 : Int32)), .int ((if g3 = 0 then (zush g2 16) else (g2 &&& 65535)) ^^^ (zm_half g1 (if g3 = 0 then (2 : Int32) else (1 : Int32)) ((if g3 = 0 then (g2 &&& 65535) else (zush g2 16)) ^^^ (zm_half g1 (if g3 = 0 then (3 : Int32) else (0 : Int32)) (if g3 = 0 then (zush g2 16) else (g2 &&& 65535))))))]) (rest := [.int ((if g3 = 0 then (g2 &&& 65535) else (zush g2 16)) ^^^ (zm_half g1 (if g3 = 0 then (3 : Int32) else (0 : Int32)) (if g3 = 0 then (zush g2 16) else (g2 &&& 65535))))]) ⟨hx, hb, hml, hown, hts⟩ (km_half l D cI cZ g1 (if g3 = 0 then (1 : Int32) else (2 : Int32)) ((if g3 = 0 then (zush g2 16) else (g2 &&& 65535)) ^^^ (zm_half g1 (if g3 = 0 then (2 : Int32) else (1 : Int32)) ((if g3 = 0 then (g2 &&& 65535) else (zush g2 16)) ^^^ (zm_half g1 (if g3 = 0 then (3 : Int32) else (0 : Int32)) (if g3 = 0 then (zush g2 16) else (g2 &&& 65535)))))) _) ⟨(callB_of 3 hts gd_yM_half rfl rfl rfl (hts _ mw27) (hts _ mw424) (by decide +kernel) ⟨Nat.le_of_ble_eq_true rfl, Nat.le_of_ble_eq_true rfl⟩), hts _ mw425⟩ (kpreS hNw hP hD hK [] rfl (by decide)) rfl rfl hl.1 rfl (lv_room (Nat.le_of_ble_eq_true rfl)) dM_rounds_59 ⟨Nat.le_of_ble_eq_true rfl, Nat.le_of_ble_eq_true rfl⟩) hP hD hS hA [] rfl rfl (by decide) (by decide) (by decide) rfl (fun H locs hP hD hS => ?_)
  refine lv_ixor hx hb dM_rounds_62 ?_
  refine lv_istore hx hb dM_rounds_63 hl (by decide) rfl (fun ls hl => ?_)
  have hl : lv_has ls 7 [(6, .int (((if g3 = 0 then (g2 &&& 65535) else (zush g2 16)) ^^^ (zm_half g1 (if g3 = 0 then (3 : Int32) else (0 : Int32)) (if g3 = 0 then (zush g2 16) else (g2 &&& 65535)))) ^^^ (zm_half g1 (if g3 = 0 then (1 : Int32) else (2 : Int32)) ((if g3 = 0 then (zush g2 16) else (g2 &&& 65535)) ^^^ (zm_half g1 (if g3 = 0 then (2 : Int32) else (1 : Int32)) ((if g3 = 0 then (g2 &&& 65535) else (zush g2 16)) ^^^ (zm_half g1 (if g3 = 0 then (3 : Int32) else (0 : Int32)) (if g3 = 0 then (zush g2 16) else (g2 &&& 65535))))))))), (5, .int 2), (4, .int ((if g3 = 0 then (zush g2 16) else (g2 &&& 65535)) ^^^ (zm_half g1 (if g3 = 0 then (2 : Int32) else (1 : Int32)) ((if g3 = 0 then (g2 &&& 65535) else (zush g2 16)) ^^^ (zm_half g1 (if g3 = 0 then (3 : Int32) else (0 : Int32)) (if g3 = 0 then (zush g2 16) else (g2 &&& 65535))))))), (3, .int ((if g3 = 0 then (g2 &&& 65535) else (zush g2 16)) ^^^ (zm_half g1 (if g3 = 0 then (3 : Int32) else (0 : Int32)) (if g3 = 0 then (zush g2 16) else (g2 &&& 65535))))), (0, .int g1), (1, .int g2), (2, .int g3)] := hl
  refine lv_iload hx hb dM_rounds_65 (lv_at hl 2 rfl) ?_
  refine lv_istore_n hx hb dM_rounds_67 rfl hl (by decide) rfl (fun ls hl => ?_)
  have hl : lv_has ls 7 [(3, .int ((if g3 = 0 then (zush g2 16) else (g2 &&& 65535)) ^^^ (zm_half g1 (if g3 = 0 then (2 : Int32) else (1 : Int32)) ((if g3 = 0 then (g2 &&& 65535) else (zush g2 16)) ^^^ (zm_half g1 (if g3 = 0 then (3 : Int32) else (0 : Int32)) (if g3 = 0 then (zush g2 16) else (g2 &&& 65535))))))), (6, .int (((if g3 = 0 then (g2 &&& 65535) else (zush g2 16)) ^^^ (zm_half g1 (if g3 = 0 then (3 : Int32) else (0 : Int32)) (if g3 = 0 then (zush g2 16) else (g2 &&& 65535)))) ^^^ (zm_half g1 (if g3 = 0 then (1 : Int32) else (2 : Int32)) ((if g3 = 0 then (zush g2 16) else (g2 &&& 65535)) ^^^ (zm_half g1 (if g3 = 0 then (2 : Int32) else (1 : Int32)) ((if g3 = 0 then (g2 &&& 65535) else (zush g2 16)) ^^^ (zm_half g1 (if g3 = 0 then (3 : Int32) else (0 : Int32)) (if g3 = 0 then (zush g2 16) else (g2 &&& 65535))))))))), (5, .int 2), (4, .int ((if g3 = 0 then (zush g2 16) else (g2 &&& 65535)) ^^^ (zm_half g1 (if g3 = 0 then (2 : Int32) else (1 : Int32)) ((if g3 = 0 then (g2 &&& 65535) else (zush g2 16)) ^^^ (zm_half g1 (if g3 = 0 then (3 : Int32) else (0 : Int32)) (if g3 = 0 then (zush g2 16) else (g2 &&& 65535))))))), (0, .int g1), (1, .int g2), (2, .int g3)] := hl
  refine lv_iload hx hb dM_rounds_68 (lv_at hl 1 rfl) ?_
  refine lv_istore hx hb dM_rounds_70 hl (by decide) rfl (fun ls hl => ?_)
  have hl : lv_has ls 7 [(4, .int (((if g3 = 0 then (g2 &&& 65535) else (zush g2 16)) ^^^ (zm_half g1 (if g3 = 0 then (3 : Int32) else (0 : Int32)) (if g3 = 0 then (zush g2 16) else (g2 &&& 65535)))) ^^^ (zm_half g1 (if g3 = 0 then (1 : Int32) else (2 : Int32)) ((if g3 = 0 then (zush g2 16) else (g2 &&& 65535)) ^^^ (zm_half g1 (if g3 = 0 then (2 : Int32) else (1 : Int32)) ((if g3 = 0 then (g2 &&& 65535) else (zush g2 16)) ^^^ (zm_half g1 (if g3 = 0 then (3 : Int32) else (0 : Int32)) (if g3 = 0 then (zush g2 16) else (g2 &&& 65535))))))))), (3, .int ((if g3 = 0 then (zush g2 16) else (g2 &&& 65535)) ^^^ (zm_half g1 (if g3 = 0 then (2 : Int32) else (1 : Int32)) ((if g3 = 0 then (g2 &&& 65535) else (zush g2 16)) ^^^ (zm_half g1 (if g3 = 0 then (3 : Int32) else (0 : Int32)) (if g3 = 0 then (zush g2 16) else (g2 &&& 65535))))))), (6, .int (((if g3 = 0 then (g2 &&& 65535) else (zush g2 16)) ^^^ (zm_half g1 (if g3 = 0 then (3 : Int32) else (0 : Int32)) (if g3 = 0 then (zush g2 16) else (g2 &&& 65535)))) ^^^ (zm_half g1 (if g3 = 0 then (1 : Int32) else (2 : Int32)) ((if g3 = 0 then (zush g2 16) else (g2 &&& 65535)) ^^^ (zm_half g1 (if g3 = 0 then (2 : Int32) else (1 : Int32)) ((if g3 = 0 then (g2 &&& 65535) else (zush g2 16)) ^^^ (zm_half g1 (if g3 = 0 then (3 : Int32) else (0 : Int32)) (if g3 = 0 then (zush g2 16) else (g2 &&& 65535))))))))), (5, .int 2), (0, .int g1), (1, .int g2), (2, .int g3)] := hl
  refine lv_iinc (k := 3) (v := 3) hx hb dM_rounds_72 hl rfl (by decide) (by decide) rfl (fun ls hl => ?_)
  have hl : lv_has ls 7 [(5, .int 3), (4, .int (((if g3 = 0 then (g2 &&& 65535) else (zush g2 16)) ^^^ (zm_half g1 (if g3 = 0 then (3 : Int32) else (0 : Int32)) (if g3 = 0 then (zush g2 16) else (g2 &&& 65535)))) ^^^ (zm_half g1 (if g3 = 0 then (1 : Int32) else (2 : Int32)) ((if g3 = 0 then (zush g2 16) else (g2 &&& 65535)) ^^^ (zm_half g1 (if g3 = 0 then (2 : Int32) else (1 : Int32)) ((if g3 = 0 then (g2 &&& 65535) else (zush g2 16)) ^^^ (zm_half g1 (if g3 = 0 then (3 : Int32) else (0 : Int32)) (if g3 = 0 then (zush g2 16) else (g2 &&& 65535))))))))), (3, .int ((if g3 = 0 then (zush g2 16) else (g2 &&& 65535)) ^^^ (zm_half g1 (if g3 = 0 then (2 : Int32) else (1 : Int32)) ((if g3 = 0 then (g2 &&& 65535) else (zush g2 16)) ^^^ (zm_half g1 (if g3 = 0 then (3 : Int32) else (0 : Int32)) (if g3 = 0 then (zush g2 16) else (g2 &&& 65535))))))), (6, .int (((if g3 = 0 then (g2 &&& 65535) else (zush g2 16)) ^^^ (zm_half g1 (if g3 = 0 then (3 : Int32) else (0 : Int32)) (if g3 = 0 then (zush g2 16) else (g2 &&& 65535)))) ^^^ (zm_half g1 (if g3 = 0 then (1 : Int32) else (2 : Int32)) ((if g3 = 0 then (zush g2 16) else (g2 &&& 65535)) ^^^ (zm_half g1 (if g3 = 0 then (2 : Int32) else (1 : Int32)) ((if g3 = 0 then (g2 &&& 65535) else (zush g2 16)) ^^^ (zm_half g1 (if g3 = 0 then (3 : Int32) else (0 : Int32)) (if g3 = 0 then (zush g2 16) else (g2 &&& 65535))))))))), (0, .int g1), (1, .int g2), (2, .int g3)] := hl
  refine lv_goto hx hb dM_rounds_75 (tgt := 36) (by decide) ?_
  refine lv_iload hx hb dM_rounds_36 (lv_at hl 0 rfl) ?_
  refine lv_iconst (v := 4) hx hb dM_rounds_38 (by decide) ?_
  refine lv_icmp_ge (tgt := 78) hx hb dM_rounds_39 (by decide) (fun h => absurd h (by decide)) (fun _ => ?_)
  refine lv_iload_n hx hb dM_rounds_42 rfl (lv_at hl 2 rfl) ?_
  refine lv_iload_n hx hb dM_rounds_43 rfl (lv_at hl 4 rfl) ?_
  refine lv_iload_n hx hb dM_rounds_44 rfl (lv_at hl 6 rfl) ?_
  refine kJoin (pcJ := 57) (z := (if g3 = 0 then (0 : Int32) else (3 : Int32))) (ws := []) (rest := [.int g1, .int ((if g3 = 0 then (zush g2 16) else (g2 &&& 65535)) ^^^ (zm_half g1 (if g3 = 0 then (2 : Int32) else (1 : Int32)) ((if g3 = 0 then (g2 &&& 65535) else (zush g2 16)) ^^^ (zm_half g1 (if g3 = 0 then (3 : Int32) else (0 : Int32)) (if g3 = 0 then (zush g2 16) else (g2 &&& 65535))))))]) (D := D) (A := A) (H0 := s.heap) (fun J57 => ?_) (fun H locs hP hD hS => ?_)
  ·
    refine lv_if_eq (tgt := 53) hx hb dM_rounds_45 (by decide) (fun h6 => ?_) (fun h6 => ?_)
    ·
      refine lv_iconst (v := 3) hx hb dM_rounds_53 (by decide) ?_
      refine lv_iload hx hb dM_rounds_54 (lv_at hl 0 rfl) ?_
      refine lv_isub hx hb dM_rounds_56 ?_
      refine kTop (y := 0) (by decide) ?_
      exact J57 _ _ hP hD hS _ ((if_pos h6).symm)
    ·
      refine lv_iload hx hb dM_rounds_48 (lv_at hl 0 rfl) ?_
      refine lv_goto hx hb dM_rounds_50 (tgt := 57) (by decide) ?_
      exact J57 _ _ hP hD hS _ ((if_neg h6).symm)
  refine lv_iload hx hb dM_rounds_57 (lv_at hl 1 rfl) ?_
  refine kcI (isR := []) (isC := []) (wr := []) (w2 := []) (va_runS (As := [.int g1, .int (if g3 = 0 then (0 : Int32) else (3 : Int32)), .int (((if g3 = 0 then (g2 &&& 65535) else (zush g2 16)) ^^^ (zm_half g1 (if g3 = 0 then (3 : Int32) else (0 : Int32)) (if g3 = 0 then (zush g2 16) else (g2 &&& 65535)))) ^^^ (zm_half g1 (if g3 = 0 then (1 : Int32) else (2 : Int32)) ((if g3 = 0 then (zush g2 16) else (g2 &&& 65535)) ^^^ (zm_half g1 (if g3 = 0 then (2 : Int32) else (1 : Int32)) ((if g3 = 0 then (g2 &&& 65535) else (zush g2 16)) ^^^ (zm_half g1 (if g3 = 0 then (3 : Int32) else (0 : Int32)) (if g3 = 0 then (zush g2 16) else (g2 &&& 65535))))))))]) (rest := [.int ((if g3 = 0 then (zush g2 16) else (g2 &&& 65535)) ^^^ (zm_half g1 (if g3 = 0 then (2 : Int32) else (1 : Int32)) ((if g3 = 0 then (g2 &&& 65535) else (zush g2 16)) ^^^ (zm_half g1 (if g3 = 0 then (3 : Int32) else (0 : Int32)) (if g3 = 0 then (zush g2 16) else (g2 &&& 65535))))))]) ⟨hx, hb, hml, hown, hts⟩ (km_half l D cI cZ g1 (if g3 = 0 then (0 : Int32) else (3 : Int32)) (((if g3 = 0 then (g2 &&& 65535) else (zush g2 16)) ^^^ (zm_half g1 (if g3 = 0 then (3 : Int32) else (0 : Int32)) (if g3 = 0 then (zush g2 16) else (g2 &&& 65535)))) ^^^ (zm_half g1 (if g3 = 0 then (1 : Int32) else (2 : Int32)) ((if g3 = 0 then (zush g2 16) else (g2 &&& 65535)) ^^^ (zm_half g1 (if g3 = 0 then (2 : Int32) else (1 : Int32)) ((if g3 = 0 then (g2 &&& 65535) else (zush g2 16)) ^^^ (zm_half g1 (if g3 = 0 then (3 : Int32) else (0 : Int32)) (if g3 = 0 then (zush g2 16) else (g2 &&& 65535)))))))) _) ⟨(callB_of 3 hts gd_yM_half rfl rfl rfl (hts _ mw27) (hts _ mw424) (by decide +kernel) ⟨Nat.le_of_ble_eq_true rfl, Nat.le_of_ble_eq_true rfl⟩), hts _ mw425⟩ (kpreS hNw hP hD hK [] rfl (by decide)) rfl rfl hl.1 rfl (lv_room (Nat.le_of_ble_eq_true rfl)) dM_rounds_59 ⟨Nat.le_of_ble_eq_true rfl, Nat.le_of_ble_eq_true rfl⟩) hP hD hS hA [] rfl rfl (by decide) (by decide) (by decide) rfl (fun H locs hP hD hS => ?_)
  refine lv_ixor hx hb dM_rounds_62 ?_
  refine lv_istore hx hb dM_rounds_63 hl (by decide) rfl (fun ls hl => ?_)
  have hl : lv_has ls 7 [(6, .int (((if g3 = 0 then (zush g2 16) else (g2 &&& 65535)) ^^^ (zm_half g1 (if g3 = 0 then (2 : Int32) else (1 : Int32)) ((if g3 = 0 then (g2 &&& 65535) else (zush g2 16)) ^^^ (zm_half g1 (if g3 = 0 then (3 : Int32) else (0 : Int32)) (if g3 = 0 then (zush g2 16) else (g2 &&& 65535)))))) ^^^ (zm_half g1 (if g3 = 0 then (0 : Int32) else (3 : Int32)) (((if g3 = 0 then (g2 &&& 65535) else (zush g2 16)) ^^^ (zm_half g1 (if g3 = 0 then (3 : Int32) else (0 : Int32)) (if g3 = 0 then (zush g2 16) else (g2 &&& 65535)))) ^^^ (zm_half g1 (if g3 = 0 then (1 : Int32) else (2 : Int32)) ((if g3 = 0 then (zush g2 16) else (g2 &&& 65535)) ^^^ (zm_half g1 (if g3 = 0 then (2 : Int32) else (1 : Int32)) ((if g3 = 0 then (g2 &&& 65535) else (zush g2 16)) ^^^ (zm_half g1 (if g3 = 0 then (3 : Int32) else (0 : Int32)) (if g3 = 0 then (zush g2 16) else (g2 &&& 65535))))))))))), (5, .int 3), (4, .int (((if g3 = 0 then (g2 &&& 65535) else (zush g2 16)) ^^^ (zm_half g1 (if g3 = 0 then (3 : Int32) else (0 : Int32)) (if g3 = 0 then (zush g2 16) else (g2 &&& 65535)))) ^^^ (zm_half g1 (if g3 = 0 then (1 : Int32) else (2 : Int32)) ((if g3 = 0 then (zush g2 16) else (g2 &&& 65535)) ^^^ (zm_half g1 (if g3 = 0 then (2 : Int32) else (1 : Int32)) ((if g3 = 0 then (g2 &&& 65535) else (zush g2 16)) ^^^ (zm_half g1 (if g3 = 0 then (3 : Int32) else (0 : Int32)) (if g3 = 0 then (zush g2 16) else (g2 &&& 65535))))))))), (3, .int ((if g3 = 0 then (zush g2 16) else (g2 &&& 65535)) ^^^ (zm_half g1 (if g3 = 0 then (2 : Int32) else (1 : Int32)) ((if g3 = 0 then (g2 &&& 65535) else (zush g2 16)) ^^^ (zm_half g1 (if g3 = 0 then (3 : Int32) else (0 : Int32)) (if g3 = 0 then (zush g2 16) else (g2 &&& 65535))))))), (0, .int g1), (1, .int g2), (2, .int g3)] := hl
  refine lv_iload hx hb dM_rounds_65 (lv_at hl 2 rfl) ?_
  refine lv_istore_n hx hb dM_rounds_67 rfl hl (by decide) rfl (fun ls hl => ?_)
  have hl : lv_has ls 7 [(3, .int (((if g3 = 0 then (g2 &&& 65535) else (zush g2 16)) ^^^ (zm_half g1 (if g3 = 0 then (3 : Int32) else (0 : Int32)) (if g3 = 0 then (zush g2 16) else (g2 &&& 65535)))) ^^^ (zm_half g1 (if g3 = 0 then (1 : Int32) else (2 : Int32)) ((if g3 = 0 then (zush g2 16) else (g2 &&& 65535)) ^^^ (zm_half g1 (if g3 = 0 then (2 : Int32) else (1 : Int32)) ((if g3 = 0 then (g2 &&& 65535) else (zush g2 16)) ^^^ (zm_half g1 (if g3 = 0 then (3 : Int32) else (0 : Int32)) (if g3 = 0 then (zush g2 16) else (g2 &&& 65535))))))))), (6, .int (((if g3 = 0 then (zush g2 16) else (g2 &&& 65535)) ^^^ (zm_half g1 (if g3 = 0 then (2 : Int32) else (1 : Int32)) ((if g3 = 0 then (g2 &&& 65535) else (zush g2 16)) ^^^ (zm_half g1 (if g3 = 0 then (3 : Int32) else (0 : Int32)) (if g3 = 0 then (zush g2 16) else (g2 &&& 65535)))))) ^^^ (zm_half g1 (if g3 = 0 then (0 : Int32) else (3 : Int32)) (((if g3 = 0 then (g2 &&& 65535) else (zush g2 16)) ^^^ (zm_half g1 (if g3 = 0 then (3 : Int32) else (0 : Int32)) (if g3 = 0 then (zush g2 16) else (g2 &&& 65535)))) ^^^ (zm_half g1 (if g3 = 0 then (1 : Int32) else (2 : Int32)) ((if g3 = 0 then (zush g2 16) else (g2 &&& 65535)) ^^^ (zm_half g1 (if g3 = 0 then (2 : Int32) else (1 : Int32)) ((if g3 = 0 then (g2 &&& 65535) else (zush g2 16)) ^^^ (zm_half g1 (if g3 = 0 then (3 : Int32) else (0 : Int32)) (if g3 = 0 then (zush g2 16) else (g2 &&& 65535))))))))))), (5, .int 3), (4, .int (((if g3 = 0 then (g2 &&& 65535) else (zush g2 16)) ^^^ (zm_half g1 (if g3 = 0 then (3 : Int32) else (0 : Int32)) (if g3 = 0 then (zush g2 16) else (g2 &&& 65535)))) ^^^ (zm_half g1 (if g3 = 0 then (1 : Int32) else (2 : Int32)) ((if g3 = 0 then (zush g2 16) else (g2 &&& 65535)) ^^^ (zm_half g1 (if g3 = 0 then (2 : Int32) else (1 : Int32)) ((if g3 = 0 then (g2 &&& 65535) else (zush g2 16)) ^^^ (zm_half g1 (if g3 = 0 then (3 : Int32) else (0 : Int32)) (if g3 = 0 then (zush g2 16) else (g2 &&& 65535))))))))), (0, .int g1), (1, .int g2), (2, .int g3)] := hl
  refine lv_iload hx hb dM_rounds_68 (lv_at hl 1 rfl) ?_
  refine lv_istore hx hb dM_rounds_70 hl (by decide) rfl (fun ls hl => ?_)
  have hl : lv_has ls 7 [(4, .int (((if g3 = 0 then (zush g2 16) else (g2 &&& 65535)) ^^^ (zm_half g1 (if g3 = 0 then (2 : Int32) else (1 : Int32)) ((if g3 = 0 then (g2 &&& 65535) else (zush g2 16)) ^^^ (zm_half g1 (if g3 = 0 then (3 : Int32) else (0 : Int32)) (if g3 = 0 then (zush g2 16) else (g2 &&& 65535)))))) ^^^ (zm_half g1 (if g3 = 0 then (0 : Int32) else (3 : Int32)) (((if g3 = 0 then (g2 &&& 65535) else (zush g2 16)) ^^^ (zm_half g1 (if g3 = 0 then (3 : Int32) else (0 : Int32)) (if g3 = 0 then (zush g2 16) else (g2 &&& 65535)))) ^^^ (zm_half g1 (if g3 = 0 then (1 : Int32) else (2 : Int32)) ((if g3 = 0 then (zush g2 16) else (g2 &&& 65535)) ^^^ (zm_half g1 (if g3 = 0 then (2 : Int32) else (1 : Int32)) ((if g3 = 0 then (g2 &&& 65535) else (zush g2 16)) ^^^ (zm_half g1 (if g3 = 0 then (3 : Int32) else (0 : Int32)) (if g3 = 0 then (zush g2 16) else (g2 &&& 65535))))))))))), (3, .int (((if g3 = 0 then (g2 &&& 65535) else (zush g2 16)) ^^^ (zm_half g1 (if g3 = 0 then (3 : Int32) else (0 : Int32)) (if g3 = 0 then (zush g2 16) else (g2 &&& 65535)))) ^^^ (zm_half g1 (if g3 = 0 then (1 : Int32) else (2 : Int32)) ((if g3 = 0 then (zush g2 16) else (g2 &&& 65535)) ^^^ (zm_half g1 (if g3 = 0 then (2 : Int32) else (1 : Int32)) ((if g3 = 0 then (g2 &&& 65535) else (zush g2 16)) ^^^ (zm_half g1 (if g3 = 0 then (3 : Int32) else (0 : Int32)) (if g3 = 0 then (zush g2 16) else (g2 &&& 65535))))))))), (6, .int (((if g3 = 0 then (zush g2 16) else (g2 &&& 65535)) ^^^ (zm_half g1 (if g3 = 0 then (2 : Int32) else (1 : Int32)) ((if g3 = 0 then (g2 &&& 65535) else (zush g2 16)) ^^^ (zm_half g1 (if g3 = 0 then (3 : Int32) else (0 : Int32)) (if g3 = 0 then (zush g2 16) else (g2 &&& 65535)))))) ^^^ (zm_half g1 (if g3 = 0 then (0 : Int32) else (3 : Int32)) (((if g3 = 0 then (g2 &&& 65535) else (zush g2 16)) ^^^ (zm_half g1 (if g3 = 0 then (3 : Int32) else (0 : Int32)) (if g3 = 0 then (zush g2 16) else (g2 &&& 65535)))) ^^^ (zm_half g1 (if g3 = 0 then (1 : Int32) else (2 : Int32)) ((if g3 = 0 then (zush g2 16) else (g2 &&& 65535)) ^^^ (zm_half g1 (if g3 = 0 then (2 : Int32) else (1 : Int32)) ((if g3 = 0 then (g2 &&& 65535) else (zush g2 16)) ^^^ (zm_half g1 (if g3 = 0 then (3 : Int32) else (0 : Int32)) (if g3 = 0 then (zush g2 16) else (g2 &&& 65535))))))))))), (5, .int 3), (0, .int g1), (1, .int g2), (2, .int g3)] := hl
  refine lv_iinc (k := 3) (v := 4) hx hb dM_rounds_72 hl rfl (by decide) (by decide) rfl (fun ls hl => ?_)
  have hl : lv_has ls 7 [(5, .int 4), (4, .int (((if g3 = 0 then (zush g2 16) else (g2 &&& 65535)) ^^^ (zm_half g1 (if g3 = 0 then (2 : Int32) else (1 : Int32)) ((if g3 = 0 then (g2 &&& 65535) else (zush g2 16)) ^^^ (zm_half g1 (if g3 = 0 then (3 : Int32) else (0 : Int32)) (if g3 = 0 then (zush g2 16) else (g2 &&& 65535)))))) ^^^ (zm_half g1 (if g3 = 0 then (0 : Int32) else (3 : Int32)) (((if g3 = 0 then (g2 &&& 65535) else (zush g2 16)) ^^^ (zm_half g1 (if g3 = 0 then (3 : Int32) else (0 : Int32)) (if g3 = 0 then (zush g2 16) else (g2 &&& 65535)))) ^^^ (zm_half g1 (if g3 = 0 then (1 : Int32) else (2 : Int32)) ((if g3 = 0 then (zush g2 16) else (g2 &&& 65535)) ^^^ (zm_half g1 (if g3 = 0 then (2 : Int32) else (1 : Int32)) ((if g3 = 0 then (g2 &&& 65535) else (zush g2 16)) ^^^ (zm_half g1 (if g3 = 0 then (3 : Int32) else (0 : Int32)) (if g3 = 0 then (zush g2 16) else (g2 &&& 65535))))))))))), (3, .int (((if g3 = 0 then (g2 &&& 65535) else (zush g2 16)) ^^^ (zm_half g1 (if g3 = 0 then (3 : Int32) else (0 : Int32)) (if g3 = 0 then (zush g2 16) else (g2 &&& 65535)))) ^^^ (zm_half g1 (if g3 = 0 then (1 : Int32) else (2 : Int32)) ((if g3 = 0 then (zush g2 16) else (g2 &&& 65535)) ^^^ (zm_half g1 (if g3 = 0 then (2 : Int32) else (1 : Int32)) ((if g3 = 0 then (g2 &&& 65535) else (zush g2 16)) ^^^ (zm_half g1 (if g3 = 0 then (3 : Int32) else (0 : Int32)) (if g3 = 0 then (zush g2 16) else (g2 &&& 65535))))))))), (6, .int (((if g3 = 0 then (zush g2 16) else (g2 &&& 65535)) ^^^ (zm_half g1 (if g3 = 0 then (2 : Int32) else (1 : Int32)) ((if g3 = 0 then (g2 &&& 65535) else (zush g2 16)) ^^^ (zm_half g1 (if g3 = 0 then (3 : Int32) else (0 : Int32)) (if g3 = 0 then (zush g2 16) else (g2 &&& 65535)))))) ^^^ (zm_half g1 (if g3 = 0 then (0 : Int32) else (3 : Int32)) (((if g3 = 0 then (g2 &&& 65535) else (zush g2 16)) ^^^ (zm_half g1 (if g3 = 0 then (3 : Int32) else (0 : Int32)) (if g3 = 0 then (zush g2 16) else (g2 &&& 65535)))) ^^^ (zm_half g1 (if g3 = 0 then (1 : Int32) else (2 : Int32)) ((if g3 = 0 then (zush g2 16) else (g2 &&& 65535)) ^^^ (zm_half g1 (if g3 = 0 then (2 : Int32) else (1 : Int32)) ((if g3 = 0 then (g2 &&& 65535) else (zush g2 16)) ^^^ (zm_half g1 (if g3 = 0 then (3 : Int32) else (0 : Int32)) (if g3 = 0 then (zush g2 16) else (g2 &&& 65535))))))))))), (0, .int g1), (1, .int g2), (2, .int g3)] := hl
  refine lv_goto hx hb dM_rounds_75 (tgt := 36) (by decide) ?_
  refine lv_iload hx hb dM_rounds_36 (lv_at hl 0 rfl) ?_
  refine lv_iconst (v := 4) hx hb dM_rounds_38 (by decide) ?_
  refine lv_icmp_ge (tgt := 78) hx hb dM_rounds_39 (by decide) (fun _ => ?_) (fun h => absurd h (by decide))
  refine lv_iload_n hx hb dM_rounds_78 rfl (lv_at hl 6 rfl) ?_
  refine kJoin (pcJ := 99) (z := (if g3 = 0 then (((((if g3 = 0 then (zush g2 16) else (g2 &&& 65535)) ^^^ (zm_half g1 (if g3 = 0 then (2 : Int32) else (1 : Int32)) ((if g3 = 0 then (g2 &&& 65535) else (zush g2 16)) ^^^ (zm_half g1 (if g3 = 0 then (3 : Int32) else (0 : Int32)) (if g3 = 0 then (zush g2 16) else (g2 &&& 65535)))))) ^^^ (zm_half g1 (if g3 = 0 then (0 : Int32) else (3 : Int32)) (((if g3 = 0 then (g2 &&& 65535) else (zush g2 16)) ^^^ (zm_half g1 (if g3 = 0 then (3 : Int32) else (0 : Int32)) (if g3 = 0 then (zush g2 16) else (g2 &&& 65535)))) ^^^ (zm_half g1 (if g3 = 0 then (1 : Int32) else (2 : Int32)) ((if g3 = 0 then (zush g2 16) else (g2 &&& 65535)) ^^^ (zm_half g1 (if g3 = 0 then (2 : Int32) else (1 : Int32)) ((if g3 = 0 then (g2 &&& 65535) else (zush g2 16)) ^^^ (zm_half g1 (if g3 = 0 then (3 : Int32) else (0 : Int32)) (if g3 = 0 then (zush g2 16) else (g2 &&& 65535)))))))))) * 65536) + (((if g3 = 0 then (g2 &&& 65535) else (zush g2 16)) ^^^ (zm_half g1 (if g3 = 0 then (3 : Int32) else (0 : Int32)) (if g3 = 0 then (zush g2 16) else (g2 &&& 65535)))) ^^^ (zm_half g1 (if g3 = 0 then (1 : Int32) else (2 : Int32)) ((if g3 = 0 then (zush g2 16) else (g2 &&& 65535)) ^^^ (zm_half g1 (if g3 = 0 then (2 : Int32) else (1 : Int32)) ((if g3 = 0 then (g2 &&& 65535) else (zush g2 16)) ^^^ (zm_half g1 (if g3 = 0 then (3 : Int32) else (0 : Int32)) (if g3 = 0 then (zush g2 16) else (g2 &&& 65535))))))))) else (((((if g3 = 0 then (g2 &&& 65535) else (zush g2 16)) ^^^ (zm_half g1 (if g3 = 0 then (3 : Int32) else (0 : Int32)) (if g3 = 0 then (zush g2 16) else (g2 &&& 65535)))) ^^^ (zm_half g1 (if g3 = 0 then (1 : Int32) else (2 : Int32)) ((if g3 = 0 then (zush g2 16) else (g2 &&& 65535)) ^^^ (zm_half g1 (if g3 = 0 then (2 : Int32) else (1 : Int32)) ((if g3 = 0 then (g2 &&& 65535) else (zush g2 16)) ^^^ (zm_half g1 (if g3 = 0 then (3 : Int32) else (0 : Int32)) (if g3 = 0 then (zush g2 16) else (g2 &&& 65535)))))))) * 65536) + (((if g3 = 0 then (zush g2 16) else (g2 &&& 65535)) ^^^ (zm_half g1 (if g3 = 0 then (2 : Int32) else (1 : Int32)) ((if g3 = 0 then (g2 &&& 65535) else (zush g2 16)) ^^^ (zm_half g1 (if g3 = 0 then (3 : Int32) else (0 : Int32)) (if g3 = 0 then (zush g2 16) else (g2 &&& 65535)))))) ^^^ (zm_half g1 (if g3 = 0 then (0 : Int32) else (3 : Int32)) (((if g3 = 0 then (g2 &&& 65535) else (zush g2 16)) ^^^ (zm_half g1 (if g3 = 0 then (3 : Int32) else (0 : Int32)) (if g3 = 0 then (zush g2 16) else (g2 &&& 65535)))) ^^^ (zm_half g1 (if g3 = 0 then (1 : Int32) else (2 : Int32)) ((if g3 = 0 then (zush g2 16) else (g2 &&& 65535)) ^^^ (zm_half g1 (if g3 = 0 then (2 : Int32) else (1 : Int32)) ((if g3 = 0 then (g2 &&& 65535) else (zush g2 16)) ^^^ (zm_half g1 (if g3 = 0 then (3 : Int32) else (0 : Int32)) (if g3 = 0 then (zush g2 16) else (g2 &&& 65535))))))))))))) (ws := []) (rest := []) (D := D) (A := A) (H0 := s.heap) (fun J99 => ?_) (fun H locs hP hD hS => ?_)
  ·
    refine lv_if_eq (tgt := 92) hx hb dM_rounds_79 (by decide) (fun h7 => ?_) (fun h7 => ?_)
    ·
      refine lv_iload hx hb dM_rounds_92 (lv_at hl 1 rfl) ?_
      refine lv_ldc (v := 65536) hx hb hown (hts _ mw428) dM_rounds_94 ?_
      refine lv_imul hx hb dM_rounds_96 ?_
      refine lv_iload_n hx hb dM_rounds_97 rfl (lv_at hl 2 rfl) ?_
      refine lv_iadd hx hb dM_rounds_98 ?_
      exact J99 _ _ hP hD hS _ ((if_pos h7).symm)
    ·
      refine lv_iload_n hx hb dM_rounds_82 rfl (lv_at hl 2 rfl) ?_
      refine lv_ldc (v := 65536) hx hb hown (hts _ mw428) dM_rounds_83 ?_
      refine lv_imul hx hb dM_rounds_85 ?_
      refine lv_iload hx hb dM_rounds_86 (lv_at hl 1 rfl) ?_
      refine lv_iadd hx hb dM_rounds_88 ?_
      refine lv_goto hx hb dM_rounds_89 (tgt := 99) (by decide) ?_
      exact J99 _ _ hP hD hS _ ((if_neg h7).symm)
  exact kretP (rfl) hx hb hr hlk hS hP hD hK dM_rounds_99

def zm_mac (g1 : Int32) (g2 : Int32) : Int32 := (zmac1 (zmac1 (zmac1 (zmac1 g1 ((zush g2 0) &&& 255)) ((zush g2 8) &&& 255)) ((zush g2 16) &&& 255)) ((zush g2 24) &&& 255))

set_option maxHeartbeats 4000000 in
set_option maxRecDepth 100000 in
theorem km_mac (l : Launch) (D : va_G) (cI cZ : ClassId) (g1 : Int32) (g2 : Int32) : kI l yM_mac wsM_mac (rmOf 0 0) D (kT cI cZ) [.int g1, .int g2] [] (zm_mac g1 g2) [] := by
  intro sz
  refine kOf (Qc := fun A => kQi D (kT cI cZ) A (zm_mac g1 g2) []) (cc := cM_mac) (maxL := 4) (ret := some .int) (by decide) rfl (Nat.le_of_ble_eq_true rfl) ?_ sz
  intro p e s m args below meth c A ls hx hb hml hown hts hNw hr hlk hin hA hS hP hD hK hl
  show W p l e (rmOf 0 0) s m args below meth c s.heap [] 0 0 (MQ below (kQi D (kT cI cZ) A (zm_mac g1 g2) []) args s 0 0 A) (F0 m 0 ls [])
  have hts : ∀ q ∈ lw_g, q.before args s = true := fun q h => hts q (List.mem_cons_of_mem _ h)
  have hown : s.vm.findClass cnM = some m.cls := hown
  have hl : lv_has ls 4 [(0, .int g1), (1, .int g2)] := hl
  have hP : va_P D vwCl [] s.heap := hP
  have hD : va_D A [] := hD
  refine lv_iload_n hx hb dM_mac_0 rfl (lv_at hl 0 rfl) ?_
  refine lv_istore_n hx hb dM_mac_1 rfl hl (by decide) rfl (fun ls hl => ?_)
  have hl : lv_has ls 4 [(2, .int g1), (0, .int g1), (1, .int g2)] := hl
  refine lv_iconst (v := 0) hx hb dM_mac_2 (by decide) ?_
  refine lv_istore_n hx hb dM_mac_3 rfl hl (by decide) rfl (fun ls hl => ?_)
  have hl : lv_has ls 4 [(3, .int 0), (2, .int g1), (0, .int g1), (1, .int g2)] := hl
  refine lv_iload_n hx hb dM_mac_4 rfl (lv_at hl 0 rfl) ?_
  refine lv_bipush (v := 32) hx hb dM_mac_5 (by decide) ?_
  refine lv_icmp_ge (tgt := 36) hx hb dM_mac_7 (by decide) (fun h => absurd h (by decide)) (fun _ => ?_)
  refine lv_iload_n hx hb dM_mac_10 rfl (lv_at hl 1 rfl) ?_
  refine lv_iload_n hx hb dM_mac_11 rfl (lv_at hl 3 rfl) ?_
  refine lv_iload_n hx hb dM_mac_12 rfl (lv_at hl 0 rfl) ?_
  refine lv_iushr (v := (zush g2 0)) hx hb dM_mac_13 rfl ?_
  refine lv_sipush (v := 255) hx hb dM_mac_14 (by decide) ?_
  refine lv_iand hx hb dM_mac_17 ?_
  refine lv_ixor hx hb dM_mac_18 ?_
  refine lv_ldc (v := 16777619) hx hb hown (hts _ mw379) dM_mac_19 ?_
  refine lv_imul hx hb dM_mac_21 ?_
  refine lv_istore_n hx hb dM_mac_22 rfl hl (by decide) rfl (fun ls hl => ?_)
  have hl : lv_has ls 4 [(2, .int ((g1 ^^^ ((zush g2 0) &&& 255)) * 16777619)), (3, .int 0), (0, .int g1), (1, .int g2)] := hl
  refine lv_iload_n hx hb dM_mac_23 rfl (lv_at hl 0 rfl) ?_
  refine lv_iload_n hx hb dM_mac_24 rfl (lv_at hl 0 rfl) ?_
  refine lv_bipush (v := 13) hx hb dM_mac_25 (by decide) ?_
  refine lv_iushr (v := (zush ((g1 ^^^ ((zush g2 0) &&& 255)) * 16777619) 13)) hx hb dM_mac_27 rfl ?_
  refine lv_ixor hx hb dM_mac_28 ?_
  refine kTop (y := (zmac1 g1 ((zush g2 0) &&& 255))) (rfl) ?_
  refine lv_istore_n hx hb dM_mac_29 rfl hl (by decide) rfl (fun ls hl => ?_)
  have hl : lv_has ls 4 [(2, .int (zmac1 g1 ((zush g2 0) &&& 255))), (3, .int 0), (0, .int g1), (1, .int g2)] := hl
  refine lv_iinc (k := 1) (v := 8) hx hb dM_mac_30 hl rfl (by decide) (by decide) rfl (fun ls hl => ?_)
  have hl : lv_has ls 4 [(3, .int 8), (2, .int (zmac1 g1 ((zush g2 0) &&& 255))), (0, .int g1), (1, .int g2)] := hl
  refine lv_goto hx hb dM_mac_33 (tgt := 4) (by decide) ?_
  refine lv_iload_n hx hb dM_mac_4 rfl (lv_at hl 0 rfl) ?_
  refine lv_bipush (v := 32) hx hb dM_mac_5 (by decide) ?_
  refine lv_icmp_ge (tgt := 36) hx hb dM_mac_7 (by decide) (fun h => absurd h (by decide)) (fun _ => ?_)
  refine lv_iload_n hx hb dM_mac_10 rfl (lv_at hl 1 rfl) ?_
  refine lv_iload_n hx hb dM_mac_11 rfl (lv_at hl 3 rfl) ?_
  refine lv_iload_n hx hb dM_mac_12 rfl (lv_at hl 0 rfl) ?_
  refine lv_iushr (v := (zush g2 8)) hx hb dM_mac_13 rfl ?_
  refine lv_sipush (v := 255) hx hb dM_mac_14 (by decide) ?_
  refine lv_iand hx hb dM_mac_17 ?_
  refine lv_ixor hx hb dM_mac_18 ?_
  refine lv_ldc (v := 16777619) hx hb hown (hts _ mw379) dM_mac_19 ?_
  refine lv_imul hx hb dM_mac_21 ?_
  refine lv_istore_n hx hb dM_mac_22 rfl hl (by decide) rfl (fun ls hl => ?_)
  have hl : lv_has ls 4 [(2, .int (((zmac1 g1 ((zush g2 0) &&& 255)) ^^^ ((zush g2 8) &&& 255)) * 16777619)), (3, .int 8), (0, .int g1), (1, .int g2)] := hl
  refine lv_iload_n hx hb dM_mac_23 rfl (lv_at hl 0 rfl) ?_
  refine lv_iload_n hx hb dM_mac_24 rfl (lv_at hl 0 rfl) ?_
  refine lv_bipush (v := 13) hx hb dM_mac_25 (by decide) ?_
  refine lv_iushr (v := (zush (((zmac1 g1 ((zush g2 0) &&& 255)) ^^^ ((zush g2 8) &&& 255)) * 16777619) 13)) hx hb dM_mac_27 rfl ?_
  refine lv_ixor hx hb dM_mac_28 ?_
  refine kTop (y := (zmac1 (zmac1 g1 ((zush g2 0) &&& 255)) ((zush g2 8) &&& 255))) (rfl) ?_
  refine lv_istore_n hx hb dM_mac_29 rfl hl (by decide) rfl (fun ls hl => ?_)
  have hl : lv_has ls 4 [(2, .int (zmac1 (zmac1 g1 ((zush g2 0) &&& 255)) ((zush g2 8) &&& 255))), (3, .int 8), (0, .int g1), (1, .int g2)] := hl
  refine lv_iinc (k := 1) (v := 16) hx hb dM_mac_30 hl rfl (by decide) (by decide) rfl (fun ls hl => ?_)
  have hl : lv_has ls 4 [(3, .int 16), (2, .int (zmac1 (zmac1 g1 ((zush g2 0) &&& 255)) ((zush g2 8) &&& 255))), (0, .int g1), (1, .int g2)] := hl
  refine lv_goto hx hb dM_mac_33 (tgt := 4) (by decide) ?_
  refine lv_iload_n hx hb dM_mac_4 rfl (lv_at hl 0 rfl) ?_
  refine lv_bipush (v := 32) hx hb dM_mac_5 (by decide) ?_
  refine lv_icmp_ge (tgt := 36) hx hb dM_mac_7 (by decide) (fun h => absurd h (by decide)) (fun _ => ?_)
  refine lv_iload_n hx hb dM_mac_10 rfl (lv_at hl 1 rfl) ?_
  refine lv_iload_n hx hb dM_mac_11 rfl (lv_at hl 3 rfl) ?_
  refine lv_iload_n hx hb dM_mac_12 rfl (lv_at hl 0 rfl) ?_
  refine lv_iushr (v := (zush g2 16)) hx hb dM_mac_13 rfl ?_
  refine lv_sipush (v := 255) hx hb dM_mac_14 (by decide) ?_
  refine lv_iand hx hb dM_mac_17 ?_
  refine lv_ixor hx hb dM_mac_18 ?_
  refine lv_ldc (v := 16777619) hx hb hown (hts _ mw379) dM_mac_19 ?_
  refine lv_imul hx hb dM_mac_21 ?_
  refine lv_istore_n hx hb dM_mac_22 rfl hl (by decide) rfl (fun ls hl => ?_)
  have hl : lv_has ls 4 [(2, .int (((zmac1 (zmac1 g1 ((zush g2 0) &&& 255)) ((zush g2 8) &&& 255)) ^^^ ((zush g2 16) &&& 255)) * 16777619)), (3, .int 16), (0, .int g1), (1, .int g2)] := hl
  refine lv_iload_n hx hb dM_mac_23 rfl (lv_at hl 0 rfl) ?_
  refine lv_iload_n hx hb dM_mac_24 rfl (lv_at hl 0 rfl) ?_
  refine lv_bipush (v := 13) hx hb dM_mac_25 (by decide) ?_
  refine lv_iushr (v := (zush (((zmac1 (zmac1 g1 ((zush g2 0) &&& 255)) ((zush g2 8) &&& 255)) ^^^ ((zush g2 16) &&& 255)) * 16777619) 13)) hx hb dM_mac_27 rfl ?_
  refine lv_ixor hx hb dM_mac_28 ?_
  refine kTop (y := (zmac1 (zmac1 (zmac1 g1 ((zush g2 0) &&& 255)) ((zush g2 8) &&& 255)) ((zush g2 16) &&& 255))) (rfl) ?_
  refine lv_istore_n hx hb dM_mac_29 rfl hl (by decide) rfl (fun ls hl => ?_)
  have hl : lv_has ls 4 [(2, .int (zmac1 (zmac1 (zmac1 g1 ((zush g2 0) &&& 255)) ((zush g2 8) &&& 255)) ((zush g2 16) &&& 255))), (3, .int 16), (0, .int g1), (1, .int g2)] := hl
  refine lv_iinc (k := 1) (v := 24) hx hb dM_mac_30 hl rfl (by decide) (by decide) rfl (fun ls hl => ?_)
  have hl : lv_has ls 4 [(3, .int 24), (2, .int (zmac1 (zmac1 (zmac1 g1 ((zush g2 0) &&& 255)) ((zush g2 8) &&& 255)) ((zush g2 16) &&& 255))), (0, .int g1), (1, .int g2)] := hl
  refine lv_goto hx hb dM_mac_33 (tgt := 4) (by decide) ?_
  refine lv_iload_n hx hb dM_mac_4 rfl (lv_at hl 0 rfl) ?_
  refine lv_bipush (v := 32) hx hb dM_mac_5 (by decide) ?_
  refine lv_icmp_ge (tgt := 36) hx hb dM_mac_7 (by decide) (fun h => absurd h (by decide)) (fun _ => ?_)
  refine lv_iload_n hx hb dM_mac_10 rfl (lv_at hl 1 rfl) ?_
  refine lv_iload_n hx hb dM_mac_11 rfl (lv_at hl 3 rfl) ?_
  refine lv_iload_n hx hb dM_mac_12 rfl (lv_at hl 0 rfl) ?_
  refine lv_iushr (v := (zush g2 24)) hx hb dM_mac_13 rfl ?_
  refine lv_sipush (v := 255) hx hb dM_mac_14 (by decide) ?_
  refine lv_iand hx hb dM_mac_17 ?_
  refine lv_ixor hx hb dM_mac_18 ?_
  refine lv_ldc (v := 16777619) hx hb hown (hts _ mw379) dM_mac_19 ?_
  refine lv_imul hx hb dM_mac_21 ?_
  refine lv_istore_n hx hb dM_mac_22 rfl hl (by decide) rfl (fun ls hl => ?_)
  have hl : lv_has ls 4 [(2, .int (((zmac1 (zmac1 (zmac1 g1 ((zush g2 0) &&& 255)) ((zush g2 8) &&& 255)) ((zush g2 16) &&& 255)) ^^^ ((zush g2 24) &&& 255)) * 16777619)), (3, .int 24), (0, .int g1), (1, .int g2)] := hl
  refine lv_iload_n hx hb dM_mac_23 rfl (lv_at hl 0 rfl) ?_
  refine lv_iload_n hx hb dM_mac_24 rfl (lv_at hl 0 rfl) ?_
  refine lv_bipush (v := 13) hx hb dM_mac_25 (by decide) ?_
  refine lv_iushr (v := (zush (((zmac1 (zmac1 (zmac1 g1 ((zush g2 0) &&& 255)) ((zush g2 8) &&& 255)) ((zush g2 16) &&& 255)) ^^^ ((zush g2 24) &&& 255)) * 16777619) 13)) hx hb dM_mac_27 rfl ?_
  refine lv_ixor hx hb dM_mac_28 ?_
  refine kTop (y := (zmac1 (zmac1 (zmac1 (zmac1 g1 ((zush g2 0) &&& 255)) ((zush g2 8) &&& 255)) ((zush g2 16) &&& 255)) ((zush g2 24) &&& 255))) (rfl) ?_
  refine lv_istore_n hx hb dM_mac_29 rfl hl (by decide) rfl (fun ls hl => ?_)
  have hl : lv_has ls 4 [(2, .int (zmac1 (zmac1 (zmac1 (zmac1 g1 ((zush g2 0) &&& 255)) ((zush g2 8) &&& 255)) ((zush g2 16) &&& 255)) ((zush g2 24) &&& 255))), (3, .int 24), (0, .int g1), (1, .int g2)] := hl
  refine lv_iinc (k := 1) (v := 32) hx hb dM_mac_30 hl rfl (by decide) (by decide) rfl (fun ls hl => ?_)
  have hl : lv_has ls 4 [(3, .int 32), (2, .int (zmac1 (zmac1 (zmac1 (zmac1 g1 ((zush g2 0) &&& 255)) ((zush g2 8) &&& 255)) ((zush g2 16) &&& 255)) ((zush g2 24) &&& 255))), (0, .int g1), (1, .int g2)] := hl
  refine lv_goto hx hb dM_mac_33 (tgt := 4) (by decide) ?_
  refine lv_iload_n hx hb dM_mac_4 rfl (lv_at hl 0 rfl) ?_
  refine lv_bipush (v := 32) hx hb dM_mac_5 (by decide) ?_
  refine lv_icmp_ge (tgt := 36) hx hb dM_mac_7 (by decide) (fun _ => ?_) (fun h => absurd h (by decide))
  refine lv_iload_n hx hb dM_mac_36 rfl (lv_at hl 1 rfl) ?_
  exact kretP (rfl) hx hb hr hlk hS hP hD hK dM_mac_37

def zm_answer (g1 : Int32) : Int64 := (if 0 ≤ g1 then (Int32.toInt64 g1) else ((Int32.toInt64 g1) + 4294967296))

set_option maxHeartbeats 4000000 in
set_option maxRecDepth 100000 in
theorem km_answer (l : Launch) (D : va_G) (cI cZ : ClassId) (g1 : Int32) : kL l yM_answer wsM_answer (rmOf 0 0) D (kT cI cZ) [.int g1] [] (zm_answer g1) [] := by
  intro sz
  refine kOf (Qc := fun A => kQl D (kT cI cZ) A (zm_answer g1) []) (cc := cM_answer) (maxL := 1) (ret := some .long) (by decide) rfl (Nat.le_of_ble_eq_true rfl) ?_ sz
  intro p e s m args below meth c A ls hx hb hml hown hts hNw hr hlk hin hA hS hP hD hK hl
  show W p l e (rmOf 0 0) s m args below meth c s.heap [] 0 0 (MQ below (kQl D (kT cI cZ) A (zm_answer g1) []) args s 0 0 A) (F0 m 0 ls [])
  have hts : ∀ q ∈ lw_g, q.before args s = true := fun q h => hts q (List.mem_cons_of_mem _ h)
  have hown : s.vm.findClass cnM = some m.cls := hown
  have hl : lv_has ls 1 [(0, .int g1)] := hl
  have hP : va_P D vwCl [] s.heap := hP
  have hD : va_D A [] := hD
  refine lv_iload_n hx hb dM_answer_0 rfl (lv_at hl 0 rfl) ?_
  refine lv_if_ge (tgt := 13) hx hb dM_answer_1 (by decide) (fun h1 => ?_) (fun h1 => ?_)
  ·
    refine lv_iload_n hx hb dM_answer_13 rfl (lv_at hl 0 rfl) ?_
    refine lv_i2l (v := (Int32.toInt64 g1)) hx hb dM_answer_14 rfl ?_
    exact kretL (by first | (rw [zm_answer, if_pos h1]; done) | exact (if_pos h1)) hx hb hr hlk hS hP hD hK dM_answer_15
  ·
    refine lv_iload_n hx hb dM_answer_4 rfl (lv_at hl 0 rfl) ?_
    refine lv_i2l (v := (Int32.toInt64 g1)) hx hb dM_answer_5 rfl ?_
    refine lv_ldc2 (v := 4294967296) hx hb hown (hts _ mw415) dM_answer_6 ?_
    refine lv_ladd hx hb dM_answer_9 ?_
    refine lv_goto hx hb dM_answer_10 (tgt := 15) (by decide) ?_
    exact kretL (by first | (rw [zm_answer, if_neg h1]; done) | exact (if_neg h1)) hx hb hr hlk hS hP hD hK dM_answer_15

def zm_good (g1 : Int32) : Int32 := (if g1 < 0 then (0 : Int32) else (if 511 < g1 then (0 : Int32) else (if (zm_has g1 128) = 0 then (if (zm_has g1 256) = 0 then (1 : Int32) else (if (zm_has g1 16) = 0 then (1 : Int32) else (0 : Int32))) else (if (zm_has g1 32) = 0 then (if (zm_has g1 256) = 0 then (1 : Int32) else (if (zm_has g1 16) = 0 then (1 : Int32) else (0 : Int32))) else (0 : Int32)))))

set_option maxHeartbeats 4000000 in
set_option maxRecDepth 100000 in
theorem km_good (l : Launch) (D : va_G) (cI cZ : ClassId) (g1 : Int32) : kI l yM_good wsM_good (rmOf 1 21) D (kT cI cZ) [.int g1] [] (zm_good g1) [] := by
  intro sz
  refine kOf (Qc := fun A => kQi D (kT cI cZ) A (zm_good g1) []) (cc := cM_good) (maxL := 1) (ret := some .boolean) (by decide) rfl (Nat.le_of_ble_eq_true rfl) ?_ sz
  intro p e s m args below meth c A ls hx hb hml hown hts hNw hr hlk hin hA hS hP hD hK hl
  show W p l e (rmOf 1 21) s m args below meth c s.heap [] 0 0 (MQ below (kQi D (kT cI cZ) A (zm_good g1) []) args s 0 0 A) (F0 m 0 ls [])
  have hts : ∀ q ∈ lw_g, q.before args s = true := fun q h => hts q (List.mem_cons_of_mem _ h)
  have hown : s.vm.findClass cnM = some m.cls := hown
  have hl : lv_has ls 1 [(0, .int g1)] := hl
  have hP : va_P D vwCl [] s.heap := hP
  have hD : va_D A [] := hD
  refine lv_iload_n hx hb dM_good_0 rfl (lv_at hl 0 rfl) ?_
  refine kJoin (pcJ := 54) (z := (if g1 < 0 then (0 : Int32) else (if 511 < g1 then (0 : Int32) else (if (zm_has g1 128) = 0 then (if (zm_has g1 256) = 0 then (1 : Int32) else (if (zm_has g1 16) = 0 then (1 : Int32) else (0 : Int32))) else (if (zm_has g1 32) = 0 then (if (zm_has g1 256) = 0 then (1 : Int32) else (if (zm_has g1 16) = 0 then (1 : Int32) else (0 : Int32))) else (0 : Int32)))))) (ws := []) (rest := []) (D := D) (A := A) (H0 := s.heap) (fun J54 => ?_) (fun H locs hP hD hS => ?_)
  ·
    refine lv_if_lt (tgt := 53) hx hb dM_good_1 (by decide) (fun h1 => ?_) (fun h1 => ?_)
    ·
      refine lv_iconst (v := 0) hx hb dM_good_53 (by decide) ?_
      exact J54 _ _ hP hD hS _ ((if_pos h1).symm)
    ·
      refine lv_iload_n hx hb dM_good_4 rfl (lv_at hl 0 rfl) ?_
      refine lv_sipush (v := 511) hx hb dM_good_5 (by decide) ?_
      refine lv_icmp_gt (tgt := 53) hx hb dM_good_8 (by decide) (fun h2 => ?_) (fun h2 => ?_)
      ·
        refine lv_iconst (v := 0) hx hb dM_good_53 (by decide) ?_
        exact J54 _ _ hP hD hS _ (((if_neg h1).trans (if_pos h2)).symm)
      ·
        refine lv_iload_n hx hb dM_good_11 rfl (lv_at hl 0 rfl) ?_
        refine lv_sipush (v := 128) hx hb dM_good_12 (by decide) ?_
        refine kcI (isR := []) (isC := []) (wr := []) (w2 := []) (va_runS (As := [.int g1, .int 128]) (rest := []) ⟨hx, hb, hml, hown, hts⟩ (km_has l D cI cZ g1 128 _) ⟨(callB_of 2 hts gd_yM_has rfl rfl rfl (hts _ mw27) (hts _ mw333) (by decide +kernel) ⟨Nat.le_of_ble_eq_true rfl, Nat.le_of_ble_eq_true rfl⟩), hts _ mw334⟩ (kpreS hNw hP hD hK [] rfl (by decide)) rfl rfl hl.1 rfl (lv_room (Nat.le_of_ble_eq_true rfl)) dM_good_15 ⟨Nat.le_of_ble_eq_true rfl, Nat.le_of_ble_eq_true rfl⟩) hP hD hS hA [] rfl rfl (by decide) (by decide) (by decide) rfl (fun H locs hP hD hS => ?_)
        refine lv_if_eq (tgt := 30) hx hb dM_good_18 (by decide) (fun h3 => ?_) (fun h3 => ?_)
        ·
          refine lv_iload_n hx hb dM_good_30 rfl (lv_at hl 0 rfl) ?_
          refine lv_sipush (v := 256) hx hb dM_good_31 (by decide) ?_
          refine kcI (isR := []) (isC := []) (wr := []) (w2 := []) (va_runS (As := [.int g1, .int 256]) (rest := []) ⟨hx, hb, hml, hown, hts⟩ (km_has l D cI cZ g1 256 _) ⟨(callB_of 2 hts gd_yM_has rfl rfl rfl (hts _ mw27) (hts _ mw333) (by decide +kernel) ⟨Nat.le_of_ble_eq_true rfl, Nat.le_of_ble_eq_true rfl⟩), hts _ mw334⟩ (kpreS hNw hP hD hK [] rfl (by decide)) rfl rfl hl.1 rfl (lv_room (Nat.le_of_ble_eq_true rfl)) dM_good_34 ⟨Nat.le_of_ble_eq_true rfl, Nat.le_of_ble_eq_true rfl⟩) hP hD hS hA [] rfl rfl (by decide) (by decide) (by decide) rfl (fun H locs hP hD hS => ?_)
          refine lv_if_eq (tgt := 49) hx hb dM_good_37 (by decide) (fun h4 => ?_) (fun h4 => ?_)
          ·
            refine lv_iconst (v := 1) hx hb dM_good_49 (by decide) ?_
            refine lv_goto hx hb dM_good_50 (tgt := 54) (by decide) ?_
            exact J54 _ _ hP hD hS _ (((if_neg h1).trans ((if_neg h2).trans ((if_pos h3).trans (if_pos h4)))).symm)
          ·
            refine lv_iload_n hx hb dM_good_40 rfl (lv_at hl 0 rfl) ?_
            refine lv_bipush (v := 16) hx hb dM_good_41 (by decide) ?_
            refine kcI (isR := []) (isC := []) (wr := []) (w2 := []) (va_runS (As := [.int g1, .int 16]) (rest := []) ⟨hx, hb, hml, hown, hts⟩ (km_has l D cI cZ g1 16 _) ⟨(callB_of 2 hts gd_yM_has rfl rfl rfl (hts _ mw27) (hts _ mw333) (by decide +kernel) ⟨Nat.le_of_ble_eq_true rfl, Nat.le_of_ble_eq_true rfl⟩), hts _ mw334⟩ (kpreS hNw hP hD hK [] rfl (by decide)) rfl rfl hl.1 rfl (lv_room (Nat.le_of_ble_eq_true rfl)) dM_good_43 ⟨Nat.le_of_ble_eq_true rfl, Nat.le_of_ble_eq_true rfl⟩) hP hD hS hA [] rfl rfl (by decide) (by decide) (by decide) rfl (fun H locs hP hD hS => ?_)
            refine lv_if_ne (tgt := 53) hx hb dM_good_46 (by decide) (fun h5 => ?_) (fun h5 => ?_)
            ·
              refine lv_iconst (v := 0) hx hb dM_good_53 (by decide) ?_
              exact J54 _ _ hP hD hS _ (((if_neg h1).trans ((if_neg h2).trans ((if_pos h3).trans ((if_neg h4).trans (if_neg h5))))).symm)
            ·
              refine lv_iconst (v := 1) hx hb dM_good_49 (by decide) ?_
              refine lv_goto hx hb dM_good_50 (tgt := 54) (by decide) ?_
              exact J54 _ _ hP hD hS _ (((if_neg h1).trans ((if_neg h2).trans ((if_pos h3).trans ((if_neg h4).trans (if_pos h5))))).symm)
        ·
          refine lv_iload_n hx hb dM_good_21 rfl (lv_at hl 0 rfl) ?_
          refine lv_bipush (v := 32) hx hb dM_good_22 (by decide) ?_
          refine kcI (isR := []) (isC := []) (wr := []) (w2 := []) (va_runS (As := [.int g1, .int 32]) (rest := []) ⟨hx, hb, hml, hown, hts⟩ (km_has l D cI cZ g1 32 _) ⟨(callB_of 2 hts gd_yM_has rfl rfl rfl (hts _ mw27) (hts _ mw333) (by decide +kernel) ⟨Nat.le_of_ble_eq_true rfl, Nat.le_of_ble_eq_true rfl⟩), hts _ mw334⟩ (kpreS hNw hP hD hK [] rfl (by decide)) rfl rfl hl.1 rfl (lv_room (Nat.le_of_ble_eq_true rfl)) dM_good_24 ⟨Nat.le_of_ble_eq_true rfl, Nat.le_of_ble_eq_true rfl⟩) hP hD hS hA [] rfl rfl (by decide) (by decide) (by decide) rfl (fun H locs hP hD hS => ?_)
          refine lv_if_ne (tgt := 53) hx hb dM_good_27 (by decide) (fun h6 => ?_) (fun h6 => ?_)
          ·
            refine lv_iconst (v := 0) hx hb dM_good_53 (by decide) ?_
            exact J54 _ _ hP hD hS _ (((if_neg h1).trans ((if_neg h2).trans ((if_neg h3).trans (if_neg h6)))).symm)
          ·
            refine lv_iload_n hx hb dM_good_30 rfl (lv_at hl 0 rfl) ?_
            refine lv_sipush (v := 256) hx hb dM_good_31 (by decide) ?_
            refine kcI (isR := []) (isC := []) (wr := []) (w2 := []) (va_runS (As := [.int g1, .int 256]) (rest := []) ⟨hx, hb, hml, hown, hts⟩ (km_has l D cI cZ g1 256 _) ⟨(callB_of 2 hts gd_yM_has rfl rfl rfl (hts _ mw27) (hts _ mw333) (by decide +kernel) ⟨Nat.le_of_ble_eq_true rfl, Nat.le_of_ble_eq_true rfl⟩), hts _ mw334⟩ (kpreS hNw hP hD hK [] rfl (by decide)) rfl rfl hl.1 rfl (lv_room (Nat.le_of_ble_eq_true rfl)) dM_good_34 ⟨Nat.le_of_ble_eq_true rfl, Nat.le_of_ble_eq_true rfl⟩) hP hD hS hA [] rfl rfl (by decide) (by decide) (by decide) rfl (fun H locs hP hD hS => ?_)
            refine lv_if_eq (tgt := 49) hx hb dM_good_37 (by decide) (fun h7 => ?_) (fun h7 => ?_)
            ·
              refine lv_iconst (v := 1) hx hb dM_good_49 (by decide) ?_
              refine lv_goto hx hb dM_good_50 (tgt := 54) (by decide) ?_
              exact J54 _ _ hP hD hS _ (((if_neg h1).trans ((if_neg h2).trans ((if_neg h3).trans ((if_pos h6).trans (if_pos h7))))).symm)
            ·
              refine lv_iload_n hx hb dM_good_40 rfl (lv_at hl 0 rfl) ?_
              refine lv_bipush (v := 16) hx hb dM_good_41 (by decide) ?_
              refine kcI (isR := []) (isC := []) (wr := []) (w2 := []) (va_runS (As := [.int g1, .int 16]) (rest := []) ⟨hx, hb, hml, hown, hts⟩ (km_has l D cI cZ g1 16 _) ⟨(callB_of 2 hts gd_yM_has rfl rfl rfl (hts _ mw27) (hts _ mw333) (by decide +kernel) ⟨Nat.le_of_ble_eq_true rfl, Nat.le_of_ble_eq_true rfl⟩), hts _ mw334⟩ (kpreS hNw hP hD hK [] rfl (by decide)) rfl rfl hl.1 rfl (lv_room (Nat.le_of_ble_eq_true rfl)) dM_good_43 ⟨Nat.le_of_ble_eq_true rfl, Nat.le_of_ble_eq_true rfl⟩) hP hD hS hA [] rfl rfl (by decide) (by decide) (by decide) rfl (fun H locs hP hD hS => ?_)
              refine lv_if_ne (tgt := 53) hx hb dM_good_46 (by decide) (fun h8 => ?_) (fun h8 => ?_)
              ·
                refine lv_iconst (v := 0) hx hb dM_good_53 (by decide) ?_
                exact J54 _ _ hP hD hS _ (((if_neg h1).trans ((if_neg h2).trans ((if_neg h3).trans ((if_pos h6).trans ((if_neg h7).trans (if_neg h8)))))).symm)
              ·
                refine lv_iconst (v := 1) hx hb dM_good_49 (by decide) ?_
                refine lv_goto hx hb dM_good_50 (tgt := 54) (by decide) ?_
                exact J54 _ _ hP hD hS _ (((if_neg h1).trans ((if_neg h2).trans ((if_neg h3).trans ((if_pos h6).trans ((if_neg h7).trans (if_pos h8)))))).symm)
  exact kretZ (rfl) (kz_ite kz0 (kz_ite kz0 (kz_ite (kz_ite kz1 (kz_ite kz1 kz0)) (kz_ite (kz_ite kz1 (kz_ite kz1 kz0)) kz0)))) hx hb hr hlk hS hP hD hK dM_good_54
