def zr_init (r : RS) (g1 : Int32) : RS := (g1, r.2)

set_option maxHeartbeats 4000000 in
set_option maxRecDepth 100000 in
theorem kr_init (l : Launch) (D : va_G) (cI cZ : ClassId) (ra : Nat) (r : RS) (g1 : Int32) : kV l yR_init wsR_init (rmOf 1 12) D (kT cI cZ) [.ref ra, .int g1] (wR ra r) (wR ra (zr_init r g1)) := by
  intro sz
  refine kOf (Qc := fun A => kQv D (kT cI cZ) A (wR ra (zr_init r g1))) (cc := cR_init) (maxL := 2) (ret := none) (by decide) rfl (Nat.le_of_ble_eq_true rfl) ?_ sz
  intro p e s m args below meth c A ls hx hb hml hown hts hNw hr hlk hin hA hS hP hD hK hl
  show W p l e (rmOf 1 12) s m args below meth c s.heap [] 0 0 (MQ below (kQv D (kT cI cZ) A (wR ra (zr_init r g1))) args s 0 0 A) (F0 m 0 ls [])
  have hin := hin rfl
  have hts : ∀ q ∈ lw_g, q.before args s = true := fun q h => hts q (List.mem_cons_of_mem _ h)
  have hown : s.vm.findClass cnR = some m.cls := hown
  have hl : lv_has ls 2 [(0, .ref ra), (1, .int g1)] := hl
  have hP : va_P D vwCl [(ra, .inr (1, [.int r.1, .int r.2]))] s.heap := hP
  have hD : va_D A [(ra, .inr (1, [.int r.1, .int r.2]))] := hD
  refine lv_aload_n hx hb dR_init_0 rfl (lv_at hl 0 rfl) ?_
  refine W.objInit hx hb hown (hts _ mw42) (hts _ mw35) (hts _ mw36) rfl (by rw [hml]; exact hl.1) rfl dR_init_1 (Nat.le_of_ble_eq_true rfl) (Nat.le_of_ble_eq_true rfl) ?_
  refine W.eq (g2 := F0 m 4 ls []) rfl ?_
  refine lv_aload_n hx hb dR_init_4 rfl (lv_at hl 0 rfl) ?_
  refine lv_iload_n hx hb dR_init_5 rfl (lv_at hl 1 rfl) ?_
  refine va_put (D := D) (ci := 1) (v := .int g1) (ty := (.int)) (C := cnR) (T := ftR) (N := 2) hx hb hts inR tyR tyR_ok nmR hown hK hP hD hS 0 rfl rfl 0 (by decide) (hts _ mw43) (fun _ h9 => h9) rfl (by decide +kernel) rfl rfl (Nat.le_of_ble_eq_true rfl) dR_init_6 (fun H locs hP hD hS => ?_)
  have hP : va_P D vwCl [(ra, .inr (1, [.int g1, .int r.2]))] H := hP
  have hD : va_D A [(ra, .inr (1, [.int g1, .int r.2]))] := hD
  exact kretV (wf := fun st => wR ra st) (st := (g1, r.2)) (rfl) hx hb hr hlk hS hP hD hK dR_init_9

abbrev zK0 : KS := (0, 0, fun _ => 0, fun _ => 0, fun _ => 0, fun _ => 0)
abbrev zX0 (g1 g2 : Int32) : XS := ((g1, 0), (g2, 0), 0, 0, 0, 0, zK0)
abbrev zY0 (g1 g2 : Int32) : YS := (fun _ => 0, 0, upd (upd (fun _ => 0) 1 g1) 2 g2, fun _ => 0, 0, 0, fun _ => 0, fun _ => 0, fun _ => 0, fun _ => 0)

set_option maxHeartbeats 4000000 in
set_option maxRecDepth 100000 in
theorem kk_init (l : Launch) (D : va_G) (cI cZ : ClassId) (ak : Nat) : ∀ sz, Met l yK_init wsK_init ({ frames := 1, cells := 4, slots := 40, locals := 12 }) (va_Pc [.ref ak] (kB D (kT cI cZ) [(ak, .inr (2, [.null, .null, .null, .null, .int 0, .int 0]))] sz)) (kQn D (kT cI cZ) (va_A [(ak, .inr (2, [.null, .null, .null, .null, .int 0, .int 0]))] sz) (fun u : Nat × Nat × Nat × Nat => wK cI ak u.1 u.2.1 u.2.2.1 u.2.2.2 zK0)) 4 40 (va_A [(ak, .inr (2, [.null, .null, .null, .null, .int 0, .int 0]))] sz) := by
  intro sz
  refine kOf (Qc := fun A => kQn D (kT cI cZ) A (fun u : Nat × Nat × Nat × Nat => wK cI ak u.1 u.2.1 u.2.2.1 u.2.2.2 zK0)) (cc := cK_init) (maxL := 1) (ret := none) (by decide) rfl (Nat.le_of_ble_eq_true rfl) ?_ sz
  intro p e s m args below meth c A ls hx hb hml hown hts hNw hr hlk hin hA hS hP hD hK hl
  show W p l e ({ frames := 1, cells := 4, slots := 40, locals := 12 }) s m args below meth c s.heap [] 0 0 (MQ below (kQn D (kT cI cZ) A (fun u : Nat × Nat × Nat × Nat => wK cI ak u.1 u.2.1 u.2.2.1 u.2.2.2 zK0)) args s 4 40 A) (F0 m 0 ls [])
  have hin := hin rfl
  have hts : ∀ q ∈ lw_g, q.before args s = true := fun q h => hts q (List.mem_cons_of_mem _ h)
  have hown : s.vm.findClass cnK = some m.cls := hown
  have hl : lv_has ls 1 [(0, .ref ak)] := hl
  have hP : va_P D vwCl [(ak, .inr (2, [.null, .null, .null, .null, .int 0, .int 0]))] s.heap := hP
  have hD : va_D A [(ak, .inr (2, [.null, .null, .null, .null, .int 0, .int 0]))] := hD
  refine lv_aload_n hx hb dK_init_0 rfl (lv_at hl 0 rfl) ?_
  refine W.objInit hx hb hown (hts _ mw56) (hts _ mw35) (hts _ mw36) rfl (by rw [hml]; exact hl.1) rfl dK_init_1 (Nat.le_of_ble_eq_true rfl) (Nat.le_of_ble_eq_true rfl) ?_
  refine W.eq (g2 := F0 m 4 ls []) rfl ?_
  refine lv_aload_n hx hb dK_init_4 rfl (lv_at hl 0 rfl) ?_
  refine lv_bipush (v := 10) hx hb dK_init_5 (by decide) ?_
  refine knewI (N' := 10) hx hb (hts _ mw81) hK hP hD hS hA (by decide) (by decide) (by decide) (Nat.le_of_ble_eq_true rfl) (Nat.le_of_ble_eq_true rfl) dK_init_7 (fun q7 H hP hD hS => ?_)
  have hP : va_P D vwCl [(ak, .inr (2, [.null, .null, .null, .null, .int 0, .int 0])), (q7, .inl (cI, 10, .inl (fun _ => 0)))] H := hP
  have hD : va_D A [(ak, .inr (2, [.null, .null, .null, .null, .int 0, .int 0])), (q7, .inl (cI, 10, .inl (fun _ => 0)))] := hD
  refine va_putF (D := D) (ci := 2) (v := .ref q7) (ty := (.array .int)) (C := cnK) (T := ftK) (N := 6) hx hb hts inK tyK tyK_ok nmK hown hK hP hD hS 0 rfl rfl 0 (by decide) (hts _ mw57) (fun _ h9 => h9) rfl hin rfl (by decide +kernel) rfl rfl (Nat.le_of_ble_eq_true rfl) dK_init_9 (fun H locs hP hD hS => ?_)
  have hP : va_P D vwCl [(ak, .inr (2, [.ref q7, .null, .null, .null, .int 0, .int 0])), (q7, .inl (cI, 10, .inl (fun _ => 0)))] H := hP
  have hD : va_D A [(ak, .inr (2, [.ref q7, .null, .null, .null, .int 0, .int 0])), (q7, .inl (cI, 10, .inl (fun _ => 0)))] := hD
  refine lv_aload_n hx hb dK_init_12 rfl (lv_at hl 0 rfl) ?_
  refine lv_bipush (v := 10) hx hb dK_init_13 (by decide) ?_
  refine knewI (N' := 10) hx hb (hts _ mw81) hK hP hD hS hA (by decide) (by decide) (by decide) (Nat.le_of_ble_eq_true rfl) (Nat.le_of_ble_eq_true rfl) dK_init_15 (fun q15 H hP hD hS => ?_)
  have hP : va_P D vwCl [(ak, .inr (2, [.ref q7, .null, .null, .null, .int 0, .int 0])), (q7, .inl (cI, 10, .inl (fun _ => 0))), (q15, .inl (cI, 10, .inl (fun _ => 0)))] H := hP
  have hD : va_D A [(ak, .inr (2, [.ref q7, .null, .null, .null, .int 0, .int 0])), (q7, .inl (cI, 10, .inl (fun _ => 0))), (q15, .inl (cI, 10, .inl (fun _ => 0)))] := hD
  refine va_putF (D := D) (ci := 2) (v := .ref q15) (ty := (.array .int)) (C := cnK) (T := ftK) (N := 6) hx hb hts inK tyK tyK_ok nmK hown hK hP hD hS 0 rfl rfl 1 (by decide) (hts _ mw59) (fun _ h9 => h9) rfl hin rfl (by decide +kernel) rfl rfl (Nat.le_of_ble_eq_true rfl) dK_init_17 (fun H locs hP hD hS => ?_)
  have hP : va_P D vwCl [(ak, .inr (2, [.ref q7, .ref q15, .null, .null, .int 0, .int 0])), (q7, .inl (cI, 10, .inl (fun _ => 0))), (q15, .inl (cI, 10, .inl (fun _ => 0)))] H := hP
  have hD : va_D A [(ak, .inr (2, [.ref q7, .ref q15, .null, .null, .int 0, .int 0])), (q7, .inl (cI, 10, .inl (fun _ => 0))), (q15, .inl (cI, 10, .inl (fun _ => 0)))] := hD
  refine lv_aload_n hx hb dK_init_20 rfl (lv_at hl 0 rfl) ?_
  refine lv_bipush (v := 10) hx hb dK_init_21 (by decide) ?_
  refine knewI (N' := 10) hx hb (hts _ mw81) hK hP hD hS hA (by decide) (by decide) (by decide) (Nat.le_of_ble_eq_true rfl) (Nat.le_of_ble_eq_true rfl) dK_init_23 (fun q23 H hP hD hS => ?_)
  have hP : va_P D vwCl [(ak, .inr (2, [.ref q7, .ref q15, .null, .null, .int 0, .int 0])), (q7, .inl (cI, 10, .inl (fun _ => 0))), (q15, .inl (cI, 10, .inl (fun _ => 0))), (q23, .inl (cI, 10, .inl (fun _ => 0)))] H := hP
  have hD : va_D A [(ak, .inr (2, [.ref q7, .ref q15, .null, .null, .int 0, .int 0])), (q7, .inl (cI, 10, .inl (fun _ => 0))), (q15, .inl (cI, 10, .inl (fun _ => 0))), (q23, .inl (cI, 10, .inl (fun _ => 0)))] := hD
  refine va_putF (D := D) (ci := 2) (v := .ref q23) (ty := (.array .int)) (C := cnK) (T := ftK) (N := 6) hx hb hts inK tyK tyK_ok nmK hown hK hP hD hS 0 rfl rfl 2 (by decide) (hts _ mw61) (fun _ h9 => h9) rfl hin rfl (by decide +kernel) rfl rfl (Nat.le_of_ble_eq_true rfl) dK_init_25 (fun H locs hP hD hS => ?_)
  have hP : va_P D vwCl [(ak, .inr (2, [.ref q7, .ref q15, .ref q23, .null, .int 0, .int 0])), (q7, .inl (cI, 10, .inl (fun _ => 0))), (q15, .inl (cI, 10, .inl (fun _ => 0))), (q23, .inl (cI, 10, .inl (fun _ => 0)))] H := hP
  have hD : va_D A [(ak, .inr (2, [.ref q7, .ref q15, .ref q23, .null, .int 0, .int 0])), (q7, .inl (cI, 10, .inl (fun _ => 0))), (q15, .inl (cI, 10, .inl (fun _ => 0))), (q23, .inl (cI, 10, .inl (fun _ => 0)))] := hD
  refine lv_aload_n hx hb dK_init_28 rfl (lv_at hl 0 rfl) ?_
  refine lv_bipush (v := 10) hx hb dK_init_29 (by decide) ?_
  refine knewI (N' := 10) hx hb (hts _ mw81) hK hP hD hS hA (by decide) (by decide) (by decide) (Nat.le_of_ble_eq_true rfl) (Nat.le_of_ble_eq_true rfl) dK_init_31 (fun q31 H hP hD hS => ?_)
  have hP : va_P D vwCl [(ak, .inr (2, [.ref q7, .ref q15, .ref q23, .null, .int 0, .int 0])), (q7, .inl (cI, 10, .inl (fun _ => 0))), (q15, .inl (cI, 10, .inl (fun _ => 0))), (q23, .inl (cI, 10, .inl (fun _ => 0))), (q31, .inl (cI, 10, .inl (fun _ => 0)))] H := hP
  have hD : va_D A [(ak, .inr (2, [.ref q7, .ref q15, .ref q23, .null, .int 0, .int 0])), (q7, .inl (cI, 10, .inl (fun _ => 0))), (q15, .inl (cI, 10, .inl (fun _ => 0))), (q23, .inl (cI, 10, .inl (fun _ => 0))), (q31, .inl (cI, 10, .inl (fun _ => 0)))] := hD
  refine va_putF (D := D) (ci := 2) (v := .ref q31) (ty := (.array .int)) (C := cnK) (T := ftK) (N := 6) hx hb hts inK tyK tyK_ok nmK hown hK hP hD hS 0 rfl rfl 3 (by decide) (hts _ mw63) (fun _ h9 => h9) rfl hin rfl (by decide +kernel) rfl rfl (Nat.le_of_ble_eq_true rfl) dK_init_33 (fun H locs hP hD hS => ?_)
  have hP : va_P D vwCl [(ak, .inr (2, [.ref q7, .ref q15, .ref q23, .ref q31, .int 0, .int 0])), (q7, .inl (cI, 10, .inl (fun _ => 0))), (q15, .inl (cI, 10, .inl (fun _ => 0))), (q23, .inl (cI, 10, .inl (fun _ => 0))), (q31, .inl (cI, 10, .inl (fun _ => 0)))] H := hP
  have hD : va_D A [(ak, .inr (2, [.ref q7, .ref q15, .ref q23, .ref q31, .int 0, .int 0])), (q7, .inl (cI, 10, .inl (fun _ => 0))), (q15, .inl (cI, 10, .inl (fun _ => 0))), (q23, .inl (cI, 10, .inl (fun _ => 0))), (q31, .inl (cI, 10, .inl (fun _ => 0)))] := hD
  exact kretN (wf := (fun u : Nat × Nat × Nat × Nat => wK cI ak u.1 u.2.1 u.2.2.1 u.2.2.2 zK0)) ((q7, q15, q23, q31)) hx hb hr hlk hS (kSubP hP [0, 1, 2, 3, 4] rfl) (hD.sub [0, 1, 2, 3, 4] (by decide) rfl) hK dK_init_36

set_option maxHeartbeats 4000000 in
set_option maxRecDepth 100000 in
theorem kt_init (l : Launch) (D : va_G) (cI cZ : ClassId) (ao : Nat) (g1 : Int32) (g2 : Int32) : ∀ sz, Met l yT_init wsT_init ({ frames := 2, cells := 7, slots := 50, locals := 33 }) (va_Pc [.ref ao, .int g1, .int g2] (kB D (kT cI cZ) [(ao, .inr (0, [.null, .null, .null, .int 0, .int 0, .int 0, .int 0]))] sz)) (kQn D (kT cI cZ) (va_A [(ao, .inr (0, [.null, .null, .null, .int 0, .int 0, .int 0, .int 0]))] sz) (fun u : Nat × Nat × Nat × Nat × Nat × Nat × Nat => wX cI ao u.1 u.2.1 u.2.2.1 u.2.2.2.1 u.2.2.2.2.1 u.2.2.2.2.2.1 u.2.2.2.2.2.2 (zX0 g1 g2))) 7 50 (va_A [(ao, .inr (0, [.null, .null, .null, .int 0, .int 0, .int 0, .int 0]))] sz) := by
  intro sz
  refine kOf (Qc := fun A => kQn D (kT cI cZ) A (fun u : Nat × Nat × Nat × Nat × Nat × Nat × Nat => wX cI ao u.1 u.2.1 u.2.2.1 u.2.2.2.1 u.2.2.2.2.1 u.2.2.2.2.2.1 u.2.2.2.2.2.2 (zX0 g1 g2))) (cc := cT_init) (maxL := 3) (ret := none) (by decide) rfl (Nat.le_of_ble_eq_true rfl) ?_ sz
  intro p e s m args below meth c A ls hx hb hml hown hts hNw hr hlk hin hA hS hP hD hK hl
  show W p l e ({ frames := 2, cells := 7, slots := 50, locals := 33 }) s m args below meth c s.heap [] 0 0 (MQ below (kQn D (kT cI cZ) A (fun u : Nat × Nat × Nat × Nat × Nat × Nat × Nat => wX cI ao u.1 u.2.1 u.2.2.1 u.2.2.2.1 u.2.2.2.2.1 u.2.2.2.2.2.1 u.2.2.2.2.2.2 (zX0 g1 g2))) args s 7 50 A) (F0 m 0 ls [])
  have hin := hin rfl
  have hts : ∀ q ∈ lw_g, q.before args s = true := fun q h => hts q (List.mem_cons_of_mem _ h)
  have hown : s.vm.findClass cnT = some m.cls := hown
  have hl : lv_has ls 3 [(0, .ref ao), (1, .int g1), (2, .int g2)] := hl
  have hP : va_P D vwCl [(ao, .inr (0, [.null, .null, .null, .int 0, .int 0, .int 0, .int 0]))] s.heap := hP
  have hD : va_D A [(ao, .inr (0, [.null, .null, .null, .int 0, .int 0, .int 0, .int 0]))] := hD
  refine lv_aload_n hx hb dT_init_0 rfl (lv_at hl 0 rfl) ?_
  refine W.objInit hx hb hown (hts _ mw34) (hts _ mw35) (hts _ mw36) rfl (by rw [hml]; exact hl.1) rfl dT_init_1 (Nat.le_of_ble_eq_true rfl) (Nat.le_of_ble_eq_true rfl) ?_
  refine W.eq (g2 := F0 m 4 ls []) rfl ?_
  refine lv_aload_n hx hb dT_init_4 rfl (lv_at hl 0 rfl) ?_
  refine va_new (D := (D)) (ci := 1) (fs := [.int 0, .int 0]) (C := cnR) (T := ftR) (N := 2) hx hb hts inR tyR tyR_ok hown (hts _ mw37) (hts _ mw38) (hts _ mw25) hK hP hD hS hA rfl (fun j hj => by rcases (show j = 0 ∨ j = 1 by omega) with rfl | rfl <;> rfl) (Nat.le_of_ble_eq_true rfl) (Nat.le_of_ble_eq_true rfl) dT_init_5 (fun q5 H hP hD hS => ?_)
  have hP : va_P D vwCl [(ao, .inr (0, [.null, .null, .null, .int 0, .int 0, .int 0, .int 0])), (q5, .inr (1, [.int 0, .int 0]))] H := hP
  have hD : va_D A [(ao, .inr (0, [.null, .null, .null, .int 0, .int 0, .int 0, .int 0])), (q5, .inr (1, [.int 0, .int 0]))] := hD
  refine lv_dup hx hb dT_init_8 rfl ?_
  refine lv_iload_n hx hb dT_init_9 rfl (lv_at hl 1 rfl) ?_
  refine kcV (isR := [0]) (isC := [1]) (wr := [(ao, .inr (0, [.null, .null, .null, .int 0, .int 0, .int 0, .int 0]))]) (w2 := [(ao, .inr (0, [.null, .null, .null, .int 0, .int 0, .int 0, .int 0])), (q5, .inr (1, [.int ((zr_init (0, 0) g1).1), .int ((zr_init (0, 0) g1).2)]))]) (va_runIN (As := [.int g1]) (rest := [.ref q5, .ref ao]) ⟨hx, hb, hml, hown, hts⟩ (kr_init l D cI cZ q5 (0, 0) g1 _) ⟨(va_cnB 1 hts gd_yR_init rfl rfl rfl (hNw _ mw39) (hts _ mw25) (by decide +kernel) ⟨Nat.le_of_ble_eq_true rfl, Nat.le_of_ble_eq_true rfl⟩), rfl, hts _ mw40⟩ (kpreS hNw hP hD hK [1] rfl (by decide)) rfl rfl hl.1 rfl (lv_room (Nat.le_of_ble_eq_true rfl)) dT_init_10 ⟨Nat.le_of_ble_eq_true rfl, Nat.le_of_ble_eq_true rfl⟩) hP hD hS hA [0, 1] rfl rfl (by decide) (by decide) (by decide) rfl (fun H locs hP hD hS => ?_)
  refine va_putF (D := D) (ci := 0) (v := .ref q5) (ty := (.object "HandleToken$Role")) (C := cnT) (T := ftT) (N := 7) hx hb hts inT tyT tyT_ok nmT hown hK hP hD hS 0 rfl rfl 0 (by decide) (hts _ mw82) (fun _ h9 => h9) rfl hin rfl (by decide +kernel) rfl rfl (Nat.le_of_ble_eq_true rfl) dT_init_13 (fun H locs hP hD hS => ?_)
  have hP : va_P D vwCl [(ao, .inr (0, [.ref q5, .null, .null, .int 0, .int 0, .int 0, .int 0])), (q5, .inr (1, [.int ((zr_init (0, 0) g1).1), .int ((zr_init (0, 0) g1).2)]))] H := hP
  have hD : va_D A [(ao, .inr (0, [.ref q5, .null, .null, .int 0, .int 0, .int 0, .int 0])), (q5, .inr (1, [.int ((zr_init (0, 0) g1).1), .int ((zr_init (0, 0) g1).2)]))] := hD
  refine lv_aload_n hx hb dT_init_16 rfl (lv_at hl 0 rfl) ?_
  refine va_new (D := (D)) (ci := 1) (fs := [.int 0, .int 0]) (C := cnR) (T := ftR) (N := 2) hx hb hts inR tyR tyR_ok hown (hts _ mw37) (hts _ mw38) (hts _ mw25) hK hP hD hS hA rfl (fun j hj => by rcases (show j = 0 ∨ j = 1 by omega) with rfl | rfl <;> rfl) (Nat.le_of_ble_eq_true rfl) (Nat.le_of_ble_eq_true rfl) dT_init_17 (fun q17 H hP hD hS => ?_)
  have hP : va_P D vwCl [(ao, .inr (0, [.ref q5, .null, .null, .int 0, .int 0, .int 0, .int 0])), (q5, .inr (1, [.int ((zr_init (0, 0) g1).1), .int ((zr_init (0, 0) g1).2)])), (q17, .inr (1, [.int 0, .int 0]))] H := hP
  have hD : va_D A [(ao, .inr (0, [.ref q5, .null, .null, .int 0, .int 0, .int 0, .int 0])), (q5, .inr (1, [.int ((zr_init (0, 0) g1).1), .int ((zr_init (0, 0) g1).2)])), (q17, .inr (1, [.int 0, .int 0]))] := hD
  refine lv_dup hx hb dT_init_20 rfl ?_
  refine lv_iload_n hx hb dT_init_21 rfl (lv_at hl 2 rfl) ?_
  refine kcV (isR := [0, 1]) (isC := [2]) (wr := [(ao, .inr (0, [.ref q5, .null, .null, .int 0, .int 0, .int 0, .int 0])), (q5, .inr (1, [.int ((zr_init (0, 0) g1).1), .int ((zr_init (0, 0) g1).2)]))]) (w2 := [(ao, .inr (0, [.ref q5, .null, .null, .int 0, .int 0, .int 0, .int 0])), (q5, .inr (1, [.int ((zr_init (0, 0) g1).1), .int ((zr_init (0, 0) g1).2)])), (q17, .inr (1, [.int ((zr_init (0, 0) g2).1), .int ((zr_init (0, 0) g2).2)]))]) (va_runIN (As := [.int g2]) (rest := [.ref q17, .ref ao]) ⟨hx, hb, hml, hown, hts⟩ (kr_init l D cI cZ q17 (0, 0) g2 _) ⟨(va_cnB 1 hts gd_yR_init rfl rfl rfl (hNw _ mw39) (hts _ mw25) (by decide +kernel) ⟨Nat.le_of_ble_eq_true rfl, Nat.le_of_ble_eq_true rfl⟩), rfl, hts _ mw40⟩ (kpreS hNw hP hD hK [2] rfl (by decide)) rfl rfl hl.1 rfl (lv_room (Nat.le_of_ble_eq_true rfl)) dT_init_22 ⟨Nat.le_of_ble_eq_true rfl, Nat.le_of_ble_eq_true rfl⟩) hP hD hS hA [0, 1, 2] rfl rfl (by decide) (by decide) (by decide) rfl (fun H locs hP hD hS => ?_)
  refine va_putF (D := D) (ci := 0) (v := .ref q17) (ty := (.object "HandleToken$Role")) (C := cnT) (T := ftT) (N := 7) hx hb hts inT tyT tyT_ok nmT hown hK hP hD hS 0 rfl rfl 1 (by decide) (hts _ mw83) (fun _ h9 => h9) rfl hin rfl (by decide +kernel) rfl rfl (Nat.le_of_ble_eq_true rfl) dT_init_25 (fun H locs hP hD hS => ?_)
  have hP : va_P D vwCl [(ao, .inr (0, [.ref q5, .ref q17, .null, .int 0, .int 0, .int 0, .int 0])), (q5, .inr (1, [.int ((zr_init (0, 0) g1).1), .int ((zr_init (0, 0) g1).2)])), (q17, .inr (1, [.int ((zr_init (0, 0) g2).1), .int ((zr_init (0, 0) g2).2)]))] H := hP
  have hD : va_D A [(ao, .inr (0, [.ref q5, .ref q17, .null, .int 0, .int 0, .int 0, .int 0])), (q5, .inr (1, [.int ((zr_init (0, 0) g1).1), .int ((zr_init (0, 0) g1).2)])), (q17, .inr (1, [.int ((zr_init (0, 0) g2).1), .int ((zr_init (0, 0) g2).2)]))] := hD
  refine lv_aload_n hx hb dT_init_28 rfl (lv_at hl 0 rfl) ?_
  refine va_new (D := (D)) (ci := 2) (fs := [.null, .null, .null, .null, .int 0, .int 0]) (C := cnK) (T := ftK) (N := 6) hx hb hts inK tyK tyK_ok hown (hts _ mw51) (hts _ mw52) (hts _ mw26) hK hP hD hS hA rfl (fun j hj => by rcases (show j = 0 ∨ j = 1 ∨ j = 2 ∨ j = 3 ∨ j = 4 ∨ j = 5 by omega) with rfl | rfl | rfl | rfl | rfl | rfl <;> rfl) (Nat.le_of_ble_eq_true rfl) (Nat.le_of_ble_eq_true rfl) dT_init_29 (fun q29 H hP hD hS => ?_)
  have hP : va_P D vwCl [(ao, .inr (0, [.ref q5, .ref q17, .null, .int 0, .int 0, .int 0, .int 0])), (q5, .inr (1, [.int ((zr_init (0, 0) g1).1), .int ((zr_init (0, 0) g1).2)])), (q17, .inr (1, [.int ((zr_init (0, 0) g2).1), .int ((zr_init (0, 0) g2).2)])), (q29, .inr (2, [.null, .null, .null, .null, .int 0, .int 0]))] H := hP
  have hD : va_D A [(ao, .inr (0, [.ref q5, .ref q17, .null, .int 0, .int 0, .int 0, .int 0])), (q5, .inr (1, [.int ((zr_init (0, 0) g1).1), .int ((zr_init (0, 0) g1).2)])), (q17, .inr (1, [.int ((zr_init (0, 0) g2).1), .int ((zr_init (0, 0) g2).2)])), (q29, .inr (2, [.null, .null, .null, .null, .int 0, .int 0]))] := hD
  refine lv_dup hx hb dT_init_32 rfl ?_
  refine kcN (isR := [0, 1, 2]) (isC := [3]) (wr := [(ao, .inr (0, [.ref q5, .ref q17, .null, .int 0, .int 0, .int 0, .int 0])), (q5, .inr (1, [.int ((zr_init (0, 0) g1).1), .int ((zr_init (0, 0) g1).2)])), (q17, .inr (1, [.int ((zr_init (0, 0) g2).1), .int ((zr_init (0, 0) g2).2)]))]) (wf := (fun u : Nat × Nat × Nat × Nat => wK cI q29 u.1 u.2.1 u.2.2.1 u.2.2.2 zK0)) (va_runIN (As := []) (rest := [.ref q29, .ref ao]) ⟨hx, hb, hml, hown, hts⟩ (kk_init l D cI cZ q29 _) ⟨(va_cnB 0 hts gd_yK_init rfl rfl rfl (hNw _ mw53) (hts _ mw26) (by decide +kernel) ⟨Nat.le_of_ble_eq_true rfl, Nat.le_of_ble_eq_true rfl⟩), rfl, hts _ mw54⟩ (kpreS hNw hP hD hK [3] rfl (by decide)) rfl rfl hl.1 rfl (lv_room (Nat.le_of_ble_eq_true rfl)) dT_init_33 ⟨Nat.le_of_ble_eq_true rfl, Nat.le_of_ble_eq_true rfl⟩) hP hD hS hA rfl rfl (by decide) (by decide) (fun u H locs hP hD hS => ?_)
  obtain ⟨a1, a2, a3, a4⟩ := u
  have hP : va_P D vwCl [(ao, .inr (0, [.ref q5, .ref q17, .null, .int 0, .int 0, .int 0, .int 0])), (q5, .inr (1, [.int ((zr_init (0, 0) g1).1), .int ((zr_init (0, 0) g1).2)])), (q17, .inr (1, [.int ((zr_init (0, 0) g2).1), .int ((zr_init (0, 0) g2).2)])), (q29, .inr (2, [.ref a1, .ref a2, .ref a3, .ref a4, .int (nI zK0.1), .int zK0.2.1])), (a1, .inl (cI, 10, .inl zK0.2.2.1)), (a2, .inl (cI, 10, .inl zK0.2.2.2.1)), (a3, .inl (cI, 10, .inl zK0.2.2.2.2.1)), (a4, .inl (cI, 10, .inl zK0.2.2.2.2.2))] H := hP
  have hD : va_D A [(ao, .inr (0, [.ref q5, .ref q17, .null, .int 0, .int 0, .int 0, .int 0])), (q5, .inr (1, [.int ((zr_init (0, 0) g1).1), .int ((zr_init (0, 0) g1).2)])), (q17, .inr (1, [.int ((zr_init (0, 0) g2).1), .int ((zr_init (0, 0) g2).2)])), (q29, .inr (2, [.ref a1, .ref a2, .ref a3, .ref a4, .int (nI zK0.1), .int zK0.2.1])), (a1, .inl (cI, 10, .inl zK0.2.2.1)), (a2, .inl (cI, 10, .inl zK0.2.2.2.1)), (a3, .inl (cI, 10, .inl zK0.2.2.2.2.1)), (a4, .inl (cI, 10, .inl zK0.2.2.2.2.2))] := hD
  refine va_putF (D := D) (ci := 0) (v := .ref q29) (ty := (.object "HandleToken$KeyTable")) (C := cnT) (T := ftT) (N := 7) hx hb hts inT tyT tyT_ok nmT hown hK hP hD hS 0 rfl rfl 2 (by decide) (hts _ mw84) (fun _ h9 => h9) rfl hin rfl (by decide +kernel) rfl rfl (Nat.le_of_ble_eq_true rfl) dT_init_36 (fun H locs hP hD hS => ?_)
  have hP : va_P D vwCl [(ao, .inr (0, [.ref q5, .ref q17, .ref q29, .int 0, .int 0, .int 0, .int 0])), (q5, .inr (1, [.int ((zr_init (0, 0) g1).1), .int ((zr_init (0, 0) g1).2)])), (q17, .inr (1, [.int ((zr_init (0, 0) g2).1), .int ((zr_init (0, 0) g2).2)])), (q29, .inr (2, [.ref a1, .ref a2, .ref a3, .ref a4, .int (nI zK0.1), .int zK0.2.1])), (a1, .inl (cI, 10, .inl zK0.2.2.1)), (a2, .inl (cI, 10, .inl zK0.2.2.2.1)), (a3, .inl (cI, 10, .inl zK0.2.2.2.2.1)), (a4, .inl (cI, 10, .inl zK0.2.2.2.2.2))] H := hP
  have hD : va_D A [(ao, .inr (0, [.ref q5, .ref q17, .ref q29, .int 0, .int 0, .int 0, .int 0])), (q5, .inr (1, [.int ((zr_init (0, 0) g1).1), .int ((zr_init (0, 0) g1).2)])), (q17, .inr (1, [.int ((zr_init (0, 0) g2).1), .int ((zr_init (0, 0) g2).2)])), (q29, .inr (2, [.ref a1, .ref a2, .ref a3, .ref a4, .int (nI zK0.1), .int zK0.2.1])), (a1, .inl (cI, 10, .inl zK0.2.2.1)), (a2, .inl (cI, 10, .inl zK0.2.2.2.1)), (a3, .inl (cI, 10, .inl zK0.2.2.2.2.1)), (a4, .inl (cI, 10, .inl zK0.2.2.2.2.2))] := hD
  refine lv_aload_n hx hb dT_init_39 rfl (lv_at hl 0 rfl) ?_
  refine lv_iconst (v := 0) hx hb dT_init_40 (by decide) ?_
  refine va_put (D := D) (ci := 0) (v := .int 0) (ty := (.int)) (C := cnT) (T := ftT) (N := 7) hx hb hts inT tyT tyT_ok nmT hown hK hP hD hS 0 rfl rfl 3 (by decide) (hts _ mw85) (fun _ h9 => h9) rfl (by decide +kernel) rfl rfl (Nat.le_of_ble_eq_true rfl) dT_init_41 (fun H locs hP hD hS => ?_)
  have hP : va_P D vwCl [(ao, .inr (0, [.ref q5, .ref q17, .ref q29, .int 0, .int 0, .int 0, .int 0])), (q5, .inr (1, [.int ((zr_init (0, 0) g1).1), .int ((zr_init (0, 0) g1).2)])), (q17, .inr (1, [.int ((zr_init (0, 0) g2).1), .int ((zr_init (0, 0) g2).2)])), (q29, .inr (2, [.ref a1, .ref a2, .ref a3, .ref a4, .int (nI zK0.1), .int zK0.2.1])), (a1, .inl (cI, 10, .inl zK0.2.2.1)), (a2, .inl (cI, 10, .inl zK0.2.2.2.1)), (a3, .inl (cI, 10, .inl zK0.2.2.2.2.1)), (a4, .inl (cI, 10, .inl zK0.2.2.2.2.2))] H := hP
  have hD : va_D A [(ao, .inr (0, [.ref q5, .ref q17, .ref q29, .int 0, .int 0, .int 0, .int 0])), (q5, .inr (1, [.int ((zr_init (0, 0) g1).1), .int ((zr_init (0, 0) g1).2)])), (q17, .inr (1, [.int ((zr_init (0, 0) g2).1), .int ((zr_init (0, 0) g2).2)])), (q29, .inr (2, [.ref a1, .ref a2, .ref a3, .ref a4, .int (nI zK0.1), .int zK0.2.1])), (a1, .inl (cI, 10, .inl zK0.2.2.1)), (a2, .inl (cI, 10, .inl zK0.2.2.2.1)), (a3, .inl (cI, 10, .inl zK0.2.2.2.2.1)), (a4, .inl (cI, 10, .inl zK0.2.2.2.2.2))] := hD
  exact kretN (wf := (fun u : Nat × Nat × Nat × Nat × Nat × Nat × Nat => wX cI ao u.1 u.2.1 u.2.2.1 u.2.2.2.1 u.2.2.2.2.1 u.2.2.2.2.2.1 u.2.2.2.2.2.2 (zX0 g1 g2))) ((q5, q17, q29, a1, a2, a3, a4)) hx hb hr hlk hS (kSubP hP [0, 1, 2, 3, 4, 5, 6, 7] rfl) (hD.sub [0, 1, 2, 3, 4, 5, 6, 7] (by decide) rfl) hK dT_init_44

set_option maxHeartbeats 4000000 in
set_option maxRecDepth 100000 in
theorem km_init (l : Launch) (D : va_G) (cI cZ : ClassId) (bo : Nat) (g1 : Int32) (g2 : Int32) : ∀ sz, Met l yM_init wsM_init ({ frames := 1, cells := 7, slots := 2057, locals := 12 }) (va_Pc [.ref bo, .int g1, .int g2] (kB D (kT cI cZ) [(bo, .inr (3, [.null, .int 0, .null, .null, .int 0, .int 0, .null, .null, .null, .null]))] sz)) (kQn D (kT cI cZ) (va_A [(bo, .inr (3, [.null, .int 0, .null, .null, .int 0, .int 0, .null, .null, .null, .null]))] sz) (fun u : Nat × Nat × Nat × Nat × Nat × Nat × Nat => wY cI cZ bo u.1 u.2.1 u.2.2.1 u.2.2.2.1 u.2.2.2.2.1 u.2.2.2.2.2.1 u.2.2.2.2.2.2 (zY0 g1 g2))) 7 2057 (va_A [(bo, .inr (3, [.null, .int 0, .null, .null, .int 0, .int 0, .null, .null, .null, .null]))] sz) := by
  intro sz
  refine kOf (Qc := fun A => kQn D (kT cI cZ) A (fun u : Nat × Nat × Nat × Nat × Nat × Nat × Nat => wY cI cZ bo u.1 u.2.1 u.2.2.1 u.2.2.2.1 u.2.2.2.2.1 u.2.2.2.2.2.1 u.2.2.2.2.2.2 (zY0 g1 g2))) (cc := cM_init) (maxL := 3) (ret := none) (by decide) rfl (Nat.le_of_ble_eq_true rfl) ?_ sz
  intro p e s m args below meth c A ls hx hb hml hown hts hNw hr hlk hin hA hS hP hD hK hl
  show W p l e ({ frames := 1, cells := 7, slots := 2057, locals := 12 }) s m args below meth c s.heap [] 0 0 (MQ below (kQn D (kT cI cZ) A (fun u : Nat × Nat × Nat × Nat × Nat × Nat × Nat => wY cI cZ bo u.1 u.2.1 u.2.2.1 u.2.2.2.1 u.2.2.2.2.1 u.2.2.2.2.2.1 u.2.2.2.2.2.2 (zY0 g1 g2))) args s 7 2057 A) (F0 m 0 ls [])
  have hin := hin rfl
  have hts : ∀ q ∈ lw_g, q.before args s = true := fun q h => hts q (List.mem_cons_of_mem _ h)
  have hown : s.vm.findClass cnM = some m.cls := hown
  have hl : lv_has ls 3 [(0, .ref bo), (1, .int g1), (2, .int g2)] := hl
  have hP : va_P D vwCl [(bo, .inr (3, [.null, .int 0, .null, .null, .int 0, .int 0, .null, .null, .null, .null]))] s.heap := hP
  have hD : va_D A [(bo, .inr (3, [.null, .int 0, .null, .null, .int 0, .int 0, .null, .null, .null, .null]))] := hD
  refine lv_aload_n hx hb dM_init_0 rfl (lv_at hl 0 rfl) ?_
  refine W.objInit hx hb hown (hts _ mw288) (hts _ mw35) (hts _ mw36) rfl (by rw [hml]; exact hl.1) rfl dM_init_1 (Nat.le_of_ble_eq_true rfl) (Nat.le_of_ble_eq_true rfl) ?_
  refine W.eq (g2 := F0 m 4 ls []) rfl ?_
  refine lv_aload_n hx hb dM_init_4 rfl (lv_at hl 0 rfl) ?_
  refine lv_iconst (v := 3) hx hb dM_init_5 (by decide) ?_
  refine knewI (N' := 3) hx hb (hts _ mw81) hK hP hD hS hA (by decide) (by decide) (by decide) (Nat.le_of_ble_eq_true rfl) (Nat.le_of_ble_eq_true rfl) dM_init_6 (fun q6 H hP hD hS => ?_)
  have hP : va_P D vwCl [(bo, .inr (3, [.null, .int 0, .null, .null, .int 0, .int 0, .null, .null, .null, .null])), (q6, .inl (cI, 3, .inl (fun _ => 0)))] H := hP
  have hD : va_D A [(bo, .inr (3, [.null, .int 0, .null, .null, .int 0, .int 0, .null, .null, .null, .null])), (q6, .inl (cI, 3, .inl (fun _ => 0)))] := hD
  refine va_put (D := D) (ci := 3) (v := .ref q6) (ty := (.array .int)) (C := cnM) (T := ftM) (N := 10) hx hb hts inM tyM tyM_ok nmM hown hK hP hD hS 0 rfl rfl 0 (by decide) (hts _ mw289) (fun _ h9 => h9) rfl (by decide +kernel) rfl rfl (Nat.le_of_ble_eq_true rfl) dM_init_8 (fun H locs hP hD hS => ?_)
  have hP : va_P D vwCl [(bo, .inr (3, [.ref q6, .int 0, .null, .null, .int 0, .int 0, .null, .null, .null, .null])), (q6, .inl (cI, 3, .inl (fun _ => 0)))] H := hP
  have hD : va_D A [(bo, .inr (3, [.ref q6, .int 0, .null, .null, .int 0, .int 0, .null, .null, .null, .null])), (q6, .inl (cI, 3, .inl (fun _ => 0)))] := hD
  refine lv_aload_n hx hb dM_init_11 rfl (lv_at hl 0 rfl) ?_
  refine lv_iconst (v := 3) hx hb dM_init_12 (by decide) ?_
  refine knewI (N' := 3) hx hb (hts _ mw81) hK hP hD hS hA (by decide) (by decide) (by decide) (Nat.le_of_ble_eq_true rfl) (Nat.le_of_ble_eq_true rfl) dM_init_13 (fun q13 H hP hD hS => ?_)
  have hP : va_P D vwCl [(bo, .inr (3, [.ref q6, .int 0, .null, .null, .int 0, .int 0, .null, .null, .null, .null])), (q6, .inl (cI, 3, .inl (fun _ => 0))), (q13, .inl (cI, 3, .inl (fun _ => 0)))] H := hP
  have hD : va_D A [(bo, .inr (3, [.ref q6, .int 0, .null, .null, .int 0, .int 0, .null, .null, .null, .null])), (q6, .inl (cI, 3, .inl (fun _ => 0))), (q13, .inl (cI, 3, .inl (fun _ => 0)))] := hD
  refine va_put (D := D) (ci := 3) (v := .ref q13) (ty := (.array .int)) (C := cnM) (T := ftM) (N := 10) hx hb hts inM tyM tyM_ok nmM hown hK hP hD hS 0 rfl rfl 2 (by decide) (hts _ mw291) (fun _ h9 => h9) rfl (by decide +kernel) rfl rfl (Nat.le_of_ble_eq_true rfl) dM_init_15 (fun H locs hP hD hS => ?_)
  have hP : va_P D vwCl [(bo, .inr (3, [.ref q6, .int 0, .ref q13, .null, .int 0, .int 0, .null, .null, .null, .null])), (q6, .inl (cI, 3, .inl (fun _ => 0))), (q13, .inl (cI, 3, .inl (fun _ => 0)))] H := hP
  have hD : va_D A [(bo, .inr (3, [.ref q6, .int 0, .ref q13, .null, .int 0, .int 0, .null, .null, .null, .null])), (q6, .inl (cI, 3, .inl (fun _ => 0))), (q13, .inl (cI, 3, .inl (fun _ => 0)))] := hD
  refine lv_aload_n hx hb dM_init_18 rfl (lv_at hl 0 rfl) ?_
  refine lv_iconst (v := 3) hx hb dM_init_19 (by decide) ?_
  refine knewI (N' := 3) hx hb (hts _ mw81) hK hP hD hS hA (by decide) (by decide) (by decide) (Nat.le_of_ble_eq_true rfl) (Nat.le_of_ble_eq_true rfl) dM_init_20 (fun q20 H hP hD hS => ?_)
  have hP : va_P D vwCl [(bo, .inr (3, [.ref q6, .int 0, .ref q13, .null, .int 0, .int 0, .null, .null, .null, .null])), (q6, .inl (cI, 3, .inl (fun _ => 0))), (q13, .inl (cI, 3, .inl (fun _ => 0))), (q20, .inl (cI, 3, .inl (fun _ => 0)))] H := hP
  have hD : va_D A [(bo, .inr (3, [.ref q6, .int 0, .ref q13, .null, .int 0, .int 0, .null, .null, .null, .null])), (q6, .inl (cI, 3, .inl (fun _ => 0))), (q13, .inl (cI, 3, .inl (fun _ => 0))), (q20, .inl (cI, 3, .inl (fun _ => 0)))] := hD
  refine va_put (D := D) (ci := 3) (v := .ref q20) (ty := (.array .int)) (C := cnM) (T := ftM) (N := 10) hx hb hts inM tyM tyM_ok nmM hown hK hP hD hS 0 rfl rfl 3 (by decide) (hts _ mw292) (fun _ h9 => h9) rfl (by decide +kernel) rfl rfl (Nat.le_of_ble_eq_true rfl) dM_init_22 (fun H locs hP hD hS => ?_)
  have hP : va_P D vwCl [(bo, .inr (3, [.ref q6, .int 0, .ref q13, .ref q20, .int 0, .int 0, .null, .null, .null, .null])), (q6, .inl (cI, 3, .inl (fun _ => 0))), (q13, .inl (cI, 3, .inl (fun _ => 0))), (q20, .inl (cI, 3, .inl (fun _ => 0)))] H := hP
  have hD : va_D A [(bo, .inr (3, [.ref q6, .int 0, .ref q13, .ref q20, .int 0, .int 0, .null, .null, .null, .null])), (q6, .inl (cI, 3, .inl (fun _ => 0))), (q13, .inl (cI, 3, .inl (fun _ => 0))), (q20, .inl (cI, 3, .inl (fun _ => 0)))] := hD
  refine lv_aload_n hx hb dM_init_25 rfl (lv_at hl 0 rfl) ?_
  refine lv_sipush (v := 512) hx hb dM_init_26 (by decide) ?_
  refine knewZ (N' := 512) hx hb (hts _ mw320) hK hP hD hS hA (by decide) (by decide) (by decide) (Nat.le_of_ble_eq_true rfl) (Nat.le_of_ble_eq_true rfl) dM_init_29 (fun q29 H hP hD hS => ?_)
  have hP : va_P D vwCl [(bo, .inr (3, [.ref q6, .int 0, .ref q13, .ref q20, .int 0, .int 0, .null, .null, .null, .null])), (q6, .inl (cI, 3, .inl (fun _ => 0))), (q13, .inl (cI, 3, .inl (fun _ => 0))), (q20, .inl (cI, 3, .inl (fun _ => 0))), (q29, .inl (cZ, 512, .inl (fun _ => 0)))] H := hP
  have hD : va_D A [(bo, .inr (3, [.ref q6, .int 0, .ref q13, .ref q20, .int 0, .int 0, .null, .null, .null, .null])), (q6, .inl (cI, 3, .inl (fun _ => 0))), (q13, .inl (cI, 3, .inl (fun _ => 0))), (q20, .inl (cI, 3, .inl (fun _ => 0))), (q29, .inl (cZ, 512, .inl (fun _ => 0)))] := hD
  refine va_put (D := D) (ci := 3) (v := .ref q29) (ty := (.array .boolean)) (C := cnM) (T := ftM) (N := 10) hx hb hts inM tyM tyM_ok nmM hown hK hP hD hS 0 rfl rfl 6 (by decide) (hts _ mw295) (fun _ h9 => h9) rfl (by decide +kernel) rfl rfl (Nat.le_of_ble_eq_true rfl) dM_init_31 (fun H locs hP hD hS => ?_)
  have hP : va_P D vwCl [(bo, .inr (3, [.ref q6, .int 0, .ref q13, .ref q20, .int 0, .int 0, .ref q29, .null, .null, .null])), (q6, .inl (cI, 3, .inl (fun _ => 0))), (q13, .inl (cI, 3, .inl (fun _ => 0))), (q20, .inl (cI, 3, .inl (fun _ => 0))), (q29, .inl (cZ, 512, .inl (fun _ => 0)))] H := hP
  have hD : va_D A [(bo, .inr (3, [.ref q6, .int 0, .ref q13, .ref q20, .int 0, .int 0, .ref q29, .null, .null, .null])), (q6, .inl (cI, 3, .inl (fun _ => 0))), (q13, .inl (cI, 3, .inl (fun _ => 0))), (q20, .inl (cI, 3, .inl (fun _ => 0))), (q29, .inl (cZ, 512, .inl (fun _ => 0)))] := hD
  refine lv_aload_n hx hb dM_init_34 rfl (lv_at hl 0 rfl) ?_
  refine lv_sipush (v := 512) hx hb dM_init_35 (by decide) ?_
  refine knewI (N' := 512) hx hb (hts _ mw81) hK hP hD hS hA (by decide) (by decide) (by decide) (Nat.le_of_ble_eq_true rfl) (Nat.le_of_ble_eq_true rfl) dM_init_38 (fun q38 H hP hD hS => ?_)
  have hP : va_P D vwCl [(bo, .inr (3, [.ref q6, .int 0, .ref q13, .ref q20, .int 0, .int 0, .ref q29, .null, .null, .null])), (q6, .inl (cI, 3, .inl (fun _ => 0))), (q13, .inl (cI, 3, .inl (fun _ => 0))), (q20, .inl (cI, 3, .inl (fun _ => 0))), (q29, .inl (cZ, 512, .inl (fun _ => 0))), (q38, .inl (cI, 512, .inl (fun _ => 0)))] H := hP
  have hD : va_D A [(bo, .inr (3, [.ref q6, .int 0, .ref q13, .ref q20, .int 0, .int 0, .ref q29, .null, .null, .null])), (q6, .inl (cI, 3, .inl (fun _ => 0))), (q13, .inl (cI, 3, .inl (fun _ => 0))), (q20, .inl (cI, 3, .inl (fun _ => 0))), (q29, .inl (cZ, 512, .inl (fun _ => 0))), (q38, .inl (cI, 512, .inl (fun _ => 0)))] := hD
  refine va_put (D := D) (ci := 3) (v := .ref q38) (ty := (.array .int)) (C := cnM) (T := ftM) (N := 10) hx hb hts inM tyM tyM_ok nmM hown hK hP hD hS 0 rfl rfl 7 (by decide) (hts _ mw296) (fun _ h9 => h9) rfl (by decide +kernel) rfl rfl (Nat.le_of_ble_eq_true rfl) dM_init_40 (fun H locs hP hD hS => ?_)
  have hP : va_P D vwCl [(bo, .inr (3, [.ref q6, .int 0, .ref q13, .ref q20, .int 0, .int 0, .ref q29, .ref q38, .null, .null])), (q6, .inl (cI, 3, .inl (fun _ => 0))), (q13, .inl (cI, 3, .inl (fun _ => 0))), (q20, .inl (cI, 3, .inl (fun _ => 0))), (q29, .inl (cZ, 512, .inl (fun _ => 0))), (q38, .inl (cI, 512, .inl (fun _ => 0)))] H := hP
  have hD : va_D A [(bo, .inr (3, [.ref q6, .int 0, .ref q13, .ref q20, .int 0, .int 0, .ref q29, .ref q38, .null, .null])), (q6, .inl (cI, 3, .inl (fun _ => 0))), (q13, .inl (cI, 3, .inl (fun _ => 0))), (q20, .inl (cI, 3, .inl (fun _ => 0))), (q29, .inl (cZ, 512, .inl (fun _ => 0))), (q38, .inl (cI, 512, .inl (fun _ => 0)))] := hD
  refine lv_aload_n hx hb dM_init_43 rfl (lv_at hl 0 rfl) ?_
  refine lv_sipush (v := 512) hx hb dM_init_44 (by decide) ?_
  refine knewI (N' := 512) hx hb (hts _ mw81) hK hP hD hS hA (by decide) (by decide) (by decide) (Nat.le_of_ble_eq_true rfl) (Nat.le_of_ble_eq_true rfl) dM_init_47 (fun q47 H hP hD hS => ?_)
  have hP : va_P D vwCl [(bo, .inr (3, [.ref q6, .int 0, .ref q13, .ref q20, .int 0, .int 0, .ref q29, .ref q38, .null, .null])), (q6, .inl (cI, 3, .inl (fun _ => 0))), (q13, .inl (cI, 3, .inl (fun _ => 0))), (q20, .inl (cI, 3, .inl (fun _ => 0))), (q29, .inl (cZ, 512, .inl (fun _ => 0))), (q38, .inl (cI, 512, .inl (fun _ => 0))), (q47, .inl (cI, 512, .inl (fun _ => 0)))] H := hP
  have hD : va_D A [(bo, .inr (3, [.ref q6, .int 0, .ref q13, .ref q20, .int 0, .int 0, .ref q29, .ref q38, .null, .null])), (q6, .inl (cI, 3, .inl (fun _ => 0))), (q13, .inl (cI, 3, .inl (fun _ => 0))), (q20, .inl (cI, 3, .inl (fun _ => 0))), (q29, .inl (cZ, 512, .inl (fun _ => 0))), (q38, .inl (cI, 512, .inl (fun _ => 0))), (q47, .inl (cI, 512, .inl (fun _ => 0)))] := hD
  refine va_put (D := D) (ci := 3) (v := .ref q47) (ty := (.array .int)) (C := cnM) (T := ftM) (N := 10) hx hb hts inM tyM tyM_ok nmM hown hK hP hD hS 0 rfl rfl 8 (by decide) (hts _ mw297) (fun _ h9 => h9) rfl (by decide +kernel) rfl rfl (Nat.le_of_ble_eq_true rfl) dM_init_49 (fun H locs hP hD hS => ?_)
  have hP : va_P D vwCl [(bo, .inr (3, [.ref q6, .int 0, .ref q13, .ref q20, .int 0, .int 0, .ref q29, .ref q38, .ref q47, .null])), (q6, .inl (cI, 3, .inl (fun _ => 0))), (q13, .inl (cI, 3, .inl (fun _ => 0))), (q20, .inl (cI, 3, .inl (fun _ => 0))), (q29, .inl (cZ, 512, .inl (fun _ => 0))), (q38, .inl (cI, 512, .inl (fun _ => 0))), (q47, .inl (cI, 512, .inl (fun _ => 0)))] H := hP
  have hD : va_D A [(bo, .inr (3, [.ref q6, .int 0, .ref q13, .ref q20, .int 0, .int 0, .ref q29, .ref q38, .ref q47, .null])), (q6, .inl (cI, 3, .inl (fun _ => 0))), (q13, .inl (cI, 3, .inl (fun _ => 0))), (q20, .inl (cI, 3, .inl (fun _ => 0))), (q29, .inl (cZ, 512, .inl (fun _ => 0))), (q38, .inl (cI, 512, .inl (fun _ => 0))), (q47, .inl (cI, 512, .inl (fun _ => 0)))] := hD
  refine lv_aload_n hx hb dM_init_52 rfl (lv_at hl 0 rfl) ?_
  refine lv_sipush (v := 512) hx hb dM_init_53 (by decide) ?_
  refine knewI (N' := 512) hx hb (hts _ mw81) hK hP hD hS hA (by decide) (by decide) (by decide) (Nat.le_of_ble_eq_true rfl) (Nat.le_of_ble_eq_true rfl) dM_init_56 (fun q56 H hP hD hS => ?_)
  have hP : va_P D vwCl [(bo, .inr (3, [.ref q6, .int 0, .ref q13, .ref q20, .int 0, .int 0, .ref q29, .ref q38, .ref q47, .null])), (q6, .inl (cI, 3, .inl (fun _ => 0))), (q13, .inl (cI, 3, .inl (fun _ => 0))), (q20, .inl (cI, 3, .inl (fun _ => 0))), (q29, .inl (cZ, 512, .inl (fun _ => 0))), (q38, .inl (cI, 512, .inl (fun _ => 0))), (q47, .inl (cI, 512, .inl (fun _ => 0))), (q56, .inl (cI, 512, .inl (fun _ => 0)))] H := hP
  have hD : va_D A [(bo, .inr (3, [.ref q6, .int 0, .ref q13, .ref q20, .int 0, .int 0, .ref q29, .ref q38, .ref q47, .null])), (q6, .inl (cI, 3, .inl (fun _ => 0))), (q13, .inl (cI, 3, .inl (fun _ => 0))), (q20, .inl (cI, 3, .inl (fun _ => 0))), (q29, .inl (cZ, 512, .inl (fun _ => 0))), (q38, .inl (cI, 512, .inl (fun _ => 0))), (q47, .inl (cI, 512, .inl (fun _ => 0))), (q56, .inl (cI, 512, .inl (fun _ => 0)))] := hD
  refine va_put (D := D) (ci := 3) (v := .ref q56) (ty := (.array .int)) (C := cnM) (T := ftM) (N := 10) hx hb hts inM tyM tyM_ok nmM hown hK hP hD hS 0 rfl rfl 9 (by decide) (hts _ mw298) (fun _ h9 => h9) rfl (by decide +kernel) rfl rfl (Nat.le_of_ble_eq_true rfl) dM_init_58 (fun H locs hP hD hS => ?_)
  have hP : va_P D vwCl [(bo, .inr (3, [.ref q6, .int 0, .ref q13, .ref q20, .int 0, .int 0, .ref q29, .ref q38, .ref q47, .ref q56])), (q6, .inl (cI, 3, .inl (fun _ => 0))), (q13, .inl (cI, 3, .inl (fun _ => 0))), (q20, .inl (cI, 3, .inl (fun _ => 0))), (q29, .inl (cZ, 512, .inl (fun _ => 0))), (q38, .inl (cI, 512, .inl (fun _ => 0))), (q47, .inl (cI, 512, .inl (fun _ => 0))), (q56, .inl (cI, 512, .inl (fun _ => 0)))] H := hP
  have hD : va_D A [(bo, .inr (3, [.ref q6, .int 0, .ref q13, .ref q20, .int 0, .int 0, .ref q29, .ref q38, .ref q47, .ref q56])), (q6, .inl (cI, 3, .inl (fun _ => 0))), (q13, .inl (cI, 3, .inl (fun _ => 0))), (q20, .inl (cI, 3, .inl (fun _ => 0))), (q29, .inl (cZ, 512, .inl (fun _ => 0))), (q38, .inl (cI, 512, .inl (fun _ => 0))), (q47, .inl (cI, 512, .inl (fun _ => 0))), (q56, .inl (cI, 512, .inl (fun _ => 0)))] := hD
  refine lv_aload_n hx hb dM_init_61 rfl (lv_at hl 0 rfl) ?_
  refine va_get (D := D) (ci := 3) (v := .ref q13) (C := cnM) (T := ftM) (N := 10) hx hb hts inM hown hK hP 0 rfl rfl 2 (by decide) (hts _ mw291) (fun _ h9 => h9) rfl dM_init_62 ?_
  refine lv_iconst (v := 1) hx hb dM_init_65 (by decide) ?_
  refine lv_iload_n hx hb dM_init_66 rfl (lv_at hl 1 rfl) ?_
  refine va_iast hx hb hK hP hD hS 2 0 rfl rfl ((show ¬ ((1 : Int32) < 0 ∨ 3 ≤ Int32.toNatClampNeg 1) by decide)) dM_init_67 (fun H locs hP hD hS => ?_)
  rw [show Int32.toNatClampNeg 1 = 1 from by decide] at hP hD
  have hP : va_P D vwCl [(bo, .inr (3, [.ref q6, .int 0, .ref q13, .ref q20, .int 0, .int 0, .ref q29, .ref q38, .ref q47, .ref q56])), (q6, .inl (cI, 3, .inl (fun _ => 0))), (q13, .inl (cI, 3, .inl (upd (fun _ => 0) 1 g1))), (q20, .inl (cI, 3, .inl (fun _ => 0))), (q29, .inl (cZ, 512, .inl (fun _ => 0))), (q38, .inl (cI, 512, .inl (fun _ => 0))), (q47, .inl (cI, 512, .inl (fun _ => 0))), (q56, .inl (cI, 512, .inl (fun _ => 0)))] H := hP
  have hD : va_D A [(bo, .inr (3, [.ref q6, .int 0, .ref q13, .ref q20, .int 0, .int 0, .ref q29, .ref q38, .ref q47, .ref q56])), (q6, .inl (cI, 3, .inl (fun _ => 0))), (q13, .inl (cI, 3, .inl (upd (fun _ => 0) 1 g1))), (q20, .inl (cI, 3, .inl (fun _ => 0))), (q29, .inl (cZ, 512, .inl (fun _ => 0))), (q38, .inl (cI, 512, .inl (fun _ => 0))), (q47, .inl (cI, 512, .inl (fun _ => 0))), (q56, .inl (cI, 512, .inl (fun _ => 0)))] := hD
  refine lv_aload_n hx hb dM_init_68 rfl (lv_at hl 0 rfl) ?_
  refine va_get (D := D) (ci := 3) (v := .ref q13) (C := cnM) (T := ftM) (N := 10) hx hb hts inM hown hK hP 0 rfl rfl 2 (by decide) (hts _ mw291) (fun _ h9 => h9) rfl dM_init_69 ?_
  refine lv_iconst (v := 2) hx hb dM_init_72 (by decide) ?_
  refine lv_iload_n hx hb dM_init_73 rfl (lv_at hl 2 rfl) ?_
  refine va_iast hx hb hK hP hD hS 2 0 rfl rfl ((show ¬ ((2 : Int32) < 0 ∨ 3 ≤ Int32.toNatClampNeg 2) by decide)) dM_init_74 (fun H locs hP hD hS => ?_)
  rw [show Int32.toNatClampNeg 2 = 2 from by decide] at hP hD
  have hP : va_P D vwCl [(bo, .inr (3, [.ref q6, .int 0, .ref q13, .ref q20, .int 0, .int 0, .ref q29, .ref q38, .ref q47, .ref q56])), (q6, .inl (cI, 3, .inl (fun _ => 0))), (q13, .inl (cI, 3, .inl (upd (upd (fun _ => 0) 1 g1) 2 g2))), (q20, .inl (cI, 3, .inl (fun _ => 0))), (q29, .inl (cZ, 512, .inl (fun _ => 0))), (q38, .inl (cI, 512, .inl (fun _ => 0))), (q47, .inl (cI, 512, .inl (fun _ => 0))), (q56, .inl (cI, 512, .inl (fun _ => 0)))] H := hP
  have hD : va_D A [(bo, .inr (3, [.ref q6, .int 0, .ref q13, .ref q20, .int 0, .int 0, .ref q29, .ref q38, .ref q47, .ref q56])), (q6, .inl (cI, 3, .inl (fun _ => 0))), (q13, .inl (cI, 3, .inl (upd (upd (fun _ => 0) 1 g1) 2 g2))), (q20, .inl (cI, 3, .inl (fun _ => 0))), (q29, .inl (cZ, 512, .inl (fun _ => 0))), (q38, .inl (cI, 512, .inl (fun _ => 0))), (q47, .inl (cI, 512, .inl (fun _ => 0))), (q56, .inl (cI, 512, .inl (fun _ => 0)))] := hD
  exact kretN (wf := (fun u : Nat × Nat × Nat × Nat × Nat × Nat × Nat => wY cI cZ bo u.1 u.2.1 u.2.2.1 u.2.2.2.1 u.2.2.2.2.1 u.2.2.2.2.2.1 u.2.2.2.2.2.2 (zY0 g1 g2))) ((q6, q13, q20, q29, q38, q47, q56)) hx hb hr hlk hS (kSubP hP [0, 1, 2, 3, 4, 5, 6, 7] rfl) (hD.sub [0, 1, 2, 3, 4, 5, 6, 7] (by decide) rfl) hK dM_init_75
