def zr_tryPin (r : RS) (g1 : Int32) : Int32 × RS := (if r.2 < 3 then (if g1 = r.1 then (0, (r.1, 0)) else ((-9), (r.1, (r.2 + 1)))) else ((-8), r))

set_option maxHeartbeats 4000000 in
set_option maxRecDepth 100000 in
theorem kr_tryPin (l : Launch) (D : va_G) (cI cZ : ClassId) (ra : Nat) (r : RS) (g1 : Int32) : kI l yR_tryPin wsR_tryPin (rmOf 0 0) D (kT cI cZ) [.ref ra, .int g1] (wR ra r) (zr_tryPin r g1).1 (wR ra ((zr_tryPin r g1).2)) := by
  intro sz
  refine kOf (Qc := fun A => kQi D (kT cI cZ) A (zr_tryPin r g1).1 (wR ra ((zr_tryPin r g1).2))) (cc := cR_tryPin) (maxL := 2) (ret := some .int) (by decide) rfl (Nat.le_of_ble_eq_true rfl) ?_ sz
  intro p e s m args below meth c A ls hx hb hml hown hts hNw hr hlk hin hA hS hP hD hK hl
  show W p l e (rmOf 0 0) s m args below meth c s.heap [] 0 0 (MQ below (kQi D (kT cI cZ) A (zr_tryPin r g1).1 (wR ra ((zr_tryPin r g1).2))) args s 0 0 A) (F0 m 0 ls [])
  have hts : ∀ q ∈ lw_g, q.before args s = true := fun q h => hts q (List.mem_cons_of_mem _ h)
  have hown : s.vm.findClass cnR = some m.cls := hown
  have hl : lv_has ls 2 [(0, .ref ra), (1, .int g1)] := hl
  have hP : va_P D vwCl [(ra, .inr (1, [.int r.1, .int r.2]))] s.heap := hP
  have hD : va_D A [(ra, .inr (1, [.int r.1, .int r.2]))] := hD
  refine lv_aload_n hx hb dR_tryPin_0 rfl (lv_at hl 0 rfl) ?_
  refine va_get (D := D) (ci := 1) (v := .int r.2) (C := cnR) (T := ftR) (N := 2) hx hb hts inR hown hK hP 0 rfl rfl 1 (by decide) (hts _ mw44) (fun _ h9 => h9) rfl dR_tryPin_1 ?_
  refine lv_iconst (v := 3) hx hb dR_tryPin_4 (by decide) ?_
  refine lv_icmp_lt (tgt := 11) hx hb dR_tryPin_5 (by decide) (fun h1 => ?_) (fun h1 => ?_)
  ·
    refine lv_iload_n hx hb dR_tryPin_11 rfl (lv_at hl 1 rfl) ?_
    refine lv_aload_n hx hb dR_tryPin_12 rfl (lv_at hl 0 rfl) ?_
    refine va_get (D := D) (ci := 1) (v := .int r.1) (C := cnR) (T := ftR) (N := 2) hx hb hts inR hown hK hP 0 rfl rfl 0 (by decide) (hts _ mw43) (fun _ h9 => h9) rfl dR_tryPin_13 ?_
    refine lv_icmp_eq (tgt := 32) hx hb dR_tryPin_16 (by decide) (fun h2 => ?_) (fun h2 => ?_)
    ·
      refine lv_aload_n hx hb dR_tryPin_32 rfl (lv_at hl 0 rfl) ?_
      refine lv_iconst (v := 0) hx hb dR_tryPin_33 (by decide) ?_
      refine va_put (D := D) (ci := 1) (v := .int 0) (ty := (.int)) (C := cnR) (T := ftR) (N := 2) hx hb hts inR tyR tyR_ok nmR hown hK hP hD hS 0 rfl rfl 1 (by decide) (hts _ mw44) (fun _ h9 => h9) rfl (by decide +kernel) rfl rfl (Nat.le_of_ble_eq_true rfl) dR_tryPin_34 (fun H locs hP hD hS => ?_)
      have hP : va_P D vwCl [(ra, .inr (1, [.int r.1, .int 0]))] H := hP
      have hD : va_D A [(ra, .inr (1, [.int r.1, .int 0]))] := hD
      refine lv_iconst (v := 0) hx hb dR_tryPin_37 (by decide) ?_
      exact kretI (wf := fun st => wR ra st) (st := (r.1, 0)) (by first | (rw [zr_tryPin, if_pos h1, if_pos h2]; done) | exact ((if_pos h1).trans (if_pos h2))) hx hb hr hlk hS hP hD hK dR_tryPin_38
    ·
      refine lv_aload_n hx hb dR_tryPin_19 rfl (lv_at hl 0 rfl) ?_
      refine lv_dup hx hb dR_tryPin_20 rfl ?_
      refine va_get (D := D) (ci := 1) (v := .int r.2) (C := cnR) (T := ftR) (N := 2) hx hb hts inR hown hK hP 0 rfl rfl 1 (by decide) (hts _ mw44) (fun _ h9 => h9) rfl dR_tryPin_21 ?_
      refine lv_iconst (v := 1) hx hb dR_tryPin_24 (by decide) ?_
      refine lv_iadd hx hb dR_tryPin_25 ?_
      refine va_put (D := D) (ci := 1) (v := .int (r.2 + 1)) (ty := (.int)) (C := cnR) (T := ftR) (N := 2) hx hb hts inR tyR tyR_ok nmR hown hK hP hD hS 0 rfl rfl 1 (by decide) (hts _ mw44) (fun _ h9 => h9) rfl (by decide +kernel) rfl rfl (Nat.le_of_ble_eq_true rfl) dR_tryPin_26 (fun H locs hP hD hS => ?_)
      have hP : va_P D vwCl [(ra, .inr (1, [.int r.1, .int (r.2 + 1)]))] H := hP
      have hD : va_D A [(ra, .inr (1, [.int r.1, .int (r.2 + 1)]))] := hD
      refine lv_bipush (v := (-9)) hx hb dR_tryPin_29 (by decide) ?_
      exact kretI (wf := fun st => wR ra st) (st := (r.1, (r.2 + 1))) (by first | (rw [zr_tryPin, if_pos h1, if_neg h2]; done) | exact ((if_pos h1).trans (if_neg h2))) hx hb hr hlk hS hP hD hK dR_tryPin_31
  ·
    refine lv_bipush (v := (-8)) hx hb dR_tryPin_8 (by decide) ?_
    exact kretI (wf := fun st => wR ra st) (st := r) (by first | (rw [zr_tryPin, if_neg h1]; done) | exact (if_neg h1)) hx hb hr hlk hS hP hD hK dR_tryPin_10

def zr_renew (r : RS) (g1 : Int32) : RS := (g1, 0)

set_option maxHeartbeats 4000000 in
set_option maxRecDepth 100000 in
theorem kr_renew (l : Launch) (D : va_G) (cI cZ : ClassId) (ra : Nat) (r : RS) (g1 : Int32) : kV l yR_renew wsR_renew (rmOf 0 0) D (kT cI cZ) [.ref ra, .int g1] (wR ra r) (wR ra (zr_renew r g1)) := by
  intro sz
  refine kOf (Qc := fun A => kQv D (kT cI cZ) A (wR ra (zr_renew r g1))) (cc := cR_renew) (maxL := 2) (ret := none) (by decide) rfl (Nat.le_of_ble_eq_true rfl) ?_ sz
  intro p e s m args below meth c A ls hx hb hml hown hts hNw hr hlk hin hA hS hP hD hK hl
  show W p l e (rmOf 0 0) s m args below meth c s.heap [] 0 0 (MQ below (kQv D (kT cI cZ) A (wR ra (zr_renew r g1))) args s 0 0 A) (F0 m 0 ls [])
  have hts : ∀ q ∈ lw_g, q.before args s = true := fun q h => hts q (List.mem_cons_of_mem _ h)
  have hown : s.vm.findClass cnR = some m.cls := hown
  have hl : lv_has ls 2 [(0, .ref ra), (1, .int g1)] := hl
  have hP : va_P D vwCl [(ra, .inr (1, [.int r.1, .int r.2]))] s.heap := hP
  have hD : va_D A [(ra, .inr (1, [.int r.1, .int r.2]))] := hD
  refine lv_aload_n hx hb dR_renew_0 rfl (lv_at hl 0 rfl) ?_
  refine lv_iload_n hx hb dR_renew_1 rfl (lv_at hl 1 rfl) ?_
  refine va_put (D := D) (ci := 1) (v := .int g1) (ty := (.int)) (C := cnR) (T := ftR) (N := 2) hx hb hts inR tyR tyR_ok nmR hown hK hP hD hS 0 rfl rfl 0 (by decide) (hts _ mw43) (fun _ h9 => h9) rfl (by decide +kernel) rfl rfl (Nat.le_of_ble_eq_true rfl) dR_renew_2 (fun H locs hP hD hS => ?_)
  have hP : va_P D vwCl [(ra, .inr (1, [.int g1, .int r.2]))] H := hP
  have hD : va_D A [(ra, .inr (1, [.int g1, .int r.2]))] := hD
  refine lv_aload_n hx hb dR_renew_5 rfl (lv_at hl 0 rfl) ?_
  refine lv_iconst (v := 0) hx hb dR_renew_6 (by decide) ?_
  refine va_put (D := D) (ci := 1) (v := .int 0) (ty := (.int)) (C := cnR) (T := ftR) (N := 2) hx hb hts inR tyR tyR_ok nmR hown hK hP hD hS 0 rfl rfl 1 (by decide) (hts _ mw44) (fun _ h9 => h9) rfl (by decide +kernel) rfl rfl (Nat.le_of_ble_eq_true rfl) dR_renew_7 (fun H locs hP hD hS => ?_)
  have hP : va_P D vwCl [(ra, .inr (1, [.int g1, .int 0]))] H := hP
  have hD : va_D A [(ra, .inr (1, [.int g1, .int 0]))] := hD
  exact kretV (wf := fun st => wR ra st) (st := (g1, 0)) (rfl) hx hb hr hlk hS hP hD hK dR_renew_10

def zt_isOpen (x : XS) (g1 : Int32) : Int32 := (if g1 < 0 then (0 : Int32) else (if 3 ≤ g1 then (0 : Int32) else (if (x.2.2.2.2.1 &&& ((1 : Int32) <<< (g1 &&& 31))) = 0 then (0 : Int32) else (1 : Int32))))

set_option maxHeartbeats 4000000 in
set_option maxRecDepth 100000 in
theorem kt_isOpen (l : Launch) (D : va_G) (cI cZ : ClassId) (ao au af ak a1 a2 a3 a4 : Nat) (x : XS) (g1 : Int32) : kI l yT_isOpen wsT_isOpen (rmOf 0 0) D (kT cI cZ) [.ref ao, .int g1] (wX cI ao au af ak a1 a2 a3 a4 x) (zt_isOpen x g1) (wX cI ao au af ak a1 a2 a3 a4 x) := by
  intro sz
  refine kOf (Qc := fun A => kQi D (kT cI cZ) A (zt_isOpen x g1) (wX cI ao au af ak a1 a2 a3 a4 x)) (cc := cT_isOpen) (maxL := 2) (ret := some .boolean) (by decide) rfl (Nat.le_of_ble_eq_true rfl) ?_ sz
  intro p e s m args below meth c A ls hx hb hml hown hts hNw hr hlk hin hA hS hP hD hK hl
  show W p l e (rmOf 0 0) s m args below meth c s.heap [] 0 0 (MQ below (kQi D (kT cI cZ) A (zt_isOpen x g1) (wX cI ao au af ak a1 a2 a3 a4 x)) args s 0 0 A) (F0 m 0 ls [])
  have hts : ∀ q ∈ lw_g, q.before args s = true := fun q h => hts q (List.mem_cons_of_mem _ h)
  have hown : s.vm.findClass cnT = some m.cls := hown
  have hl : lv_has ls 2 [(0, .ref ao), (1, .int g1)] := hl
  have hP : va_P D vwCl [(ao, .inr (0, [.ref au, .ref af, .ref ak, .int x.2.2.1, .int x.2.2.2.1, .int x.2.2.2.2.1, .int x.2.2.2.2.2.1])), (au, .inr (1, [.int x.1.1, .int x.1.2])), (af, .inr (1, [.int x.2.1.1, .int x.2.1.2])), (ak, .inr (2, [.ref a1, .ref a2, .ref a3, .ref a4, .int (nI x.2.2.2.2.2.2.1), .int x.2.2.2.2.2.2.2.1])), (a1, .inl (cI, 10, .inl x.2.2.2.2.2.2.2.2.1)), (a2, .inl (cI, 10, .inl x.2.2.2.2.2.2.2.2.2.1)), (a3, .inl (cI, 10, .inl x.2.2.2.2.2.2.2.2.2.2.1)), (a4, .inl (cI, 10, .inl x.2.2.2.2.2.2.2.2.2.2.2))] s.heap := hP
  have hD : va_D A [(ao, .inr (0, [.ref au, .ref af, .ref ak, .int x.2.2.1, .int x.2.2.2.1, .int x.2.2.2.2.1, .int x.2.2.2.2.2.1])), (au, .inr (1, [.int x.1.1, .int x.1.2])), (af, .inr (1, [.int x.2.1.1, .int x.2.1.2])), (ak, .inr (2, [.ref a1, .ref a2, .ref a3, .ref a4, .int (nI x.2.2.2.2.2.2.1), .int x.2.2.2.2.2.2.2.1])), (a1, .inl (cI, 10, .inl x.2.2.2.2.2.2.2.2.1)), (a2, .inl (cI, 10, .inl x.2.2.2.2.2.2.2.2.2.1)), (a3, .inl (cI, 10, .inl x.2.2.2.2.2.2.2.2.2.2.1)), (a4, .inl (cI, 10, .inl x.2.2.2.2.2.2.2.2.2.2.2))] := hD
  refine lv_iload_n hx hb dT_isOpen_0 rfl (lv_at hl 1 rfl) ?_
  refine kJoin (pcJ := 25) (z := (if g1 < 0 then (0 : Int32) else (if 3 ≤ g1 then (0 : Int32) else (if (x.2.2.2.2.1 &&& ((1 : Int32) <<< (g1 &&& 31))) = 0 then (0 : Int32) else (1 : Int32))))) (ws := [(ao, .inr (0, [.ref au, .ref af, .ref ak, .int x.2.2.1, .int x.2.2.2.1, .int x.2.2.2.2.1, .int x.2.2.2.2.2.1])), (au, .inr (1, [.int x.1.1, .int x.1.2])), (af, .inr (1, [.int x.2.1.1, .int x.2.1.2])), (ak, .inr (2, [.ref a1, .ref a2, .ref a3, .ref a4, .int (nI x.2.2.2.2.2.2.1), .int x.2.2.2.2.2.2.2.1])), (a1, .inl (cI, 10, .inl x.2.2.2.2.2.2.2.2.1)), (a2, .inl (cI, 10, .inl x.2.2.2.2.2.2.2.2.2.1)), (a3, .inl (cI, 10, .inl x.2.2.2.2.2.2.2.2.2.2.1)), (a4, .inl (cI, 10, .inl x.2.2.2.2.2.2.2.2.2.2.2))]) (rest := []) (D := D) (A := A) (H0 := s.heap) (fun J25 => ?_) (fun H locs hP hD hS => ?_)
  ·
    refine lv_if_lt (tgt := 24) hx hb dT_isOpen_1 (by decide) (fun h1 => ?_) (fun h1 => ?_)
    ·
      refine lv_iconst (v := 0) hx hb dT_isOpen_24 (by decide) ?_
      exact J25 _ _ hP hD hS _ ((if_pos h1).symm)
    ·
      refine lv_iload_n hx hb dT_isOpen_4 rfl (lv_at hl 1 rfl) ?_
      refine lv_iconst (v := 3) hx hb dT_isOpen_5 (by decide) ?_
      refine lv_icmp_ge (tgt := 24) hx hb dT_isOpen_6 (by decide) (fun h2 => ?_) (fun h2 => ?_)
      ·
        refine lv_iconst (v := 0) hx hb dT_isOpen_24 (by decide) ?_
        exact J25 _ _ hP hD hS _ (((if_neg h1).trans (if_pos h2)).symm)
      ·
        refine lv_aload_n hx hb dT_isOpen_9 rfl (lv_at hl 0 rfl) ?_
        refine va_get (D := D) (ci := 0) (v := .int x.2.2.2.2.1) (C := cnT) (T := ftT) (N := 7) hx hb hts inT hown hK hP 0 rfl rfl 5 (by decide) (hts _ mw87) (fun _ h9 => h9) rfl dT_isOpen_10 ?_
        refine lv_iconst (v := 1) hx hb dT_isOpen_13 (by decide) ?_
        refine lv_iload_n hx hb dT_isOpen_14 rfl (lv_at hl 1 rfl) ?_
        refine lv_ishl hx hb dT_isOpen_15 ?_
        refine lv_iand hx hb dT_isOpen_16 ?_
        refine lv_if_eq (tgt := 24) hx hb dT_isOpen_17 (by decide) (fun h3 => ?_) (fun h3 => ?_)
        ·
          refine lv_iconst (v := 0) hx hb dT_isOpen_24 (by decide) ?_
          exact J25 _ _ hP hD hS _ (((if_neg h1).trans ((if_neg h2).trans (if_pos h3))).symm)
        ·
          refine lv_iconst (v := 1) hx hb dT_isOpen_20 (by decide) ?_
          refine lv_goto hx hb dT_isOpen_21 (tgt := 25) (by decide) ?_
          exact J25 _ _ hP hD hS _ (((if_neg h1).trans ((if_neg h2).trans (if_neg h3))).symm)
  exact kretZ (rfl) (kz_ite kz0 (kz_ite kz0 (kz_ite kz0 kz1))) hx hb hr hlk hS hP hD hK dT_isOpen_25

def zt_isReadWrite (x : XS) (g1 : Int32) : Int32 := (if (zt_isOpen x g1) = 0 then (0 : Int32) else (if (x.2.2.2.2.2.1 &&& ((1 : Int32) <<< (g1 &&& 31))) = 0 then (0 : Int32) else (1 : Int32)))

set_option maxHeartbeats 4000000 in
set_option maxRecDepth 100000 in
theorem kt_isReadWrite (l : Launch) (D : va_G) (cI cZ : ClassId) (ao au af ak a1 a2 a3 a4 : Nat) (x : XS) (g1 : Int32) : kI l yT_isReadWrite wsT_isReadWrite (rmOf 1 21) D (kT cI cZ) [.ref ao, .int g1] (wX cI ao au af ak a1 a2 a3 a4 x) (zt_isReadWrite x g1) (wX cI ao au af ak a1 a2 a3 a4 x) := by
  intro sz
  refine kOf (Qc := fun A => kQi D (kT cI cZ) A (zt_isReadWrite x g1) (wX cI ao au af ak a1 a2 a3 a4 x)) (cc := cT_isReadWrite) (maxL := 2) (ret := some .boolean) (by decide) rfl (Nat.le_of_ble_eq_true rfl) ?_ sz
  intro p e s m args below meth c A ls hx hb hml hown hts hNw hr hlk hin hA hS hP hD hK hl
  show W p l e (rmOf 1 21) s m args below meth c s.heap [] 0 0 (MQ below (kQi D (kT cI cZ) A (zt_isReadWrite x g1) (wX cI ao au af ak a1 a2 a3 a4 x)) args s 0 0 A) (F0 m 0 ls [])
  have hts : ∀ q ∈ lw_g, q.before args s = true := fun q h => hts q (List.mem_cons_of_mem _ h)
  have hown : s.vm.findClass cnT = some m.cls := hown
  have hl : lv_has ls 2 [(0, .ref ao), (1, .int g1)] := hl
  have hP : va_P D vwCl [(ao, .inr (0, [.ref au, .ref af, .ref ak, .int x.2.2.1, .int x.2.2.2.1, .int x.2.2.2.2.1, .int x.2.2.2.2.2.1])), (au, .inr (1, [.int x.1.1, .int x.1.2])), (af, .inr (1, [.int x.2.1.1, .int x.2.1.2])), (ak, .inr (2, [.ref a1, .ref a2, .ref a3, .ref a4, .int (nI x.2.2.2.2.2.2.1), .int x.2.2.2.2.2.2.2.1])), (a1, .inl (cI, 10, .inl x.2.2.2.2.2.2.2.2.1)), (a2, .inl (cI, 10, .inl x.2.2.2.2.2.2.2.2.2.1)), (a3, .inl (cI, 10, .inl x.2.2.2.2.2.2.2.2.2.2.1)), (a4, .inl (cI, 10, .inl x.2.2.2.2.2.2.2.2.2.2.2))] s.heap := hP
  have hD : va_D A [(ao, .inr (0, [.ref au, .ref af, .ref ak, .int x.2.2.1, .int x.2.2.2.1, .int x.2.2.2.2.1, .int x.2.2.2.2.2.1])), (au, .inr (1, [.int x.1.1, .int x.1.2])), (af, .inr (1, [.int x.2.1.1, .int x.2.1.2])), (ak, .inr (2, [.ref a1, .ref a2, .ref a3, .ref a4, .int (nI x.2.2.2.2.2.2.1), .int x.2.2.2.2.2.2.2.1])), (a1, .inl (cI, 10, .inl x.2.2.2.2.2.2.2.2.1)), (a2, .inl (cI, 10, .inl x.2.2.2.2.2.2.2.2.2.1)), (a3, .inl (cI, 10, .inl x.2.2.2.2.2.2.2.2.2.2.1)), (a4, .inl (cI, 10, .inl x.2.2.2.2.2.2.2.2.2.2.2))] := hD
  refine lv_aload_n hx hb dT_isReadWrite_0 rfl (lv_at hl 0 rfl) ?_
  refine lv_iload_n hx hb dT_isReadWrite_1 rfl (lv_at hl 1 rfl) ?_
  refine kcI (isR := []) (isC := [0, 1, 2, 3, 4, 5, 6, 7]) (wr := []) (w2 := [(ao, .inr (0, [.ref au, .ref af, .ref ak, .int x.2.2.1, .int x.2.2.2.1, .int x.2.2.2.2.1, .int x.2.2.2.2.2.1])), (au, .inr (1, [.int x.1.1, .int x.1.2])), (af, .inr (1, [.int x.2.1.1, .int x.2.1.2])), (ak, .inr (2, [.ref a1, .ref a2, .ref a3, .ref a4, .int (nI x.2.2.2.2.2.2.1), .int x.2.2.2.2.2.2.2.1])), (a1, .inl (cI, 10, .inl x.2.2.2.2.2.2.2.2.1)), (a2, .inl (cI, 10, .inl x.2.2.2.2.2.2.2.2.2.1)), (a3, .inl (cI, 10, .inl x.2.2.2.2.2.2.2.2.2.2.1)), (a4, .inl (cI, 10, .inl x.2.2.2.2.2.2.2.2.2.2.2))]) (va_runV (As := [.int g1]) (rest := []) ⟨hx, hb, hml, hown, hts⟩ (kt_isOpen l D cI cZ ao au af ak a1 a2 a3 a4 x g1 _) ⟨(callB_of 1 hts gd_yT_isOpen rfl rfl rfl (hts _ mw24) (hts _ mw108) (by decide +kernel) ⟨Nat.le_of_ble_eq_true rfl, Nat.le_of_ble_eq_true rfl⟩), hts _ mw110, hts _ mw0⟩ (kpreV hNw hP hD hK [0, 1, 2, 3, 4, 5, 6, 7] rfl (by decide) 0 rfl (ci := 0) rfl) rfl rfl hl.1 rfl (lv_room (Nat.le_of_ble_eq_true rfl)) dT_isReadWrite_2 ⟨Nat.le_of_ble_eq_true rfl, Nat.le_of_ble_eq_true rfl⟩) hP hD hS hA [0, 1, 2, 3, 4, 5, 6, 7] rfl rfl (by decide) (by decide) (by decide) rfl (fun H locs hP hD hS => ?_)
  refine kJoin (pcJ := 24) (z := (if (zt_isOpen x g1) = 0 then (0 : Int32) else (if (x.2.2.2.2.2.1 &&& ((1 : Int32) <<< (g1 &&& 31))) = 0 then (0 : Int32) else (1 : Int32)))) (ws := [(ao, .inr (0, [.ref au, .ref af, .ref ak, .int x.2.2.1, .int x.2.2.2.1, .int x.2.2.2.2.1, .int x.2.2.2.2.2.1])), (au, .inr (1, [.int x.1.1, .int x.1.2])), (af, .inr (1, [.int x.2.1.1, .int x.2.1.2])), (ak, .inr (2, [.ref a1, .ref a2, .ref a3, .ref a4, .int (nI x.2.2.2.2.2.2.1), .int x.2.2.2.2.2.2.2.1])), (a1, .inl (cI, 10, .inl x.2.2.2.2.2.2.2.2.1)), (a2, .inl (cI, 10, .inl x.2.2.2.2.2.2.2.2.2.1)), (a3, .inl (cI, 10, .inl x.2.2.2.2.2.2.2.2.2.2.1)), (a4, .inl (cI, 10, .inl x.2.2.2.2.2.2.2.2.2.2.2))]) (rest := []) (D := D) (A := A) (H0 := s.heap) (fun J24 => ?_) (fun H locs hP hD hS => ?_)
  ·
    refine lv_if_eq (tgt := 23) hx hb dT_isReadWrite_5 (by decide) (fun h1 => ?_) (fun h1 => ?_)
    ·
      refine lv_iconst (v := 0) hx hb dT_isReadWrite_23 (by decide) ?_
      exact J24 _ _ hP hD hS _ ((if_pos h1).symm)
    ·
      refine lv_aload_n hx hb dT_isReadWrite_8 rfl (lv_at hl 0 rfl) ?_
      refine va_get (D := D) (ci := 0) (v := .int x.2.2.2.2.2.1) (C := cnT) (T := ftT) (N := 7) hx hb hts inT hown hK hP 0 rfl rfl 6 (by decide) (hts _ mw88) (fun _ h9 => h9) rfl dT_isReadWrite_9 ?_
      refine lv_iconst (v := 1) hx hb dT_isReadWrite_12 (by decide) ?_
      refine lv_iload_n hx hb dT_isReadWrite_13 rfl (lv_at hl 1 rfl) ?_
      refine lv_ishl hx hb dT_isReadWrite_14 ?_
      refine lv_iand hx hb dT_isReadWrite_15 ?_
      refine lv_if_eq (tgt := 23) hx hb dT_isReadWrite_16 (by decide) (fun h2 => ?_) (fun h2 => ?_)
      ·
        refine lv_iconst (v := 0) hx hb dT_isReadWrite_23 (by decide) ?_
        exact J24 _ _ hP hD hS _ (((if_neg h1).trans (if_pos h2)).symm)
      ·
        refine lv_iconst (v := 1) hx hb dT_isReadWrite_19 (by decide) ?_
        refine lv_goto hx hb dT_isReadWrite_20 (tgt := 24) (by decide) ?_
        exact J24 _ _ hP hD hS _ (((if_neg h1).trans (if_neg h2)).symm)
  exact kretZ (rfl) (kz_ite kz0 (kz_ite kz0 kz1)) hx hb hr hlk hS hP hD hK dT_isReadWrite_24

def zt_isVisible (x : XS) (g1 : Int32) : Int32 := (if x.2.2.1 = 1 then (1 : Int32) else (if (zk_has x.2.2.2.2.2.2 g1 2) = 0 then (1 : Int32) else (0 : Int32)))

set_option maxHeartbeats 4000000 in
set_option maxRecDepth 100000 in
theorem kt_isVisible (l : Launch) (D : va_G) (cI cZ : ClassId) (ao au af ak a1 a2 a3 a4 : Nat) (x : XS) (g1 : Int32) (hn : x.2.2.2.2.2.2.1 ≤ 10) : kI l yT_isVisible wsT_isVisible (rmOf 1 22) D (kT cI cZ) [.ref ao, .int g1] (wX cI ao au af ak a1 a2 a3 a4 x) (zt_isVisible x g1) (wX cI ao au af ak a1 a2 a3 a4 x) := by
  intro sz
  refine kOf (Qc := fun A => kQi D (kT cI cZ) A (zt_isVisible x g1) (wX cI ao au af ak a1 a2 a3 a4 x)) (cc := cT_isVisible) (maxL := 2) (ret := some .boolean) (by decide) rfl (Nat.le_of_ble_eq_true rfl) ?_ sz
  intro p e s m args below meth c A ls hx hb hml hown hts hNw hr hlk hin hA hS hP hD hK hl
  show W p l e (rmOf 1 22) s m args below meth c s.heap [] 0 0 (MQ below (kQi D (kT cI cZ) A (zt_isVisible x g1) (wX cI ao au af ak a1 a2 a3 a4 x)) args s 0 0 A) (F0 m 0 ls [])
  have hts : ∀ q ∈ lw_g, q.before args s = true := fun q h => hts q (List.mem_cons_of_mem _ h)
  have hown : s.vm.findClass cnT = some m.cls := hown
  have hl : lv_has ls 2 [(0, .ref ao), (1, .int g1)] := hl
  have hP : va_P D vwCl [(ao, .inr (0, [.ref au, .ref af, .ref ak, .int x.2.2.1, .int x.2.2.2.1, .int x.2.2.2.2.1, .int x.2.2.2.2.2.1])), (au, .inr (1, [.int x.1.1, .int x.1.2])), (af, .inr (1, [.int x.2.1.1, .int x.2.1.2])), (ak, .inr (2, [.ref a1, .ref a2, .ref a3, .ref a4, .int (nI x.2.2.2.2.2.2.1), .int x.2.2.2.2.2.2.2.1])), (a1, .inl (cI, 10, .inl x.2.2.2.2.2.2.2.2.1)), (a2, .inl (cI, 10, .inl x.2.2.2.2.2.2.2.2.2.1)), (a3, .inl (cI, 10, .inl x.2.2.2.2.2.2.2.2.2.2.1)), (a4, .inl (cI, 10, .inl x.2.2.2.2.2.2.2.2.2.2.2))] s.heap := hP
  have hD : va_D A [(ao, .inr (0, [.ref au, .ref af, .ref ak, .int x.2.2.1, .int x.2.2.2.1, .int x.2.2.2.2.1, .int x.2.2.2.2.2.1])), (au, .inr (1, [.int x.1.1, .int x.1.2])), (af, .inr (1, [.int x.2.1.1, .int x.2.1.2])), (ak, .inr (2, [.ref a1, .ref a2, .ref a3, .ref a4, .int (nI x.2.2.2.2.2.2.1), .int x.2.2.2.2.2.2.2.1])), (a1, .inl (cI, 10, .inl x.2.2.2.2.2.2.2.2.1)), (a2, .inl (cI, 10, .inl x.2.2.2.2.2.2.2.2.2.1)), (a3, .inl (cI, 10, .inl x.2.2.2.2.2.2.2.2.2.2.1)), (a4, .inl (cI, 10, .inl x.2.2.2.2.2.2.2.2.2.2.2))] := hD
  refine lv_aload_n hx hb dT_isVisible_0 rfl (lv_at hl 0 rfl) ?_
  refine va_get (D := D) (ci := 0) (v := .int x.2.2.1) (C := cnT) (T := ftT) (N := 7) hx hb hts inT hown hK hP 0 rfl rfl 3 (by decide) (hts _ mw85) (fun _ h9 => h9) rfl dT_isVisible_1 ?_
  refine lv_iconst (v := 1) hx hb dT_isVisible_4 (by decide) ?_
  refine kJoin (pcJ := 25) (z := (if x.2.2.1 = 1 then (1 : Int32) else (if (zk_has x.2.2.2.2.2.2 g1 2) = 0 then (1 : Int32) else (0 : Int32)))) (ws := [(ao, .inr (0, [.ref au, .ref af, .ref ak, .int x.2.2.1, .int x.2.2.2.1, .int x.2.2.2.2.1, .int x.2.2.2.2.2.1])), (au, .inr (1, [.int x.1.1, .int x.1.2])), (af, .inr (1, [.int x.2.1.1, .int x.2.1.2])), (ak, .inr (2, [.ref a1, .ref a2, .ref a3, .ref a4, .int (nI x.2.2.2.2.2.2.1), .int x.2.2.2.2.2.2.2.1])), (a1, .inl (cI, 10, .inl x.2.2.2.2.2.2.2.2.1)), (a2, .inl (cI, 10, .inl x.2.2.2.2.2.2.2.2.2.1)), (a3, .inl (cI, 10, .inl x.2.2.2.2.2.2.2.2.2.2.1)), (a4, .inl (cI, 10, .inl x.2.2.2.2.2.2.2.2.2.2.2))]) (rest := []) (D := D) (A := A) (H0 := s.heap) (fun J25 => ?_) (fun H locs hP hD hS => ?_)
  ·
    refine lv_icmp_eq (tgt := 20) hx hb dT_isVisible_5 (by decide) (fun h1 => ?_) (fun h1 => ?_)
    ·
      refine lv_iconst (v := 1) hx hb dT_isVisible_20 (by decide) ?_
      refine lv_goto hx hb dT_isVisible_21 (tgt := 25) (by decide) ?_
      exact J25 _ _ hP hD hS _ ((if_pos h1).symm)
    ·
      refine lv_aload_n hx hb dT_isVisible_8 rfl (lv_at hl 0 rfl) ?_
      refine va_get (D := D) (ci := 0) (v := .ref ak) (C := cnT) (T := ftT) (N := 7) hx hb hts inT hown hK hP 0 rfl rfl 2 (by decide) (hts _ mw84) (fun _ h9 => h9) rfl dT_isVisible_9 ?_
      refine lv_iload_n hx hb dT_isVisible_12 rfl (lv_at hl 1 rfl) ?_
      refine lv_iconst (v := 2) hx hb dT_isVisible_13 (by decide) ?_
      refine kcI (isR := [0, 1, 2]) (isC := [3, 4, 5, 6, 7]) (wr := [(ao, .inr (0, [.ref au, .ref af, .ref ak, .int x.2.2.1, .int x.2.2.2.1, .int x.2.2.2.2.1, .int x.2.2.2.2.2.1])), (au, .inr (1, [.int x.1.1, .int x.1.2])), (af, .inr (1, [.int x.2.1.1, .int x.2.1.2]))]) (w2 := [(ao, .inr (0, [.ref au, .ref af, .ref ak, .int x.2.2.1, .int x.2.2.2.1, .int x.2.2.2.2.1, .int x.2.2.2.2.2.1])), (au, .inr (1, [.int x.1.1, .int x.1.2])), (af, .inr (1, [.int x.2.1.1, .int x.2.1.2])), (ak, .inr (2, [.ref a1, .ref a2, .ref a3, .ref a4, .int (nI x.2.2.2.2.2.2.1), .int x.2.2.2.2.2.2.2.1])), (a1, .inl (cI, 10, .inl x.2.2.2.2.2.2.2.2.1)), (a2, .inl (cI, 10, .inl x.2.2.2.2.2.2.2.2.2.1)), (a3, .inl (cI, 10, .inl x.2.2.2.2.2.2.2.2.2.2.1)), (a4, .inl (cI, 10, .inl x.2.2.2.2.2.2.2.2.2.2.2))]) (va_runVN (As := [.int g1, .int 2]) (rest := []) ⟨hx, hb, hml, hown, hts⟩ (kk_has l D cI cZ ak a1 a2 a3 a4 x.2.2.2.2.2.2 g1 2 (hn) _) ⟨(va_cnB 2 hts gd_yK_has rfl rfl rfl (hNw _ mw205) (hts _ mw26) (by decide +kernel) ⟨Nat.le_of_ble_eq_true rfl, Nat.le_of_ble_eq_true rfl⟩), hts _ mw142, hts _ mw5⟩ (kpreV hNw hP hD hK [3, 4, 5, 6, 7] rfl (by decide) 3 rfl (ci := 2) rfl) rfl rfl hl.1 rfl (lv_room (Nat.le_of_ble_eq_true rfl)) dT_isVisible_14 ⟨Nat.le_of_ble_eq_true rfl, Nat.le_of_ble_eq_true rfl⟩) hP hD hS hA [0, 1, 2, 3, 4, 5, 6, 7] rfl rfl (by decide) (by decide) (by decide) rfl (fun H locs hP hD hS => ?_)
      refine lv_if_ne (tgt := 24) hx hb dT_isVisible_17 (by decide) (fun h2 => ?_) (fun h2 => ?_)
      ·
        refine lv_iconst (v := 0) hx hb dT_isVisible_24 (by decide) ?_
        exact J25 _ _ hP hD hS _ (((if_neg h1).trans (if_neg h2)).symm)
      ·
        refine lv_iconst (v := 1) hx hb dT_isVisible_20 (by decide) ?_
        refine lv_goto hx hb dT_isVisible_21 (tgt := 25) (by decide) ?_
        exact J25 _ _ hP hD hS _ (((if_neg h1).trans (if_pos h2)).symm)
  exact kretZ (rfl) (kz_ite kz1 (kz_ite kz1 kz0)) hx hb hr hlk hS hP hD hK dT_isVisible_25

def zt_isFixedFor (x : XS) (g1 : Int32) (g2 : Int32) : Int32 := (if (zk_has x.2.2.2.2.2.2 g2 1) = 0 then (0 : Int32) else (if (zt_isReadWrite x g1) = 0 then (1 : Int32) else (0 : Int32)))

set_option maxHeartbeats 4000000 in
set_option maxRecDepth 100000 in
theorem kt_isFixedFor (l : Launch) (D : va_G) (cI cZ : ClassId) (ao au af ak a1 a2 a3 a4 : Nat) (x : XS) (g1 : Int32) (g2 : Int32) (hn : x.2.2.2.2.2.2.1 ≤ 10) : kI l yT_isFixedFor wsT_isFixedFor (rmOf 2 42) D (kT cI cZ) [.ref ao, .int g1, .int g2] (wX cI ao au af ak a1 a2 a3 a4 x) (zt_isFixedFor x g1 g2) (wX cI ao au af ak a1 a2 a3 a4 x) := by
  intro sz
  refine kOf (Qc := fun A => kQi D (kT cI cZ) A (zt_isFixedFor x g1 g2) (wX cI ao au af ak a1 a2 a3 a4 x)) (cc := cT_isFixedFor) (maxL := 3) (ret := some .boolean) (by decide) rfl (Nat.le_of_ble_eq_true rfl) ?_ sz
  intro p e s m args below meth c A ls hx hb hml hown hts hNw hr hlk hin hA hS hP hD hK hl
  show W p l e (rmOf 2 42) s m args below meth c s.heap [] 0 0 (MQ below (kQi D (kT cI cZ) A (zt_isFixedFor x g1 g2) (wX cI ao au af ak a1 a2 a3 a4 x)) args s 0 0 A) (F0 m 0 ls [])
  have hts : ∀ q ∈ lw_g, q.before args s = true := fun q h => hts q (List.mem_cons_of_mem _ h)
  have hown : s.vm.findClass cnT = some m.cls := hown
  have hl : lv_has ls 3 [(0, .ref ao), (1, .int g1), (2, .int g2)] := hl
  have hP : va_P D vwCl [(ao, .inr (0, [.ref au, .ref af, .ref ak, .int x.2.2.1, .int x.2.2.2.1, .int x.2.2.2.2.1, .int x.2.2.2.2.2.1])), (au, .inr (1, [.int x.1.1, .int x.1.2])), (af, .inr (1, [.int x.2.1.1, .int x.2.1.2])), (ak, .inr (2, [.ref a1, .ref a2, .ref a3, .ref a4, .int (nI x.2.2.2.2.2.2.1), .int x.2.2.2.2.2.2.2.1])), (a1, .inl (cI, 10, .inl x.2.2.2.2.2.2.2.2.1)), (a2, .inl (cI, 10, .inl x.2.2.2.2.2.2.2.2.2.1)), (a3, .inl (cI, 10, .inl x.2.2.2.2.2.2.2.2.2.2.1)), (a4, .inl (cI, 10, .inl x.2.2.2.2.2.2.2.2.2.2.2))] s.heap := hP
  have hD : va_D A [(ao, .inr (0, [.ref au, .ref af, .ref ak, .int x.2.2.1, .int x.2.2.2.1, .int x.2.2.2.2.1, .int x.2.2.2.2.2.1])), (au, .inr (1, [.int x.1.1, .int x.1.2])), (af, .inr (1, [.int x.2.1.1, .int x.2.1.2])), (ak, .inr (2, [.ref a1, .ref a2, .ref a3, .ref a4, .int (nI x.2.2.2.2.2.2.1), .int x.2.2.2.2.2.2.2.1])), (a1, .inl (cI, 10, .inl x.2.2.2.2.2.2.2.2.1)), (a2, .inl (cI, 10, .inl x.2.2.2.2.2.2.2.2.2.1)), (a3, .inl (cI, 10, .inl x.2.2.2.2.2.2.2.2.2.2.1)), (a4, .inl (cI, 10, .inl x.2.2.2.2.2.2.2.2.2.2.2))] := hD
  refine lv_aload_n hx hb dT_isFixedFor_0 rfl (lv_at hl 0 rfl) ?_
  refine va_get (D := D) (ci := 0) (v := .ref ak) (C := cnT) (T := ftT) (N := 7) hx hb hts inT hown hK hP 0 rfl rfl 2 (by decide) (hts _ mw84) (fun _ h9 => h9) rfl dT_isFixedFor_1 ?_
  refine lv_iload_n hx hb dT_isFixedFor_4 rfl (lv_at hl 2 rfl) ?_
  refine lv_iconst (v := 1) hx hb dT_isFixedFor_5 (by decide) ?_
  refine kcI (isR := [0, 1, 2]) (isC := [3, 4, 5, 6, 7]) (wr := [(ao, .inr (0, [.ref au, .ref af, .ref ak, .int x.2.2.1, .int x.2.2.2.1, .int x.2.2.2.2.1, .int x.2.2.2.2.2.1])), (au, .inr (1, [.int x.1.1, .int x.1.2])), (af, .inr (1, [.int x.2.1.1, .int x.2.1.2]))]) (w2 := [(ao, .inr (0, [.ref au, .ref af, .ref ak, .int x.2.2.1, .int x.2.2.2.1, .int x.2.2.2.2.1, .int x.2.2.2.2.2.1])), (au, .inr (1, [.int x.1.1, .int x.1.2])), (af, .inr (1, [.int x.2.1.1, .int x.2.1.2])), (ak, .inr (2, [.ref a1, .ref a2, .ref a3, .ref a4, .int (nI x.2.2.2.2.2.2.1), .int x.2.2.2.2.2.2.2.1])), (a1, .inl (cI, 10, .inl x.2.2.2.2.2.2.2.2.1)), (a2, .inl (cI, 10, .inl x.2.2.2.2.2.2.2.2.2.1)), (a3, .inl (cI, 10, .inl x.2.2.2.2.2.2.2.2.2.2.1)), (a4, .inl (cI, 10, .inl x.2.2.2.2.2.2.2.2.2.2.2))]) (va_runVN (As := [.int g2, .int 1]) (rest := []) ⟨hx, hb, hml, hown, hts⟩ (kk_has l D cI cZ ak a1 a2 a3 a4 x.2.2.2.2.2.2 g2 1 (hn) _) ⟨(va_cnB 2 hts gd_yK_has rfl rfl rfl (hNw _ mw205) (hts _ mw26) (by decide +kernel) ⟨Nat.le_of_ble_eq_true rfl, Nat.le_of_ble_eq_true rfl⟩), hts _ mw142, hts _ mw5⟩ (kpreV hNw hP hD hK [3, 4, 5, 6, 7] rfl (by decide) 3 rfl (ci := 2) rfl) rfl rfl hl.1 rfl (lv_room (Nat.le_of_ble_eq_true rfl)) dT_isFixedFor_6 ⟨Nat.le_of_ble_eq_true rfl, Nat.le_of_ble_eq_true rfl⟩) hP hD hS hA [0, 1, 2, 3, 4, 5, 6, 7] rfl rfl (by decide) (by decide) (by decide) rfl (fun H locs hP hD hS => ?_)
  refine kJoin (pcJ := 25) (z := (if (zk_has x.2.2.2.2.2.2 g2 1) = 0 then (0 : Int32) else (if (zt_isReadWrite x g1) = 0 then (1 : Int32) else (0 : Int32)))) (ws := [(ao, .inr (0, [.ref au, .ref af, .ref ak, .int x.2.2.1, .int x.2.2.2.1, .int x.2.2.2.2.1, .int x.2.2.2.2.2.1])), (au, .inr (1, [.int x.1.1, .int x.1.2])), (af, .inr (1, [.int x.2.1.1, .int x.2.1.2])), (ak, .inr (2, [.ref a1, .ref a2, .ref a3, .ref a4, .int (nI x.2.2.2.2.2.2.1), .int x.2.2.2.2.2.2.2.1])), (a1, .inl (cI, 10, .inl x.2.2.2.2.2.2.2.2.1)), (a2, .inl (cI, 10, .inl x.2.2.2.2.2.2.2.2.2.1)), (a3, .inl (cI, 10, .inl x.2.2.2.2.2.2.2.2.2.2.1)), (a4, .inl (cI, 10, .inl x.2.2.2.2.2.2.2.2.2.2.2))]) (rest := []) (D := D) (A := A) (H0 := s.heap) (fun J25 => ?_) (fun H locs hP hD hS => ?_)
  ·
    refine lv_if_eq (tgt := 24) hx hb dT_isFixedFor_9 (by decide) (fun h1 => ?_) (fun h1 => ?_)
    ·
      refine lv_iconst (v := 0) hx hb dT_isFixedFor_24 (by decide) ?_
      exact J25 _ _ hP hD hS _ ((if_pos h1).symm)
    ·
      refine lv_aload_n hx hb dT_isFixedFor_12 rfl (lv_at hl 0 rfl) ?_
      refine lv_iload_n hx hb dT_isFixedFor_13 rfl (lv_at hl 1 rfl) ?_
      refine kcI (isR := []) (isC := [0, 1, 2, 3, 4, 5, 6, 7]) (wr := []) (w2 := [(ao, .inr (0, [.ref au, .ref af, .ref ak, .int x.2.2.1, .int x.2.2.2.1, .int x.2.2.2.2.1, .int x.2.2.2.2.2.1])), (au, .inr (1, [.int x.1.1, .int x.1.2])), (af, .inr (1, [.int x.2.1.1, .int x.2.1.2])), (ak, .inr (2, [.ref a1, .ref a2, .ref a3, .ref a4, .int (nI x.2.2.2.2.2.2.1), .int x.2.2.2.2.2.2.2.1])), (a1, .inl (cI, 10, .inl x.2.2.2.2.2.2.2.2.1)), (a2, .inl (cI, 10, .inl x.2.2.2.2.2.2.2.2.2.1)), (a3, .inl (cI, 10, .inl x.2.2.2.2.2.2.2.2.2.2.1)), (a4, .inl (cI, 10, .inl x.2.2.2.2.2.2.2.2.2.2.2))]) (va_runV (As := [.int g1]) (rest := []) ⟨hx, hb, hml, hown, hts⟩ (kt_isReadWrite l D cI cZ ao au af ak a1 a2 a3 a4 x g1 _) ⟨(callB_of 1 hts gd_yT_isReadWrite rfl rfl rfl (hts _ mw24) (hts _ mw160) (by decide +kernel) ⟨Nat.le_of_ble_eq_true rfl, Nat.le_of_ble_eq_true rfl⟩), hts _ mw162, hts _ mw8⟩ (kpreV hNw hP hD hK [0, 1, 2, 3, 4, 5, 6, 7] rfl (by decide) 0 rfl (ci := 0) rfl) rfl rfl hl.1 rfl (lv_room (Nat.le_of_ble_eq_true rfl)) dT_isFixedFor_14 ⟨Nat.le_of_ble_eq_true rfl, Nat.le_of_ble_eq_true rfl⟩) hP hD hS hA [0, 1, 2, 3, 4, 5, 6, 7] rfl rfl (by decide) (by decide) (by decide) rfl (fun H locs hP hD hS => ?_)
      refine lv_if_ne (tgt := 24) hx hb dT_isFixedFor_17 (by decide) (fun h2 => ?_) (fun h2 => ?_)
      ·
        refine lv_iconst (v := 0) hx hb dT_isFixedFor_24 (by decide) ?_
        exact J25 _ _ hP hD hS _ (((if_neg h1).trans (if_neg h2)).symm)
      ·
        refine lv_iconst (v := 1) hx hb dT_isFixedFor_20 (by decide) ?_
        refine lv_goto hx hb dT_isFixedFor_21 (tgt := 25) (by decide) ?_
        exact J25 _ _ hP hD hS _ (((if_neg h1).trans (if_pos h2)).symm)
  exact kretZ (rfl) (kz_ite kz0 (kz_ite kz1 kz0)) hx hb hr hlk hS hP hD hK dT_isFixedFor_25

def zt_row (x : XS) (g1 : Int32) (g2 : Int32) : Int32 := (if (zt_isOpen x g1) = 0 then (-1) else (if (zk_rowWith x.2.2.2.2.2.2 g2) < 0 then ((-2) : Int32) else (if (zt_isVisible x (zk_rowWith x.2.2.2.2.2.2 g2)) = 0 then ((-2) : Int32) else (zk_rowWith x.2.2.2.2.2.2 g2))))

set_option maxHeartbeats 4000000 in
set_option maxRecDepth 100000 in
theorem kt_row (l : Launch) (D : va_G) (cI cZ : ClassId) (ao au af ak a1 a2 a3 a4 : Nat) (x : XS) (g1 : Int32) (g2 : Int32) (hn : x.2.2.2.2.2.2.1 ≤ 10) : kI l yT_rowOrRefusal wsT_rowOrRefusal (rmOf 2 43) D (kT cI cZ) [.ref ao, .int g1, .int g2] (wX cI ao au af ak a1 a2 a3 a4 x) (zt_row x g1 g2) (wX cI ao au af ak a1 a2 a3 a4 x) := by
  intro sz
  refine kOf (Qc := fun A => kQi D (kT cI cZ) A (zt_row x g1 g2) (wX cI ao au af ak a1 a2 a3 a4 x)) (cc := cT_rowOrRefusal) (maxL := 4) (ret := some .int) (by decide) rfl (Nat.le_of_ble_eq_true rfl) ?_ sz
  intro p e s m args below meth c A ls hx hb hml hown hts hNw hr hlk hin hA hS hP hD hK hl
  show W p l e (rmOf 2 43) s m args below meth c s.heap [] 0 0 (MQ below (kQi D (kT cI cZ) A (zt_row x g1 g2) (wX cI ao au af ak a1 a2 a3 a4 x)) args s 0 0 A) (F0 m 0 ls [])
  have hts : ∀ q ∈ lw_g, q.before args s = true := fun q h => hts q (List.mem_cons_of_mem _ h)
  have hown : s.vm.findClass cnT = some m.cls := hown
  have hl : lv_has ls 4 [(0, .ref ao), (1, .int g1), (2, .int g2)] := hl
  have hP : va_P D vwCl [(ao, .inr (0, [.ref au, .ref af, .ref ak, .int x.2.2.1, .int x.2.2.2.1, .int x.2.2.2.2.1, .int x.2.2.2.2.2.1])), (au, .inr (1, [.int x.1.1, .int x.1.2])), (af, .inr (1, [.int x.2.1.1, .int x.2.1.2])), (ak, .inr (2, [.ref a1, .ref a2, .ref a3, .ref a4, .int (nI x.2.2.2.2.2.2.1), .int x.2.2.2.2.2.2.2.1])), (a1, .inl (cI, 10, .inl x.2.2.2.2.2.2.2.2.1)), (a2, .inl (cI, 10, .inl x.2.2.2.2.2.2.2.2.2.1)), (a3, .inl (cI, 10, .inl x.2.2.2.2.2.2.2.2.2.2.1)), (a4, .inl (cI, 10, .inl x.2.2.2.2.2.2.2.2.2.2.2))] s.heap := hP
  have hD : va_D A [(ao, .inr (0, [.ref au, .ref af, .ref ak, .int x.2.2.1, .int x.2.2.2.1, .int x.2.2.2.2.1, .int x.2.2.2.2.2.1])), (au, .inr (1, [.int x.1.1, .int x.1.2])), (af, .inr (1, [.int x.2.1.1, .int x.2.1.2])), (ak, .inr (2, [.ref a1, .ref a2, .ref a3, .ref a4, .int (nI x.2.2.2.2.2.2.1), .int x.2.2.2.2.2.2.2.1])), (a1, .inl (cI, 10, .inl x.2.2.2.2.2.2.2.2.1)), (a2, .inl (cI, 10, .inl x.2.2.2.2.2.2.2.2.2.1)), (a3, .inl (cI, 10, .inl x.2.2.2.2.2.2.2.2.2.2.1)), (a4, .inl (cI, 10, .inl x.2.2.2.2.2.2.2.2.2.2.2))] := hD
  refine lv_aload_n hx hb dT_rowOrRefusal_0 rfl (lv_at hl 0 rfl) ?_
  refine lv_iload_n hx hb dT_rowOrRefusal_1 rfl (lv_at hl 1 rfl) ?_
  refine kcI (isR := []) (isC := [0, 1, 2, 3, 4, 5, 6, 7]) (wr := []) (w2 := [(ao, .inr (0, [.ref au, .ref af, .ref ak, .int x.2.2.1, .int x.2.2.2.1, .int x.2.2.2.2.1, .int x.2.2.2.2.2.1])), (au, .inr (1, [.int x.1.1, .int x.1.2])), (af, .inr (1, [.int x.2.1.1, .int x.2.1.2])), (ak, .inr (2, [.ref a1, .ref a2, .ref a3, .ref a4, .int (nI x.2.2.2.2.2.2.1), .int x.2.2.2.2.2.2.2.1])), (a1, .inl (cI, 10, .inl x.2.2.2.2.2.2.2.2.1)), (a2, .inl (cI, 10, .inl x.2.2.2.2.2.2.2.2.2.1)), (a3, .inl (cI, 10, .inl x.2.2.2.2.2.2.2.2.2.2.1)), (a4, .inl (cI, 10, .inl x.2.2.2.2.2.2.2.2.2.2.2))]) (va_runV (As := [.int g1]) (rest := []) ⟨hx, hb, hml, hown, hts⟩ (kt_isOpen l D cI cZ ao au af ak a1 a2 a3 a4 x g1 _) ⟨(callB_of 1 hts gd_yT_isOpen rfl rfl rfl (hts _ mw24) (hts _ mw108) (by decide +kernel) ⟨Nat.le_of_ble_eq_true rfl, Nat.le_of_ble_eq_true rfl⟩), hts _ mw110, hts _ mw0⟩ (kpreV hNw hP hD hK [0, 1, 2, 3, 4, 5, 6, 7] rfl (by decide) 0 rfl (ci := 0) rfl) rfl rfl hl.1 rfl (lv_room (Nat.le_of_ble_eq_true rfl)) dT_rowOrRefusal_2 ⟨Nat.le_of_ble_eq_true rfl, Nat.le_of_ble_eq_true rfl⟩) hP hD hS hA [0, 1, 2, 3, 4, 5, 6, 7] rfl rfl (by decide) (by decide) (by decide) rfl (fun H locs hP hD hS => ?_)
  refine lv_if_ne (tgt := 10) hx hb dT_rowOrRefusal_5 (by decide) (fun h1 => ?_) (fun h1 => ?_)
  ·
    refine lv_aload_n hx hb dT_rowOrRefusal_10 rfl (lv_at hl 0 rfl) ?_
    refine va_get (D := D) (ci := 0) (v := .ref ak) (C := cnT) (T := ftT) (N := 7) hx hb hts inT hown hK hP 0 rfl rfl 2 (by decide) (hts _ mw84) (fun _ h9 => h9) rfl dT_rowOrRefusal_11 ?_
    refine lv_iload_n hx hb dT_rowOrRefusal_14 rfl (lv_at hl 2 rfl) ?_
    refine kcI (isR := [0, 1, 2]) (isC := [3, 4, 5, 6, 7]) (wr := [(ao, .inr (0, [.ref au, .ref af, .ref ak, .int x.2.2.1, .int x.2.2.2.1, .int x.2.2.2.2.1, .int x.2.2.2.2.2.1])), (au, .inr (1, [.int x.1.1, .int x.1.2])), (af, .inr (1, [.int x.2.1.1, .int x.2.1.2]))]) (w2 := [(ao, .inr (0, [.ref au, .ref af, .ref ak, .int x.2.2.1, .int x.2.2.2.1, .int x.2.2.2.2.1, .int x.2.2.2.2.2.1])), (au, .inr (1, [.int x.1.1, .int x.1.2])), (af, .inr (1, [.int x.2.1.1, .int x.2.1.2])), (ak, .inr (2, [.ref a1, .ref a2, .ref a3, .ref a4, .int (nI x.2.2.2.2.2.2.1), .int x.2.2.2.2.2.2.2.1])), (a1, .inl (cI, 10, .inl x.2.2.2.2.2.2.2.2.1)), (a2, .inl (cI, 10, .inl x.2.2.2.2.2.2.2.2.2.1)), (a3, .inl (cI, 10, .inl x.2.2.2.2.2.2.2.2.2.2.1)), (a4, .inl (cI, 10, .inl x.2.2.2.2.2.2.2.2.2.2.2))]) (va_runVN (As := [.int g2]) (rest := []) ⟨hx, hb, hml, hown, hts⟩ (kk_rowWith l D cI cZ ak a1 a2 a3 a4 x.2.2.2.2.2.2 g2 (hn) _) ⟨(va_cnB 1 hts gd_yK_rowWith rfl rfl rfl (hNw _ mw197) (hts _ mw26) (by decide +kernel) ⟨Nat.le_of_ble_eq_true rfl, Nat.le_of_ble_eq_true rfl⟩), hts _ mw199, hts _ mw11⟩ (kpreV hNw hP hD hK [3, 4, 5, 6, 7] rfl (by decide) 3 rfl (ci := 2) rfl) rfl rfl hl.1 rfl (lv_room (Nat.le_of_ble_eq_true rfl)) dT_rowOrRefusal_15 ⟨Nat.le_of_ble_eq_true rfl, Nat.le_of_ble_eq_true rfl⟩) hP hD hS hA [0, 1, 2, 3, 4, 5, 6, 7] rfl rfl (by decide) (by decide) (by decide) rfl (fun H locs hP hD hS => ?_)
    refine lv_istore_n hx hb dT_rowOrRefusal_18 rfl hl (by decide) rfl (fun ls hl => ?_)
    have hl : lv_has ls 4 [(3, .int (zk_rowWith x.2.2.2.2.2.2 g2)), (0, .ref ao), (1, .int g1), (2, .int g2)] := hl
    refine lv_iload_n hx hb dT_rowOrRefusal_19 rfl (lv_at hl 0 rfl) ?_
    refine kJoin (pcJ := 37) (z := (if (zk_rowWith x.2.2.2.2.2.2 g2) < 0 then ((-2) : Int32) else (if (zt_isVisible x (zk_rowWith x.2.2.2.2.2.2 g2)) = 0 then ((-2) : Int32) else (zk_rowWith x.2.2.2.2.2.2 g2)))) (ws := [(ao, .inr (0, [.ref au, .ref af, .ref ak, .int x.2.2.1, .int x.2.2.2.1, .int x.2.2.2.2.1, .int x.2.2.2.2.2.1])), (au, .inr (1, [.int x.1.1, .int x.1.2])), (af, .inr (1, [.int x.2.1.1, .int x.2.1.2])), (ak, .inr (2, [.ref a1, .ref a2, .ref a3, .ref a4, .int (nI x.2.2.2.2.2.2.1), .int x.2.2.2.2.2.2.2.1])), (a1, .inl (cI, 10, .inl x.2.2.2.2.2.2.2.2.1)), (a2, .inl (cI, 10, .inl x.2.2.2.2.2.2.2.2.2.1)), (a3, .inl (cI, 10, .inl x.2.2.2.2.2.2.2.2.2.2.1)), (a4, .inl (cI, 10, .inl x.2.2.2.2.2.2.2.2.2.2.2))]) (rest := []) (D := D) (A := A) (H0 := s.heap) (fun J37 => ?_) (fun H locs hP hD hS => ?_)
    ·
      refine lv_if_lt (tgt := 35) hx hb dT_rowOrRefusal_20 (by decide) (fun h2 => ?_) (fun h2 => ?_)
      ·
        refine lv_bipush (v := (-2)) hx hb dT_rowOrRefusal_35 (by decide) ?_
        exact J37 _ _ hP hD hS _ ((if_pos h2).symm)
      ·
        refine lv_aload_n hx hb dT_rowOrRefusal_23 rfl (lv_at hl 1 rfl) ?_
        refine lv_iload_n hx hb dT_rowOrRefusal_24 rfl (lv_at hl 0 rfl) ?_
        refine kcI (isR := []) (isC := [0, 1, 2, 3, 4, 5, 6, 7]) (wr := []) (w2 := [(ao, .inr (0, [.ref au, .ref af, .ref ak, .int x.2.2.1, .int x.2.2.2.1, .int x.2.2.2.2.1, .int x.2.2.2.2.2.1])), (au, .inr (1, [.int x.1.1, .int x.1.2])), (af, .inr (1, [.int x.2.1.1, .int x.2.1.2])), (ak, .inr (2, [.ref a1, .ref a2, .ref a3, .ref a4, .int (nI x.2.2.2.2.2.2.1), .int x.2.2.2.2.2.2.2.1])), (a1, .inl (cI, 10, .inl x.2.2.2.2.2.2.2.2.1)), (a2, .inl (cI, 10, .inl x.2.2.2.2.2.2.2.2.2.1)), (a3, .inl (cI, 10, .inl x.2.2.2.2.2.2.2.2.2.2.1)), (a4, .inl (cI, 10, .inl x.2.2.2.2.2.2.2.2.2.2.2))]) (va_runV (As := [.int (zk_rowWith x.2.2.2.2.2.2 g2)]) (rest := []) ⟨hx, hb, hml, hown, hts⟩ (kt_isVisible l D cI cZ ao au af ak a1 a2 a3 a4 x (zk_rowWith x.2.2.2.2.2.2 g2) (hn) _) ⟨(callB_of 1 hts gd_yT_isVisible rfl rfl rfl (hts _ mw24) (hts _ mw201) (by decide +kernel) ⟨Nat.le_of_ble_eq_true rfl, Nat.le_of_ble_eq_true rfl⟩), hts _ mw203, hts _ mw12⟩ (kpreV hNw hP hD hK [0, 1, 2, 3, 4, 5, 6, 7] rfl (by decide) 0 rfl (ci := 0) rfl) rfl rfl hl.1 rfl (lv_room (Nat.le_of_ble_eq_true rfl)) dT_rowOrRefusal_25 ⟨Nat.le_of_ble_eq_true rfl, Nat.le_of_ble_eq_true rfl⟩) hP hD hS hA [0, 1, 2, 3, 4, 5, 6, 7] rfl rfl (by decide) (by decide) (by decide) rfl (fun H locs hP hD hS => ?_)
        refine lv_if_eq (tgt := 35) hx hb dT_rowOrRefusal_28 (by decide) (fun h3 => ?_) (fun h3 => ?_)
        ·
          refine lv_bipush (v := (-2)) hx hb dT_rowOrRefusal_35 (by decide) ?_
          exact J37 _ _ hP hD hS _ (((if_neg h2).trans (if_pos h3)).symm)
        ·
          refine lv_iload_n hx hb dT_rowOrRefusal_31 rfl (lv_at hl 0 rfl) ?_
          refine lv_goto hx hb dT_rowOrRefusal_32 (tgt := 37) (by decide) ?_
          exact J37 _ _ hP hD hS _ (((if_neg h2).trans (if_neg h3)).symm)
    exact kretP (by first | (rw [zt_row, if_neg h1]; done) | exact (if_neg h1)) hx hb hr hlk hS hP hD hK dT_rowOrRefusal_37
  ·
    refine lv_iconst (v := (-1)) hx hb dT_rowOrRefusal_8 (by decide) ?_
    exact kretP (by first | (rw [zt_row, if_pos h1]; done) | exact (if_pos h1)) hx hb hr hlk hS hP hD hK dT_rowOrRefusal_9

def zt_use (x : XS) (g1 : Int32) (g2 : Int32) (g3 : Int32) : Int32 := (if (zt_row x g1 g2) < 0 then (zt_row x g1 g2) else (if (zk_has x.2.2.2.2.2.2 (zt_row x g1 g2) g3) = 0 then ((-5) : Int32) else (zt_row x g1 g2)))

set_option maxHeartbeats 4000000 in
set_option maxRecDepth 100000 in
theorem kt_use (l : Launch) (D : va_G) (cI cZ : ClassId) (ao au af ak a1 a2 a3 a4 : Nat) (x : XS) (g1 : Int32) (g2 : Int32) (g3 : Int32) (hn : x.2.2.2.2.2.2.1 ≤ 10) : kI l yT_rowForUse wsT_rowForUse (rmOf 3 66) D (kT cI cZ) [.ref ao, .int g1, .int g2, .int g3] (wX cI ao au af ak a1 a2 a3 a4 x) (zt_use x g1 g2 g3) (wX cI ao au af ak a1 a2 a3 a4 x) := by
  intro sz
  refine kOf (Qc := fun A => kQi D (kT cI cZ) A (zt_use x g1 g2 g3) (wX cI ao au af ak a1 a2 a3 a4 x)) (cc := cT_rowForUse) (maxL := 5) (ret := some .int) (by decide) rfl (Nat.le_of_ble_eq_true rfl) ?_ sz
  intro p e s m args below meth c A ls hx hb hml hown hts hNw hr hlk hin hA hS hP hD hK hl
  show W p l e (rmOf 3 66) s m args below meth c s.heap [] 0 0 (MQ below (kQi D (kT cI cZ) A (zt_use x g1 g2 g3) (wX cI ao au af ak a1 a2 a3 a4 x)) args s 0 0 A) (F0 m 0 ls [])
  have hts : ∀ q ∈ lw_g, q.before args s = true := fun q h => hts q (List.mem_cons_of_mem _ h)
  have hown : s.vm.findClass cnT = some m.cls := hown
  have hl : lv_has ls 5 [(0, .ref ao), (1, .int g1), (2, .int g2), (3, .int g3)] := hl
  have hP : va_P D vwCl [(ao, .inr (0, [.ref au, .ref af, .ref ak, .int x.2.2.1, .int x.2.2.2.1, .int x.2.2.2.2.1, .int x.2.2.2.2.2.1])), (au, .inr (1, [.int x.1.1, .int x.1.2])), (af, .inr (1, [.int x.2.1.1, .int x.2.1.2])), (ak, .inr (2, [.ref a1, .ref a2, .ref a3, .ref a4, .int (nI x.2.2.2.2.2.2.1), .int x.2.2.2.2.2.2.2.1])), (a1, .inl (cI, 10, .inl x.2.2.2.2.2.2.2.2.1)), (a2, .inl (cI, 10, .inl x.2.2.2.2.2.2.2.2.2.1)), (a3, .inl (cI, 10, .inl x.2.2.2.2.2.2.2.2.2.2.1)), (a4, .inl (cI, 10, .inl x.2.2.2.2.2.2.2.2.2.2.2))] s.heap := hP
  have hD : va_D A [(ao, .inr (0, [.ref au, .ref af, .ref ak, .int x.2.2.1, .int x.2.2.2.1, .int x.2.2.2.2.1, .int x.2.2.2.2.2.1])), (au, .inr (1, [.int x.1.1, .int x.1.2])), (af, .inr (1, [.int x.2.1.1, .int x.2.1.2])), (ak, .inr (2, [.ref a1, .ref a2, .ref a3, .ref a4, .int (nI x.2.2.2.2.2.2.1), .int x.2.2.2.2.2.2.2.1])), (a1, .inl (cI, 10, .inl x.2.2.2.2.2.2.2.2.1)), (a2, .inl (cI, 10, .inl x.2.2.2.2.2.2.2.2.2.1)), (a3, .inl (cI, 10, .inl x.2.2.2.2.2.2.2.2.2.2.1)), (a4, .inl (cI, 10, .inl x.2.2.2.2.2.2.2.2.2.2.2))] := hD
  refine lv_aload_n hx hb dT_rowForUse_0 rfl (lv_at hl 0 rfl) ?_
  refine lv_iload_n hx hb dT_rowForUse_1 rfl (lv_at hl 1 rfl) ?_
  refine lv_iload_n hx hb dT_rowForUse_2 rfl (lv_at hl 2 rfl) ?_
  refine kcI (isR := []) (isC := [0, 1, 2, 3, 4, 5, 6, 7]) (wr := []) (w2 := [(ao, .inr (0, [.ref au, .ref af, .ref ak, .int x.2.2.1, .int x.2.2.2.1, .int x.2.2.2.2.1, .int x.2.2.2.2.2.1])), (au, .inr (1, [.int x.1.1, .int x.1.2])), (af, .inr (1, [.int x.2.1.1, .int x.2.1.2])), (ak, .inr (2, [.ref a1, .ref a2, .ref a3, .ref a4, .int (nI x.2.2.2.2.2.2.1), .int x.2.2.2.2.2.2.2.1])), (a1, .inl (cI, 10, .inl x.2.2.2.2.2.2.2.2.1)), (a2, .inl (cI, 10, .inl x.2.2.2.2.2.2.2.2.2.1)), (a3, .inl (cI, 10, .inl x.2.2.2.2.2.2.2.2.2.2.1)), (a4, .inl (cI, 10, .inl x.2.2.2.2.2.2.2.2.2.2.2))]) (va_runV (As := [.int g1, .int g2]) (rest := []) ⟨hx, hb, hml, hown, hts⟩ (kt_row l D cI cZ ao au af ak a1 a2 a3 a4 x g1 g2 (hn) _) ⟨(callB_of 2 hts gd_yT_rowOrRefusal rfl rfl rfl (hts _ mw24) (hts _ mw193) (by decide +kernel) ⟨Nat.le_of_ble_eq_true rfl, Nat.le_of_ble_eq_true rfl⟩), hts _ mw195, hts _ mw10⟩ (kpreV hNw hP hD hK [0, 1, 2, 3, 4, 5, 6, 7] rfl (by decide) 0 rfl (ci := 0) rfl) rfl rfl hl.1 rfl (lv_room (Nat.le_of_ble_eq_true rfl)) dT_rowForUse_3 ⟨Nat.le_of_ble_eq_true rfl, Nat.le_of_ble_eq_true rfl⟩) hP hD hS hA [0, 1, 2, 3, 4, 5, 6, 7] rfl rfl (by decide) (by decide) (by decide) rfl (fun H locs hP hD hS => ?_)
  refine lv_istore hx hb dT_rowForUse_6 hl (by decide) rfl (fun ls hl => ?_)
  have hl : lv_has ls 5 [(4, .int (zt_row x g1 g2)), (0, .ref ao), (1, .int g1), (2, .int g2), (3, .int g3)] := hl
  refine lv_iload hx hb dT_rowForUse_8 (lv_at hl 0 rfl) ?_
  refine kJoin (pcJ := 33) (z := (if (zt_row x g1 g2) < 0 then (zt_row x g1 g2) else (if (zk_has x.2.2.2.2.2.2 (zt_row x g1 g2) g3) = 0 then ((-5) : Int32) else (zt_row x g1 g2)))) (ws := [(ao, .inr (0, [.ref au, .ref af, .ref ak, .int x.2.2.1, .int x.2.2.2.1, .int x.2.2.2.2.1, .int x.2.2.2.2.2.1])), (au, .inr (1, [.int x.1.1, .int x.1.2])), (af, .inr (1, [.int x.2.1.1, .int x.2.1.2])), (ak, .inr (2, [.ref a1, .ref a2, .ref a3, .ref a4, .int (nI x.2.2.2.2.2.2.1), .int x.2.2.2.2.2.2.2.1])), (a1, .inl (cI, 10, .inl x.2.2.2.2.2.2.2.2.1)), (a2, .inl (cI, 10, .inl x.2.2.2.2.2.2.2.2.2.1)), (a3, .inl (cI, 10, .inl x.2.2.2.2.2.2.2.2.2.2.1)), (a4, .inl (cI, 10, .inl x.2.2.2.2.2.2.2.2.2.2.2))]) (rest := []) (D := D) (A := A) (H0 := s.heap) (fun J33 => ?_) (fun H locs hP hD hS => ?_)
  ·
    refine lv_if_lt (tgt := 31) hx hb dT_rowForUse_10 (by decide) (fun h1 => ?_) (fun h1 => ?_)
    ·
      refine lv_iload hx hb dT_rowForUse_31 (lv_at hl 0 rfl) ?_
      exact J33 _ _ hP hD hS _ ((if_pos h1).symm)
    ·
      refine lv_aload_n hx hb dT_rowForUse_13 rfl (lv_at hl 1 rfl) ?_
      refine va_get (D := D) (ci := 0) (v := .ref ak) (C := cnT) (T := ftT) (N := 7) hx hb hts inT hown hK hP 0 rfl rfl 2 (by decide) (hts _ mw84) (fun _ h9 => h9) rfl dT_rowForUse_14 ?_
      refine lv_iload hx hb dT_rowForUse_17 (lv_at hl 0 rfl) ?_
      refine lv_iload_n hx hb dT_rowForUse_19 rfl (lv_at hl 4 rfl) ?_
      refine kcI (isR := [0, 1, 2]) (isC := [3, 4, 5, 6, 7]) (wr := [(ao, .inr (0, [.ref au, .ref af, .ref ak, .int x.2.2.1, .int x.2.2.2.1, .int x.2.2.2.2.1, .int x.2.2.2.2.2.1])), (au, .inr (1, [.int x.1.1, .int x.1.2])), (af, .inr (1, [.int x.2.1.1, .int x.2.1.2]))]) (w2 := [(ao, .inr (0, [.ref au, .ref af, .ref ak, .int x.2.2.1, .int x.2.2.2.1, .int x.2.2.2.2.1, .int x.2.2.2.2.2.1])), (au, .inr (1, [.int x.1.1, .int x.1.2])), (af, .inr (1, [.int x.2.1.1, .int x.2.1.2])), (ak, .inr (2, [.ref a1, .ref a2, .ref a3, .ref a4, .int (nI x.2.2.2.2.2.2.1), .int x.2.2.2.2.2.2.2.1])), (a1, .inl (cI, 10, .inl x.2.2.2.2.2.2.2.2.1)), (a2, .inl (cI, 10, .inl x.2.2.2.2.2.2.2.2.2.1)), (a3, .inl (cI, 10, .inl x.2.2.2.2.2.2.2.2.2.2.1)), (a4, .inl (cI, 10, .inl x.2.2.2.2.2.2.2.2.2.2.2))]) (va_runVN (As := [.int (zt_row x g1 g2), .int g3]) (rest := []) ⟨hx, hb, hml, hown, hts⟩ (kk_has l D cI cZ ak a1 a2 a3 a4 x.2.2.2.2.2.2 (zt_row x g1 g2) g3 (hn) _) ⟨(va_cnB 2 hts gd_yK_has rfl rfl rfl (hNw _ mw205) (hts _ mw26) (by decide +kernel) ⟨Nat.le_of_ble_eq_true rfl, Nat.le_of_ble_eq_true rfl⟩), hts _ mw142, hts _ mw5⟩ (kpreV hNw hP hD hK [3, 4, 5, 6, 7] rfl (by decide) 3 rfl (ci := 2) rfl) rfl rfl hl.1 rfl (lv_room (Nat.le_of_ble_eq_true rfl)) dT_rowForUse_20 ⟨Nat.le_of_ble_eq_true rfl, Nat.le_of_ble_eq_true rfl⟩) hP hD hS hA [0, 1, 2, 3, 4, 5, 6, 7] rfl rfl (by decide) (by decide) (by decide) rfl (fun H locs hP hD hS => ?_)
      refine lv_if_ne (tgt := 31) hx hb dT_rowForUse_23 (by decide) (fun h2 => ?_) (fun h2 => ?_)
      ·
        refine lv_iload hx hb dT_rowForUse_31 (lv_at hl 0 rfl) ?_
        exact J33 _ _ hP hD hS _ (((if_neg h1).trans (if_neg h2)).symm)
      ·
        refine lv_bipush (v := (-5)) hx hb dT_rowForUse_26 (by decide) ?_
        refine lv_goto hx hb dT_rowForUse_28 (tgt := 33) (by decide) ?_
        exact J33 _ _ hP hD hS _ (((if_neg h1).trans (if_pos h2)).symm)
  exact kretP (rfl) hx hb hr hlk hS hP hD hK dT_rowForUse_33

def zt_refusal (x : XS) (g1 : Int32) (g2 : Int32) (g3 : Int32) : Int32 := (if (zt_isOpen x g1) = 0 then (-1) else (if (g2 &&& 2) = 0 then (if (g2 &&& 1) = 0 then (if g3 = 0 then (-5) else (if (zt_areGood g2) = 0 then (-5) else (if (nI x.2.2.2.2.2.2.1) < 10 then (0 : Int32) else ((-6) : Int32)))) else (if (zt_isReadWrite x g1) = 0 then (-4) else (if g3 = 0 then (-5) else (if (zt_areGood g2) = 0 then (-5) else (if (nI x.2.2.2.2.2.2.1) < 10 then (0 : Int32) else ((-6) : Int32)))))) else (if x.2.2.1 = 1 then (if (g2 &&& 1) = 0 then (if g3 = 0 then (-5) else (if (zt_areGood g2) = 0 then (-5) else (if (nI x.2.2.2.2.2.2.1) < 10 then (0 : Int32) else ((-6) : Int32)))) else (if (zt_isReadWrite x g1) = 0 then (-4) else (if g3 = 0 then (-5) else (if (zt_areGood g2) = 0 then (-5) else (if (nI x.2.2.2.2.2.2.1) < 10 then (0 : Int32) else ((-6) : Int32)))))) else (-3))))

set_option maxHeartbeats 4000000 in
set_option maxRecDepth 100000 in
theorem kt_refusal (l : Launch) (D : va_G) (cI cZ : ClassId) (ao au af ak a1 a2 a3 a4 : Nat) (x : XS) (g1 : Int32) (g2 : Int32) (g3 : Int32) (hn : x.2.2.2.2.2.2.1 ≤ 10) : kI l yT_refusalToMake wsT_refusalToMake (rmOf 2 42) D (kT cI cZ) [.ref ao, .int g1, .int g2, .int g3] (wX cI ao au af ak a1 a2 a3 a4 x) (zt_refusal x g1 g2 g3) (wX cI ao au af ak a1 a2 a3 a4 x) := by
  intro sz
  refine kOf (Qc := fun A => kQi D (kT cI cZ) A (zt_refusal x g1 g2 g3) (wX cI ao au af ak a1 a2 a3 a4 x)) (cc := cT_refusalToMake) (maxL := 4) (ret := some .int) (by decide) rfl (Nat.le_of_ble_eq_true rfl) ?_ sz
  intro p e s m args below meth c A ls hx hb hml hown hts hNw hr hlk hin hA hS hP hD hK hl
  show W p l e (rmOf 2 42) s m args below meth c s.heap [] 0 0 (MQ below (kQi D (kT cI cZ) A (zt_refusal x g1 g2 g3) (wX cI ao au af ak a1 a2 a3 a4 x)) args s 0 0 A) (F0 m 0 ls [])
  have hts : ∀ q ∈ lw_g, q.before args s = true := fun q h => hts q (List.mem_cons_of_mem _ h)
  have hown : s.vm.findClass cnT = some m.cls := hown
  have hl : lv_has ls 4 [(0, .ref ao), (1, .int g1), (2, .int g2), (3, .int g3)] := hl
  have hP : va_P D vwCl [(ao, .inr (0, [.ref au, .ref af, .ref ak, .int x.2.2.1, .int x.2.2.2.1, .int x.2.2.2.2.1, .int x.2.2.2.2.2.1])), (au, .inr (1, [.int x.1.1, .int x.1.2])), (af, .inr (1, [.int x.2.1.1, .int x.2.1.2])), (ak, .inr (2, [.ref a1, .ref a2, .ref a3, .ref a4, .int (nI x.2.2.2.2.2.2.1), .int x.2.2.2.2.2.2.2.1])), (a1, .inl (cI, 10, .inl x.2.2.2.2.2.2.2.2.1)), (a2, .inl (cI, 10, .inl x.2.2.2.2.2.2.2.2.2.1)), (a3, .inl (cI, 10, .inl x.2.2.2.2.2.2.2.2.2.2.1)), (a4, .inl (cI, 10, .inl x.2.2.2.2.2.2.2.2.2.2.2))] s.heap := hP
  have hD : va_D A [(ao, .inr (0, [.ref au, .ref af, .ref ak, .int x.2.2.1, .int x.2.2.2.1, .int x.2.2.2.2.1, .int x.2.2.2.2.2.1])), (au, .inr (1, [.int x.1.1, .int x.1.2])), (af, .inr (1, [.int x.2.1.1, .int x.2.1.2])), (ak, .inr (2, [.ref a1, .ref a2, .ref a3, .ref a4, .int (nI x.2.2.2.2.2.2.1), .int x.2.2.2.2.2.2.2.1])), (a1, .inl (cI, 10, .inl x.2.2.2.2.2.2.2.2.1)), (a2, .inl (cI, 10, .inl x.2.2.2.2.2.2.2.2.2.1)), (a3, .inl (cI, 10, .inl x.2.2.2.2.2.2.2.2.2.2.1)), (a4, .inl (cI, 10, .inl x.2.2.2.2.2.2.2.2.2.2.2))] := hD
  refine lv_aload_n hx hb dT_refusalToMake_0 rfl (lv_at hl 0 rfl) ?_
  refine lv_iload_n hx hb dT_refusalToMake_1 rfl (lv_at hl 1 rfl) ?_
  refine kcI (isR := []) (isC := [0, 1, 2, 3, 4, 5, 6, 7]) (wr := []) (w2 := [(ao, .inr (0, [.ref au, .ref af, .ref ak, .int x.2.2.1, .int x.2.2.2.1, .int x.2.2.2.2.1, .int x.2.2.2.2.2.1])), (au, .inr (1, [.int x.1.1, .int x.1.2])), (af, .inr (1, [.int x.2.1.1, .int x.2.1.2])), (ak, .inr (2, [.ref a1, .ref a2, .ref a3, .ref a4, .int (nI x.2.2.2.2.2.2.1), .int x.2.2.2.2.2.2.2.1])), (a1, .inl (cI, 10, .inl x.2.2.2.2.2.2.2.2.1)), (a2, .inl (cI, 10, .inl x.2.2.2.2.2.2.2.2.2.1)), (a3, .inl (cI, 10, .inl x.2.2.2.2.2.2.2.2.2.2.1)), (a4, .inl (cI, 10, .inl x.2.2.2.2.2.2.2.2.2.2.2))]) (va_runV (As := [.int g1]) (rest := []) ⟨hx, hb, hml, hown, hts⟩ (kt_isOpen l D cI cZ ao au af ak a1 a2 a3 a4 x g1 _) ⟨(callB_of 1 hts gd_yT_isOpen rfl rfl rfl (hts _ mw24) (hts _ mw108) (by decide +kernel) ⟨Nat.le_of_ble_eq_true rfl, Nat.le_of_ble_eq_true rfl⟩), hts _ mw110, hts _ mw0⟩ (kpreV hNw hP hD hK [0, 1, 2, 3, 4, 5, 6, 7] rfl (by decide) 0 rfl (ci := 0) rfl) rfl rfl hl.1 rfl (lv_room (Nat.le_of_ble_eq_true rfl)) dT_refusalToMake_2 ⟨Nat.le_of_ble_eq_true rfl, Nat.le_of_ble_eq_true rfl⟩) hP hD hS hA [0, 1, 2, 3, 4, 5, 6, 7] rfl rfl (by decide) (by decide) (by decide) rfl (fun H locs hP hD hS => ?_)
  refine lv_if_ne (tgt := 10) hx hb dT_refusalToMake_5 (by decide) (fun h1 => ?_) (fun h1 => ?_)
  ·
    refine lv_iload_n hx hb dT_refusalToMake_10 rfl (lv_at hl 2 rfl) ?_
    refine lv_iconst (v := 2) hx hb dT_refusalToMake_11 (by decide) ?_
    refine lv_iand hx hb dT_refusalToMake_12 ?_
    refine lv_if_eq (tgt := 27) hx hb dT_refusalToMake_13 (by decide) (fun h2 => ?_) (fun h2 => ?_)
    ·
      refine lv_iload_n hx hb dT_refusalToMake_27 rfl (lv_at hl 2 rfl) ?_
      refine lv_iconst (v := 1) hx hb dT_refusalToMake_28 (by decide) ?_
      refine lv_iand hx hb dT_refusalToMake_29 ?_
      refine lv_if_eq (tgt := 44) hx hb dT_refusalToMake_30 (by decide) (fun h3 => ?_) (fun h3 => ?_)
      ·
        refine lv_iload_n hx hb dT_refusalToMake_44 rfl (lv_at hl 3 rfl) ?_
        refine lv_if_eq (tgt := 55) hx hb dT_refusalToMake_45 (by decide) (fun h4 => ?_) (fun h4 => ?_)
        ·
          refine lv_bipush (v := (-5)) hx hb dT_refusalToMake_55 (by decide) ?_
          exact kretP (by first | (rw [zt_refusal, if_neg h1, if_pos h2, if_pos h3, if_pos h4]; done) | exact ((if_neg h1).trans ((if_pos h2).trans ((if_pos h3).trans (if_pos h4))))) hx hb hr hlk hS hP hD hK dT_refusalToMake_57
        ·
          refine lv_iload_n hx hb dT_refusalToMake_48 rfl (lv_at hl 2 rfl) ?_
          refine kcI (isR := [0, 1, 2, 3, 4, 5, 6, 7]) (isC := []) (wr := [(ao, .inr (0, [.ref au, .ref af, .ref ak, .int x.2.2.1, .int x.2.2.2.1, .int x.2.2.2.2.1, .int x.2.2.2.2.2.1])), (au, .inr (1, [.int x.1.1, .int x.1.2])), (af, .inr (1, [.int x.2.1.1, .int x.2.1.2])), (ak, .inr (2, [.ref a1, .ref a2, .ref a3, .ref a4, .int (nI x.2.2.2.2.2.2.1), .int x.2.2.2.2.2.2.2.1])), (a1, .inl (cI, 10, .inl x.2.2.2.2.2.2.2.2.1)), (a2, .inl (cI, 10, .inl x.2.2.2.2.2.2.2.2.2.1)), (a3, .inl (cI, 10, .inl x.2.2.2.2.2.2.2.2.2.2.1)), (a4, .inl (cI, 10, .inl x.2.2.2.2.2.2.2.2.2.2.2))]) (w2 := [(ao, .inr (0, [.ref au, .ref af, .ref ak, .int x.2.2.1, .int x.2.2.2.1, .int x.2.2.2.2.1, .int x.2.2.2.2.2.1])), (au, .inr (1, [.int x.1.1, .int x.1.2])), (af, .inr (1, [.int x.2.1.1, .int x.2.1.2])), (ak, .inr (2, [.ref a1, .ref a2, .ref a3, .ref a4, .int (nI x.2.2.2.2.2.2.1), .int x.2.2.2.2.2.2.2.1])), (a1, .inl (cI, 10, .inl x.2.2.2.2.2.2.2.2.1)), (a2, .inl (cI, 10, .inl x.2.2.2.2.2.2.2.2.2.1)), (a3, .inl (cI, 10, .inl x.2.2.2.2.2.2.2.2.2.2.1)), (a4, .inl (cI, 10, .inl x.2.2.2.2.2.2.2.2.2.2.2))]) (va_runS (As := [.int g2]) (rest := []) ⟨hx, hb, hml, hown, hts⟩ (kt_areGood l D cI cZ g2 _) ⟨(callB_of 1 hts gd_yT_areGood rfl rfl rfl (hts _ mw24) (hts _ mw164) (by decide +kernel) ⟨Nat.le_of_ble_eq_true rfl, Nat.le_of_ble_eq_true rfl⟩), hts _ mw165⟩ (kpreS hNw hP hD hK [] rfl (by decide)) rfl rfl hl.1 rfl (lv_room (Nat.le_of_ble_eq_true rfl)) dT_refusalToMake_49 ⟨Nat.le_of_ble_eq_true rfl, Nat.le_of_ble_eq_true rfl⟩) hP hD hS hA [0, 1, 2, 3, 4, 5, 6, 7] rfl rfl (by decide) (by decide) (by decide) rfl (fun H locs hP hD hS => ?_)
          refine lv_if_ne (tgt := 58) hx hb dT_refusalToMake_52 (by decide) (fun h5 => ?_) (fun h5 => ?_)
          ·
            refine lv_aload_n hx hb dT_refusalToMake_58 rfl (lv_at hl 0 rfl) ?_
            refine va_get (D := D) (ci := 0) (v := .ref ak) (C := cnT) (T := ftT) (N := 7) hx hb hts inT hown hK hP 0 rfl rfl 2 (by decide) (hts _ mw84) (fun _ h9 => h9) rfl dT_refusalToMake_59 ?_
            refine va_getN (D := D) (ci := 2) (v := .int (nI x.2.2.2.2.2.2.1)) (C := cnK) (T := ftK) (N := 6) hx hb hts inK hown hK hP 3 rfl rfl 4 (by decide) (va_Nw.use rfl (hNw _ mw65)) (fun _ h9 => h9) rfl dT_refusalToMake_62 ?_
            refine lv_bipush (v := 10) hx hb dT_refusalToMake_65 (by decide) ?_
            refine kJoin (pcJ := 76) (z := (if (nI x.2.2.2.2.2.2.1) < 10 then (0 : Int32) else ((-6) : Int32))) (ws := [(ao, .inr (0, [.ref au, .ref af, .ref ak, .int x.2.2.1, .int x.2.2.2.1, .int x.2.2.2.2.1, .int x.2.2.2.2.2.1])), (au, .inr (1, [.int x.1.1, .int x.1.2])), (af, .inr (1, [.int x.2.1.1, .int x.2.1.2])), (ak, .inr (2, [.ref a1, .ref a2, .ref a3, .ref a4, .int (nI x.2.2.2.2.2.2.1), .int x.2.2.2.2.2.2.2.1])), (a1, .inl (cI, 10, .inl x.2.2.2.2.2.2.2.2.1)), (a2, .inl (cI, 10, .inl x.2.2.2.2.2.2.2.2.2.1)), (a3, .inl (cI, 10, .inl x.2.2.2.2.2.2.2.2.2.2.1)), (a4, .inl (cI, 10, .inl x.2.2.2.2.2.2.2.2.2.2.2))]) (rest := []) (D := D) (A := A) (H0 := s.heap) (fun J76 => ?_) (fun H locs hP hD hS => ?_)
            ·
              refine lv_icmp_lt (tgt := 75) hx hb dT_refusalToMake_67 (by decide) (fun h6 => ?_) (fun h6 => ?_)
              ·
                refine lv_iconst (v := 0) hx hb dT_refusalToMake_75 (by decide) ?_
                exact J76 _ _ hP hD hS _ ((if_pos h6).symm)
              ·
                refine lv_bipush (v := (-6)) hx hb dT_refusalToMake_70 (by decide) ?_
                refine lv_goto hx hb dT_refusalToMake_72 (tgt := 76) (by decide) ?_
                exact J76 _ _ hP hD hS _ ((if_neg h6).symm)
            exact kretP (by first | (rw [zt_refusal, if_neg h1, if_pos h2, if_pos h3, if_neg h4, if_neg h5]; done) | exact ((if_neg h1).trans ((if_pos h2).trans ((if_pos h3).trans ((if_neg h4).trans (if_neg h5)))))) hx hb hr hlk hS hP hD hK dT_refusalToMake_76
          ·
            refine lv_bipush (v := (-5)) hx hb dT_refusalToMake_55 (by decide) ?_
            exact kretP (by first | (rw [zt_refusal, if_neg h1, if_pos h2, if_pos h3, if_neg h4, if_pos h5]; done) | exact ((if_neg h1).trans ((if_pos h2).trans ((if_pos h3).trans ((if_neg h4).trans (if_pos h5)))))) hx hb hr hlk hS hP hD hK dT_refusalToMake_57
      ·
        refine lv_aload_n hx hb dT_refusalToMake_33 rfl (lv_at hl 0 rfl) ?_
        refine lv_iload_n hx hb dT_refusalToMake_34 rfl (lv_at hl 1 rfl) ?_
        refine kcI (isR := []) (isC := [0, 1, 2, 3, 4, 5, 6, 7]) (wr := []) (w2 := [(ao, .inr (0, [.ref au, .ref af, .ref ak, .int x.2.2.1, .int x.2.2.2.1, .int x.2.2.2.2.1, .int x.2.2.2.2.2.1])), (au, .inr (1, [.int x.1.1, .int x.1.2])), (af, .inr (1, [.int x.2.1.1, .int x.2.1.2])), (ak, .inr (2, [.ref a1, .ref a2, .ref a3, .ref a4, .int (nI x.2.2.2.2.2.2.1), .int x.2.2.2.2.2.2.2.1])), (a1, .inl (cI, 10, .inl x.2.2.2.2.2.2.2.2.1)), (a2, .inl (cI, 10, .inl x.2.2.2.2.2.2.2.2.2.1)), (a3, .inl (cI, 10, .inl x.2.2.2.2.2.2.2.2.2.2.1)), (a4, .inl (cI, 10, .inl x.2.2.2.2.2.2.2.2.2.2.2))]) (va_runV (As := [.int g1]) (rest := []) ⟨hx, hb, hml, hown, hts⟩ (kt_isReadWrite l D cI cZ ao au af ak a1 a2 a3 a4 x g1 _) ⟨(callB_of 1 hts gd_yT_isReadWrite rfl rfl rfl (hts _ mw24) (hts _ mw160) (by decide +kernel) ⟨Nat.le_of_ble_eq_true rfl, Nat.le_of_ble_eq_true rfl⟩), hts _ mw162, hts _ mw8⟩ (kpreV hNw hP hD hK [0, 1, 2, 3, 4, 5, 6, 7] rfl (by decide) 0 rfl (ci := 0) rfl) rfl rfl hl.1 rfl (lv_room (Nat.le_of_ble_eq_true rfl)) dT_refusalToMake_35 ⟨Nat.le_of_ble_eq_true rfl, Nat.le_of_ble_eq_true rfl⟩) hP hD hS hA [0, 1, 2, 3, 4, 5, 6, 7] rfl rfl (by decide) (by decide) (by decide) rfl (fun H locs hP hD hS => ?_)
        refine lv_if_ne (tgt := 44) hx hb dT_refusalToMake_38 (by decide) (fun h7 => ?_) (fun h7 => ?_)
        ·
          refine lv_iload_n hx hb dT_refusalToMake_44 rfl (lv_at hl 3 rfl) ?_
          refine lv_if_eq (tgt := 55) hx hb dT_refusalToMake_45 (by decide) (fun h8 => ?_) (fun h8 => ?_)
          ·
            refine lv_bipush (v := (-5)) hx hb dT_refusalToMake_55 (by decide) ?_
            exact kretP (by first | (rw [zt_refusal, if_neg h1, if_pos h2, if_neg h3, if_neg h7, if_pos h8]; done) | exact ((if_neg h1).trans ((if_pos h2).trans ((if_neg h3).trans ((if_neg h7).trans (if_pos h8)))))) hx hb hr hlk hS hP hD hK dT_refusalToMake_57
          ·
            refine lv_iload_n hx hb dT_refusalToMake_48 rfl (lv_at hl 2 rfl) ?_
            refine kcI (isR := [0, 1, 2, 3, 4, 5, 6, 7]) (isC := []) (wr := [(ao, .inr (0, [.ref au, .ref af, .ref ak, .int x.2.2.1, .int x.2.2.2.1, .int x.2.2.2.2.1, .int x.2.2.2.2.2.1])), (au, .inr (1, [.int x.1.1, .int x.1.2])), (af, .inr (1, [.int x.2.1.1, .int x.2.1.2])), (ak, .inr (2, [.ref a1, .ref a2, .ref a3, .ref a4, .int (nI x.2.2.2.2.2.2.1), .int x.2.2.2.2.2.2.2.1])), (a1, .inl (cI, 10, .inl x.2.2.2.2.2.2.2.2.1)), (a2, .inl (cI, 10, .inl x.2.2.2.2.2.2.2.2.2.1)), (a3, .inl (cI, 10, .inl x.2.2.2.2.2.2.2.2.2.2.1)), (a4, .inl (cI, 10, .inl x.2.2.2.2.2.2.2.2.2.2.2))]) (w2 := [(ao, .inr (0, [.ref au, .ref af, .ref ak, .int x.2.2.1, .int x.2.2.2.1, .int x.2.2.2.2.1, .int x.2.2.2.2.2.1])), (au, .inr (1, [.int x.1.1, .int x.1.2])), (af, .inr (1, [.int x.2.1.1, .int x.2.1.2])), (ak, .inr (2, [.ref a1, .ref a2, .ref a3, .ref a4, .int (nI x.2.2.2.2.2.2.1), .int x.2.2.2.2.2.2.2.1])), (a1, .inl (cI, 10, .inl x.2.2.2.2.2.2.2.2.1)), (a2, .inl (cI, 10, .inl x.2.2.2.2.2.2.2.2.2.1)), (a3, .inl (cI, 10, .inl x.2.2.2.2.2.2.2.2.2.2.1)), (a4, .inl (cI, 10, .inl x.2.2.2.2.2.2.2.2.2.2.2))]) (va_runS (As := [.int g2]) (rest := []) ⟨hx, hb, hml, hown, hts⟩ (kt_areGood l D cI cZ g2 _) ⟨(callB_of 1 hts gd_yT_areGood rfl rfl rfl (hts _ mw24) (hts _ mw164) (by decide +kernel) ⟨Nat.le_of_ble_eq_true rfl, Nat.le_of_ble_eq_true rfl⟩), hts _ mw165⟩ (kpreS hNw hP hD hK [] rfl (by decide)) rfl rfl hl.1 rfl (lv_room (Nat.le_of_ble_eq_true rfl)) dT_refusalToMake_49 ⟨Nat.le_of_ble_eq_true rfl, Nat.le_of_ble_eq_true rfl⟩) hP hD hS hA [0, 1, 2, 3, 4, 5, 6, 7] rfl rfl (by decide) (by decide) (by decide) rfl (fun H locs hP hD hS => ?_)
            refine lv_if_ne (tgt := 58) hx hb dT_refusalToMake_52 (by decide) (fun h9 => ?_) (fun h9 => ?_)
            ·
              refine lv_aload_n hx hb dT_refusalToMake_58 rfl (lv_at hl 0 rfl) ?_
              refine va_get (D := D) (ci := 0) (v := .ref ak) (C := cnT) (T := ftT) (N := 7) hx hb hts inT hown hK hP 0 rfl rfl 2 (by decide) (hts _ mw84) (fun _ h9 => h9) rfl dT_refusalToMake_59 ?_
              refine va_getN (D := D) (ci := 2) (v := .int (nI x.2.2.2.2.2.2.1)) (C := cnK) (T := ftK) (N := 6) hx hb hts inK hown hK hP 3 rfl rfl 4 (by decide) (va_Nw.use rfl (hNw _ mw65)) (fun _ h9 => h9) rfl dT_refusalToMake_62 ?_
              refine lv_bipush (v := 10) hx hb dT_refusalToMake_65 (by decide) ?_
              refine kJoin (pcJ := 76) (z := (if (nI x.2.2.2.2.2.2.1) < 10 then (0 : Int32) else ((-6) : Int32))) (ws := [(ao, .inr (0, [.ref au, .ref af, .ref ak, .int x.2.2.1, .int x.2.2.2.1, .int x.2.2.2.2.1, .int x.2.2.2.2.2.1])), (au, .inr (1, [.int x.1.1, .int x.1.2])), (af, .inr (1, [.int x.2.1.1, .int x.2.1.2])), (ak, .inr (2, [.ref a1, .ref a2, .ref a3, .ref a4, .int (nI x.2.2.2.2.2.2.1), .int x.2.2.2.2.2.2.2.1])), (a1, .inl (cI, 10, .inl x.2.2.2.2.2.2.2.2.1)), (a2, .inl (cI, 10, .inl x.2.2.2.2.2.2.2.2.2.1)), (a3, .inl (cI, 10, .inl x.2.2.2.2.2.2.2.2.2.2.1)), (a4, .inl (cI, 10, .inl x.2.2.2.2.2.2.2.2.2.2.2))]) (rest := []) (D := D) (A := A) (H0 := s.heap) (fun J76 => ?_) (fun H locs hP hD hS => ?_)
              ·
                refine lv_icmp_lt (tgt := 75) hx hb dT_refusalToMake_67 (by decide) (fun h10 => ?_) (fun h10 => ?_)
                ·
                  refine lv_iconst (v := 0) hx hb dT_refusalToMake_75 (by decide) ?_
                  exact J76 _ _ hP hD hS _ ((if_pos h10).symm)
                ·
                  refine lv_bipush (v := (-6)) hx hb dT_refusalToMake_70 (by decide) ?_
                  refine lv_goto hx hb dT_refusalToMake_72 (tgt := 76) (by decide) ?_
                  exact J76 _ _ hP hD hS _ ((if_neg h10).symm)
              exact kretP (by first | (rw [zt_refusal, if_neg h1, if_pos h2, if_neg h3, if_neg h7, if_neg h8, if_neg h9]; done) | exact ((if_neg h1).trans ((if_pos h2).trans ((if_neg h3).trans ((if_neg h7).trans ((if_neg h8).trans (if_neg h9))))))) hx hb hr hlk hS hP hD hK dT_refusalToMake_76
            ·
              refine lv_bipush (v := (-5)) hx hb dT_refusalToMake_55 (by decide) ?_
              exact kretP (by first | (rw [zt_refusal, if_neg h1, if_pos h2, if_neg h3, if_neg h7, if_neg h8, if_pos h9]; done) | exact ((if_neg h1).trans ((if_pos h2).trans ((if_neg h3).trans ((if_neg h7).trans ((if_neg h8).trans (if_pos h9))))))) hx hb hr hlk hS hP hD hK dT_refusalToMake_57
        ·
          refine lv_bipush (v := (-4)) hx hb dT_refusalToMake_41 (by decide) ?_
          exact kretP (by first | (rw [zt_refusal, if_neg h1, if_pos h2, if_neg h3, if_pos h7]; done) | exact ((if_neg h1).trans ((if_pos h2).trans ((if_neg h3).trans (if_pos h7))))) hx hb hr hlk hS hP hD hK dT_refusalToMake_43
    ·
      refine lv_aload_n hx hb dT_refusalToMake_16 rfl (lv_at hl 0 rfl) ?_
      refine va_get (D := D) (ci := 0) (v := .int x.2.2.1) (C := cnT) (T := ftT) (N := 7) hx hb hts inT hown hK hP 0 rfl rfl 3 (by decide) (hts _ mw85) (fun _ h9 => h9) rfl dT_refusalToMake_17 ?_
      refine lv_iconst (v := 1) hx hb dT_refusalToMake_20 (by decide) ?_
      refine lv_icmp_eq (tgt := 27) hx hb dT_refusalToMake_21 (by decide) (fun h11 => ?_) (fun h11 => ?_)
      ·
        refine lv_iload_n hx hb dT_refusalToMake_27 rfl (lv_at hl 2 rfl) ?_
        refine lv_iconst (v := 1) hx hb dT_refusalToMake_28 (by decide) ?_
        refine lv_iand hx hb dT_refusalToMake_29 ?_
        refine lv_if_eq (tgt := 44) hx hb dT_refusalToMake_30 (by decide) (fun h12 => ?_) (fun h12 => ?_)
        ·
          refine lv_iload_n hx hb dT_refusalToMake_44 rfl (lv_at hl 3 rfl) ?_
          refine lv_if_eq (tgt := 55) hx hb dT_refusalToMake_45 (by decide) (fun h13 => ?_) (fun h13 => ?_)
          ·
            refine lv_bipush (v := (-5)) hx hb dT_refusalToMake_55 (by decide) ?_
            exact kretP (by first | (rw [zt_refusal, if_neg h1, if_neg h2, if_pos h11, if_pos h12, if_pos h13]; done) | exact ((if_neg h1).trans ((if_neg h2).trans ((if_pos h11).trans ((if_pos h12).trans (if_pos h13)))))) hx hb hr hlk hS hP hD hK dT_refusalToMake_57
          ·
            refine lv_iload_n hx hb dT_refusalToMake_48 rfl (lv_at hl 2 rfl) ?_
            refine kcI (isR := [0, 1, 2, 3, 4, 5, 6, 7]) (isC := []) (wr := [(ao, .inr (0, [.ref au, .ref af, .ref ak, .int x.2.2.1, .int x.2.2.2.1, .int x.2.2.2.2.1, .int x.2.2.2.2.2.1])), (au, .inr (1, [.int x.1.1, .int x.1.2])), (af, .inr (1, [.int x.2.1.1, .int x.2.1.2])), (ak, .inr (2, [.ref a1, .ref a2, .ref a3, .ref a4, .int (nI x.2.2.2.2.2.2.1), .int x.2.2.2.2.2.2.2.1])), (a1, .inl (cI, 10, .inl x.2.2.2.2.2.2.2.2.1)), (a2, .inl (cI, 10, .inl x.2.2.2.2.2.2.2.2.2.1)), (a3, .inl (cI, 10, .inl x.2.2.2.2.2.2.2.2.2.2.1)), (a4, .inl (cI, 10, .inl x.2.2.2.2.2.2.2.2.2.2.2))]) (w2 := [(ao, .inr (0, [.ref au, .ref af, .ref ak, .int x.2.2.1, .int x.2.2.2.1, .int x.2.2.2.2.1, .int x.2.2.2.2.2.1])), (au, .inr (1, [.int x.1.1, .int x.1.2])), (af, .inr (1, [.int x.2.1.1, .int x.2.1.2])), (ak, .inr (2, [.ref a1, .ref a2, .ref a3, .ref a4, .int (nI x.2.2.2.2.2.2.1), .int x.2.2.2.2.2.2.2.1])), (a1, .inl (cI, 10, .inl x.2.2.2.2.2.2.2.2.1)), (a2, .inl (cI, 10, .inl x.2.2.2.2.2.2.2.2.2.1)), (a3, .inl (cI, 10, .inl x.2.2.2.2.2.2.2.2.2.2.1)), (a4, .inl (cI, 10, .inl x.2.2.2.2.2.2.2.2.2.2.2))]) (va_runS (As := [.int g2]) (rest := []) ⟨hx, hb, hml, hown, hts⟩ (kt_areGood l D cI cZ g2 _) ⟨(callB_of 1 hts gd_yT_areGood rfl rfl rfl (hts _ mw24) (hts _ mw164) (by decide +kernel) ⟨Nat.le_of_ble_eq_true rfl, Nat.le_of_ble_eq_true rfl⟩), hts _ mw165⟩ (kpreS hNw hP hD hK [] rfl (by decide)) rfl rfl hl.1 rfl (lv_room (Nat.le_of_ble_eq_true rfl)) dT_refusalToMake_49 ⟨Nat.le_of_ble_eq_true rfl, Nat.le_of_ble_eq_true rfl⟩) hP hD hS hA [0, 1, 2, 3, 4, 5, 6, 7] rfl rfl (by decide) (by decide) (by decide) rfl (fun H locs hP hD hS => ?_)
            refine lv_if_ne (tgt := 58) hx hb dT_refusalToMake_52 (by decide) (fun h14 => ?_) (fun h14 => ?_)
            ·
              refine lv_aload_n hx hb dT_refusalToMake_58 rfl (lv_at hl 0 rfl) ?_
              refine va_get (D := D) (ci := 0) (v := .ref ak) (C := cnT) (T := ftT) (N := 7) hx hb hts inT hown hK hP 0 rfl rfl 2 (by decide) (hts _ mw84) (fun _ h9 => h9) rfl dT_refusalToMake_59 ?_
              refine va_getN (D := D) (ci := 2) (v := .int (nI x.2.2.2.2.2.2.1)) (C := cnK) (T := ftK) (N := 6) hx hb hts inK hown hK hP 3 rfl rfl 4 (by decide) (va_Nw.use rfl (hNw _ mw65)) (fun _ h9 => h9) rfl dT_refusalToMake_62 ?_
              refine lv_bipush (v := 10) hx hb dT_refusalToMake_65 (by decide) ?_
              refine kJoin (pcJ := 76) (z := (if (nI x.2.2.2.2.2.2.1) < 10 then (0 : Int32) else ((-6) : Int32))) (ws := [(ao, .inr (0, [.ref au, .ref af, .ref ak, .int x.2.2.1, .int x.2.2.2.1, .int x.2.2.2.2.1, .int x.2.2.2.2.2.1])), (au, .inr (1, [.int x.1.1, .int x.1.2])), (af, .inr (1, [.int x.2.1.1, .int x.2.1.2])), (ak, .inr (2, [.ref a1, .ref a2, .ref a3, .ref a4, .int (nI x.2.2.2.2.2.2.1), .int x.2.2.2.2.2.2.2.1])), (a1, .inl (cI, 10, .inl x.2.2.2.2.2.2.2.2.1)), (a2, .inl (cI, 10, .inl x.2.2.2.2.2.2.2.2.2.1)), (a3, .inl (cI, 10, .inl x.2.2.2.2.2.2.2.2.2.2.1)), (a4, .inl (cI, 10, .inl x.2.2.2.2.2.2.2.2.2.2.2))]) (rest := []) (D := D) (A := A) (H0 := s.heap) (fun J76 => ?_) (fun H locs hP hD hS => ?_)
              ·
                refine lv_icmp_lt (tgt := 75) hx hb dT_refusalToMake_67 (by decide) (fun h15 => ?_) (fun h15 => ?_)
                ·
                  refine lv_iconst (v := 0) hx hb dT_refusalToMake_75 (by decide) ?_
                  exact J76 _ _ hP hD hS _ ((if_pos h15).symm)
                ·
                  refine lv_bipush (v := (-6)) hx hb dT_refusalToMake_70 (by decide) ?_
                  refine lv_goto hx hb dT_refusalToMake_72 (tgt := 76) (by decide) ?_
                  exact J76 _ _ hP hD hS _ ((if_neg h15).symm)
              exact kretP (by first | (rw [zt_refusal, if_neg h1, if_neg h2, if_pos h11, if_pos h12, if_neg h13, if_neg h14]; done) | exact ((if_neg h1).trans ((if_neg h2).trans ((if_pos h11).trans ((if_pos h12).trans ((if_neg h13).trans (if_neg h14))))))) hx hb hr hlk hS hP hD hK dT_refusalToMake_76
            ·
              refine lv_bipush (v := (-5)) hx hb dT_refusalToMake_55 (by decide) ?_
              exact kretP (by first | (rw [zt_refusal, if_neg h1, if_neg h2, if_pos h11, if_pos h12, if_neg h13, if_pos h14]; done) | exact ((if_neg h1).trans ((if_neg h2).trans ((if_pos h11).trans ((if_pos h12).trans ((if_neg h13).trans (if_pos h14))))))) hx hb hr hlk hS hP hD hK dT_refusalToMake_57
        ·
          refine lv_aload_n hx hb dT_refusalToMake_33 rfl (lv_at hl 0 rfl) ?_
          refine lv_iload_n hx hb dT_refusalToMake_34 rfl (lv_at hl 1 rfl) ?_
          refine kcI (isR := []) (isC := [0, 1, 2, 3, 4, 5, 6, 7]) (wr := []) (w2 := [(ao, .inr (0, [.ref au, .ref af, .ref ak, .int x.2.2.1, .int x.2.2.2.1, .int x.2.2.2.2.1, .int x.2.2.2.2.2.1])), (au, .inr (1, [.int x.1.1, .int x.1.2])), (af, .inr (1, [.int x.2.1.1, .int x.2.1.2])), (ak, .inr (2, [.ref a1, .ref a2, .ref a3, .ref a4, .int (nI x.2.2.2.2.2.2.1), .int x.2.2.2.2.2.2.2.1])), (a1, .inl (cI, 10, .inl x.2.2.2.2.2.2.2.2.1)), (a2, .inl (cI, 10, .inl x.2.2.2.2.2.2.2.2.2.1)), (a3, .inl (cI, 10, .inl x.2.2.2.2.2.2.2.2.2.2.1)), (a4, .inl (cI, 10, .inl x.2.2.2.2.2.2.2.2.2.2.2))]) (va_runV (As := [.int g1]) (rest := []) ⟨hx, hb, hml, hown, hts⟩ (kt_isReadWrite l D cI cZ ao au af ak a1 a2 a3 a4 x g1 _) ⟨(callB_of 1 hts gd_yT_isReadWrite rfl rfl rfl (hts _ mw24) (hts _ mw160) (by decide +kernel) ⟨Nat.le_of_ble_eq_true rfl, Nat.le_of_ble_eq_true rfl⟩), hts _ mw162, hts _ mw8⟩ (kpreV hNw hP hD hK [0, 1, 2, 3, 4, 5, 6, 7] rfl (by decide) 0 rfl (ci := 0) rfl) rfl rfl hl.1 rfl (lv_room (Nat.le_of_ble_eq_true rfl)) dT_refusalToMake_35 ⟨Nat.le_of_ble_eq_true rfl, Nat.le_of_ble_eq_true rfl⟩) hP hD hS hA [0, 1, 2, 3, 4, 5, 6, 7] rfl rfl (by decide) (by decide) (by decide) rfl (fun H locs hP hD hS => ?_)
          refine lv_if_ne (tgt := 44) hx hb dT_refusalToMake_38 (by decide) (fun h16 => ?_) (fun h16 => ?_)
          ·
            refine lv_iload_n hx hb dT_refusalToMake_44 rfl (lv_at hl 3 rfl) ?_
            refine lv_if_eq (tgt := 55) hx hb dT_refusalToMake_45 (by decide) (fun h17 => ?_) (fun h17 => ?_)
            ·
              refine lv_bipush (v := (-5)) hx hb dT_refusalToMake_55 (by decide) ?_
              exact kretP (by first | (rw [zt_refusal, if_neg h1, if_neg h2, if_pos h11, if_neg h12, if_neg h16, if_pos h17]; done) | exact ((if_neg h1).trans ((if_neg h2).trans ((if_pos h11).trans ((if_neg h12).trans ((if_neg h16).trans (if_pos h17))))))) hx hb hr hlk hS hP hD hK dT_refusalToMake_57
            ·
              refine lv_iload_n hx hb dT_refusalToMake_48 rfl (lv_at hl 2 rfl) ?_
              refine kcI (isR := [0, 1, 2, 3, 4, 5, 6, 7]) (isC := []) (wr := [(ao, .inr (0, [.ref au, .ref af, .ref ak, .int x.2.2.1, .int x.2.2.2.1, .int x.2.2.2.2.1, .int x.2.2.2.2.2.1])), (au, .inr (1, [.int x.1.1, .int x.1.2])), (af, .inr (1, [.int x.2.1.1, .int x.2.1.2])), (ak, .inr (2, [.ref a1, .ref a2, .ref a3, .ref a4, .int (nI x.2.2.2.2.2.2.1), .int x.2.2.2.2.2.2.2.1])), (a1, .inl (cI, 10, .inl x.2.2.2.2.2.2.2.2.1)), (a2, .inl (cI, 10, .inl x.2.2.2.2.2.2.2.2.2.1)), (a3, .inl (cI, 10, .inl x.2.2.2.2.2.2.2.2.2.2.1)), (a4, .inl (cI, 10, .inl x.2.2.2.2.2.2.2.2.2.2.2))]) (w2 := [(ao, .inr (0, [.ref au, .ref af, .ref ak, .int x.2.2.1, .int x.2.2.2.1, .int x.2.2.2.2.1, .int x.2.2.2.2.2.1])), (au, .inr (1, [.int x.1.1, .int x.1.2])), (af, .inr (1, [.int x.2.1.1, .int x.2.1.2])), (ak, .inr (2, [.ref a1, .ref a2, .ref a3, .ref a4, .int (nI x.2.2.2.2.2.2.1), .int x.2.2.2.2.2.2.2.1])), (a1, .inl (cI, 10, .inl x.2.2.2.2.2.2.2.2.1)), (a2, .inl (cI, 10, .inl x.2.2.2.2.2.2.2.2.2.1)), (a3, .inl (cI, 10, .inl x.2.2.2.2.2.2.2.2.2.2.1)), (a4, .inl (cI, 10, .inl x.2.2.2.2.2.2.2.2.2.2.2))]) (va_runS (As := [.int g2]) (rest := []) ⟨hx, hb, hml, hown, hts⟩ (kt_areGood l D cI cZ g2 _) ⟨(callB_of 1 hts gd_yT_areGood rfl rfl rfl (hts _ mw24) (hts _ mw164) (by decide +kernel) ⟨Nat.le_of_ble_eq_true rfl, Nat.le_of_ble_eq_true rfl⟩), hts _ mw165⟩ (kpreS hNw hP hD hK [] rfl (by decide)) rfl rfl hl.1 rfl (lv_room (Nat.le_of_ble_eq_true rfl)) dT_refusalToMake_49 ⟨Nat.le_of_ble_eq_true rfl, Nat.le_of_ble_eq_true rfl⟩) hP hD hS hA [0, 1, 2, 3, 4, 5, 6, 7] rfl rfl (by decide) (by decide) (by decide) rfl (fun H locs hP hD hS => ?_)
              refine lv_if_ne (tgt := 58) hx hb dT_refusalToMake_52 (by decide) (fun h18 => ?_) (fun h18 => ?_)
              ·
                refine lv_aload_n hx hb dT_refusalToMake_58 rfl (lv_at hl 0 rfl) ?_
                refine va_get (D := D) (ci := 0) (v := .ref ak) (C := cnT) (T := ftT) (N := 7) hx hb hts inT hown hK hP 0 rfl rfl 2 (by decide) (hts _ mw84) (fun _ h9 => h9) rfl dT_refusalToMake_59 ?_
                refine va_getN (D := D) (ci := 2) (v := .int (nI x.2.2.2.2.2.2.1)) (C := cnK) (T := ftK) (N := 6) hx hb hts inK hown hK hP 3 rfl rfl 4 (by decide) (va_Nw.use rfl (hNw _ mw65)) (fun _ h9 => h9) rfl dT_refusalToMake_62 ?_
                refine lv_bipush (v := 10) hx hb dT_refusalToMake_65 (by decide) ?_
                refine kJoin (pcJ := 76) (z := (if (nI x.2.2.2.2.2.2.1) < 10 then (0 : Int32) else ((-6) : Int32))) (ws := [(ao, .inr (0, [.ref au, .ref af, .ref ak, .int x.2.2.1, .int x.2.2.2.1, .int x.2.2.2.2.1, .int x.2.2.2.2.2.1])), (au, .inr (1, [.int x.1.1, .int x.1.2])), (af, .inr (1, [.int x.2.1.1, .int x.2.1.2])), (ak, .inr (2, [.ref a1, .ref a2, .ref a3, .ref a4, .int (nI x.2.2.2.2.2.2.1), .int x.2.2.2.2.2.2.2.1])), (a1, .inl (cI, 10, .inl x.2.2.2.2.2.2.2.2.1)), (a2, .inl (cI, 10, .inl x.2.2.2.2.2.2.2.2.2.1)), (a3, .inl (cI, 10, .inl x.2.2.2.2.2.2.2.2.2.2.1)), (a4, .inl (cI, 10, .inl x.2.2.2.2.2.2.2.2.2.2.2))]) (rest := []) (D := D) (A := A) (H0 := s.heap) (fun J76 => ?_) (fun H locs hP hD hS => ?_)
                ·
                  refine lv_icmp_lt (tgt := 75) hx hb dT_refusalToMake_67 (by decide) (fun h19 => ?_) (fun h19 => ?_)
                  ·
                    refine lv_iconst (v := 0) hx hb dT_refusalToMake_75 (by decide) ?_
                    exact J76 _ _ hP hD hS _ ((if_pos h19).symm)
                  ·
                    refine lv_bipush (v := (-6)) hx hb dT_refusalToMake_70 (by decide) ?_
                    refine lv_goto hx hb dT_refusalToMake_72 (tgt := 76) (by decide) ?_
                    exact J76 _ _ hP hD hS _ ((if_neg h19).symm)
                exact kretP (by first | (rw [zt_refusal, if_neg h1, if_neg h2, if_pos h11, if_neg h12, if_neg h16, if_neg h17, if_neg h18]; done) | exact ((if_neg h1).trans ((if_neg h2).trans ((if_pos h11).trans ((if_neg h12).trans ((if_neg h16).trans ((if_neg h17).trans (if_neg h18)))))))) hx hb hr hlk hS hP hD hK dT_refusalToMake_76
              ·
                refine lv_bipush (v := (-5)) hx hb dT_refusalToMake_55 (by decide) ?_
                exact kretP (by first | (rw [zt_refusal, if_neg h1, if_neg h2, if_pos h11, if_neg h12, if_neg h16, if_neg h17, if_pos h18]; done) | exact ((if_neg h1).trans ((if_neg h2).trans ((if_pos h11).trans ((if_neg h12).trans ((if_neg h16).trans ((if_neg h17).trans (if_pos h18)))))))) hx hb hr hlk hS hP hD hK dT_refusalToMake_57
          ·
            refine lv_bipush (v := (-4)) hx hb dT_refusalToMake_41 (by decide) ?_
            exact kretP (by first | (rw [zt_refusal, if_neg h1, if_neg h2, if_pos h11, if_neg h12, if_pos h16]; done) | exact ((if_neg h1).trans ((if_neg h2).trans ((if_pos h11).trans ((if_neg h12).trans (if_pos h16)))))) hx hb hr hlk hS hP hD hK dT_refusalToMake_43
      ·
        refine lv_bipush (v := (-3)) hx hb dT_refusalToMake_24 (by decide) ?_
        exact kretP (by first | (rw [zt_refusal, if_neg h1, if_neg h2, if_neg h11]; done) | exact ((if_neg h1).trans ((if_neg h2).trans (if_neg h11)))) hx hb hr hlk hS hP hD hK dT_refusalToMake_26
  ·
    refine lv_iconst (v := (-1)) hx hb dT_refusalToMake_8 (by decide) ?_
    exact kretP (by first | (rw [zt_refusal, if_pos h1]; done) | exact (if_pos h1)) hx hb hr hlk hS hP hD hK dT_refusalToMake_9

theorem zk_find_in (hs : Nat → Int32) (g : Int32) : ∀ f i, zk_find hs g f i = -1 ∨ ∃ j, i ≤ j ∧ j < i + f ∧ zk_find hs g f i = nI j := by
  intro f
  induction f with
  | zero => intro i; exact Or.inl rfl
  | succ f ih =>
    intro i
    rw [zk_find]
    by_cases h : hs i = g
    · rw [if_pos h]; exact Or.inr ⟨i, by omega, by omega, rfl⟩
    · rw [if_neg h]
      rcases ih (i + 1) with e | ⟨j, h1, h2, e⟩
      · exact Or.inl e
      · exact Or.inr ⟨j, by omega, by omega, e⟩
theorem zk_row_in {K : KS} {g : Int32} (hn : K.1 ≤ 10) (h : 0 ≤ zk_rowWith K g) : ∃ j, j < K.1 ∧ zk_rowWith K g = nI j := by
  rcases zk_find_in K.2.2.1 g K.1 0 with e | ⟨j, h1, h2, e⟩
  · rw [zk_rowWith, e] at h; exact absurd h (by decide)
  · exact ⟨j, by omega, e⟩
theorem zt_row_j {x : XS} {g1 g2 : Int32} (hn : x.2.2.2.2.2.2.1 ≤ 10) (h : 0 ≤ zt_row x g1 g2) : ∃ j, j < x.2.2.2.2.2.2.1 ∧ zt_row x g1 g2 = nI j ∧ zk_rowWith x.2.2.2.2.2.2 g2 = nI j := by
  unfold zt_row at h ⊢
  by_cases h1 : zt_isOpen x g1 = 0
  · rw [if_pos h1] at h; exact absurd h (by decide)
  · rw [if_neg h1] at h ⊢
    by_cases h2 : zk_rowWith x.2.2.2.2.2.2 g2 < 0
    · rw [if_pos h2] at h; exact absurd h (by decide)
    · rw [if_neg h2] at h ⊢
      by_cases h3 : zt_isVisible x (zk_rowWith x.2.2.2.2.2.2 g2) = 0
      · rw [if_pos h3] at h; exact absurd h (by decide)
      · rw [if_neg h3] at h ⊢
        obtain ⟨j, a, b⟩ := zk_row_in hn h
        exact ⟨j, a, b, b⟩
theorem zt_row_in {x : XS} {g1 g2 : Int32} (hn : x.2.2.2.2.2.2.1 ≤ 10) (h : 0 ≤ zt_row x g1 g2) : vp_in (zt_row x g1 g2) 10 := by
  obtain ⟨j, a, b, -⟩ := zt_row_j hn h
  rw [b]
  exact vp_in_nI (by omega) (by decide)
theorem zt_use_in {x : XS} {g1 g2 g3 : Int32} (hn : x.2.2.2.2.2.2.1 ≤ 10) (h : 0 ≤ zt_use x g1 g2 g3) : vp_in (zt_use x g1 g2 g3) 10 := by
  have e : zt_use x g1 g2 g3 = -5 ∨ zt_use x g1 g2 g3 = zt_row x g1 g2 := by
    unfold zt_use
    repeat' split
    all_goals first | exact Or.inl rfl | exact Or.inr rfl
  rcases e with e | e
  · rw [e] at h; exact absurd h (by decide)
  · rw [e] at h ⊢; exact zt_row_in hn h

theorem zt_row_nI {x : XS} {g1 g2 : Int32} (hn : x.2.2.2.2.2.2.1 ≤ 10) (h : 0 ≤ zt_row x g1 g2) : zt_row x g1 g2 = nI (Int32.toNatClampNeg (zt_row x g1 g2)) := by
  obtain ⟨j, a, b, -⟩ := zt_row_j hn h
  rw [b, nI_clamp (by omega)]
theorem zt_row_lt {x : XS} {g1 g2 : Int32} (hn : x.2.2.2.2.2.2.1 ≤ 10) (h : 0 ≤ zt_row x g1 g2) : Int32.toNatClampNeg (zt_row x g1 g2) < x.2.2.2.2.2.2.1 := by
  obtain ⟨j, a, b, -⟩ := zt_row_j hn h
  rw [b, nI_clamp (by omega)]
  exact a
theorem ksw6 {g : Int32} (h0 : ¬ g = 0) (h1 : ¬ g = 1) (h2 : ¬ g = 2) (h3 : ¬ g = 3) (h4 : ¬ g = 4) (h5 : ¬ g = 5) : g.toInt < 0 ∨ 5 < g.toInt := by
  have a0 := lv_neT (a := 0) h0 (by decide)
  have a1 := lv_neT (a := 1) h1 (by decide)
  have a2 := lv_neT (a := 2) h2 (by decide)
  have a3 := lv_neT (a := 3) h3 (by decide)
  have a4 := lv_neT (a := 4) h4 (by decide)
  have a5 := lv_neT (a := 5) h5 (by decide)
  omega
