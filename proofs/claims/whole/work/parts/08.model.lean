def zm_closed (y : YS) (g1 : Int32) : Int32 := (if g1 < 0 then (1 : Int32) else (if 2 < g1 then (1 : Int32) else (if (y.1 (Int32.toNatClampNeg g1)) = 0 then (1 : Int32) else (0 : Int32))))

set_option maxHeartbeats 4000000 in
set_option maxRecDepth 100000 in
theorem km_closed (l : Launch) (D : va_G) (cI cZ : ClassId) (bo b1 b2 b3 b4 b5 b6 b7 : Nat) (y : YS) (g1 : Int32) : kI l yM_closed wsM_closed (rmOf 0 0) D (kT cI cZ) [.ref bo, .int g1] (wY cI cZ bo b1 b2 b3 b4 b5 b6 b7 y) (zm_closed y g1) (wY cI cZ bo b1 b2 b3 b4 b5 b6 b7 y) := by
  intro sz
  refine kOf (Qc := fun A => kQi D (kT cI cZ) A (zm_closed y g1) (wY cI cZ bo b1 b2 b3 b4 b5 b6 b7 y)) (cc := cM_closed) (maxL := 2) (ret := some .boolean) (by decide) rfl (Nat.le_of_ble_eq_true rfl) ?_ sz
  intro p e s m args below meth c A ls hx hb hml hown hts hNw hr hlk hin hA hS hP hD hK hl
  show W p l e (rmOf 0 0) s m args below meth c s.heap [] 0 0 (MQ below (kQi D (kT cI cZ) A (zm_closed y g1) (wY cI cZ bo b1 b2 b3 b4 b5 b6 b7 y)) args s 0 0 A) (F0 m 0 ls [])
  have hts : ∀ q ∈ lw_g, q.before args s = true := fun q h => hts q (List.mem_cons_of_mem _ h)
  have hown : s.vm.findClass cnM = some m.cls := hown
  have hl : lv_has ls 2 [(0, .ref bo), (1, .int g1)] := hl
  have hP : va_P D vwCl [(bo, .inr (3, [.ref b1, .int y.2.1, .ref b2, .ref b3, .int (nI y.2.2.2.2.1), .int y.2.2.2.2.2.1, .ref b4, .ref b5, .ref b6, .ref b7])), (b1, .inl (cI, 3, .inl y.1)), (b2, .inl (cI, 3, .inl y.2.2.1)), (b3, .inl (cI, 3, .inl y.2.2.2.1)), (b4, .inl (cZ, 512, .inl y.2.2.2.2.2.2.1)), (b5, .inl (cI, 512, .inl y.2.2.2.2.2.2.2.1)), (b6, .inl (cI, 512, .inl y.2.2.2.2.2.2.2.2.1)), (b7, .inl (cI, 512, .inl y.2.2.2.2.2.2.2.2.2))] s.heap := hP
  have hD : va_D A [(bo, .inr (3, [.ref b1, .int y.2.1, .ref b2, .ref b3, .int (nI y.2.2.2.2.1), .int y.2.2.2.2.2.1, .ref b4, .ref b5, .ref b6, .ref b7])), (b1, .inl (cI, 3, .inl y.1)), (b2, .inl (cI, 3, .inl y.2.2.1)), (b3, .inl (cI, 3, .inl y.2.2.2.1)), (b4, .inl (cZ, 512, .inl y.2.2.2.2.2.2.1)), (b5, .inl (cI, 512, .inl y.2.2.2.2.2.2.2.1)), (b6, .inl (cI, 512, .inl y.2.2.2.2.2.2.2.2.1)), (b7, .inl (cI, 512, .inl y.2.2.2.2.2.2.2.2.2))] := hD
  refine lv_iload_n hx hb dM_closed_0 rfl (lv_at hl 1 rfl) ?_
  refine kJoin (pcJ := 23) (z := (if g1 < 0 then (1 : Int32) else (if 2 < g1 then (1 : Int32) else (if (y.1 (Int32.toNatClampNeg g1)) = 0 then (1 : Int32) else (0 : Int32))))) (ws := [(bo, .inr (3, [.ref b1, .int y.2.1, .ref b2, .ref b3, .int (nI y.2.2.2.2.1), .int y.2.2.2.2.2.1, .ref b4, .ref b5, .ref b6, .ref b7])), (b1, .inl (cI, 3, .inl y.1)), (b2, .inl (cI, 3, .inl y.2.2.1)), (b3, .inl (cI, 3, .inl y.2.2.2.1)), (b4, .inl (cZ, 512, .inl y.2.2.2.2.2.2.1)), (b5, .inl (cI, 512, .inl y.2.2.2.2.2.2.2.1)), (b6, .inl (cI, 512, .inl y.2.2.2.2.2.2.2.2.1)), (b7, .inl (cI, 512, .inl y.2.2.2.2.2.2.2.2.2))]) (rest := []) (D := D) (A := A) (H0 := s.heap) (fun J23 => ?_) (fun H locs hP hD hS => ?_)
  ·
    refine lv_if_lt (tgt := 18) hx hb dM_closed_1 (by decide) (fun h1 => ?_) (fun h1 => ?_)
    ·
      refine lv_iconst (v := 1) hx hb dM_closed_18 (by decide) ?_
      refine lv_goto hx hb dM_closed_19 (tgt := 23) (by decide) ?_
      exact J23 _ _ hP hD hS _ ((if_pos h1).symm)
    ·
      refine lv_iload_n hx hb dM_closed_4 rfl (lv_at hl 1 rfl) ?_
      refine lv_iconst (v := 2) hx hb dM_closed_5 (by decide) ?_
      refine lv_icmp_gt (tgt := 18) hx hb dM_closed_6 (by decide) (fun h2 => ?_) (fun h2 => ?_)
      ·
        refine lv_iconst (v := 1) hx hb dM_closed_18 (by decide) ?_
        refine lv_goto hx hb dM_closed_19 (tgt := 23) (by decide) ?_
        exact J23 _ _ hP hD hS _ (((if_neg h1).trans (if_pos h2)).symm)
      ·
        refine lv_aload_n hx hb dM_closed_9 rfl (lv_at hl 0 rfl) ?_
        refine va_get (D := D) (ci := 3) (v := .ref b1) (C := cnM) (T := ftM) (N := 10) hx hb hts inM hown hK hP 0 rfl rfl 0 (by decide) (hts _ mw289) (fun _ h9 => h9) rfl dM_closed_10 ?_
        refine lv_iload_n hx hb dM_closed_13 rfl (lv_at hl 1 rfl) ?_
        refine va_iald hx hb hK hP 1 0 rfl rfl (kin3 h1 h2) dM_closed_14 ?_
        refine lv_if_ne (tgt := 22) hx hb dM_closed_15 (by decide) (fun h3 => ?_) (fun h3 => ?_)
        ·
          refine lv_iconst (v := 0) hx hb dM_closed_22 (by decide) ?_
          exact J23 _ _ hP hD hS _ (((if_neg h1).trans ((if_neg h2).trans (if_neg h3))).symm)
        ·
          refine lv_iconst (v := 1) hx hb dM_closed_18 (by decide) ?_
          refine lv_goto hx hb dM_closed_19 (tgt := 23) (by decide) ?_
          exact J23 _ _ hP hD hS _ (((if_neg h1).trans ((if_neg h2).trans (if_pos h3))).symm)
  exact kretZ (rfl) (kz_ite kz1 (kz_ite kz1 (kz_ite kz1 kz0))) hx hb hr hlk hS hP hD hK dM_closed_23

theorem zm_closed_in {y : YS} {g1 : Int32} (h : zm_closed y g1 = 0) : vp_in g1 3 := by
  unfold zm_closed at h
  by_cases h1 : g1 < 0
  · rw [if_pos h1] at h; exact absurd h (by decide)
  · rw [if_neg h1] at h
    by_cases h2 : 2 < g1
    · rw [if_pos h2] at h; exact absurd h (by decide)
    · exact kin3 h1 h2
theorem kge {z : Int32} (h : 0 ≤ z) : ¬ z < 0 := fun h2 => absurd (Int32.lt_of_lt_of_le h2 h) Int32.lt_irrefl

def zm_visible (y : YS) (g1 : Int32) : Int32 := (if (y.2.2.2.2.2.2.1 (Int32.toNatClampNeg g1)) = 0 then (0 : Int32) else (if (zm_has (y.2.2.2.2.2.2.2.2.2 (Int32.toNatClampNeg g1)) 2) = 0 then (1 : Int32) else (if y.2.1 = 1 then (1 : Int32) else (0 : Int32))))

set_option maxHeartbeats 4000000 in
set_option maxRecDepth 100000 in
theorem km_visible (l : Launch) (D : va_G) (cI cZ : ClassId) (bo b1 b2 b3 b4 b5 b6 b7 : Nat) (y : YS) (g1 : Int32) (hi : vp_in g1 512) : kI l yM_visible wsM_visible (rmOf 1 21) D (kT cI cZ) [.ref bo, .int g1] (wY cI cZ bo b1 b2 b3 b4 b5 b6 b7 y) (zm_visible y g1) (wY cI cZ bo b1 b2 b3 b4 b5 b6 b7 y) := by
  intro sz
  refine kOf (Qc := fun A => kQi D (kT cI cZ) A (zm_visible y g1) (wY cI cZ bo b1 b2 b3 b4 b5 b6 b7 y)) (cc := cM_visible) (maxL := 2) (ret := some .boolean) (by decide) rfl (Nat.le_of_ble_eq_true rfl) ?_ sz
  intro p e s m args below meth c A ls hx hb hml hown hts hNw hr hlk hin hA hS hP hD hK hl
  show W p l e (rmOf 1 21) s m args below meth c s.heap [] 0 0 (MQ below (kQi D (kT cI cZ) A (zm_visible y g1) (wY cI cZ bo b1 b2 b3 b4 b5 b6 b7 y)) args s 0 0 A) (F0 m 0 ls [])
  have hts : ∀ q ∈ lw_g, q.before args s = true := fun q h => hts q (List.mem_cons_of_mem _ h)
  have hown : s.vm.findClass cnM = some m.cls := hown
  have hl : lv_has ls 2 [(0, .ref bo), (1, .int g1)] := hl
  have hP : va_P D vwCl [(bo, .inr (3, [.ref b1, .int y.2.1, .ref b2, .ref b3, .int (nI y.2.2.2.2.1), .int y.2.2.2.2.2.1, .ref b4, .ref b5, .ref b6, .ref b7])), (b1, .inl (cI, 3, .inl y.1)), (b2, .inl (cI, 3, .inl y.2.2.1)), (b3, .inl (cI, 3, .inl y.2.2.2.1)), (b4, .inl (cZ, 512, .inl y.2.2.2.2.2.2.1)), (b5, .inl (cI, 512, .inl y.2.2.2.2.2.2.2.1)), (b6, .inl (cI, 512, .inl y.2.2.2.2.2.2.2.2.1)), (b7, .inl (cI, 512, .inl y.2.2.2.2.2.2.2.2.2))] s.heap := hP
  have hD : va_D A [(bo, .inr (3, [.ref b1, .int y.2.1, .ref b2, .ref b3, .int (nI y.2.2.2.2.1), .int y.2.2.2.2.2.1, .ref b4, .ref b5, .ref b6, .ref b7])), (b1, .inl (cI, 3, .inl y.1)), (b2, .inl (cI, 3, .inl y.2.2.1)), (b3, .inl (cI, 3, .inl y.2.2.2.1)), (b4, .inl (cZ, 512, .inl y.2.2.2.2.2.2.1)), (b5, .inl (cI, 512, .inl y.2.2.2.2.2.2.2.1)), (b6, .inl (cI, 512, .inl y.2.2.2.2.2.2.2.2.1)), (b7, .inl (cI, 512, .inl y.2.2.2.2.2.2.2.2.2))] := hD
  refine lv_aload_n hx hb dM_visible_0 rfl (lv_at hl 0 rfl) ?_
  refine va_get (D := D) (ci := 3) (v := .ref b4) (C := cnM) (T := ftM) (N := 10) hx hb hts inM hown hK hP 0 rfl rfl 6 (by decide) (hts _ mw295) (fun _ h9 => h9) rfl dM_visible_1 ?_
  refine lv_iload_n hx hb dM_visible_4 rfl (lv_at hl 1 rfl) ?_
  refine va_zald hx hb hK hP 4 1 rfl rfl (hi) dM_visible_5 ?_
  refine kJoin (pcJ := 35) (z := (if (y.2.2.2.2.2.2.1 (Int32.toNatClampNeg g1)) = 0 then (0 : Int32) else (if (zm_has (y.2.2.2.2.2.2.2.2.2 (Int32.toNatClampNeg g1)) 2) = 0 then (1 : Int32) else (if y.2.1 = 1 then (1 : Int32) else (0 : Int32))))) (ws := [(bo, .inr (3, [.ref b1, .int y.2.1, .ref b2, .ref b3, .int (nI y.2.2.2.2.1), .int y.2.2.2.2.2.1, .ref b4, .ref b5, .ref b6, .ref b7])), (b1, .inl (cI, 3, .inl y.1)), (b2, .inl (cI, 3, .inl y.2.2.1)), (b3, .inl (cI, 3, .inl y.2.2.2.1)), (b4, .inl (cZ, 512, .inl y.2.2.2.2.2.2.1)), (b5, .inl (cI, 512, .inl y.2.2.2.2.2.2.2.1)), (b6, .inl (cI, 512, .inl y.2.2.2.2.2.2.2.2.1)), (b7, .inl (cI, 512, .inl y.2.2.2.2.2.2.2.2.2))]) (rest := []) (D := D) (A := A) (H0 := s.heap) (fun J35 => ?_) (fun H locs hP hD hS => ?_)
  ·
    refine lv_if_eq (tgt := 34) hx hb dM_visible_6 (by decide) (fun h1 => ?_) (fun h1 => ?_)
    ·
      refine lv_iconst (v := 0) hx hb dM_visible_34 (by decide) ?_
      exact J35 _ _ hP hD hS _ ((if_pos h1).symm)
    ·
      refine lv_aload_n hx hb dM_visible_9 rfl (lv_at hl 0 rfl) ?_
      refine va_get (D := D) (ci := 3) (v := .ref b7) (C := cnM) (T := ftM) (N := 10) hx hb hts inM hown hK hP 0 rfl rfl 9 (by decide) (hts _ mw298) (fun _ h9 => h9) rfl dM_visible_10 ?_
      refine lv_iload_n hx hb dM_visible_13 rfl (lv_at hl 1 rfl) ?_
      refine va_iald hx hb hK hP 7 0 rfl rfl (hi) dM_visible_14 ?_
      refine lv_iconst (v := 2) hx hb dM_visible_15 (by decide) ?_
      refine kcI (isR := [0, 1, 2, 3, 4, 5, 6, 7]) (isC := []) (wr := [(bo, .inr (3, [.ref b1, .int y.2.1, .ref b2, .ref b3, .int (nI y.2.2.2.2.1), .int y.2.2.2.2.2.1, .ref b4, .ref b5, .ref b6, .ref b7])), (b1, .inl (cI, 3, .inl y.1)), (b2, .inl (cI, 3, .inl y.2.2.1)), (b3, .inl (cI, 3, .inl y.2.2.2.1)), (b4, .inl (cZ, 512, .inl y.2.2.2.2.2.2.1)), (b5, .inl (cI, 512, .inl y.2.2.2.2.2.2.2.1)), (b6, .inl (cI, 512, .inl y.2.2.2.2.2.2.2.2.1)), (b7, .inl (cI, 512, .inl y.2.2.2.2.2.2.2.2.2))]) (w2 := [(bo, .inr (3, [.ref b1, .int y.2.1, .ref b2, .ref b3, .int (nI y.2.2.2.2.1), .int y.2.2.2.2.2.1, .ref b4, .ref b5, .ref b6, .ref b7])), (b1, .inl (cI, 3, .inl y.1)), (b2, .inl (cI, 3, .inl y.2.2.1)), (b3, .inl (cI, 3, .inl y.2.2.2.1)), (b4, .inl (cZ, 512, .inl y.2.2.2.2.2.2.1)), (b5, .inl (cI, 512, .inl y.2.2.2.2.2.2.2.1)), (b6, .inl (cI, 512, .inl y.2.2.2.2.2.2.2.2.1)), (b7, .inl (cI, 512, .inl y.2.2.2.2.2.2.2.2.2))]) (va_runS (As := [.int (y.2.2.2.2.2.2.2.2.2 (Int32.toNatClampNeg g1)), .int 2]) (rest := []) ⟨hx, hb, hml, hown, hts⟩ (km_has l D cI cZ (y.2.2.2.2.2.2.2.2.2 (Int32.toNatClampNeg g1)) 2 _) ⟨(callB_of 2 hts gd_yM_has rfl rfl rfl (hts _ mw27) (hts _ mw333) (by decide +kernel) ⟨Nat.le_of_ble_eq_true rfl, Nat.le_of_ble_eq_true rfl⟩), hts _ mw334⟩ (kpreS hNw hP hD hK [] rfl (by decide)) rfl rfl hl.1 rfl (lv_room (Nat.le_of_ble_eq_true rfl)) dM_visible_16 ⟨Nat.le_of_ble_eq_true rfl, Nat.le_of_ble_eq_true rfl⟩) hP hD hS hA [0, 1, 2, 3, 4, 5, 6, 7] rfl rfl (by decide) (by decide) (by decide) rfl (fun H locs hP hD hS => ?_)
      refine lv_if_eq (tgt := 30) hx hb dM_visible_19 (by decide) (fun h2 => ?_) (fun h2 => ?_)
      ·
        refine lv_iconst (v := 1) hx hb dM_visible_30 (by decide) ?_
        refine lv_goto hx hb dM_visible_31 (tgt := 35) (by decide) ?_
        exact J35 _ _ hP hD hS _ (((if_neg h1).trans (if_pos h2)).symm)
      ·
        refine lv_aload_n hx hb dM_visible_22 rfl (lv_at hl 0 rfl) ?_
        refine va_get (D := D) (ci := 3) (v := .int y.2.1) (C := cnM) (T := ftM) (N := 10) hx hb hts inM hown hK hP 0 rfl rfl 1 (by decide) (hts _ mw290) (fun _ h9 => h9) rfl dM_visible_23 ?_
        refine lv_iconst (v := 1) hx hb dM_visible_26 (by decide) ?_
        refine lv_icmp_ne (tgt := 34) hx hb dM_visible_27 (by decide) (fun h3 => ?_) (fun h3 => ?_)
        ·
          refine lv_iconst (v := 0) hx hb dM_visible_34 (by decide) ?_
          exact J35 _ _ hP hD hS _ (((if_neg h1).trans ((if_neg h2).trans (if_neg h3))).symm)
        ·
          refine lv_iconst (v := 1) hx hb dM_visible_30 (by decide) ?_
          refine lv_goto hx hb dM_visible_31 (tgt := 35) (by decide) ?_
          exact J35 _ _ hP hD hS _ (((if_neg h1).trans ((if_neg h2).trans (if_pos h3))).symm)
  exact kretZ (rfl) (kz_ite kz0 (kz_ite kz1 (kz_ite kz1 kz0))) hx hb hr hlk hS hP hD hK dM_visible_35

def zm_hidden (y : YS) (g1 : Int32) : Int32 := (if g1 < 1 then (1 : Int32) else (if (nI y.2.2.2.2.1) < g1 then (1 : Int32) else (if (zm_visible y (g1 - 1)) = 0 then (1 : Int32) else (0 : Int32))))

set_option maxHeartbeats 4000000 in
set_option maxRecDepth 100000 in
theorem km_hidden (l : Launch) (D : va_G) (cI cZ : ClassId) (bo b1 b2 b3 b4 b5 b6 b7 : Nat) (y : YS) (g1 : Int32) (hn : y.2.2.2.2.1 ≤ 512) : kI l yM_hidden wsM_hidden (rmOf 2 42) D (kT cI cZ) [.ref bo, .int g1] (wY cI cZ bo b1 b2 b3 b4 b5 b6 b7 y) (zm_hidden y g1) (wY cI cZ bo b1 b2 b3 b4 b5 b6 b7 y) := by
  intro sz
  refine kOf (Qc := fun A => kQi D (kT cI cZ) A (zm_hidden y g1) (wY cI cZ bo b1 b2 b3 b4 b5 b6 b7 y)) (cc := cM_hidden) (maxL := 2) (ret := some .boolean) (by decide) rfl (Nat.le_of_ble_eq_true rfl) ?_ sz
  intro p e s m args below meth c A ls hx hb hml hown hts hNw hr hlk hin hA hS hP hD hK hl
  show W p l e (rmOf 2 42) s m args below meth c s.heap [] 0 0 (MQ below (kQi D (kT cI cZ) A (zm_hidden y g1) (wY cI cZ bo b1 b2 b3 b4 b5 b6 b7 y)) args s 0 0 A) (F0 m 0 ls [])
  have hts : ∀ q ∈ lw_g, q.before args s = true := fun q h => hts q (List.mem_cons_of_mem _ h)
  have hown : s.vm.findClass cnM = some m.cls := hown
  have hl : lv_has ls 2 [(0, .ref bo), (1, .int g1)] := hl
  have hP : va_P D vwCl [(bo, .inr (3, [.ref b1, .int y.2.1, .ref b2, .ref b3, .int (nI y.2.2.2.2.1), .int y.2.2.2.2.2.1, .ref b4, .ref b5, .ref b6, .ref b7])), (b1, .inl (cI, 3, .inl y.1)), (b2, .inl (cI, 3, .inl y.2.2.1)), (b3, .inl (cI, 3, .inl y.2.2.2.1)), (b4, .inl (cZ, 512, .inl y.2.2.2.2.2.2.1)), (b5, .inl (cI, 512, .inl y.2.2.2.2.2.2.2.1)), (b6, .inl (cI, 512, .inl y.2.2.2.2.2.2.2.2.1)), (b7, .inl (cI, 512, .inl y.2.2.2.2.2.2.2.2.2))] s.heap := hP
  have hD : va_D A [(bo, .inr (3, [.ref b1, .int y.2.1, .ref b2, .ref b3, .int (nI y.2.2.2.2.1), .int y.2.2.2.2.2.1, .ref b4, .ref b5, .ref b6, .ref b7])), (b1, .inl (cI, 3, .inl y.1)), (b2, .inl (cI, 3, .inl y.2.2.1)), (b3, .inl (cI, 3, .inl y.2.2.2.1)), (b4, .inl (cZ, 512, .inl y.2.2.2.2.2.2.1)), (b5, .inl (cI, 512, .inl y.2.2.2.2.2.2.2.1)), (b6, .inl (cI, 512, .inl y.2.2.2.2.2.2.2.2.1)), (b7, .inl (cI, 512, .inl y.2.2.2.2.2.2.2.2.2))] := hD
  refine lv_iload_n hx hb dM_hidden_0 rfl (lv_at hl 1 rfl) ?_
  refine lv_iconst (v := 1) hx hb dM_hidden_1 (by decide) ?_
  refine kJoin (pcJ := 28) (z := (if g1 < 1 then (1 : Int32) else (if (nI y.2.2.2.2.1) < g1 then (1 : Int32) else (if (zm_visible y (g1 - 1)) = 0 then (1 : Int32) else (0 : Int32))))) (ws := [(bo, .inr (3, [.ref b1, .int y.2.1, .ref b2, .ref b3, .int (nI y.2.2.2.2.1), .int y.2.2.2.2.2.1, .ref b4, .ref b5, .ref b6, .ref b7])), (b1, .inl (cI, 3, .inl y.1)), (b2, .inl (cI, 3, .inl y.2.2.1)), (b3, .inl (cI, 3, .inl y.2.2.2.1)), (b4, .inl (cZ, 512, .inl y.2.2.2.2.2.2.1)), (b5, .inl (cI, 512, .inl y.2.2.2.2.2.2.2.1)), (b6, .inl (cI, 512, .inl y.2.2.2.2.2.2.2.2.1)), (b7, .inl (cI, 512, .inl y.2.2.2.2.2.2.2.2.2))]) (rest := []) (D := D) (A := A) (H0 := s.heap) (fun J28 => ?_) (fun H locs hP hD hS => ?_)
  ·
    refine lv_icmp_lt (tgt := 23) hx hb dM_hidden_2 (by decide) (fun h1 => ?_) (fun h1 => ?_)
    ·
      refine lv_iconst (v := 1) hx hb dM_hidden_23 (by decide) ?_
      refine lv_goto hx hb dM_hidden_24 (tgt := 28) (by decide) ?_
      exact J28 _ _ hP hD hS _ ((if_pos h1).symm)
    ·
      refine lv_iload_n hx hb dM_hidden_5 rfl (lv_at hl 1 rfl) ?_
      refine lv_aload_n hx hb dM_hidden_6 rfl (lv_at hl 0 rfl) ?_
      refine va_get (D := D) (ci := 3) (v := .int (nI y.2.2.2.2.1)) (C := cnM) (T := ftM) (N := 10) hx hb hts inM hown hK hP 0 rfl rfl 4 (by decide) (hts _ mw293) (fun _ h9 => h9) rfl dM_hidden_7 ?_
      refine lv_icmp_gt (tgt := 23) hx hb dM_hidden_10 (by decide) (fun h2 => ?_) (fun h2 => ?_)
      ·
        refine lv_iconst (v := 1) hx hb dM_hidden_23 (by decide) ?_
        refine lv_goto hx hb dM_hidden_24 (tgt := 28) (by decide) ?_
        exact J28 _ _ hP hD hS _ (((if_neg h1).trans (if_pos h2)).symm)
      ·
        refine lv_aload_n hx hb dM_hidden_13 rfl (lv_at hl 0 rfl) ?_
        refine lv_iload_n hx hb dM_hidden_14 rfl (lv_at hl 1 rfl) ?_
        refine lv_iconst (v := 1) hx hb dM_hidden_15 (by decide) ?_
        refine lv_isub hx hb dM_hidden_16 ?_
        refine kcI (isR := []) (isC := [0, 1, 2, 3, 4, 5, 6, 7]) (wr := []) (w2 := [(bo, .inr (3, [.ref b1, .int y.2.1, .ref b2, .ref b3, .int (nI y.2.2.2.2.1), .int y.2.2.2.2.2.1, .ref b4, .ref b5, .ref b6, .ref b7])), (b1, .inl (cI, 3, .inl y.1)), (b2, .inl (cI, 3, .inl y.2.2.1)), (b3, .inl (cI, 3, .inl y.2.2.2.1)), (b4, .inl (cZ, 512, .inl y.2.2.2.2.2.2.1)), (b5, .inl (cI, 512, .inl y.2.2.2.2.2.2.2.1)), (b6, .inl (cI, 512, .inl y.2.2.2.2.2.2.2.2.1)), (b7, .inl (cI, 512, .inl y.2.2.2.2.2.2.2.2.2))]) (va_runV (As := [.int (g1 - 1)]) (rest := []) ⟨hx, hb, hml, hown, hts⟩ (km_visible l D cI cZ bo b1 b2 b3 b4 b5 b6 b7 y (g1 - 1) (kin1 hn h1 h2) _) ⟨(callB_of 1 hts gd_yM_visible rfl rfl rfl (hts _ mw27) (hts _ mw388) (by decide +kernel) ⟨Nat.le_of_ble_eq_true rfl, Nat.le_of_ble_eq_true rfl⟩), hts _ mw390, hts _ mw21⟩ (kpreV hNw hP hD hK [0, 1, 2, 3, 4, 5, 6, 7] rfl (by decide) 0 rfl (ci := 3) rfl) rfl rfl hl.1 rfl (lv_room (Nat.le_of_ble_eq_true rfl)) dM_hidden_17 ⟨Nat.le_of_ble_eq_true rfl, Nat.le_of_ble_eq_true rfl⟩) hP hD hS hA [0, 1, 2, 3, 4, 5, 6, 7] rfl rfl (by decide) (by decide) (by decide) rfl (fun H locs hP hD hS => ?_)
        refine lv_if_ne (tgt := 27) hx hb dM_hidden_20 (by decide) (fun h3 => ?_) (fun h3 => ?_)
        ·
          refine lv_iconst (v := 0) hx hb dM_hidden_27 (by decide) ?_
          exact J28 _ _ hP hD hS _ (((if_neg h1).trans ((if_neg h2).trans (if_neg h3))).symm)
        ·
          refine lv_iconst (v := 1) hx hb dM_hidden_23 (by decide) ?_
          refine lv_goto hx hb dM_hidden_24 (tgt := 28) (by decide) ?_
          exact J28 _ _ hP hD hS _ (((if_neg h1).trans ((if_neg h2).trans (if_pos h3))).symm)
  exact kretZ (rfl) (kz_ite kz1 (kz_ite kz1 (kz_ite kz1 kz0))) hx hb hr hlk hS hP hD hK dM_hidden_28

theorem zm_hidden_in {y : YS} {g1 : Int32} (hn : y.2.2.2.2.1 ≤ 512) (h : zm_hidden y g1 = 0) : vp_in (g1 - 1) 512 := by
  unfold zm_hidden at h
  by_cases h1 : g1 < 1
  · rw [if_pos h1] at h; exact absurd h (by decide)
  · rw [if_neg h1] at h
    by_cases h2 : nI y.2.2.2.2.1 < g1
    · rw [if_pos h2] at h; exact absurd h (by decide)
    · exact kin1 hn h1 h2

def zm_readOnly (y : YS) (g1 : Int32) (g2 : Int32) : Int32 := (if (y.1 (Int32.toNatClampNeg g1)) = 1 then (if (zm_has g2 1) = 0 then (0 : Int32) else (1 : Int32)) else (0 : Int32))

set_option maxHeartbeats 4000000 in
set_option maxRecDepth 100000 in
theorem km_readOnly (l : Launch) (D : va_G) (cI cZ : ClassId) (bo b1 b2 b3 b4 b5 b6 b7 : Nat) (y : YS) (g1 : Int32) (g2 : Int32) (hi : vp_in g1 3) : kI l yM_readOnly wsM_readOnly (rmOf 1 21) D (kT cI cZ) [.ref bo, .int g1, .int g2] (wY cI cZ bo b1 b2 b3 b4 b5 b6 b7 y) (zm_readOnly y g1 g2) (wY cI cZ bo b1 b2 b3 b4 b5 b6 b7 y) := by
  intro sz
  refine kOf (Qc := fun A => kQi D (kT cI cZ) A (zm_readOnly y g1 g2) (wY cI cZ bo b1 b2 b3 b4 b5 b6 b7 y)) (cc := cM_readOnly) (maxL := 3) (ret := some .boolean) (by decide) rfl (Nat.le_of_ble_eq_true rfl) ?_ sz
  intro p e s m args below meth c A ls hx hb hml hown hts hNw hr hlk hin hA hS hP hD hK hl
  show W p l e (rmOf 1 21) s m args below meth c s.heap [] 0 0 (MQ below (kQi D (kT cI cZ) A (zm_readOnly y g1 g2) (wY cI cZ bo b1 b2 b3 b4 b5 b6 b7 y)) args s 0 0 A) (F0 m 0 ls [])
  have hts : ∀ q ∈ lw_g, q.before args s = true := fun q h => hts q (List.mem_cons_of_mem _ h)
  have hown : s.vm.findClass cnM = some m.cls := hown
  have hl : lv_has ls 3 [(0, .ref bo), (1, .int g1), (2, .int g2)] := hl
  have hP : va_P D vwCl [(bo, .inr (3, [.ref b1, .int y.2.1, .ref b2, .ref b3, .int (nI y.2.2.2.2.1), .int y.2.2.2.2.2.1, .ref b4, .ref b5, .ref b6, .ref b7])), (b1, .inl (cI, 3, .inl y.1)), (b2, .inl (cI, 3, .inl y.2.2.1)), (b3, .inl (cI, 3, .inl y.2.2.2.1)), (b4, .inl (cZ, 512, .inl y.2.2.2.2.2.2.1)), (b5, .inl (cI, 512, .inl y.2.2.2.2.2.2.2.1)), (b6, .inl (cI, 512, .inl y.2.2.2.2.2.2.2.2.1)), (b7, .inl (cI, 512, .inl y.2.2.2.2.2.2.2.2.2))] s.heap := hP
  have hD : va_D A [(bo, .inr (3, [.ref b1, .int y.2.1, .ref b2, .ref b3, .int (nI y.2.2.2.2.1), .int y.2.2.2.2.2.1, .ref b4, .ref b5, .ref b6, .ref b7])), (b1, .inl (cI, 3, .inl y.1)), (b2, .inl (cI, 3, .inl y.2.2.1)), (b3, .inl (cI, 3, .inl y.2.2.2.1)), (b4, .inl (cZ, 512, .inl y.2.2.2.2.2.2.1)), (b5, .inl (cI, 512, .inl y.2.2.2.2.2.2.2.1)), (b6, .inl (cI, 512, .inl y.2.2.2.2.2.2.2.2.1)), (b7, .inl (cI, 512, .inl y.2.2.2.2.2.2.2.2.2))] := hD
  refine lv_aload_n hx hb dM_readOnly_0 rfl (lv_at hl 0 rfl) ?_
  refine va_get (D := D) (ci := 3) (v := .ref b1) (C := cnM) (T := ftM) (N := 10) hx hb hts inM hown hK hP 0 rfl rfl 0 (by decide) (hts _ mw289) (fun _ h9 => h9) rfl dM_readOnly_1 ?_
  refine lv_iload_n hx hb dM_readOnly_4 rfl (lv_at hl 1 rfl) ?_
  refine va_iald hx hb hK hP 1 0 rfl rfl (hi) dM_readOnly_5 ?_
  refine lv_iconst (v := 1) hx hb dM_readOnly_6 (by decide) ?_
  refine kJoin (pcJ := 23) (z := (if (y.1 (Int32.toNatClampNeg g1)) = 1 then (if (zm_has g2 1) = 0 then (0 : Int32) else (1 : Int32)) else (0 : Int32))) (ws := [(bo, .inr (3, [.ref b1, .int y.2.1, .ref b2, .ref b3, .int (nI y.2.2.2.2.1), .int y.2.2.2.2.2.1, .ref b4, .ref b5, .ref b6, .ref b7])), (b1, .inl (cI, 3, .inl y.1)), (b2, .inl (cI, 3, .inl y.2.2.1)), (b3, .inl (cI, 3, .inl y.2.2.2.1)), (b4, .inl (cZ, 512, .inl y.2.2.2.2.2.2.1)), (b5, .inl (cI, 512, .inl y.2.2.2.2.2.2.2.1)), (b6, .inl (cI, 512, .inl y.2.2.2.2.2.2.2.2.1)), (b7, .inl (cI, 512, .inl y.2.2.2.2.2.2.2.2.2))]) (rest := []) (D := D) (A := A) (H0 := s.heap) (fun J23 => ?_) (fun H locs hP hD hS => ?_)
  ·
    refine lv_icmp_ne (tgt := 22) hx hb dM_readOnly_7 (by decide) (fun h1 => ?_) (fun h1 => ?_)
    ·
      refine lv_iconst (v := 0) hx hb dM_readOnly_22 (by decide) ?_
      exact J23 _ _ hP hD hS _ ((if_neg h1).symm)
    ·
      refine lv_iload_n hx hb dM_readOnly_10 rfl (lv_at hl 2 rfl) ?_
      refine lv_iconst (v := 1) hx hb dM_readOnly_11 (by decide) ?_
      refine kcI (isR := [0, 1, 2, 3, 4, 5, 6, 7]) (isC := []) (wr := [(bo, .inr (3, [.ref b1, .int y.2.1, .ref b2, .ref b3, .int (nI y.2.2.2.2.1), .int y.2.2.2.2.2.1, .ref b4, .ref b5, .ref b6, .ref b7])), (b1, .inl (cI, 3, .inl y.1)), (b2, .inl (cI, 3, .inl y.2.2.1)), (b3, .inl (cI, 3, .inl y.2.2.2.1)), (b4, .inl (cZ, 512, .inl y.2.2.2.2.2.2.1)), (b5, .inl (cI, 512, .inl y.2.2.2.2.2.2.2.1)), (b6, .inl (cI, 512, .inl y.2.2.2.2.2.2.2.2.1)), (b7, .inl (cI, 512, .inl y.2.2.2.2.2.2.2.2.2))]) (w2 := [(bo, .inr (3, [.ref b1, .int y.2.1, .ref b2, .ref b3, .int (nI y.2.2.2.2.1), .int y.2.2.2.2.2.1, .ref b4, .ref b5, .ref b6, .ref b7])), (b1, .inl (cI, 3, .inl y.1)), (b2, .inl (cI, 3, .inl y.2.2.1)), (b3, .inl (cI, 3, .inl y.2.2.2.1)), (b4, .inl (cZ, 512, .inl y.2.2.2.2.2.2.1)), (b5, .inl (cI, 512, .inl y.2.2.2.2.2.2.2.1)), (b6, .inl (cI, 512, .inl y.2.2.2.2.2.2.2.2.1)), (b7, .inl (cI, 512, .inl y.2.2.2.2.2.2.2.2.2))]) (va_runS (As := [.int g2, .int 1]) (rest := []) ⟨hx, hb, hml, hown, hts⟩ (km_has l D cI cZ g2 1 _) ⟨(callB_of 2 hts gd_yM_has rfl rfl rfl (hts _ mw27) (hts _ mw333) (by decide +kernel) ⟨Nat.le_of_ble_eq_true rfl, Nat.le_of_ble_eq_true rfl⟩), hts _ mw334⟩ (kpreS hNw hP hD hK [] rfl (by decide)) rfl rfl hl.1 rfl (lv_room (Nat.le_of_ble_eq_true rfl)) dM_readOnly_12 ⟨Nat.le_of_ble_eq_true rfl, Nat.le_of_ble_eq_true rfl⟩) hP hD hS hA [0, 1, 2, 3, 4, 5, 6, 7] rfl rfl (by decide) (by decide) (by decide) rfl (fun H locs hP hD hS => ?_)
      refine lv_if_eq (tgt := 22) hx hb dM_readOnly_15 (by decide) (fun h2 => ?_) (fun h2 => ?_)
      ·
        refine lv_iconst (v := 0) hx hb dM_readOnly_22 (by decide) ?_
        exact J23 _ _ hP hD hS _ (((if_pos h1).trans (if_pos h2)).symm)
      ·
        refine lv_iconst (v := 1) hx hb dM_readOnly_18 (by decide) ?_
        refine lv_goto hx hb dM_readOnly_19 (tgt := 23) (by decide) ?_
        exact J23 _ _ hP hD hS _ (((if_pos h1).trans (if_neg h2)).symm)
  exact kretZ (rfl) (kz_ite (kz_ite kz0 kz1) kz0) hx hb hr hlk hS hP hD hK dM_readOnly_23

def zm_cnt (t : Nat → Int32) : Nat → Nat → Int32 → Int32
  | 0, _, b => b
  | f + 1, i, b => zm_cnt t f (i + 1) (if (t i) = 0 then b else (b + 1))
def zm_count (y : YS) : Int32 := zm_cnt y.2.2.2.2.2.2.1 y.2.2.2.2.1 0 0

set_option maxHeartbeats 4000000 in
set_option maxRecDepth 100000 in
theorem km_count (l : Launch) (D : va_G) (cI cZ : ClassId) (bo b1 b2 b3 b4 b5 b6 b7 : Nat) (y : YS) (hn : y.2.2.2.2.1 ≤ 512) : kI l yM_count wsM_count (rmOf 0 0) D (kT cI cZ) [.ref bo] (wY cI cZ bo b1 b2 b3 b4 b5 b6 b7 y) (zm_count y) (wY cI cZ bo b1 b2 b3 b4 b5 b6 b7 y) := by
  intro sz
  refine kOf (Qc := fun A => kQi D (kT cI cZ) A (zm_count y) (wY cI cZ bo b1 b2 b3 b4 b5 b6 b7 y)) (cc := cM_count) (maxL := 3) (ret := some .int) (by decide) rfl (Nat.le_of_ble_eq_true rfl) ?_ sz
  intro p e s m args below meth c A ls hx hb hml hown hts hNw hr hlk hin hA hS hP hD hK hl
  show W p l e (rmOf 0 0) s m args below meth c s.heap [] 0 0 (MQ below (kQi D (kT cI cZ) A (zm_count y) (wY cI cZ bo b1 b2 b3 b4 b5 b6 b7 y)) args s 0 0 A) (F0 m 0 ls [])
  have hts : ∀ q ∈ lw_g, q.before args s = true := fun q h => hts q (List.mem_cons_of_mem _ h)
  have hown : s.vm.findClass cnM = some m.cls := hown
  have hl : lv_has ls 3 [(0, .ref bo)] := hl
  have hP : va_P D vwCl [(bo, .inr (3, [.ref b1, .int y.2.1, .ref b2, .ref b3, .int (nI y.2.2.2.2.1), .int y.2.2.2.2.2.1, .ref b4, .ref b5, .ref b6, .ref b7])), (b1, .inl (cI, 3, .inl y.1)), (b2, .inl (cI, 3, .inl y.2.2.1)), (b3, .inl (cI, 3, .inl y.2.2.2.1)), (b4, .inl (cZ, 512, .inl y.2.2.2.2.2.2.1)), (b5, .inl (cI, 512, .inl y.2.2.2.2.2.2.2.1)), (b6, .inl (cI, 512, .inl y.2.2.2.2.2.2.2.2.1)), (b7, .inl (cI, 512, .inl y.2.2.2.2.2.2.2.2.2))] s.heap := hP
  have hD : va_D A [(bo, .inr (3, [.ref b1, .int y.2.1, .ref b2, .ref b3, .int (nI y.2.2.2.2.1), .int y.2.2.2.2.2.1, .ref b4, .ref b5, .ref b6, .ref b7])), (b1, .inl (cI, 3, .inl y.1)), (b2, .inl (cI, 3, .inl y.2.2.1)), (b3, .inl (cI, 3, .inl y.2.2.2.1)), (b4, .inl (cZ, 512, .inl y.2.2.2.2.2.2.1)), (b5, .inl (cI, 512, .inl y.2.2.2.2.2.2.2.1)), (b6, .inl (cI, 512, .inl y.2.2.2.2.2.2.2.2.1)), (b7, .inl (cI, 512, .inl y.2.2.2.2.2.2.2.2.2))] := hD
  have L : ∀ (f : Nat) (i : Nat) (b : Int32) (ls : Array Slot) (H : Heap) (locs : List Loc), (i + f = y.2.2.2.2.1) → (zm_count y = zm_cnt y.2.2.2.2.2.2.1 f i b) → lv_has ls 3 [(2, .int (nI i)), (1, .int b), (0, .ref bo)] → va_P D vwCl [(bo, .inr (3, [.ref b1, .int y.2.1, .ref b2, .ref b3, .int (nI y.2.2.2.2.1), .int y.2.2.2.2.2.1, .ref b4, .ref b5, .ref b6, .ref b7])), (b1, .inl (cI, 3, .inl y.1)), (b2, .inl (cI, 3, .inl y.2.2.1)), (b3, .inl (cI, 3, .inl y.2.2.2.1)), (b4, .inl (cZ, 512, .inl y.2.2.2.2.2.2.1)), (b5, .inl (cI, 512, .inl y.2.2.2.2.2.2.2.1)), (b6, .inl (cI, 512, .inl y.2.2.2.2.2.2.2.2.1)), (b7, .inl (cI, 512, .inl y.2.2.2.2.2.2.2.2.2))] H → va_D A [(bo, .inr (3, [.ref b1, .int y.2.1, .ref b2, .ref b3, .int (nI y.2.2.2.2.1), .int y.2.2.2.2.2.1, .ref b4, .ref b5, .ref b6, .ref b7])), (b1, .inl (cI, 3, .inl y.1)), (b2, .inl (cI, 3, .inl y.2.2.1)), (b3, .inl (cI, 3, .inl y.2.2.2.1)), (b4, .inl (cZ, 512, .inl y.2.2.2.2.2.2.1)), (b5, .inl (cI, 512, .inl y.2.2.2.2.2.2.2.1)), (b6, .inl (cI, 512, .inl y.2.2.2.2.2.2.2.2.1)), (b7, .inl (cI, 512, .inl y.2.2.2.2.2.2.2.2.2))] → va_S A s.heap H locs → W p l e (rmOf 0 0) s m args below meth c H locs 0 0 (MQ below (kQi D (kT cI cZ) A (zm_count y) (wY cI cZ bo b1 b2 b3 b4 b5 b6 b7 y)) args s 0 0 A) (F0 m 4 ls []) := by
    intro f
    induction f with
    | zero =>
      intro i b ls H locs hf he hl hP hD hS
      refine lv_iload_n hx hb dM_count_4 rfl (lv_at hl 0 rfl) ?_
      refine lv_aload_n hx hb dM_count_5 rfl (lv_at hl 2 rfl) ?_
      refine va_get (D := D) (ci := 3) (v := .int (nI y.2.2.2.2.1)) (C := cnM) (T := ftM) (N := 10) hx hb hts inM hown hK hP 0 rfl rfl 4 (by decide) (hts _ mw293) (fun _ h9 => h9) rfl dM_count_6 ?_
      refine lv_icmp_ge (tgt := 35) hx hb dM_count_9 (by decide) (fun _ => ?_) (fun h => absurd (nI_le (by omega) (by omega)) h)
      refine lv_iload_n hx hb dM_count_35 rfl (lv_at hl 1 rfl) ?_
      exact kretP (he) hx hb hr hlk hS hP hD hK dM_count_36
    | succ f ih =>
      intro i b ls H locs hf he hl hP hD hS
      refine lv_iload_n hx hb dM_count_4 rfl (lv_at hl 0 rfl) ?_
      refine lv_aload_n hx hb dM_count_5 rfl (lv_at hl 2 rfl) ?_
      refine va_get (D := D) (ci := 3) (v := .int (nI y.2.2.2.2.1)) (C := cnM) (T := ftM) (N := 10) hx hb hts inM hown hK hP 0 rfl rfl 4 (by decide) (hts _ mw293) (fun _ h9 => h9) rfl dM_count_6 ?_
      refine lv_icmp_ge (tgt := 35) hx hb dM_count_9 (by decide) (fun h => absurd h (nI_ge (by omega) (by omega))) (fun _ => ?_)
      refine lv_aload_n hx hb dM_count_12 rfl (lv_at hl 2 rfl) ?_
      refine va_get (D := D) (ci := 3) (v := .ref b4) (C := cnM) (T := ftM) (N := 10) hx hb hts inM hown hK hP 0 rfl rfl 6 (by decide) (hts _ mw295) (fun _ h9 => h9) rfl dM_count_13 ?_
      refine lv_iload_n hx hb dM_count_16 rfl (lv_at hl 0 rfl) ?_
      refine va_zald hx hb hK hP 4 1 rfl rfl (vp_in_nI (by omega) (by decide)) dM_count_17 ?_
      refine kTop (y := (y.2.2.2.2.2.2.1 i)) (by rw [nI_clamp (by omega)]) ?_
      refine kJoin (pcJ := 28) (z := (if (y.2.2.2.2.2.2.1 i) = 0 then b else (b + 1))) (ws := [(bo, .inr (3, [.ref b1, .int y.2.1, .ref b2, .ref b3, .int (nI y.2.2.2.2.1), .int y.2.2.2.2.2.1, .ref b4, .ref b5, .ref b6, .ref b7])), (b1, .inl (cI, 3, .inl y.1)), (b2, .inl (cI, 3, .inl y.2.2.1)), (b3, .inl (cI, 3, .inl y.2.2.2.1)), (b4, .inl (cZ, 512, .inl y.2.2.2.2.2.2.1)), (b5, .inl (cI, 512, .inl y.2.2.2.2.2.2.2.1)), (b6, .inl (cI, 512, .inl y.2.2.2.2.2.2.2.2.1)), (b7, .inl (cI, 512, .inl y.2.2.2.2.2.2.2.2.2))]) (rest := []) (D := D) (A := A) (H0 := s.heap) (fun J28 => ?_) (fun H locs hP hD hS => ?_)
      ·
        refine lv_if_eq (tgt := 27) hx hb dM_count_18 (by decide) (fun h1 => ?_) (fun h1 => ?_)
        ·
          refine lv_iload_n hx hb dM_count_27 rfl (lv_at hl 1 rfl) ?_
          exact J28 _ _ hP hD hS _ ((if_pos h1).symm)
        ·
          refine lv_iload_n hx hb dM_count_21 rfl (lv_at hl 1 rfl) ?_
          refine lv_iconst (v := 1) hx hb dM_count_22 (by decide) ?_
          refine lv_iadd hx hb dM_count_23 ?_
          refine lv_goto hx hb dM_count_24 (tgt := 28) (by decide) ?_
          exact J28 _ _ hP hD hS _ ((if_neg h1).symm)
      refine lv_istore_n hx hb dM_count_28 rfl hl (by decide) rfl (fun ls hl => ?_)
      have hl : lv_has ls 3 [(1, .int (if (y.2.2.2.2.2.2.1 i) = 0 then b else (b + 1))), (2, .int (nI i)), (0, .ref bo)] := hl
      refine lv_iinc (k := 1) (v := (nI (i + 1))) hx hb dM_count_29 hl rfl (kincN1 _) (by decide) rfl (fun ls hl => ?_)
      have hl : lv_has ls 3 [(2, .int (nI (i + 1))), (1, .int (if (y.2.2.2.2.2.2.1 i) = 0 then b else (b + 1))), (0, .ref bo)] := hl
      refine lv_goto hx hb dM_count_32 (tgt := 4) (by decide) ?_
      exact ih (i + 1) (if (y.2.2.2.2.2.2.1 i) = 0 then b else (b + 1)) _ _ _ (by omega) (by rw [he, zm_cnt]) (lv_sub hl [0, 1, 2] rfl) hP hD hS
  refine lv_iconst (v := 0) hx hb dM_count_0 (by decide) ?_
  refine lv_istore_n hx hb dM_count_1 rfl hl (by decide) rfl (fun ls hl => ?_)
  have hl : lv_has ls 3 [(1, .int 0), (0, .ref bo)] := hl
  refine lv_iconst (v := 0) hx hb dM_count_2 (by decide) ?_
  refine lv_istore_n hx hb dM_count_3 rfl hl (by decide) rfl (fun ls hl => ?_)
  have hl : lv_has ls 3 [(2, .int 0), (1, .int 0), (0, .ref bo)] := hl
  exact L y.2.2.2.2.1 0 0 _ _ _ (by omega) rfl (lv_sub hl [0, 1, 2] rfl) hP hD hS

def zm_obstacle (y : YS) (g1 : Int32) (g2 : Int32) (g3 : Int32) : Int32 := (if (zm_has g2 2) = 0 then (if (zm_readOnly y g1 g2) = 0 then (if (zm_good g2) = 0 then (-5) else (if g3 = 0 then (if (zm_count y) < 10 then (0 : Int32) else ((-6) : Int32)) else (-5))) else (-4)) else (if y.2.1 = 1 then (if (zm_readOnly y g1 g2) = 0 then (if (zm_good g2) = 0 then (-5) else (if g3 = 0 then (if (zm_count y) < 10 then (0 : Int32) else ((-6) : Int32)) else (-5))) else (-4)) else (-3)))

set_option maxHeartbeats 4000000 in
set_option maxRecDepth 100000 in
theorem km_obstacle (l : Launch) (D : va_G) (cI cZ : ClassId) (bo b1 b2 b3 b4 b5 b6 b7 : Nat) (y : YS) (g1 : Int32) (g2 : Int32) (g3 : Int32) (hi : vp_in g1 3) (hn : y.2.2.2.2.1 ≤ 512) : kI l yM_obstacle wsM_obstacle (rmOf 2 43) D (kT cI cZ) [.ref bo, .int g1, .int g2, .int g3] (wY cI cZ bo b1 b2 b3 b4 b5 b6 b7 y) (zm_obstacle y g1 g2 g3) (wY cI cZ bo b1 b2 b3 b4 b5 b6 b7 y) := by
  intro sz
  refine kOf (Qc := fun A => kQi D (kT cI cZ) A (zm_obstacle y g1 g2 g3) (wY cI cZ bo b1 b2 b3 b4 b5 b6 b7 y)) (cc := cM_obstacle) (maxL := 4) (ret := some .int) (by decide) rfl (Nat.le_of_ble_eq_true rfl) ?_ sz
  intro p e s m args below meth c A ls hx hb hml hown hts hNw hr hlk hin hA hS hP hD hK hl
  show W p l e (rmOf 2 43) s m args below meth c s.heap [] 0 0 (MQ below (kQi D (kT cI cZ) A (zm_obstacle y g1 g2 g3) (wY cI cZ bo b1 b2 b3 b4 b5 b6 b7 y)) args s 0 0 A) (F0 m 0 ls [])
  have hts : ∀ q ∈ lw_g, q.before args s = true := fun q h => hts q (List.mem_cons_of_mem _ h)
  have hown : s.vm.findClass cnM = some m.cls := hown
  have hl : lv_has ls 4 [(0, .ref bo), (1, .int g1), (2, .int g2), (3, .int g3)] := hl
  have hP : va_P D vwCl [(bo, .inr (3, [.ref b1, .int y.2.1, .ref b2, .ref b3, .int (nI y.2.2.2.2.1), .int y.2.2.2.2.2.1, .ref b4, .ref b5, .ref b6, .ref b7])), (b1, .inl (cI, 3, .inl y.1)), (b2, .inl (cI, 3, .inl y.2.2.1)), (b3, .inl (cI, 3, .inl y.2.2.2.1)), (b4, .inl (cZ, 512, .inl y.2.2.2.2.2.2.1)), (b5, .inl (cI, 512, .inl y.2.2.2.2.2.2.2.1)), (b6, .inl (cI, 512, .inl y.2.2.2.2.2.2.2.2.1)), (b7, .inl (cI, 512, .inl y.2.2.2.2.2.2.2.2.2))] s.heap := hP
  have hD : va_D A [(bo, .inr (3, [.ref b1, .int y.2.1, .ref b2, .ref b3, .int (nI y.2.2.2.2.1), .int y.2.2.2.2.2.1, .ref b4, .ref b5, .ref b6, .ref b7])), (b1, .inl (cI, 3, .inl y.1)), (b2, .inl (cI, 3, .inl y.2.2.1)), (b3, .inl (cI, 3, .inl y.2.2.2.1)), (b4, .inl (cZ, 512, .inl y.2.2.2.2.2.2.1)), (b5, .inl (cI, 512, .inl y.2.2.2.2.2.2.2.1)), (b6, .inl (cI, 512, .inl y.2.2.2.2.2.2.2.2.1)), (b7, .inl (cI, 512, .inl y.2.2.2.2.2.2.2.2.2))] := hD
  refine lv_iload_n hx hb dM_obstacle_0 rfl (lv_at hl 2 rfl) ?_
  refine lv_iconst (v := 2) hx hb dM_obstacle_1 (by decide) ?_
  refine kcI (isR := [0, 1, 2, 3, 4, 5, 6, 7]) (isC := []) (wr := [(bo, .inr (3, [.ref b1, .int y.2.1, .ref b2, .ref b3, .int (nI y.2.2.2.2.1), .int y.2.2.2.2.2.1, .ref b4, .ref b5, .ref b6, .ref b7])), (b1, .inl (cI, 3, .inl y.1)), (b2, .inl (cI, 3, .inl y.2.2.1)), (b3, .inl (cI, 3, .inl y.2.2.2.1)), (b4, .inl (cZ, 512, .inl y.2.2.2.2.2.2.1)), (b5, .inl (cI, 512, .inl y.2.2.2.2.2.2.2.1)), (b6, .inl (cI, 512, .inl y.2.2.2.2.2.2.2.2.1)), (b7, .inl (cI, 512, .inl y.2.2.2.2.2.2.2.2.2))]) (w2 := [(bo, .inr (3, [.ref b1, .int y.2.1, .ref b2, .ref b3, .int (nI y.2.2.2.2.1), .int y.2.2.2.2.2.1, .ref b4, .ref b5, .ref b6, .ref b7])), (b1, .inl (cI, 3, .inl y.1)), (b2, .inl (cI, 3, .inl y.2.2.1)), (b3, .inl (cI, 3, .inl y.2.2.2.1)), (b4, .inl (cZ, 512, .inl y.2.2.2.2.2.2.1)), (b5, .inl (cI, 512, .inl y.2.2.2.2.2.2.2.1)), (b6, .inl (cI, 512, .inl y.2.2.2.2.2.2.2.2.1)), (b7, .inl (cI, 512, .inl y.2.2.2.2.2.2.2.2.2))]) (va_runS (As := [.int g2, .int 2]) (rest := []) ⟨hx, hb, hml, hown, hts⟩ (km_has l D cI cZ g2 2 _) ⟨(callB_of 2 hts gd_yM_has rfl rfl rfl (hts _ mw27) (hts _ mw333) (by decide +kernel) ⟨Nat.le_of_ble_eq_true rfl, Nat.le_of_ble_eq_true rfl⟩), hts _ mw334⟩ (kpreS hNw hP hD hK [] rfl (by decide)) rfl rfl hl.1 rfl (lv_room (Nat.le_of_ble_eq_true rfl)) dM_obstacle_2 ⟨Nat.le_of_ble_eq_true rfl, Nat.le_of_ble_eq_true rfl⟩) hP hD hS hA [0, 1, 2, 3, 4, 5, 6, 7] rfl rfl (by decide) (by decide) (by decide) rfl (fun H locs hP hD hS => ?_)
  refine lv_if_eq (tgt := 19) hx hb dM_obstacle_5 (by decide) (fun h1 => ?_) (fun h1 => ?_)
  ·
    refine lv_aload_n hx hb dM_obstacle_19 rfl (lv_at hl 0 rfl) ?_
    refine lv_iload_n hx hb dM_obstacle_20 rfl (lv_at hl 1 rfl) ?_
    refine lv_iload_n hx hb dM_obstacle_21 rfl (lv_at hl 2 rfl) ?_
    refine kcI (isR := []) (isC := [0, 1, 2, 3, 4, 5, 6, 7]) (wr := []) (w2 := [(bo, .inr (3, [.ref b1, .int y.2.1, .ref b2, .ref b3, .int (nI y.2.2.2.2.1), .int y.2.2.2.2.2.1, .ref b4, .ref b5, .ref b6, .ref b7])), (b1, .inl (cI, 3, .inl y.1)), (b2, .inl (cI, 3, .inl y.2.2.1)), (b3, .inl (cI, 3, .inl y.2.2.2.1)), (b4, .inl (cZ, 512, .inl y.2.2.2.2.2.2.1)), (b5, .inl (cI, 512, .inl y.2.2.2.2.2.2.2.1)), (b6, .inl (cI, 512, .inl y.2.2.2.2.2.2.2.2.1)), (b7, .inl (cI, 512, .inl y.2.2.2.2.2.2.2.2.2))]) (va_runV (As := [.int g1, .int g2]) (rest := []) ⟨hx, hb, hml, hown, hts⟩ (km_readOnly l D cI cZ bo b1 b2 b3 b4 b5 b6 b7 y g1 g2 (hi) _) ⟨(callB_of 2 hts gd_yM_readOnly rfl rfl rfl (hts _ mw27) (hts _ mw356) (by decide +kernel) ⟨Nat.le_of_ble_eq_true rfl, Nat.le_of_ble_eq_true rfl⟩), hts _ mw358, hts _ mw17⟩ (kpreV hNw hP hD hK [0, 1, 2, 3, 4, 5, 6, 7] rfl (by decide) 0 rfl (ci := 3) rfl) rfl rfl hl.1 rfl (lv_room (Nat.le_of_ble_eq_true rfl)) dM_obstacle_22 ⟨Nat.le_of_ble_eq_true rfl, Nat.le_of_ble_eq_true rfl⟩) hP hD hS hA [0, 1, 2, 3, 4, 5, 6, 7] rfl rfl (by decide) (by decide) (by decide) rfl (fun H locs hP hD hS => ?_)
    refine lv_if_eq (tgt := 31) hx hb dM_obstacle_25 (by decide) (fun h2 => ?_) (fun h2 => ?_)
    ·
      refine lv_iload_n hx hb dM_obstacle_31 rfl (lv_at hl 2 rfl) ?_
      refine kcI (isR := [0, 1, 2, 3, 4, 5, 6, 7]) (isC := []) (wr := [(bo, .inr (3, [.ref b1, .int y.2.1, .ref b2, .ref b3, .int (nI y.2.2.2.2.1), .int y.2.2.2.2.2.1, .ref b4, .ref b5, .ref b6, .ref b7])), (b1, .inl (cI, 3, .inl y.1)), (b2, .inl (cI, 3, .inl y.2.2.1)), (b3, .inl (cI, 3, .inl y.2.2.2.1)), (b4, .inl (cZ, 512, .inl y.2.2.2.2.2.2.1)), (b5, .inl (cI, 512, .inl y.2.2.2.2.2.2.2.1)), (b6, .inl (cI, 512, .inl y.2.2.2.2.2.2.2.2.1)), (b7, .inl (cI, 512, .inl y.2.2.2.2.2.2.2.2.2))]) (w2 := [(bo, .inr (3, [.ref b1, .int y.2.1, .ref b2, .ref b3, .int (nI y.2.2.2.2.1), .int y.2.2.2.2.2.1, .ref b4, .ref b5, .ref b6, .ref b7])), (b1, .inl (cI, 3, .inl y.1)), (b2, .inl (cI, 3, .inl y.2.2.1)), (b3, .inl (cI, 3, .inl y.2.2.2.1)), (b4, .inl (cZ, 512, .inl y.2.2.2.2.2.2.1)), (b5, .inl (cI, 512, .inl y.2.2.2.2.2.2.2.1)), (b6, .inl (cI, 512, .inl y.2.2.2.2.2.2.2.2.1)), (b7, .inl (cI, 512, .inl y.2.2.2.2.2.2.2.2.2))]) (va_runS (As := [.int g2]) (rest := []) ⟨hx, hb, hml, hown, hts⟩ (km_good l D cI cZ g2 _) ⟨(callB_of 1 hts gd_yM_good rfl rfl rfl (hts _ mw27) (hts _ mw360) (by decide +kernel) ⟨Nat.le_of_ble_eq_true rfl, Nat.le_of_ble_eq_true rfl⟩), hts _ mw361⟩ (kpreS hNw hP hD hK [] rfl (by decide)) rfl rfl hl.1 rfl (lv_room (Nat.le_of_ble_eq_true rfl)) dM_obstacle_32 ⟨Nat.le_of_ble_eq_true rfl, Nat.le_of_ble_eq_true rfl⟩) hP hD hS hA [0, 1, 2, 3, 4, 5, 6, 7] rfl rfl (by decide) (by decide) (by decide) rfl (fun H locs hP hD hS => ?_)
      refine lv_if_eq (tgt := 42) hx hb dM_obstacle_35 (by decide) (fun h3 => ?_) (fun h3 => ?_)
      ·
        refine lv_bipush (v := (-5)) hx hb dM_obstacle_42 (by decide) ?_
        exact kretP (by first | (rw [zm_obstacle, if_pos h1, if_pos h2, if_pos h3]; done) | exact ((if_pos h1).trans ((if_pos h2).trans (if_pos h3)))) hx hb hr hlk hS hP hD hK dM_obstacle_44
      ·
        refine lv_iload_n hx hb dM_obstacle_38 rfl (lv_at hl 3 rfl) ?_
        refine lv_if_eq (tgt := 45) hx hb dM_obstacle_39 (by decide) (fun h4 => ?_) (fun h4 => ?_)
        ·
          refine lv_aload_n hx hb dM_obstacle_45 rfl (lv_at hl 0 rfl) ?_
          refine kcI (isR := []) (isC := [0, 1, 2, 3, 4, 5, 6, 7]) (wr := []) (w2 := [(bo, .inr (3, [.ref b1, .int y.2.1, .ref b2, .ref b3, .int (nI y.2.2.2.2.1), .int y.2.2.2.2.2.1, .ref b4, .ref b5, .ref b6, .ref b7])), (b1, .inl (cI, 3, .inl y.1)), (b2, .inl (cI, 3, .inl y.2.2.1)), (b3, .inl (cI, 3, .inl y.2.2.2.1)), (b4, .inl (cZ, 512, .inl y.2.2.2.2.2.2.1)), (b5, .inl (cI, 512, .inl y.2.2.2.2.2.2.2.1)), (b6, .inl (cI, 512, .inl y.2.2.2.2.2.2.2.2.1)), (b7, .inl (cI, 512, .inl y.2.2.2.2.2.2.2.2.2))]) (va_runV (As := []) (rest := []) ⟨hx, hb, hml, hown, hts⟩ (km_count l D cI cZ bo b1 b2 b3 b4 b5 b6 b7 y (hn) _) ⟨(callB_of 0 hts gd_yM_count rfl rfl rfl (hts _ mw27) (hts _ mw363) (by decide +kernel) ⟨Nat.le_of_ble_eq_true rfl, Nat.le_of_ble_eq_true rfl⟩), hts _ mw365, hts _ mw18⟩ (kpreV hNw hP hD hK [0, 1, 2, 3, 4, 5, 6, 7] rfl (by decide) 0 rfl (ci := 3) rfl) rfl rfl hl.1 rfl (lv_room (Nat.le_of_ble_eq_true rfl)) dM_obstacle_46 ⟨Nat.le_of_ble_eq_true rfl, Nat.le_of_ble_eq_true rfl⟩) hP hD hS hA [0, 1, 2, 3, 4, 5, 6, 7] rfl rfl (by decide) (by decide) (by decide) rfl (fun H locs hP hD hS => ?_)
          refine lv_bipush (v := 10) hx hb dM_obstacle_49 (by decide) ?_
          refine kJoin (pcJ := 60) (z := (if (zm_count y) < 10 then (0 : Int32) else ((-6) : Int32))) (ws := [(bo, .inr (3, [.ref b1, .int y.2.1, .ref b2, .ref b3, .int (nI y.2.2.2.2.1), .int y.2.2.2.2.2.1, .ref b4, .ref b5, .ref b6, .ref b7])), (b1, .inl (cI, 3, .inl y.1)), (b2, .inl (cI, 3, .inl y.2.2.1)), (b3, .inl (cI, 3, .inl y.2.2.2.1)), (b4, .inl (cZ, 512, .inl y.2.2.2.2.2.2.1)), (b5, .inl (cI, 512, .inl y.2.2.2.2.2.2.2.1)), (b6, .inl (cI, 512, .inl y.2.2.2.2.2.2.2.2.1)), (b7, .inl (cI, 512, .inl y.2.2.2.2.2.2.2.2.2))]) (rest := []) (D := D) (A := A) (H0 := s.heap) (fun J60 => ?_) (fun H locs hP hD hS => ?_)
          ·
            refine lv_icmp_lt (tgt := 59) hx hb dM_obstacle_51 (by decide) (fun h5 => ?_) (fun h5 => ?_)
            ·
              refine lv_iconst (v := 0) hx hb dM_obstacle_59 (by decide) ?_
              exact J60 _ _ hP hD hS _ ((if_pos h5).symm)
            ·
              refine lv_bipush (v := (-6)) hx hb dM_obstacle_54 (by decide) ?_
              refine lv_goto hx hb dM_obstacle_56 (tgt := 60) (by decide) ?_
              exact J60 _ _ hP hD hS _ ((if_neg h5).symm)
          exact kretP (by first | (rw [zm_obstacle, if_pos h1, if_pos h2, if_neg h3, if_pos h4]; done) | exact ((if_pos h1).trans ((if_pos h2).trans ((if_neg h3).trans (if_pos h4))))) hx hb hr hlk hS hP hD hK dM_obstacle_60
        ·
          refine lv_bipush (v := (-5)) hx hb dM_obstacle_42 (by decide) ?_
          exact kretP (by first | (rw [zm_obstacle, if_pos h1, if_pos h2, if_neg h3, if_neg h4]; done) | exact ((if_pos h1).trans ((if_pos h2).trans ((if_neg h3).trans (if_neg h4))))) hx hb hr hlk hS hP hD hK dM_obstacle_44
    ·
      refine lv_bipush (v := (-4)) hx hb dM_obstacle_28 (by decide) ?_
      exact kretP (by first | (rw [zm_obstacle, if_pos h1, if_neg h2]; done) | exact ((if_pos h1).trans (if_neg h2))) hx hb hr hlk hS hP hD hK dM_obstacle_30
  ·
    refine lv_aload_n hx hb dM_obstacle_8 rfl (lv_at hl 0 rfl) ?_
    refine va_get (D := D) (ci := 3) (v := .int y.2.1) (C := cnM) (T := ftM) (N := 10) hx hb hts inM hown hK hP 0 rfl rfl 1 (by decide) (hts _ mw290) (fun _ h9 => h9) rfl dM_obstacle_9 ?_
    refine lv_iconst (v := 1) hx hb dM_obstacle_12 (by decide) ?_
    refine lv_icmp_eq (tgt := 19) hx hb dM_obstacle_13 (by decide) (fun h6 => ?_) (fun h6 => ?_)
    ·
      refine lv_aload_n hx hb dM_obstacle_19 rfl (lv_at hl 0 rfl) ?_
      refine lv_iload_n hx hb dM_obstacle_20 rfl (lv_at hl 1 rfl) ?_
      refine lv_iload_n hx hb dM_obstacle_21 rfl (lv_at hl 2 rfl) ?_
      refine kcI (isR := []) (isC := [0, 1, 2, 3, 4, 5, 6, 7]) (wr := []) (w2 := [(bo, .inr (3, [.ref b1, .int y.2.1, .ref b2, .ref b3, .int (nI y.2.2.2.2.1), .int y.2.2.2.2.2.1, .ref b4, .ref b5, .ref b6, .ref b7])), (b1, .inl (cI, 3, .inl y.1)), (b2, .inl (cI, 3, .inl y.2.2.1)), (b3, .inl (cI, 3, .inl y.2.2.2.1)), (b4, .inl (cZ, 512, .inl y.2.2.2.2.2.2.1)), (b5, .inl (cI, 512, .inl y.2.2.2.2.2.2.2.1)), (b6, .inl (cI, 512, .inl y.2.2.2.2.2.2.2.2.1)), (b7, .inl (cI, 512, .inl y.2.2.2.2.2.2.2.2.2))]) (va_runV (As := [.int g1, .int g2]) (rest := []) ⟨hx, hb, hml, hown, hts⟩ (km_readOnly l D cI cZ bo b1 b2 b3 b4 b5 b6 b7 y g1 g2 (hi) _) ⟨(callB_of 2 hts gd_yM_readOnly rfl rfl rfl (hts _ mw27) (hts _ mw356) (by decide +kernel) ⟨Nat.le_of_ble_eq_true rfl, Nat.le_of_ble_eq_true rfl⟩), hts _ mw358, hts _ mw17⟩ (kpreV hNw hP hD hK [0, 1, 2, 3, 4, 5, 6, 7] rfl (by decide) 0 rfl (ci := 3) rfl) rfl rfl hl.1 rfl (lv_room (Nat.le_of_ble_eq_true rfl)) dM_obstacle_22 ⟨Nat.le_of_ble_eq_true rfl, Nat.le_of_ble_eq_true rfl⟩) hP hD hS hA [0, 1, 2, 3, 4, 5, 6, 7] rfl rfl (by decide) (by decide) (by decide) rfl (fun H locs hP hD hS => ?_)
      refine lv_if_eq (tgt := 31) hx hb dM_obstacle_25 (by decide) (fun h7 => ?_) (fun h7 => ?_)
      ·
        refine lv_iload_n hx hb dM_obstacle_31 rfl (lv_at hl 2 rfl) ?_
        refine kcI (isR := [0, 1, 2, 3, 4, 5, 6, 7]) (isC := []) (wr := [(bo, .inr (3, [.ref b1, .int y.2.1, .ref b2, .ref b3, .int (nI y.2.2.2.2.1), .int y.2.2.2.2.2.1, .ref b4, .ref b5, .ref b6, .ref b7])), (b1, .inl (cI, 3, .inl y.1)), (b2, .inl (cI, 3, .inl y.2.2.1)), (b3, .inl (cI, 3, .inl y.2.2.2.1)), (b4, .inl (cZ, 512, .inl y.2.2.2.2.2.2.1)), (b5, .inl (cI, 512, .inl y.2.2.2.2.2.2.2.1)), (b6, .inl (cI, 512, .inl y.2.2.2.2.2.2.2.2.1)), (b7, .inl (cI, 512, .inl y.2.2.2.2.2.2.2.2.2))]) (w2 := [(bo, .inr (3, [.ref b1, .int y.2.1, .ref b2, .ref b3, .int (nI y.2.2.2.2.1), .int y.2.2.2.2.2.1, .ref b4, .ref b5, .ref b6, .ref b7])), (b1, .inl (cI, 3, .inl y.1)), (b2, .inl (cI, 3, .inl y.2.2.1)), (b3, .inl (cI, 3, .inl y.2.2.2.1)), (b4, .inl (cZ, 512, .inl y.2.2.2.2.2.2.1)), (b5, .inl (cI, 512, .inl y.2.2.2.2.2.2.2.1)), (b6, .inl (cI, 512, .inl y.2.2.2.2.2.2.2.2.1)), (b7, .inl (cI, 512, .inl y.2.2.2.2.2.2.2.2.2))]) (va_runS (As := [.int g2]) (rest := []) ⟨hx, hb, hml, hown, hts⟩ (km_good l D cI cZ g2 _) ⟨(callB_of 1 hts gd_yM_good rfl rfl rfl (hts _ mw27) (hts _ mw360) (by decide +kernel) ⟨Nat.le_of_ble_eq_true rfl, Nat.le_of_ble_eq_true rfl⟩), hts _ mw361⟩ (kpreS hNw hP hD hK [] rfl (by decide)) rfl rfl hl.1 rfl (lv_room (Nat.le_of_ble_eq_true rfl)) dM_obstacle_32 ⟨Nat.le_of_ble_eq_true rfl, Nat.le_of_ble_eq_true rfl⟩) hP hD hS hA [0, 1, 2, 3, 4, 5, 6, 7] rfl rfl (by decide) (by decide) (by decide) rfl (fun H locs hP hD hS => ?_)
        refine lv_if_eq (tgt := 42) hx hb dM_obstacle_35 (by decide) (fun h8 => ?_) (fun h8 => ?_)
        ·
          refine lv_bipush (v := (-5)) hx hb dM_obstacle_42 (by decide) ?_
          exact kretP (by first | (rw [zm_obstacle, if_neg h1, if_pos h6, if_pos h7, if_pos h8]; done) | exact ((if_neg h1).trans ((if_pos h6).trans ((if_pos h7).trans (if_pos h8))))) hx hb hr hlk hS hP hD hK dM_obstacle_44
        ·
          refine lv_iload_n hx hb dM_obstacle_38 rfl (lv_at hl 3 rfl) ?_
          refine lv_if_eq (tgt := 45) hx hb dM_obstacle_39 (by decide) (fun h9 => ?_) (fun h9 => ?_)
          ·
            refine lv_aload_n hx hb dM_obstacle_45 rfl (lv_at hl 0 rfl) ?_
            refine kcI (isR := []) (isC := [0, 1, 2, 3, 4, 5, 6, 7]) (wr := []) (w2 := [(bo, .inr (3, [.ref b1, .int y.2.1, .ref b2, .ref b3, .int (nI y.2.2.2.2.1), .int y.2.2.2.2.2.1, .ref b4, .ref b5, .ref b6, .ref b7])), (b1, .inl (cI, 3, .inl y.1)), (b2, .inl (cI, 3, .inl y.2.2.1)), (b3, .inl (cI, 3, .inl y.2.2.2.1)), (b4, .inl (cZ, 512, .inl y.2.2.2.2.2.2.1)), (b5, .inl (cI, 512, .inl y.2.2.2.2.2.2.2.1)), (b6, .inl (cI, 512, .inl y.2.2.2.2.2.2.2.2.1)), (b7, .inl (cI, 512, .inl y.2.2.2.2.2.2.2.2.2))]) (va_runV (As := []) (rest := []) ⟨hx, hb, hml, hown, hts⟩ (km_count l D cI cZ bo b1 b2 b3 b4 b5 b6 b7 y (hn) _) ⟨(callB_of 0 hts gd_yM_count rfl rfl rfl (hts _ mw27) (hts _ mw363) (by decide +kernel) ⟨Nat.le_of_ble_eq_true rfl, Nat.le_of_ble_eq_true rfl⟩), hts _ mw365, hts _ mw18⟩ (kpreV hNw hP hD hK [0, 1, 2, 3, 4, 5, 6, 7] rfl (by decide) 0 rfl (ci := 3) rfl) rfl rfl hl.1 rfl (lv_room (Nat.le_of_ble_eq_true rfl)) dM_obstacle_46 ⟨Nat.le_of_ble_eq_true rfl, Nat.le_of_ble_eq_true rfl⟩) hP hD hS hA [0, 1, 2, 3, 4, 5, 6, 7] rfl rfl (by decide) (by decide) (by decide) rfl (fun H locs hP hD hS => ?_)
            refine lv_bipush (v := 10) hx hb dM_obstacle_49 (by decide) ?_
            refine kJoin (pcJ := 60) (z := (if (zm_count y) < 10 then (0 : Int32) else ((-6) : Int32))) (ws := [(bo, .inr (3, [.ref b1, .int y.2.1, .ref b2, .ref b3, .int (nI y.2.2.2.2.1), .int y.2.2.2.2.2.1, .ref b4, .ref b5, .ref b6, .ref b7])), (b1, .inl (cI, 3, .inl y.1)), (b2, .inl (cI, 3, .inl y.2.2.1)), (b3, .inl (cI, 3, .inl y.2.2.2.1)), (b4, .inl (cZ, 512, .inl y.2.2.2.2.2.2.1)), (b5, .inl (cI, 512, .inl y.2.2.2.2.2.2.2.1)), (b6, .inl (cI, 512, .inl y.2.2.2.2.2.2.2.2.1)), (b7, .inl (cI, 512, .inl y.2.2.2.2.2.2.2.2.2))]) (rest := []) (D := D) (A := A) (H0 := s.heap) (fun J60 => ?_) (fun H locs hP hD hS => ?_)
            ·
              refine lv_icmp_lt (tgt := 59) hx hb dM_obstacle_51 (by decide) (fun h10 => ?_) (fun h10 => ?_)
              ·
                refine lv_iconst (v := 0) hx hb dM_obstacle_59 (by decide) ?_
                exact J60 _ _ hP hD hS _ ((if_pos h10).symm)
              ·
                refine lv_bipush (v := (-6)) hx hb dM_obstacle_54 (by decide) ?_
                refine lv_goto hx hb dM_obstacle_56 (tgt := 60) (by decide) ?_
                exact J60 _ _ hP hD hS _ ((if_neg h10).symm)
            exact kretP (by first | (rw [zm_obstacle, if_neg h1, if_pos h6, if_pos h7, if_neg h8, if_pos h9]; done) | exact ((if_neg h1).trans ((if_pos h6).trans ((if_pos h7).trans ((if_neg h8).trans (if_pos h9)))))) hx hb hr hlk hS hP hD hK dM_obstacle_60
          ·
            refine lv_bipush (v := (-5)) hx hb dM_obstacle_42 (by decide) ?_
            exact kretP (by first | (rw [zm_obstacle, if_neg h1, if_pos h6, if_pos h7, if_neg h8, if_neg h9]; done) | exact ((if_neg h1).trans ((if_pos h6).trans ((if_pos h7).trans ((if_neg h8).trans (if_neg h9)))))) hx hb hr hlk hS hP hD hK dM_obstacle_44
      ·
        refine lv_bipush (v := (-4)) hx hb dM_obstacle_28 (by decide) ?_
        exact kretP (by first | (rw [zm_obstacle, if_neg h1, if_pos h6, if_neg h7]; done) | exact ((if_neg h1).trans ((if_pos h6).trans (if_neg h7)))) hx hb hr hlk hS hP hD hK dM_obstacle_30
    ·
      refine lv_bipush (v := (-3)) hx hb dM_obstacle_16 (by decide) ?_
      exact kretP (by first | (rw [zm_obstacle, if_neg h1, if_neg h6]; done) | exact ((if_neg h1).trans (if_neg h6))) hx hb hr hlk hS hP hD hK dM_obstacle_18

def zm_enter (y : YS) (g1 : Int32) (g2 : Int32) (g3 : Int32) : Int32 × YS := ((nI (y.2.2.2.2.1 + 1)), (y.1, y.2.1, y.2.2.1, y.2.2.2.1, (y.2.2.2.2.1 + 1), y.2.2.2.2.2.1, (upd y.2.2.2.2.2.2.1 y.2.2.2.2.1 1), (upd y.2.2.2.2.2.2.2.1 y.2.2.2.2.1 g3), (upd y.2.2.2.2.2.2.2.2.1 y.2.2.2.2.1 g1), (upd y.2.2.2.2.2.2.2.2.2 y.2.2.2.2.1 g2)))

set_option maxHeartbeats 4000000 in
set_option maxRecDepth 100000 in
theorem km_enter (l : Launch) (D : va_G) (cI cZ : ClassId) (bo b1 b2 b3 b4 b5 b6 b7 : Nat) (y : YS) (g1 : Int32) (g2 : Int32) (g3 : Int32) (hn : y.2.2.2.2.1 < 512) : kI l yM_enter wsM_enter (rmOf 0 0) D (kT cI cZ) [.ref bo, .int g1, .int g2, .int g3] (wY cI cZ bo b1 b2 b3 b4 b5 b6 b7 y) (zm_enter y g1 g2 g3).1 (wY cI cZ bo b1 b2 b3 b4 b5 b6 b7 ((zm_enter y g1 g2 g3).2)) := by
  intro sz
  refine kOf (Qc := fun A => kQi D (kT cI cZ) A (zm_enter y g1 g2 g3).1 (wY cI cZ bo b1 b2 b3 b4 b5 b6 b7 ((zm_enter y g1 g2 g3).2))) (cc := cM_enter) (maxL := 4) (ret := some .int) (by decide) rfl (Nat.le_of_ble_eq_true rfl) ?_ sz
  intro p e s m args below meth c A ls hx hb hml hown hts hNw hr hlk hin hA hS hP hD hK hl
  show W p l e (rmOf 0 0) s m args below meth c s.heap [] 0 0 (MQ below (kQi D (kT cI cZ) A (zm_enter y g1 g2 g3).1 (wY cI cZ bo b1 b2 b3 b4 b5 b6 b7 ((zm_enter y g1 g2 g3).2))) args s 0 0 A) (F0 m 0 ls [])
  have hts : ∀ q ∈ lw_g, q.before args s = true := fun q h => hts q (List.mem_cons_of_mem _ h)
  have hown : s.vm.findClass cnM = some m.cls := hown
  have hl : lv_has ls 4 [(0, .ref bo), (1, .int g1), (2, .int g2), (3, .int g3)] := hl
  have hP : va_P D vwCl [(bo, .inr (3, [.ref b1, .int y.2.1, .ref b2, .ref b3, .int (nI y.2.2.2.2.1), .int y.2.2.2.2.2.1, .ref b4, .ref b5, .ref b6, .ref b7])), (b1, .inl (cI, 3, .inl y.1)), (b2, .inl (cI, 3, .inl y.2.2.1)), (b3, .inl (cI, 3, .inl y.2.2.2.1)), (b4, .inl (cZ, 512, .inl y.2.2.2.2.2.2.1)), (b5, .inl (cI, 512, .inl y.2.2.2.2.2.2.2.1)), (b6, .inl (cI, 512, .inl y.2.2.2.2.2.2.2.2.1)), (b7, .inl (cI, 512, .inl y.2.2.2.2.2.2.2.2.2))] s.heap := hP
  have hD : va_D A [(bo, .inr (3, [.ref b1, .int y.2.1, .ref b2, .ref b3, .int (nI y.2.2.2.2.1), .int y.2.2.2.2.2.1, .ref b4, .ref b5, .ref b6, .ref b7])), (b1, .inl (cI, 3, .inl y.1)), (b2, .inl (cI, 3, .inl y.2.2.1)), (b3, .inl (cI, 3, .inl y.2.2.2.1)), (b4, .inl (cZ, 512, .inl y.2.2.2.2.2.2.1)), (b5, .inl (cI, 512, .inl y.2.2.2.2.2.2.2.1)), (b6, .inl (cI, 512, .inl y.2.2.2.2.2.2.2.2.1)), (b7, .inl (cI, 512, .inl y.2.2.2.2.2.2.2.2.2))] := hD
  refine lv_aload_n hx hb dM_enter_0 rfl (lv_at hl 0 rfl) ?_
  refine va_get (D := D) (ci := 3) (v := .ref b4) (C := cnM) (T := ftM) (N := 10) hx hb hts inM hown hK hP 0 rfl rfl 6 (by decide) (hts _ mw295) (fun _ h9 => h9) rfl dM_enter_1 ?_
  refine lv_aload_n hx hb dM_enter_4 rfl (lv_at hl 0 rfl) ?_
  refine va_get (D := D) (ci := 3) (v := .int (nI y.2.2.2.2.1)) (C := cnM) (T := ftM) (N := 10) hx hb hts inM hown hK hP 0 rfl rfl 4 (by decide) (hts _ mw293) (fun _ h9 => h9) rfl dM_enter_5 ?_
  refine lv_iconst (v := 1) hx hb dM_enter_8 (by decide) ?_
  refine va_zast hx hb hK hP hD hS 4 1 rfl rfl (vp_in_nI (hn) (by decide)) dM_enter_9 (fun H locs hP hD hS => ?_)
  rw [show Int32.toNatClampNeg (nI y.2.2.2.2.1) = y.2.2.2.2.1 from nI_clamp (by omega)] at hP hD
  rw [show vp_nar .boolean 1 = 1 from knar01 kz1] at hP hD
  have hP : va_P D vwCl [(bo, .inr (3, [.ref b1, .int y.2.1, .ref b2, .ref b3, .int (nI y.2.2.2.2.1), .int y.2.2.2.2.2.1, .ref b4, .ref b5, .ref b6, .ref b7])), (b1, .inl (cI, 3, .inl y.1)), (b2, .inl (cI, 3, .inl y.2.2.1)), (b3, .inl (cI, 3, .inl y.2.2.2.1)), (b4, .inl (cZ, 512, .inl (upd y.2.2.2.2.2.2.1 y.2.2.2.2.1 1))), (b5, .inl (cI, 512, .inl y.2.2.2.2.2.2.2.1)), (b6, .inl (cI, 512, .inl y.2.2.2.2.2.2.2.2.1)), (b7, .inl (cI, 512, .inl y.2.2.2.2.2.2.2.2.2))] H := hP
  have hD : va_D A [(bo, .inr (3, [.ref b1, .int y.2.1, .ref b2, .ref b3, .int (nI y.2.2.2.2.1), .int y.2.2.2.2.2.1, .ref b4, .ref b5, .ref b6, .ref b7])), (b1, .inl (cI, 3, .inl y.1)), (b2, .inl (cI, 3, .inl y.2.2.1)), (b3, .inl (cI, 3, .inl y.2.2.2.1)), (b4, .inl (cZ, 512, .inl (upd y.2.2.2.2.2.2.1 y.2.2.2.2.1 1))), (b5, .inl (cI, 512, .inl y.2.2.2.2.2.2.2.1)), (b6, .inl (cI, 512, .inl y.2.2.2.2.2.2.2.2.1)), (b7, .inl (cI, 512, .inl y.2.2.2.2.2.2.2.2.2))] := hD
  refine lv_aload_n hx hb dM_enter_10 rfl (lv_at hl 0 rfl) ?_
  refine va_get (D := D) (ci := 3) (v := .ref b5) (C := cnM) (T := ftM) (N := 10) hx hb hts inM hown hK hP 0 rfl rfl 7 (by decide) (hts _ mw296) (fun _ h9 => h9) rfl dM_enter_11 ?_
  refine lv_aload_n hx hb dM_enter_14 rfl (lv_at hl 0 rfl) ?_
  refine va_get (D := D) (ci := 3) (v := .int (nI y.2.2.2.2.1)) (C := cnM) (T := ftM) (N := 10) hx hb hts inM hown hK hP 0 rfl rfl 4 (by decide) (hts _ mw293) (fun _ h9 => h9) rfl dM_enter_15 ?_
  refine lv_iload_n hx hb dM_enter_18 rfl (lv_at hl 3 rfl) ?_
  refine va_iast hx hb hK hP hD hS 5 0 rfl rfl (vp_in_nI (hn) (by decide)) dM_enter_19 (fun H locs hP hD hS => ?_)
  rw [show Int32.toNatClampNeg (nI y.2.2.2.2.1) = y.2.2.2.2.1 from nI_clamp (by omega)] at hP hD
  have hP : va_P D vwCl [(bo, .inr (3, [.ref b1, .int y.2.1, .ref b2, .ref b3, .int (nI y.2.2.2.2.1), .int y.2.2.2.2.2.1, .ref b4, .ref b5, .ref b6, .ref b7])), (b1, .inl (cI, 3, .inl y.1)), (b2, .inl (cI, 3, .inl y.2.2.1)), (b3, .inl (cI, 3, .inl y.2.2.2.1)), (b4, .inl (cZ, 512, .inl (upd y.2.2.2.2.2.2.1 y.2.2.2.2.1 1))), (b5, .inl (cI, 512, .inl (upd y.2.2.2.2.2.2.2.1 y.2.2.2.2.1 g3))), (b6, .inl (cI, 512, .inl y.2.2.2.2.2.2.2.2.1)), (b7, .inl (cI, 512, .inl y.2.2.2.2.2.2.2.2.2))] H := hP
  have hD : va_D A [(bo, .inr (3, [.ref b1, .int y.2.1, .ref b2, .ref b3, .int (nI y.2.2.2.2.1), .int y.2.2.2.2.2.1, .ref b4, .ref b5, .ref b6, .ref b7])), (b1, .inl (cI, 3, .inl y.1)), (b2, .inl (cI, 3, .inl y.2.2.1)), (b3, .inl (cI, 3, .inl y.2.2.2.1)), (b4, .inl (cZ, 512, .inl (upd y.2.2.2.2.2.2.1 y.2.2.2.2.1 1))), (b5, .inl (cI, 512, .inl (upd y.2.2.2.2.2.2.2.1 y.2.2.2.2.1 g3))), (b6, .inl (cI, 512, .inl y.2.2.2.2.2.2.2.2.1)), (b7, .inl (cI, 512, .inl y.2.2.2.2.2.2.2.2.2))] := hD
  refine lv_aload_n hx hb dM_enter_20 rfl (lv_at hl 0 rfl) ?_
  refine va_get (D := D) (ci := 3) (v := .ref b6) (C := cnM) (T := ftM) (N := 10) hx hb hts inM hown hK hP 0 rfl rfl 8 (by decide) (hts _ mw297) (fun _ h9 => h9) rfl dM_enter_21 ?_
  refine lv_aload_n hx hb dM_enter_24 rfl (lv_at hl 0 rfl) ?_
  refine va_get (D := D) (ci := 3) (v := .int (nI y.2.2.2.2.1)) (C := cnM) (T := ftM) (N := 10) hx hb hts inM hown hK hP 0 rfl rfl 4 (by decide) (hts _ mw293) (fun _ h9 => h9) rfl dM_enter_25 ?_
  refine lv_iload_n hx hb dM_enter_28 rfl (lv_at hl 1 rfl) ?_
  refine va_iast hx hb hK hP hD hS 6 0 rfl rfl (vp_in_nI (hn) (by decide)) dM_enter_29 (fun H locs hP hD hS => ?_)
  rw [show Int32.toNatClampNeg (nI y.2.2.2.2.1) = y.2.2.2.2.1 from nI_clamp (by omega)] at hP hD
  have hP : va_P D vwCl [(bo, .inr (3, [.ref b1, .int y.2.1, .ref b2, .ref b3, .int (nI y.2.2.2.2.1), .int y.2.2.2.2.2.1, .ref b4, .ref b5, .ref b6, .ref b7])), (b1, .inl (cI, 3, .inl y.1)), (b2, .inl (cI, 3, .inl y.2.2.1)), (b3, .inl (cI, 3, .inl y.2.2.2.1)), (b4, .inl (cZ, 512, .inl (upd y.2.2.2.2.2.2.1 y.2.2.2.2.1 1))), (b5, .inl (cI, 512, .inl (upd y.2.2.2.2.2.2.2.1 y.2.2.2.2.1 g3))), (b6, .inl (cI, 512, .inl (upd y.2.2.2.2.2.2.2.2.1 y.2.2.2.2.1 g1))), (b7, .inl (cI, 512, .inl y.2.2.2.2.2.2.2.2.2))] H := hP
  have hD : va_D A [(bo, .inr (3, [.ref b1, .int y.2.1, .ref b2, .ref b3, .int (nI y.2.2.2.2.1), .int y.2.2.2.2.2.1, .ref b4, .ref b5, .ref b6, .ref b7])), (b1, .inl (cI, 3, .inl y.1)), (b2, .inl (cI, 3, .inl y.2.2.1)), (b3, .inl (cI, 3, .inl y.2.2.2.1)), (b4, .inl (cZ, 512, .inl (upd y.2.2.2.2.2.2.1 y.2.2.2.2.1 1))), (b5, .inl (cI, 512, .inl (upd y.2.2.2.2.2.2.2.1 y.2.2.2.2.1 g3))), (b6, .inl (cI, 512, .inl (upd y.2.2.2.2.2.2.2.2.1 y.2.2.2.2.1 g1))), (b7, .inl (cI, 512, .inl y.2.2.2.2.2.2.2.2.2))] := hD
  refine lv_aload_n hx hb dM_enter_30 rfl (lv_at hl 0 rfl) ?_
  refine va_get (D := D) (ci := 3) (v := .ref b7) (C := cnM) (T := ftM) (N := 10) hx hb hts inM hown hK hP 0 rfl rfl 9 (by decide) (hts _ mw298) (fun _ h9 => h9) rfl dM_enter_31 ?_
  refine lv_aload_n hx hb dM_enter_34 rfl (lv_at hl 0 rfl) ?_
  refine va_get (D := D) (ci := 3) (v := .int (nI y.2.2.2.2.1)) (C := cnM) (T := ftM) (N := 10) hx hb hts inM hown hK hP 0 rfl rfl 4 (by decide) (hts _ mw293) (fun _ h9 => h9) rfl dM_enter_35 ?_
  refine lv_iload_n hx hb dM_enter_38 rfl (lv_at hl 2 rfl) ?_
  refine va_iast hx hb hK hP hD hS 7 0 rfl rfl (vp_in_nI (hn) (by decide)) dM_enter_39 (fun H locs hP hD hS => ?_)
  rw [show Int32.toNatClampNeg (nI y.2.2.2.2.1) = y.2.2.2.2.1 from nI_clamp (by omega)] at hP hD
  have hP : va_P D vwCl [(bo, .inr (3, [.ref b1, .int y.2.1, .ref b2, .ref b3, .int (nI y.2.2.2.2.1), .int y.2.2.2.2.2.1, .ref b4, .ref b5, .ref b6, .ref b7])), (b1, .inl (cI, 3, .inl y.1)), (b2, .inl (cI, 3, .inl y.2.2.1)), (b3, .inl (cI, 3, .inl y.2.2.2.1)), (b4, .inl (cZ, 512, .inl (upd y.2.2.2.2.2.2.1 y.2.2.2.2.1 1))), (b5, .inl (cI, 512, .inl (upd y.2.2.2.2.2.2.2.1 y.2.2.2.2.1 g3))), (b6, .inl (cI, 512, .inl (upd y.2.2.2.2.2.2.2.2.1 y.2.2.2.2.1 g1))), (b7, .inl (cI, 512, .inl (upd y.2.2.2.2.2.2.2.2.2 y.2.2.2.2.1 g2)))] H := hP
  have hD : va_D A [(bo, .inr (3, [.ref b1, .int y.2.1, .ref b2, .ref b3, .int (nI y.2.2.2.2.1), .int y.2.2.2.2.2.1, .ref b4, .ref b5, .ref b6, .ref b7])), (b1, .inl (cI, 3, .inl y.1)), (b2, .inl (cI, 3, .inl y.2.2.1)), (b3, .inl (cI, 3, .inl y.2.2.2.1)), (b4, .inl (cZ, 512, .inl (upd y.2.2.2.2.2.2.1 y.2.2.2.2.1 1))), (b5, .inl (cI, 512, .inl (upd y.2.2.2.2.2.2.2.1 y.2.2.2.2.1 g3))), (b6, .inl (cI, 512, .inl (upd y.2.2.2.2.2.2.2.2.1 y.2.2.2.2.1 g1))), (b7, .inl (cI, 512, .inl (upd y.2.2.2.2.2.2.2.2.2 y.2.2.2.2.1 g2)))] := hD
  refine lv_aload_n hx hb dM_enter_40 rfl (lv_at hl 0 rfl) ?_
  refine lv_dup hx hb dM_enter_41 rfl ?_
  refine va_get (D := D) (ci := 3) (v := .int (nI y.2.2.2.2.1)) (C := cnM) (T := ftM) (N := 10) hx hb hts inM hown hK hP 0 rfl rfl 4 (by decide) (hts _ mw293) (fun _ h9 => h9) rfl dM_enter_42 ?_
  refine lv_iconst (v := 1) hx hb dM_enter_45 (by decide) ?_
  refine lv_iadd hx hb dM_enter_46 ?_
  refine kTop (y := (nI (y.2.2.2.2.1 + 1))) (nI_1 _) ?_
  refine va_put (D := D) (ci := 3) (v := .int (nI (y.2.2.2.2.1 + 1))) (ty := (.int)) (C := cnM) (T := ftM) (N := 10) hx hb hts inM tyM tyM_ok nmM hown hK hP hD hS 0 rfl rfl 4 (by decide) (hts _ mw293) (fun _ h9 => h9) rfl (by decide +kernel) rfl rfl (Nat.le_of_ble_eq_true rfl) dM_enter_47 (fun H locs hP hD hS => ?_)
  have hP : va_P D vwCl [(bo, .inr (3, [.ref b1, .int y.2.1, .ref b2, .ref b3, .int (nI (y.2.2.2.2.1 + 1)), .int y.2.2.2.2.2.1, .ref b4, .ref b5, .ref b6, .ref b7])), (b1, .inl (cI, 3, .inl y.1)), (b2, .inl (cI, 3, .inl y.2.2.1)), (b3, .inl (cI, 3, .inl y.2.2.2.1)), (b4, .inl (cZ, 512, .inl (upd y.2.2.2.2.2.2.1 y.2.2.2.2.1 1))), (b5, .inl (cI, 512, .inl (upd y.2.2.2.2.2.2.2.1 y.2.2.2.2.1 g3))), (b6, .inl (cI, 512, .inl (upd y.2.2.2.2.2.2.2.2.1 y.2.2.2.2.1 g1))), (b7, .inl (cI, 512, .inl (upd y.2.2.2.2.2.2.2.2.2 y.2.2.2.2.1 g2)))] H := hP
  have hD : va_D A [(bo, .inr (3, [.ref b1, .int y.2.1, .ref b2, .ref b3, .int (nI (y.2.2.2.2.1 + 1)), .int y.2.2.2.2.2.1, .ref b4, .ref b5, .ref b6, .ref b7])), (b1, .inl (cI, 3, .inl y.1)), (b2, .inl (cI, 3, .inl y.2.2.1)), (b3, .inl (cI, 3, .inl y.2.2.2.1)), (b4, .inl (cZ, 512, .inl (upd y.2.2.2.2.2.2.1 y.2.2.2.2.1 1))), (b5, .inl (cI, 512, .inl (upd y.2.2.2.2.2.2.2.1 y.2.2.2.2.1 g3))), (b6, .inl (cI, 512, .inl (upd y.2.2.2.2.2.2.2.2.1 y.2.2.2.2.1 g1))), (b7, .inl (cI, 512, .inl (upd y.2.2.2.2.2.2.2.2.2 y.2.2.2.2.1 g2)))] := hD
  refine lv_aload_n hx hb dM_enter_50 rfl (lv_at hl 0 rfl) ?_
  refine va_get (D := D) (ci := 3) (v := .int (nI (y.2.2.2.2.1 + 1))) (C := cnM) (T := ftM) (N := 10) hx hb hts inM hown hK hP 0 rfl rfl 4 (by decide) (hts _ mw293) (fun _ h9 => h9) rfl dM_enter_51 ?_
  exact kretI (wf := fun st => wY cI cZ bo b1 b2 b3 b4 b5 b6 b7 st) (st := (y.1, y.2.1, y.2.2.1, y.2.2.2.1, (y.2.2.2.2.1 + 1), y.2.2.2.2.2.1, (upd y.2.2.2.2.2.2.1 y.2.2.2.2.1 1), (upd y.2.2.2.2.2.2.2.1 y.2.2.2.2.1 g3), (upd y.2.2.2.2.2.2.2.2.1 y.2.2.2.2.1 g1), (upd y.2.2.2.2.2.2.2.2.2 y.2.2.2.2.1 g2))) (rfl) hx hb hr hlk hS hP hD hK dM_enter_54
