def zk_has (K : KS) (g1 : Int32) (g2 : Int32) : Int32 := (if g1 < 0 then (0 : Int32) else (if (nI K.1) ≤ g1 then (0 : Int32) else (if ((K.2.2.2.1 (Int32.toNatClampNeg g1)) &&& g2) = 0 then (0 : Int32) else (1 : Int32))))

set_option maxHeartbeats 4000000 in
set_option maxRecDepth 100000 in
theorem kk_has (l : Launch) (D : va_G) (cI cZ : ClassId) (ak a1 a2 a3 a4 : Nat) (K : KS) (g1 : Int32) (g2 : Int32) (hn : K.1 ≤ 10) : kI l yK_has wsK_has (rmOf 0 0) D (kT cI cZ) [.ref ak, .int g1, .int g2] (wK cI ak a1 a2 a3 a4 K) (zk_has K g1 g2) (wK cI ak a1 a2 a3 a4 K) := by
  intro sz
  refine kOf (Qc := fun A => kQi D (kT cI cZ) A (zk_has K g1 g2) (wK cI ak a1 a2 a3 a4 K)) (cc := cK_has) (maxL := 3) (ret := some .boolean) (by decide) rfl (Nat.le_of_ble_eq_true rfl) ?_ sz
  intro p e s m args below meth c A ls hx hb hml hown hts hNw hr hlk hin hA hS hP hD hK hl
  show W p l e (rmOf 0 0) s m args below meth c s.heap [] 0 0 (MQ below (kQi D (kT cI cZ) A (zk_has K g1 g2) (wK cI ak a1 a2 a3 a4 K)) args s 0 0 A) (F0 m 0 ls [])
  have hts : ∀ q ∈ lw_g, q.before args s = true := fun q h => hts q (List.mem_cons_of_mem _ h)
  have hown : s.vm.findClass cnK = some m.cls := hown
  have hl : lv_has ls 3 [(0, .ref ak), (1, .int g1), (2, .int g2)] := hl
  have hP : va_P D vwCl [(ak, .inr (2, [.ref a1, .ref a2, .ref a3, .ref a4, .int (nI K.1), .int K.2.1])), (a1, .inl (cI, 10, .inl K.2.2.1)), (a2, .inl (cI, 10, .inl K.2.2.2.1)), (a3, .inl (cI, 10, .inl K.2.2.2.2.1)), (a4, .inl (cI, 10, .inl K.2.2.2.2.2))] s.heap := hP
  have hD : va_D A [(ak, .inr (2, [.ref a1, .ref a2, .ref a3, .ref a4, .int (nI K.1), .int K.2.1])), (a1, .inl (cI, 10, .inl K.2.2.1)), (a2, .inl (cI, 10, .inl K.2.2.2.1)), (a3, .inl (cI, 10, .inl K.2.2.2.2.1)), (a4, .inl (cI, 10, .inl K.2.2.2.2.2))] := hD
  refine lv_iload_n hx hb dK_has_0 rfl (lv_at hl 1 rfl) ?_
  refine kJoin (pcJ := 28) (z := (if g1 < 0 then (0 : Int32) else (if (nI K.1) ≤ g1 then (0 : Int32) else (if ((K.2.2.2.1 (Int32.toNatClampNeg g1)) &&& g2) = 0 then (0 : Int32) else (1 : Int32))))) (ws := [(ak, .inr (2, [.ref a1, .ref a2, .ref a3, .ref a4, .int (nI K.1), .int K.2.1])), (a1, .inl (cI, 10, .inl K.2.2.1)), (a2, .inl (cI, 10, .inl K.2.2.2.1)), (a3, .inl (cI, 10, .inl K.2.2.2.2.1)), (a4, .inl (cI, 10, .inl K.2.2.2.2.2))]) (rest := []) (D := D) (A := A) (H0 := s.heap) (fun J28 => ?_) (fun H locs hP hD hS => ?_)
  ·
    refine lv_if_lt (tgt := 27) hx hb dK_has_1 (by decide) (fun h1 => ?_) (fun h1 => ?_)
    ·
      refine lv_iconst (v := 0) hx hb dK_has_27 (by decide) ?_
      exact J28 _ _ hP hD hS _ ((if_pos h1).symm)
    ·
      refine lv_iload_n hx hb dK_has_4 rfl (lv_at hl 1 rfl) ?_
      refine lv_aload_n hx hb dK_has_5 rfl (lv_at hl 0 rfl) ?_
      refine va_get (D := D) (ci := 2) (v := .int (nI K.1)) (C := cnK) (T := ftK) (N := 6) hx hb hts inK hown hK hP 0 rfl rfl 4 (by decide) (hts _ mw64) (fun _ h9 => h9) rfl dK_has_6 ?_
      refine lv_icmp_ge (tgt := 27) hx hb dK_has_9 (by decide) (fun h2 => ?_) (fun h2 => ?_)
      ·
        refine lv_iconst (v := 0) hx hb dK_has_27 (by decide) ?_
        exact J28 _ _ hP hD hS _ (((if_neg h1).trans (if_pos h2)).symm)
      ·
        refine lv_aload_n hx hb dK_has_12 rfl (lv_at hl 0 rfl) ?_
        refine va_get (D := D) (ci := 2) (v := .ref a2) (C := cnK) (T := ftK) (N := 6) hx hb hts inK hown hK hP 0 rfl rfl 1 (by decide) (hts _ mw59) (fun _ h9 => h9) rfl dK_has_13 ?_
        refine lv_iload_n hx hb dK_has_16 rfl (lv_at hl 1 rfl) ?_
        refine va_iald hx hb hK hP 2 0 rfl rfl (kin hn (by decide) h1 h2) dK_has_17 ?_
        refine lv_iload_n hx hb dK_has_18 rfl (lv_at hl 2 rfl) ?_
        refine lv_iand hx hb dK_has_19 ?_
        refine lv_if_eq (tgt := 27) hx hb dK_has_20 (by decide) (fun h3 => ?_) (fun h3 => ?_)
        ·
          refine lv_iconst (v := 0) hx hb dK_has_27 (by decide) ?_
          exact J28 _ _ hP hD hS _ (((if_neg h1).trans ((if_neg h2).trans (if_pos h3))).symm)
        ·
          refine lv_iconst (v := 1) hx hb dK_has_23 (by decide) ?_
          refine lv_goto hx hb dK_has_24 (tgt := 28) (by decide) ?_
          exact J28 _ _ hP hD hS _ (((if_neg h1).trans ((if_neg h2).trans (if_neg h3))).symm)
  exact kretZ (rfl) (kz_ite kz0 (kz_ite kz0 (kz_ite kz0 kz1))) hx hb hr hlk hS hP hD hK dK_has_28

def zk_find (hs : Nat → Int32) (g : Int32) : Nat → Nat → Int32
  | 0, _ => -1
  | f + 1, i => if hs i = g then nI i else zk_find hs g f (i + 1)
def zk_rowWith (K : KS) (g1 : Int32) : Int32 := zk_find K.2.2.1 g1 K.1 0

set_option maxHeartbeats 4000000 in
set_option maxRecDepth 100000 in
theorem kk_rowWith (l : Launch) (D : va_G) (cI cZ : ClassId) (ak a1 a2 a3 a4 : Nat) (K : KS) (g1 : Int32) (hn : K.1 ≤ 10) : kI l yK_rowWith wsK_rowWith (rmOf 0 0) D (kT cI cZ) [.ref ak, .int g1] (wK cI ak a1 a2 a3 a4 K) (zk_rowWith K g1) (wK cI ak a1 a2 a3 a4 K) := by
  intro sz
  refine kOf (Qc := fun A => kQi D (kT cI cZ) A (zk_rowWith K g1) (wK cI ak a1 a2 a3 a4 K)) (cc := cK_rowWith) (maxL := 3) (ret := some .int) (by decide) rfl (Nat.le_of_ble_eq_true rfl) ?_ sz
  intro p e s m args below meth c A ls hx hb hml hown hts hNw hr hlk hin hA hS hP hD hK hl
  show W p l e (rmOf 0 0) s m args below meth c s.heap [] 0 0 (MQ below (kQi D (kT cI cZ) A (zk_rowWith K g1) (wK cI ak a1 a2 a3 a4 K)) args s 0 0 A) (F0 m 0 ls [])
  have hts : ∀ q ∈ lw_g, q.before args s = true := fun q h => hts q (List.mem_cons_of_mem _ h)
  have hown : s.vm.findClass cnK = some m.cls := hown
  have hl : lv_has ls 3 [(0, .ref ak), (1, .int g1)] := hl
  have hP : va_P D vwCl [(ak, .inr (2, [.ref a1, .ref a2, .ref a3, .ref a4, .int (nI K.1), .int K.2.1])), (a1, .inl (cI, 10, .inl K.2.2.1)), (a2, .inl (cI, 10, .inl K.2.2.2.1)), (a3, .inl (cI, 10, .inl K.2.2.2.2.1)), (a4, .inl (cI, 10, .inl K.2.2.2.2.2))] s.heap := hP
  have hD : va_D A [(ak, .inr (2, [.ref a1, .ref a2, .ref a3, .ref a4, .int (nI K.1), .int K.2.1])), (a1, .inl (cI, 10, .inl K.2.2.1)), (a2, .inl (cI, 10, .inl K.2.2.2.1)), (a3, .inl (cI, 10, .inl K.2.2.2.2.1)), (a4, .inl (cI, 10, .inl K.2.2.2.2.2))] := hD
  have L : ∀ (f : Nat) (i : Nat) (ls : Array Slot) (H : Heap) (locs : List Loc), (i + f = K.1) → (zk_rowWith K g1 = zk_find K.2.2.1 g1 f i) → lv_has ls 3 [(2, .int (nI i)), (0, .ref ak), (1, .int g1)] → va_P D vwCl [(ak, .inr (2, [.ref a1, .ref a2, .ref a3, .ref a4, .int (nI K.1), .int K.2.1])), (a1, .inl (cI, 10, .inl K.2.2.1)), (a2, .inl (cI, 10, .inl K.2.2.2.1)), (a3, .inl (cI, 10, .inl K.2.2.2.2.1)), (a4, .inl (cI, 10, .inl K.2.2.2.2.2))] H → va_D A [(ak, .inr (2, [.ref a1, .ref a2, .ref a3, .ref a4, .int (nI K.1), .int K.2.1])), (a1, .inl (cI, 10, .inl K.2.2.1)), (a2, .inl (cI, 10, .inl K.2.2.2.1)), (a3, .inl (cI, 10, .inl K.2.2.2.2.1)), (a4, .inl (cI, 10, .inl K.2.2.2.2.2))] → va_S A s.heap H locs → W p l e (rmOf 0 0) s m args below meth c H locs 0 0 (MQ below (kQi D (kT cI cZ) A (zk_rowWith K g1) (wK cI ak a1 a2 a3 a4 K)) args s 0 0 A) (F0 m 2 ls []) := by
    intro f
    induction f with
    | zero =>
      intro i ls H locs hf he hl hP hD hS
      refine lv_iload_n hx hb dK_rowWith_2 rfl (lv_at hl 0 rfl) ?_
      refine lv_aload_n hx hb dK_rowWith_3 rfl (lv_at hl 1 rfl) ?_
      refine va_get (D := D) (ci := 2) (v := .int (nI K.1)) (C := cnK) (T := ftK) (N := 6) hx hb hts inK hown hK hP 0 rfl rfl 4 (by decide) (hts _ mw64) (fun _ h9 => h9) rfl dK_rowWith_4 ?_
      refine lv_icmp_ge (tgt := 28) hx hb dK_rowWith_7 (by decide) (fun _ => ?_) (fun h => absurd (nI_le (by omega) (by omega)) h)
      refine lv_iconst (v := (-1)) hx hb dK_rowWith_28 (by decide) ?_
      exact kretP (he) hx hb hr hlk hS hP hD hK dK_rowWith_29
    | succ f ih =>
      intro i ls H locs hf he hl hP hD hS
      refine lv_iload_n hx hb dK_rowWith_2 rfl (lv_at hl 0 rfl) ?_
      refine lv_aload_n hx hb dK_rowWith_3 rfl (lv_at hl 1 rfl) ?_
      refine va_get (D := D) (ci := 2) (v := .int (nI K.1)) (C := cnK) (T := ftK) (N := 6) hx hb hts inK hown hK hP 0 rfl rfl 4 (by decide) (hts _ mw64) (fun _ h9 => h9) rfl dK_rowWith_4 ?_
      refine lv_icmp_ge (tgt := 28) hx hb dK_rowWith_7 (by decide) (fun h => absurd h (nI_ge (by omega) (by omega))) (fun _ => ?_)
      refine lv_aload_n hx hb dK_rowWith_10 rfl (lv_at hl 1 rfl) ?_
      refine va_get (D := D) (ci := 2) (v := .ref a1) (C := cnK) (T := ftK) (N := 6) hx hb hts inK hown hK hP 0 rfl rfl 0 (by decide) (hts _ mw57) (fun _ h9 => h9) rfl dK_rowWith_11 ?_
      refine lv_iload_n hx hb dK_rowWith_14 rfl (lv_at hl 0 rfl) ?_
      refine va_iald hx hb hK hP 1 0 rfl rfl (vp_in_nI (by omega) (by decide)) dK_rowWith_15 ?_
      refine kTop (y := (K.2.2.1 i)) (by rw [nI_clamp (by omega)]) ?_
      refine lv_iload_n hx hb dK_rowWith_16 rfl (lv_at hl 2 rfl) ?_
      refine lv_icmp_ne (tgt := 22) hx hb dK_rowWith_17 (by decide) (fun h1 => ?_) (fun h1 => ?_)
      ·
        refine lv_iinc (k := 0) (v := (nI (i + 1))) hx hb dK_rowWith_22 hl rfl (kincN1 _) (by decide) rfl (fun ls hl => ?_)
        have hl : lv_has ls 3 [(2, .int (nI (i + 1))), (0, .ref ak), (1, .int g1)] := hl
        refine lv_goto hx hb dK_rowWith_25 (tgt := 2) (by decide) ?_
        exact ih (i + 1) _ _ _ (by omega) (by rw [he, zk_find, if_neg h1]) (lv_sub hl [0, 1, 2] rfl) hP hD hS
      ·
        refine lv_iload_n hx hb dK_rowWith_20 rfl (lv_at hl 0 rfl) ?_
        exact kretP (by rw [he, zk_find, if_pos h1]) hx hb hr hlk hS hP hD hK dK_rowWith_21
  refine lv_iconst (v := 0) hx hb dK_rowWith_0 (by decide) ?_
  refine lv_istore_n hx hb dK_rowWith_1 rfl hl (by decide) rfl (fun ls hl => ?_)
  have hl : lv_has ls 3 [(2, .int 0), (0, .ref ak), (1, .int g1)] := hl
  have hl : lv_has ls 3 [(2, .int (nI 0)), (0, .ref ak), (1, .int g1)] := hl
  exact L K.1 0 _ _ _ (by omega) rfl hl hP hD hS

theorem kpred {n : Nat} (h : 0 < n) : nI n - 1 = nI (n - 1) := by
  obtain ⟨k, rfl⟩ : ∃ k, n = k + 1 := ⟨n - 1, by omega⟩
  exact nI_pred k
def zk_shift : Nat → Nat → (Nat → Int32) → (Nat → Int32)
  | 0, _, f => f
  | k + 1, i, f => zk_shift k (i + 1) (upd f i (f (i + 1)))
def zk_removeRow (K : KS) (g1 : Nat) : KS := (K.1 - 1, K.2.1, zk_shift (K.1 - 1 - g1) g1 K.2.2.1, zk_shift (K.1 - 1 - g1) g1 K.2.2.2.1, zk_shift (K.1 - 1 - g1) g1 K.2.2.2.2.1, zk_shift (K.1 - 1 - g1) g1 K.2.2.2.2.2)

set_option maxHeartbeats 4000000 in
set_option maxRecDepth 100000 in
theorem kk_removeRow (l : Launch) (D : va_G) (cI cZ : ClassId) (ak a1 a2 a3 a4 : Nat) (K : KS) (g1 : Nat) (hn : K.1 ≤ 10) (hg : g1 < K.1) : kV l yK_removeRow wsK_removeRow (rmOf 0 0) D (kT cI cZ) [.ref ak, .int (nI g1)] (wK cI ak a1 a2 a3 a4 K) (wK cI ak a1 a2 a3 a4 (zk_removeRow K g1)) := by
  intro sz
  refine kOf (Qc := fun A => kQv D (kT cI cZ) A (wK cI ak a1 a2 a3 a4 (zk_removeRow K g1))) (cc := cK_removeRow) (maxL := 3) (ret := none) (by decide) rfl (Nat.le_of_ble_eq_true rfl) ?_ sz
  intro p e s m args below meth c A ls hx hb hml hown hts hNw hr hlk hin hA hS hP hD hK hl
  show W p l e (rmOf 0 0) s m args below meth c s.heap [] 0 0 (MQ below (kQv D (kT cI cZ) A (wK cI ak a1 a2 a3 a4 (zk_removeRow K g1))) args s 0 0 A) (F0 m 0 ls [])
  have hts : ∀ q ∈ lw_g, q.before args s = true := fun q h => hts q (List.mem_cons_of_mem _ h)
  have hown : s.vm.findClass cnK = some m.cls := hown
  have hl : lv_has ls 3 [(0, .ref ak), (1, .int (nI g1))] := hl
  have hP : va_P D vwCl [(ak, .inr (2, [.ref a1, .ref a2, .ref a3, .ref a4, .int (nI K.1), .int K.2.1])), (a1, .inl (cI, 10, .inl K.2.2.1)), (a2, .inl (cI, 10, .inl K.2.2.2.1)), (a3, .inl (cI, 10, .inl K.2.2.2.2.1)), (a4, .inl (cI, 10, .inl K.2.2.2.2.2))] s.heap := hP
  have hD : va_D A [(ak, .inr (2, [.ref a1, .ref a2, .ref a3, .ref a4, .int (nI K.1), .int K.2.1])), (a1, .inl (cI, 10, .inl K.2.2.1)), (a2, .inl (cI, 10, .inl K.2.2.2.1)), (a3, .inl (cI, 10, .inl K.2.2.2.2.1)), (a4, .inl (cI, 10, .inl K.2.2.2.2.2))] := hD
  have L : ∀ (f : Nat) (i : Nat) (h : Nat → Int32) (u : Nat → Int32) (v : Nat → Int32) (w : Nat → Int32) (ls : Array Slot) (H : Heap) (locs : List Loc), (i + f = K.1 - 1) → (zk_shift (K.1 - 1 - g1) g1 K.2.2.1 = zk_shift f i h) → (zk_shift (K.1 - 1 - g1) g1 K.2.2.2.1 = zk_shift f i u) → (zk_shift (K.1 - 1 - g1) g1 K.2.2.2.2.1 = zk_shift f i v) → (zk_shift (K.1 - 1 - g1) g1 K.2.2.2.2.2 = zk_shift f i w) → lv_has ls 3 [(2, .int (nI i)), (0, .ref ak), (1, .int (nI g1))] → va_P D vwCl [(ak, .inr (2, [.ref a1, .ref a2, .ref a3, .ref a4, .int (nI K.1), .int K.2.1])), (a1, .inl (cI, 10, .inl h)), (a2, .inl (cI, 10, .inl u)), (a3, .inl (cI, 10, .inl v)), (a4, .inl (cI, 10, .inl w))] H → va_D A [(ak, .inr (2, [.ref a1, .ref a2, .ref a3, .ref a4, .int (nI K.1), .int K.2.1])), (a1, .inl (cI, 10, .inl h)), (a2, .inl (cI, 10, .inl u)), (a3, .inl (cI, 10, .inl v)), (a4, .inl (cI, 10, .inl w))] → va_S A s.heap H locs → W p l e (rmOf 0 0) s m args below meth c H locs 0 0 (MQ below (kQv D (kT cI cZ) A (wK cI ak a1 a2 a3 a4 (zk_removeRow K g1))) args s 0 0 A) (F0 m 2 ls []) := by
    intro f
    induction f with
    | zero =>
      intro i h u v w ls H locs hf e1 e2 e3 e4 hl hP hD hS
      refine lv_iload_n hx hb dK_removeRow_2 rfl (lv_at hl 0 rfl) ?_
      refine lv_aload_n hx hb dK_removeRow_3 rfl (lv_at hl 1 rfl) ?_
      refine va_get (D := D) (ci := 2) (v := .int (nI K.1)) (C := cnK) (T := ftK) (N := 6) hx hb hts inK hown hK hP 0 rfl rfl 4 (by decide) (hts _ mw64) (fun _ h9 => h9) rfl dK_removeRow_4 ?_
      refine lv_iconst (v := 1) hx hb dK_removeRow_7 (by decide) ?_
      refine lv_isub hx hb dK_removeRow_8 ?_
      refine kTop (y := (nI (K.1 - 1))) (kpred (by omega)) ?_
      refine lv_icmp_ge (tgt := 74) hx hb dK_removeRow_9 (by decide) (fun _ => ?_) (fun h => absurd (nI_le (by omega) (by omega)) h)
      refine lv_aload_n hx hb dK_removeRow_74 rfl (lv_at hl 1 rfl) ?_
      refine lv_dup hx hb dK_removeRow_75 rfl ?_
      refine va_get (D := D) (ci := 2) (v := .int (nI K.1)) (C := cnK) (T := ftK) (N := 6) hx hb hts inK hown hK hP 0 rfl rfl 4 (by decide) (hts _ mw64) (fun _ h9 => h9) rfl dK_removeRow_76 ?_
      refine lv_iconst (v := 1) hx hb dK_removeRow_79 (by decide) ?_
      refine lv_isub hx hb dK_removeRow_80 ?_
      refine kTop (y := (nI (K.1 - 1))) (kpred (by omega)) ?_
      refine va_put (D := D) (ci := 2) (v := .int (nI (K.1 - 1))) (ty := (.int)) (C := cnK) (T := ftK) (N := 6) hx hb hts inK tyK tyK_ok nmK hown hK hP hD hS 0 rfl rfl 4 (by decide) (hts _ mw64) (fun _ h9 => h9) rfl (by decide +kernel) rfl rfl (Nat.le_of_ble_eq_true rfl) dK_removeRow_81 (fun H locs hP hD hS => ?_)
      have hP : va_P D vwCl [(ak, .inr (2, [.ref a1, .ref a2, .ref a3, .ref a4, .int (nI (K.1 - 1)), .int K.2.1])), (a1, .inl (cI, 10, .inl h)), (a2, .inl (cI, 10, .inl u)), (a3, .inl (cI, 10, .inl v)), (a4, .inl (cI, 10, .inl w))] H := hP
      have hD : va_D A [(ak, .inr (2, [.ref a1, .ref a2, .ref a3, .ref a4, .int (nI (K.1 - 1)), .int K.2.1])), (a1, .inl (cI, 10, .inl h)), (a2, .inl (cI, 10, .inl u)), (a3, .inl (cI, 10, .inl v)), (a4, .inl (cI, 10, .inl w))] := hD
      exact kretV (wf := fun st => wK cI ak a1 a2 a3 a4 st) (st := ((K.1 - 1), K.2.1, h, u, v, w)) (by unfold zk_removeRow; rw [e1, e2, e3, e4]; rfl) hx hb hr hlk hS hP hD hK dK_removeRow_84
    | succ f ih =>
      intro i h u v w ls H locs hf e1 e2 e3 e4 hl hP hD hS
      refine lv_iload_n hx hb dK_removeRow_2 rfl (lv_at hl 0 rfl) ?_
      refine lv_aload_n hx hb dK_removeRow_3 rfl (lv_at hl 1 rfl) ?_
      refine va_get (D := D) (ci := 2) (v := .int (nI K.1)) (C := cnK) (T := ftK) (N := 6) hx hb hts inK hown hK hP 0 rfl rfl 4 (by decide) (hts _ mw64) (fun _ h9 => h9) rfl dK_removeRow_4 ?_
      refine lv_iconst (v := 1) hx hb dK_removeRow_7 (by decide) ?_
      refine lv_isub hx hb dK_removeRow_8 ?_
      refine kTop (y := (nI (K.1 - 1))) (kpred (by omega)) ?_
      refine lv_icmp_ge (tgt := 74) hx hb dK_removeRow_9 (by decide) (fun h => absurd h (nI_ge (by omega) (by omega))) (fun _ => ?_)
      refine lv_aload_n hx hb dK_removeRow_12 rfl (lv_at hl 1 rfl) ?_
      refine va_get (D := D) (ci := 2) (v := .ref a1) (C := cnK) (T := ftK) (N := 6) hx hb hts inK hown hK hP 0 rfl rfl 0 (by decide) (hts _ mw57) (fun _ h9 => h9) rfl dK_removeRow_13 ?_
      refine lv_iload_n hx hb dK_removeRow_16 rfl (lv_at hl 0 rfl) ?_
      refine lv_aload_n hx hb dK_removeRow_17 rfl (lv_at hl 1 rfl) ?_
      refine va_get (D := D) (ci := 2) (v := .ref a1) (C := cnK) (T := ftK) (N := 6) hx hb hts inK hown hK hP 0 rfl rfl 0 (by decide) (hts _ mw57) (fun _ h9 => h9) rfl dK_removeRow_18 ?_
      refine lv_iload_n hx hb dK_removeRow_21 rfl (lv_at hl 0 rfl) ?_
      refine lv_iconst (v := 1) hx hb dK_removeRow_22 (by decide) ?_
      refine lv_iadd hx hb dK_removeRow_23 ?_
      refine kTop (y := (nI (i + 1))) (nI_1 _) ?_
      refine va_iald hx hb hK hP 1 0 rfl rfl (vp_in_nI (by omega) (by decide)) dK_removeRow_24 ?_
      refine kTop (y := (h (i + 1))) (by rw [nI_clamp (by omega)]) ?_
      refine va_iast hx hb hK hP hD hS 1 0 rfl rfl (vp_in_nI (by omega) (by decide)) dK_removeRow_25 (fun H locs hP hD hS => ?_)
      rw [show Int32.toNatClampNeg (nI i) = i from nI_clamp (by omega)] at hP hD
      have hP : va_P D vwCl [(ak, .inr (2, [.ref a1, .ref a2, .ref a3, .ref a4, .int (nI K.1), .int K.2.1])), (a1, .inl (cI, 10, .inl (upd h i (h (i + 1))))), (a2, .inl (cI, 10, .inl u)), (a3, .inl (cI, 10, .inl v)), (a4, .inl (cI, 10, .inl w))] H := hP
      have hD : va_D A [(ak, .inr (2, [.ref a1, .ref a2, .ref a3, .ref a4, .int (nI K.1), .int K.2.1])), (a1, .inl (cI, 10, .inl (upd h i (h (i + 1))))), (a2, .inl (cI, 10, .inl u)), (a3, .inl (cI, 10, .inl v)), (a4, .inl (cI, 10, .inl w))] := hD
      refine lv_aload_n hx hb dK_removeRow_26 rfl (lv_at hl 1 rfl) ?_
      refine va_get (D := D) (ci := 2) (v := .ref a2) (C := cnK) (T := ftK) (N := 6) hx hb hts inK hown hK hP 0 rfl rfl 1 (by decide) (hts _ mw59) (fun _ h9 => h9) rfl dK_removeRow_27 ?_
      refine lv_iload_n hx hb dK_removeRow_30 rfl (lv_at hl 0 rfl) ?_
      refine lv_aload_n hx hb dK_removeRow_31 rfl (lv_at hl 1 rfl) ?_
      refine va_get (D := D) (ci := 2) (v := .ref a2) (C := cnK) (T := ftK) (N := 6) hx hb hts inK hown hK hP 0 rfl rfl 1 (by decide) (hts _ mw59) (fun _ h9 => h9) rfl dK_removeRow_32 ?_
      refine lv_iload_n hx hb dK_removeRow_35 rfl (lv_at hl 0 rfl) ?_
      refine lv_iconst (v := 1) hx hb dK_removeRow_36 (by decide) ?_
      refine lv_iadd hx hb dK_removeRow_37 ?_
      refine kTop (y := (nI (i + 1))) (nI_1 _) ?_
      refine va_iald hx hb hK hP 2 0 rfl rfl (vp_in_nI (by omega) (by decide)) dK_removeRow_38 ?_
      refine kTop (y := (u (i + 1))) (by rw [nI_clamp (by omega)]) ?_
      refine va_iast hx hb hK hP hD hS 2 0 rfl rfl (vp_in_nI (by omega) (by decide)) dK_removeRow_39 (fun H locs hP hD hS => ?_)
      rw [show Int32.toNatClampNeg (nI i) = i from nI_clamp (by omega)] at hP hD
      have hP : va_P D vwCl [(ak, .inr (2, [.ref a1, .ref a2, .ref a3, .ref a4, .int (nI K.1), .int K.2.1])), (a1, .inl (cI, 10, .inl (upd h i (h (i + 1))))), (a2, .inl (cI, 10, .inl (upd u i (u (i + 1))))), (a3, .inl (cI, 10, .inl v)), (a4, .inl (cI, 10, .inl w))] H := hP
      have hD : va_D A [(ak, .inr (2, [.ref a1, .ref a2, .ref a3, .ref a4, .int (nI K.1), .int K.2.1])), (a1, .inl (cI, 10, .inl (upd h i (h (i + 1))))), (a2, .inl (cI, 10, .inl (upd u i (u (i + 1))))), (a3, .inl (cI, 10, .inl v)), (a4, .inl (cI, 10, .inl w))] := hD
      refine lv_aload_n hx hb dK_removeRow_40 rfl (lv_at hl 1 rfl) ?_
      refine va_get (D := D) (ci := 2) (v := .ref a3) (C := cnK) (T := ftK) (N := 6) hx hb hts inK hown hK hP 0 rfl rfl 2 (by decide) (hts _ mw61) (fun _ h9 => h9) rfl dK_removeRow_41 ?_
      refine lv_iload_n hx hb dK_removeRow_44 rfl (lv_at hl 0 rfl) ?_
      refine lv_aload_n hx hb dK_removeRow_45 rfl (lv_at hl 1 rfl) ?_
      refine va_get (D := D) (ci := 2) (v := .ref a3) (C := cnK) (T := ftK) (N := 6) hx hb hts inK hown hK hP 0 rfl rfl 2 (by decide) (hts _ mw61) (fun _ h9 => h9) rfl dK_removeRow_46 ?_
      refine lv_iload_n hx hb dK_removeRow_49 rfl (lv_at hl 0 rfl) ?_
      refine lv_iconst (v := 1) hx hb dK_removeRow_50 (by decide) ?_
      refine lv_iadd hx hb dK_removeRow_51 ?_
      refine kTop (y := (nI (i + 1))) (nI_1 _) ?_
      refine va_iald hx hb hK hP 3 0 rfl rfl (vp_in_nI (by omega) (by decide)) dK_removeRow_52 ?_
      refine kTop (y := (v (i + 1))) (by rw [nI_clamp (by omega)]) ?_
      refine va_iast hx hb hK hP hD hS 3 0 rfl rfl (vp_in_nI (by omega) (by decide)) dK_removeRow_53 (fun H locs hP hD hS => ?_)
      rw [show Int32.toNatClampNeg (nI i) = i from nI_clamp (by omega)] at hP hD
      have hP : va_P D vwCl [(ak, .inr (2, [.ref a1, .ref a2, .ref a3, .ref a4, .int (nI K.1), .int K.2.1])), (a1, .inl (cI, 10, .inl (upd h i (h (i + 1))))), (a2, .inl (cI, 10, .inl (upd u i (u (i + 1))))), (a3, .inl (cI, 10, .inl (upd v i (v (i + 1))))), (a4, .inl (cI, 10, .inl w))] H := hP
      have hD : va_D A [(ak, .inr (2, [.ref a1, .ref a2, .ref a3, .ref a4, .int (nI K.1), .int K.2.1])), (a1, .inl (cI, 10, .inl (upd h i (h (i + 1))))), (a2, .inl (cI, 10, .inl (upd u i (u (i + 1))))), (a3, .inl (cI, 10, .inl (upd v i (v (i + 1))))), (a4, .inl (cI, 10, .inl w))] := hD
      refine lv_aload_n hx hb dK_removeRow_54 rfl (lv_at hl 1 rfl) ?_
      refine va_get (D := D) (ci := 2) (v := .ref a4) (C := cnK) (T := ftK) (N := 6) hx hb hts inK hown hK hP 0 rfl rfl 3 (by decide) (hts _ mw63) (fun _ h9 => h9) rfl dK_removeRow_55 ?_
      refine lv_iload_n hx hb dK_removeRow_58 rfl (lv_at hl 0 rfl) ?_
      refine lv_aload_n hx hb dK_removeRow_59 rfl (lv_at hl 1 rfl) ?_
      refine va_get (D := D) (ci := 2) (v := .ref a4) (C := cnK) (T := ftK) (N := 6) hx hb hts inK hown hK hP 0 rfl rfl 3 (by decide) (hts _ mw63) (fun _ h9 => h9) rfl dK_removeRow_60 ?_
      refine lv_iload_n hx hb dK_removeRow_63 rfl (lv_at hl 0 rfl) ?_
      refine lv_iconst (v := 1) hx hb dK_removeRow_64 (by decide) ?_
      refine lv_iadd hx hb dK_removeRow_65 ?_
      refine kTop (y := (nI (i + 1))) (nI_1 _) ?_
      refine va_iald hx hb hK hP 4 0 rfl rfl (vp_in_nI (by omega) (by decide)) dK_removeRow_66 ?_
      refine kTop (y := (w (i + 1))) (by rw [nI_clamp (by omega)]) ?_
      refine va_iast hx hb hK hP hD hS 4 0 rfl rfl (vp_in_nI (by omega) (by decide)) dK_removeRow_67 (fun H locs hP hD hS => ?_)
      rw [show Int32.toNatClampNeg (nI i) = i from nI_clamp (by omega)] at hP hD
      have hP : va_P D vwCl [(ak, .inr (2, [.ref a1, .ref a2, .ref a3, .ref a4, .int (nI K.1), .int K.2.1])), (a1, .inl (cI, 10, .inl (upd h i (h (i + 1))))), (a2, .inl (cI, 10, .inl (upd u i (u (i + 1))))), (a3, .inl (cI, 10, .inl (upd v i (v (i + 1))))), (a4, .inl (cI, 10, .inl (upd w i (w (i + 1)))))] H := hP
      have hD : va_D A [(ak, .inr (2, [.ref a1, .ref a2, .ref a3, .ref a4, .int (nI K.1), .int K.2.1])), (a1, .inl (cI, 10, .inl (upd h i (h (i + 1))))), (a2, .inl (cI, 10, .inl (upd u i (u (i + 1))))), (a3, .inl (cI, 10, .inl (upd v i (v (i + 1))))), (a4, .inl (cI, 10, .inl (upd w i (w (i + 1)))))] := hD
      refine lv_iinc (k := 0) (v := (nI (i + 1))) hx hb dK_removeRow_68 hl rfl (kincN1 _) (by decide) rfl (fun ls hl => ?_)
      have hl : lv_has ls 3 [(2, .int (nI (i + 1))), (0, .ref ak), (1, .int (nI g1))] := hl
      refine lv_goto hx hb dK_removeRow_71 (tgt := 2) (by decide) ?_
      exact ih (i + 1) (upd h i (h (i + 1))) (upd u i (u (i + 1))) (upd v i (v (i + 1))) (upd w i (w (i + 1))) _ _ _ (by omega) (e1) (e2) (e3) (e4) (lv_sub hl [0, 1, 2] rfl) hP hD hS
  refine lv_iload_n hx hb dK_removeRow_0 rfl (lv_at hl 1 rfl) ?_
  refine lv_istore_n hx hb dK_removeRow_1 rfl hl (by decide) rfl (fun ls hl => ?_)
  have hl : lv_has ls 3 [(2, .int (nI g1)), (0, .ref ak), (1, .int (nI g1))] := hl
  exact L (K.1 - 1 - g1) g1 _ _ _ _ _ _ _ (by omega) rfl rfl rfl rfl (lv_sub hl [0, 1, 2] rfl) hP hD hS

theorem klt10 {n : Nat} (hn : n ≤ 10) (h : nI n < 10) : n < 10 := by
  have h2 : nI n < nI 10 := h
  rwa [nI_ltI (by omega) (by decide)] at h2

def zk_add (K : KS) (g1 : Int32) (g2 : Int32) (g3 : Int32) : Int32 × KS := (if (nI K.1) < 10 then ((K.2.1 + 1), ((K.1 + 1), (K.2.1 + 1), (upd K.2.2.1 K.1 (K.2.1 + 1)), (upd K.2.2.2.1 K.1 g1), (upd K.2.2.2.2.1 K.1 g2), (upd K.2.2.2.2.2 K.1 (if (g1 &&& 1) = 0 then g3 else ((-1) : Int32))))) else ((-6), K))

set_option maxHeartbeats 4000000 in
set_option maxRecDepth 100000 in
theorem kk_add (l : Launch) (D : va_G) (cI cZ : ClassId) (ak a1 a2 a3 a4 : Nat) (K : KS) (g1 : Int32) (g2 : Int32) (g3 : Int32) (hn : K.1 ≤ 10) : kI l yK_add wsK_add (rmOf 0 0) D (kT cI cZ) [.ref ak, .int g1, .int g2, .int g3] (wK cI ak a1 a2 a3 a4 K) (zk_add K g1 g2 g3).1 (wK cI ak a1 a2 a3 a4 ((zk_add K g1 g2 g3).2)) := by
  intro sz
  refine kOf (Qc := fun A => kQi D (kT cI cZ) A (zk_add K g1 g2 g3).1 (wK cI ak a1 a2 a3 a4 ((zk_add K g1 g2 g3).2))) (cc := cK_add) (maxL := 4) (ret := some .int) (by decide) rfl (Nat.le_of_ble_eq_true rfl) ?_ sz
  intro p e s m args below meth c A ls hx hb hml hown hts hNw hr hlk hin hA hS hP hD hK hl
  show W p l e (rmOf 0 0) s m args below meth c s.heap [] 0 0 (MQ below (kQi D (kT cI cZ) A (zk_add K g1 g2 g3).1 (wK cI ak a1 a2 a3 a4 ((zk_add K g1 g2 g3).2))) args s 0 0 A) (F0 m 0 ls [])
  have hts : ∀ q ∈ lw_g, q.before args s = true := fun q h => hts q (List.mem_cons_of_mem _ h)
  have hown : s.vm.findClass cnK = some m.cls := hown
  have hl : lv_has ls 4 [(0, .ref ak), (1, .int g1), (2, .int g2), (3, .int g3)] := hl
  have hP : va_P D vwCl [(ak, .inr (2, [.ref a1, .ref a2, .ref a3, .ref a4, .int (nI K.1), .int K.2.1])), (a1, .inl (cI, 10, .inl K.2.2.1)), (a2, .inl (cI, 10, .inl K.2.2.2.1)), (a3, .inl (cI, 10, .inl K.2.2.2.2.1)), (a4, .inl (cI, 10, .inl K.2.2.2.2.2))] s.heap := hP
  have hD : va_D A [(ak, .inr (2, [.ref a1, .ref a2, .ref a3, .ref a4, .int (nI K.1), .int K.2.1])), (a1, .inl (cI, 10, .inl K.2.2.1)), (a2, .inl (cI, 10, .inl K.2.2.2.1)), (a3, .inl (cI, 10, .inl K.2.2.2.2.1)), (a4, .inl (cI, 10, .inl K.2.2.2.2.2))] := hD
  refine lv_aload_n hx hb dK_add_0 rfl (lv_at hl 0 rfl) ?_
  refine va_get (D := D) (ci := 2) (v := .int (nI K.1)) (C := cnK) (T := ftK) (N := 6) hx hb hts inK hown hK hP 0 rfl rfl 4 (by decide) (hts _ mw64) (fun _ h9 => h9) rfl dK_add_1 ?_
  refine lv_bipush (v := 10) hx hb dK_add_4 (by decide) ?_
  refine lv_icmp_lt (tgt := 12) hx hb dK_add_6 (by decide) (fun h1 => ?_) (fun h1 => ?_)
  ·
    refine lv_aload_n hx hb dK_add_12 rfl (lv_at hl 0 rfl) ?_
    refine lv_dup hx hb dK_add_13 rfl ?_
    refine va_get (D := D) (ci := 2) (v := .int K.2.1) (C := cnK) (T := ftK) (N := 6) hx hb hts inK hown hK hP 0 rfl rfl 5 (by decide) (hts _ mw66) (fun _ h9 => h9) rfl dK_add_14 ?_
    refine lv_iconst (v := 1) hx hb dK_add_17 (by decide) ?_
    refine lv_iadd hx hb dK_add_18 ?_
    refine va_put (D := D) (ci := 2) (v := .int (K.2.1 + 1)) (ty := (.int)) (C := cnK) (T := ftK) (N := 6) hx hb hts inK tyK tyK_ok nmK hown hK hP hD hS 0 rfl rfl 5 (by decide) (hts _ mw66) (fun _ h9 => h9) rfl (by decide +kernel) rfl rfl (Nat.le_of_ble_eq_true rfl) dK_add_19 (fun H locs hP hD hS => ?_)
    have hP : va_P D vwCl [(ak, .inr (2, [.ref a1, .ref a2, .ref a3, .ref a4, .int (nI K.1), .int (K.2.1 + 1)])), (a1, .inl (cI, 10, .inl K.2.2.1)), (a2, .inl (cI, 10, .inl K.2.2.2.1)), (a3, .inl (cI, 10, .inl K.2.2.2.2.1)), (a4, .inl (cI, 10, .inl K.2.2.2.2.2))] H := hP
    have hD : va_D A [(ak, .inr (2, [.ref a1, .ref a2, .ref a3, .ref a4, .int (nI K.1), .int (K.2.1 + 1)])), (a1, .inl (cI, 10, .inl K.2.2.1)), (a2, .inl (cI, 10, .inl K.2.2.2.1)), (a3, .inl (cI, 10, .inl K.2.2.2.2.1)), (a4, .inl (cI, 10, .inl K.2.2.2.2.2))] := hD
    refine lv_aload_n hx hb dK_add_22 rfl (lv_at hl 0 rfl) ?_
    refine va_get (D := D) (ci := 2) (v := .ref a1) (C := cnK) (T := ftK) (N := 6) hx hb hts inK hown hK hP 0 rfl rfl 0 (by decide) (hts _ mw57) (fun _ h9 => h9) rfl dK_add_23 ?_
    refine lv_aload_n hx hb dK_add_26 rfl (lv_at hl 0 rfl) ?_
    refine va_get (D := D) (ci := 2) (v := .int (nI K.1)) (C := cnK) (T := ftK) (N := 6) hx hb hts inK hown hK hP 0 rfl rfl 4 (by decide) (hts _ mw64) (fun _ h9 => h9) rfl dK_add_27 ?_
    refine lv_aload_n hx hb dK_add_30 rfl (lv_at hl 0 rfl) ?_
    refine va_get (D := D) (ci := 2) (v := .int (K.2.1 + 1)) (C := cnK) (T := ftK) (N := 6) hx hb hts inK hown hK hP 0 rfl rfl 5 (by decide) (hts _ mw66) (fun _ h9 => h9) rfl dK_add_31 ?_
    refine va_iast hx hb hK hP hD hS 1 0 rfl rfl (vp_in_nI (klt10 hn h1) (by decide)) dK_add_34 (fun H locs hP hD hS => ?_)
    rw [show Int32.toNatClampNeg (nI K.1) = K.1 from nI_clamp (by omega)] at hP hD
    have hP : va_P D vwCl [(ak, .inr (2, [.ref a1, .ref a2, .ref a3, .ref a4, .int (nI K.1), .int (K.2.1 + 1)])), (a1, .inl (cI, 10, .inl (upd K.2.2.1 K.1 (K.2.1 + 1)))), (a2, .inl (cI, 10, .inl K.2.2.2.1)), (a3, .inl (cI, 10, .inl K.2.2.2.2.1)), (a4, .inl (cI, 10, .inl K.2.2.2.2.2))] H := hP
    have hD : va_D A [(ak, .inr (2, [.ref a1, .ref a2, .ref a3, .ref a4, .int (nI K.1), .int (K.2.1 + 1)])), (a1, .inl (cI, 10, .inl (upd K.2.2.1 K.1 (K.2.1 + 1)))), (a2, .inl (cI, 10, .inl K.2.2.2.1)), (a3, .inl (cI, 10, .inl K.2.2.2.2.1)), (a4, .inl (cI, 10, .inl K.2.2.2.2.2))] := hD
    refine lv_aload_n hx hb dK_add_35 rfl (lv_at hl 0 rfl) ?_
    refine va_get (D := D) (ci := 2) (v := .ref a2) (C := cnK) (T := ftK) (N := 6) hx hb hts inK hown hK hP 0 rfl rfl 1 (by decide) (hts _ mw59) (fun _ h9 => h9) rfl dK_add_36 ?_
    refine lv_aload_n hx hb dK_add_39 rfl (lv_at hl 0 rfl) ?_
    refine va_get (D := D) (ci := 2) (v := .int (nI K.1)) (C := cnK) (T := ftK) (N := 6) hx hb hts inK hown hK hP 0 rfl rfl 4 (by decide) (hts _ mw64) (fun _ h9 => h9) rfl dK_add_40 ?_
    refine lv_iload_n hx hb dK_add_43 rfl (lv_at hl 1 rfl) ?_
    refine va_iast hx hb hK hP hD hS 2 0 rfl rfl (vp_in_nI (klt10 hn h1) (by decide)) dK_add_44 (fun H locs hP hD hS => ?_)
    rw [show Int32.toNatClampNeg (nI K.1) = K.1 from nI_clamp (by omega)] at hP hD
    have hP : va_P D vwCl [(ak, .inr (2, [.ref a1, .ref a2, .ref a3, .ref a4, .int (nI K.1), .int (K.2.1 + 1)])), (a1, .inl (cI, 10, .inl (upd K.2.2.1 K.1 (K.2.1 + 1)))), (a2, .inl (cI, 10, .inl (upd K.2.2.2.1 K.1 g1))), (a3, .inl (cI, 10, .inl K.2.2.2.2.1)), (a4, .inl (cI, 10, .inl K.2.2.2.2.2))] H := hP
    have hD : va_D A [(ak, .inr (2, [.ref a1, .ref a2, .ref a3, .ref a4, .int (nI K.1), .int (K.2.1 + 1)])), (a1, .inl (cI, 10, .inl (upd K.2.2.1 K.1 (K.2.1 + 1)))), (a2, .inl (cI, 10, .inl (upd K.2.2.2.1 K.1 g1))), (a3, .inl (cI, 10, .inl K.2.2.2.2.1)), (a4, .inl (cI, 10, .inl K.2.2.2.2.2))] := hD
    refine lv_aload_n hx hb dK_add_45 rfl (lv_at hl 0 rfl) ?_
    refine va_get (D := D) (ci := 2) (v := .ref a3) (C := cnK) (T := ftK) (N := 6) hx hb hts inK hown hK hP 0 rfl rfl 2 (by decide) (hts _ mw61) (fun _ h9 => h9) rfl dK_add_46 ?_
    refine lv_aload_n hx hb dK_add_49 rfl (lv_at hl 0 rfl) ?_
    refine va_get (D := D) (ci := 2) (v := .int (nI K.1)) (C := cnK) (T := ftK) (N := 6) hx hb hts inK hown hK hP 0 rfl rfl 4 (by decide) (hts _ mw64) (fun _ h9 => h9) rfl dK_add_50 ?_
    refine lv_iload_n hx hb dK_add_53 rfl (lv_at hl 2 rfl) ?_
    refine va_iast hx hb hK hP hD hS 3 0 rfl rfl (vp_in_nI (klt10 hn h1) (by decide)) dK_add_54 (fun H locs hP hD hS => ?_)
    rw [show Int32.toNatClampNeg (nI K.1) = K.1 from nI_clamp (by omega)] at hP hD
    have hP : va_P D vwCl [(ak, .inr (2, [.ref a1, .ref a2, .ref a3, .ref a4, .int (nI K.1), .int (K.2.1 + 1)])), (a1, .inl (cI, 10, .inl (upd K.2.2.1 K.1 (K.2.1 + 1)))), (a2, .inl (cI, 10, .inl (upd K.2.2.2.1 K.1 g1))), (a3, .inl (cI, 10, .inl (upd K.2.2.2.2.1 K.1 g2))), (a4, .inl (cI, 10, .inl K.2.2.2.2.2))] H := hP
    have hD : va_D A [(ak, .inr (2, [.ref a1, .ref a2, .ref a3, .ref a4, .int (nI K.1), .int (K.2.1 + 1)])), (a1, .inl (cI, 10, .inl (upd K.2.2.1 K.1 (K.2.1 + 1)))), (a2, .inl (cI, 10, .inl (upd K.2.2.2.1 K.1 g1))), (a3, .inl (cI, 10, .inl (upd K.2.2.2.2.1 K.1 g2))), (a4, .inl (cI, 10, .inl K.2.2.2.2.2))] := hD
    refine lv_aload_n hx hb dK_add_55 rfl (lv_at hl 0 rfl) ?_
    refine va_get (D := D) (ci := 2) (v := .ref a4) (C := cnK) (T := ftK) (N := 6) hx hb hts inK hown hK hP 0 rfl rfl 3 (by decide) (hts _ mw63) (fun _ h9 => h9) rfl dK_add_56 ?_
    refine lv_aload_n hx hb dK_add_59 rfl (lv_at hl 0 rfl) ?_
    refine va_get (D := D) (ci := 2) (v := .int (nI K.1)) (C := cnK) (T := ftK) (N := 6) hx hb hts inK hown hK hP 0 rfl rfl 4 (by decide) (hts _ mw64) (fun _ h9 => h9) rfl dK_add_60 ?_
    refine lv_iload_n hx hb dK_add_63 rfl (lv_at hl 1 rfl) ?_
    refine lv_iconst (v := 1) hx hb dK_add_64 (by decide) ?_
    refine lv_iand hx hb dK_add_65 ?_
    refine kJoin (pcJ := 74) (z := (if (g1 &&& 1) = 0 then g3 else ((-1) : Int32))) (ws := [(ak, .inr (2, [.ref a1, .ref a2, .ref a3, .ref a4, .int (nI K.1), .int (K.2.1 + 1)])), (a1, .inl (cI, 10, .inl (upd K.2.2.1 K.1 (K.2.1 + 1)))), (a2, .inl (cI, 10, .inl (upd K.2.2.2.1 K.1 g1))), (a3, .inl (cI, 10, .inl (upd K.2.2.2.2.1 K.1 g2))), (a4, .inl (cI, 10, .inl K.2.2.2.2.2))]) (rest := [.int (nI K.1), .ref a4]) (D := D) (A := A) (H0 := s.heap) (fun J74 => ?_) (fun H locs hP hD hS => ?_)
    ·
      refine lv_if_eq (tgt := 73) hx hb dK_add_66 (by decide) (fun h2 => ?_) (fun h2 => ?_)
      ·
        refine lv_iload_n hx hb dK_add_73 rfl (lv_at hl 3 rfl) ?_
        exact J74 _ _ hP hD hS _ ((if_pos h2).symm)
      ·
        refine lv_iconst (v := (-1)) hx hb dK_add_69 (by decide) ?_
        refine lv_goto hx hb dK_add_70 (tgt := 74) (by decide) ?_
        exact J74 _ _ hP hD hS _ ((if_neg h2).symm)
    refine va_iast hx hb hK hP hD hS 4 0 rfl rfl (vp_in_nI (klt10 hn h1) (by decide)) dK_add_74 (fun H locs hP hD hS => ?_)
    rw [show Int32.toNatClampNeg (nI K.1) = K.1 from nI_clamp (by omega)] at hP hD
    have hP : va_P D vwCl [(ak, .inr (2, [.ref a1, .ref a2, .ref a3, .ref a4, .int (nI K.1), .int (K.2.1 + 1)])), (a1, .inl (cI, 10, .inl (upd K.2.2.1 K.1 (K.2.1 + 1)))), (a2, .inl (cI, 10, .inl (upd K.2.2.2.1 K.1 g1))), (a3, .inl (cI, 10, .inl (upd K.2.2.2.2.1 K.1 g2))), (a4, .inl (cI, 10, .inl (upd K.2.2.2.2.2 K.1 (if (g1 &&& 1) = 0 then g3 else ((-1) : Int32)))))] H := hP
    have hD : va_D A [(ak, .inr (2, [.ref a1, .ref a2, .ref a3, .ref a4, .int (nI K.1), .int (K.2.1 + 1)])), (a1, .inl (cI, 10, .inl (upd K.2.2.1 K.1 (K.2.1 + 1)))), (a2, .inl (cI, 10, .inl (upd K.2.2.2.1 K.1 g1))), (a3, .inl (cI, 10, .inl (upd K.2.2.2.2.1 K.1 g2))), (a4, .inl (cI, 10, .inl (upd K.2.2.2.2.2 K.1 (if (g1 &&& 1) = 0 then g3 else ((-1) : Int32)))))] := hD
    refine lv_aload_n hx hb dK_add_75 rfl (lv_at hl 0 rfl) ?_
    refine lv_dup hx hb dK_add_76 rfl ?_
    refine va_get (D := D) (ci := 2) (v := .int (nI K.1)) (C := cnK) (T := ftK) (N := 6) hx hb hts inK hown hK hP 0 rfl rfl 4 (by decide) (hts _ mw64) (fun _ h9 => h9) rfl dK_add_77 ?_
    refine lv_iconst (v := 1) hx hb dK_add_80 (by decide) ?_
    refine lv_iadd hx hb dK_add_81 ?_
    refine kTop (y := (nI (K.1 + 1))) (nI_1 _) ?_
    refine va_put (D := D) (ci := 2) (v := .int (nI (K.1 + 1))) (ty := (.int)) (C := cnK) (T := ftK) (N := 6) hx hb hts inK tyK tyK_ok nmK hown hK hP hD hS 0 rfl rfl 4 (by decide) (hts _ mw64) (fun _ h9 => h9) rfl (by decide +kernel) rfl rfl (Nat.le_of_ble_eq_true rfl) dK_add_82 (fun H locs hP hD hS => ?_)
    have hP : va_P D vwCl [(ak, .inr (2, [.ref a1, .ref a2, .ref a3, .ref a4, .int (nI (K.1 + 1)), .int (K.2.1 + 1)])), (a1, .inl (cI, 10, .inl (upd K.2.2.1 K.1 (K.2.1 + 1)))), (a2, .inl (cI, 10, .inl (upd K.2.2.2.1 K.1 g1))), (a3, .inl (cI, 10, .inl (upd K.2.2.2.2.1 K.1 g2))), (a4, .inl (cI, 10, .inl (upd K.2.2.2.2.2 K.1 (if (g1 &&& 1) = 0 then g3 else ((-1) : Int32)))))] H := hP
    have hD : va_D A [(ak, .inr (2, [.ref a1, .ref a2, .ref a3, .ref a4, .int (nI (K.1 + 1)), .int (K.2.1 + 1)])), (a1, .inl (cI, 10, .inl (upd K.2.2.1 K.1 (K.2.1 + 1)))), (a2, .inl (cI, 10, .inl (upd K.2.2.2.1 K.1 g1))), (a3, .inl (cI, 10, .inl (upd K.2.2.2.2.1 K.1 g2))), (a4, .inl (cI, 10, .inl (upd K.2.2.2.2.2 K.1 (if (g1 &&& 1) = 0 then g3 else ((-1) : Int32)))))] := hD
    refine lv_aload_n hx hb dK_add_85 rfl (lv_at hl 0 rfl) ?_
    refine va_get (D := D) (ci := 2) (v := .int (K.2.1 + 1)) (C := cnK) (T := ftK) (N := 6) hx hb hts inK hown hK hP 0 rfl rfl 5 (by decide) (hts _ mw66) (fun _ h9 => h9) rfl dK_add_86 ?_
    exact kretI (wf := fun st => wK cI ak a1 a2 a3 a4 st) (st := ((K.1 + 1), (K.2.1 + 1), (upd K.2.2.1 K.1 (K.2.1 + 1)), (upd K.2.2.2.1 K.1 g1), (upd K.2.2.2.2.1 K.1 g2), (upd K.2.2.2.2.2 K.1 (if (g1 &&& 1) = 0 then g3 else ((-1) : Int32))))) (by first | (rw [zk_add, if_pos h1]; done) | exact (if_pos h1)) hx hb hr hlk hS hP hD hK dK_add_89
  ·
    refine lv_bipush (v := (-6)) hx hb dK_add_9 (by decide) ?_
    exact kretI (wf := fun st => wK cI ak a1 a2 a3 a4 st) (st := K) (by first | (rw [zk_add, if_neg h1]; done) | exact (if_neg h1)) hx hb hr hlk hS hP hD hK dK_add_11

def zk_rob (g1 : Int32) : Nat → KS → KS
  | 0, K => K
  | f + 1, K => zk_rob g1 f (if K.2.2.2.2.2 f = g1 then zk_removeRow K f else K)
def zk_removeOwnedBy (K : KS) (g1 : Int32) : KS := zk_rob g1 K.1 K
def zk_rps : Nat → KS → KS
  | 0, K => K
  | f + 1, K => zk_rps f (if zk_has K (nI f) 2 = 0 then K else if zk_has K (nI f) 1 = 0 then zk_removeRow K f else K)
def zk_removePrivate (K : KS) : KS := zk_rps K.1 K

set_option maxHeartbeats 4000000 in
set_option maxRecDepth 100000 in
theorem kk_removeOwnedBy (l : Launch) (D : va_G) (cI cZ : ClassId) (ak a1 a2 a3 a4 : Nat) (K : KS) (g1 : Int32) (hn : K.1 ≤ 10) : kV l yK_removeOwnedBy wsK_removeOwnedBy (rmOf 1 22) D (kT cI cZ) [.ref ak, .int g1] (wK cI ak a1 a2 a3 a4 K) (wK cI ak a1 a2 a3 a4 (zk_removeOwnedBy K g1)) := by
  intro sz
  refine kOf (Qc := fun A => kQv D (kT cI cZ) A (wK cI ak a1 a2 a3 a4 (zk_removeOwnedBy K g1))) (cc := cK_removeOwnedBy) (maxL := 3) (ret := none) (by decide) rfl (Nat.le_of_ble_eq_true rfl) ?_ sz
  intro p e s m args below meth c A ls hx hb hml hown hts hNw hr hlk hin hA hS hP hD hK hl
  show W p l e (rmOf 1 22) s m args below meth c s.heap [] 0 0 (MQ below (kQv D (kT cI cZ) A (wK cI ak a1 a2 a3 a4 (zk_removeOwnedBy K g1))) args s 0 0 A) (F0 m 0 ls [])
  have hts : ∀ q ∈ lw_g, q.before args s = true := fun q h => hts q (List.mem_cons_of_mem _ h)
  have hown : s.vm.findClass cnK = some m.cls := hown
  have hl : lv_has ls 3 [(0, .ref ak), (1, .int g1)] := hl
  have hP : va_P D vwCl [(ak, .inr (2, [.ref a1, .ref a2, .ref a3, .ref a4, .int (nI K.1), .int K.2.1])), (a1, .inl (cI, 10, .inl K.2.2.1)), (a2, .inl (cI, 10, .inl K.2.2.2.1)), (a3, .inl (cI, 10, .inl K.2.2.2.2.1)), (a4, .inl (cI, 10, .inl K.2.2.2.2.2))] s.heap := hP
  have hD : va_D A [(ak, .inr (2, [.ref a1, .ref a2, .ref a3, .ref a4, .int (nI K.1), .int K.2.1])), (a1, .inl (cI, 10, .inl K.2.2.1)), (a2, .inl (cI, 10, .inl K.2.2.2.1)), (a3, .inl (cI, 10, .inl K.2.2.2.2.1)), (a4, .inl (cI, 10, .inl K.2.2.2.2.2))] := hD
  have L : ∀ (f : Nat) (G : KS) (ls : Array Slot) (H : Heap) (locs : List Loc), (f ≤ G.1) → (G.1 ≤ 10) → (zk_removeOwnedBy K g1 = zk_rob g1 f G) → lv_has ls 3 [(2, .int ((nI f) - 1)), (0, .ref ak), (1, .int g1)] → va_P D vwCl [(ak, .inr (2, [.ref a1, .ref a2, .ref a3, .ref a4, .int (nI G.1), .int G.2.1])), (a1, .inl (cI, 10, .inl G.2.2.1)), (a2, .inl (cI, 10, .inl G.2.2.2.1)), (a3, .inl (cI, 10, .inl G.2.2.2.2.1)), (a4, .inl (cI, 10, .inl G.2.2.2.2.2))] H → va_D A [(ak, .inr (2, [.ref a1, .ref a2, .ref a3, .ref a4, .int (nI G.1), .int G.2.1])), (a1, .inl (cI, 10, .inl G.2.2.1)), (a2, .inl (cI, 10, .inl G.2.2.2.1)), (a3, .inl (cI, 10, .inl G.2.2.2.2.1)), (a4, .inl (cI, 10, .inl G.2.2.2.2.2))] → va_S A s.heap H locs → W p l e (rmOf 1 22) s m args below meth c H locs 0 0 (MQ below (kQv D (kT cI cZ) A (wK cI ak a1 a2 a3 a4 (zk_removeOwnedBy K g1))) args s 0 0 A) (F0 m 7 ls []) := by
    intro f
    induction f with
    | zero =>
      intro G ls H locs hG hT he hl hP hD hS
      refine lv_iload_n hx hb dK_removeOwnedBy_7 rfl (lv_at hl 0 rfl) ?_
      refine lv_if_lt (tgt := 32) hx hb dK_removeOwnedBy_8 (by decide) (fun _ => ?_) (fun h => absurd (by decide) h)
      exact kretV (wf := fun st => wK cI ak a1 a2 a3 a4 st) (st := G) (he) hx hb hr hlk hS hP hD hK dK_removeOwnedBy_32
    | succ f ih =>
      intro G ls H locs hG hT he hl hP hD hS
      have hl : lv_has ls 3 [(2, .int (nI f)), (0, .ref ak), (1, .int g1)] := by rw [← nI_pred f]; exact hl
      refine lv_iload_n hx hb dK_removeOwnedBy_7 rfl (lv_at hl 0 rfl) ?_
      refine lv_if_lt (tgt := 32) hx hb dK_removeOwnedBy_8 (by decide) (fun h => absurd h (nI_pos (by omega))) (fun _ => ?_)
      refine lv_aload_n hx hb dK_removeOwnedBy_11 rfl (lv_at hl 1 rfl) ?_
      refine va_get (D := D) (ci := 2) (v := .ref a4) (C := cnK) (T := ftK) (N := 6) hx hb hts inK hown hK hP 0 rfl rfl 3 (by decide) (hts _ mw63) (fun _ h9 => h9) rfl dK_removeOwnedBy_12 ?_
      refine lv_iload_n hx hb dK_removeOwnedBy_15 rfl (lv_at hl 0 rfl) ?_
      refine va_iald hx hb hK hP 4 0 rfl rfl (vp_in_nI (by omega) (by decide)) dK_removeOwnedBy_16 ?_
      refine kTop (y := (G.2.2.2.2.2 f)) (by rw [nI_clamp (by omega)]) ?_
      refine lv_iload_n hx hb dK_removeOwnedBy_17 rfl (lv_at hl 2 rfl) ?_
      refine lv_icmp_ne (tgt := 26) hx hb dK_removeOwnedBy_18 (by decide) (fun h1 => ?_) (fun h1 => ?_)
      ·
        refine lv_iinc (k := 0) (v := ((nI f) - 1)) hx hb dK_removeOwnedBy_26 hl rfl (kincm1 _) (by decide) rfl (fun ls hl => ?_)
        have hl : lv_has ls 3 [(2, .int ((nI f) - 1)), (0, .ref ak), (1, .int g1)] := hl
        refine lv_goto hx hb dK_removeOwnedBy_29 (tgt := 7) (by decide) ?_
        exact ih G _ _ _ (by omega) (hT) (by rw [he, zk_rob, if_neg h1]) (lv_sub hl [0, 1, 2] rfl) hP hD hS
      ·
        refine lv_aload_n hx hb dK_removeOwnedBy_21 rfl (lv_at hl 1 rfl) ?_
        refine lv_iload_n hx hb dK_removeOwnedBy_22 rfl (lv_at hl 0 rfl) ?_
        refine kcV (isR := []) (isC := [0, 1, 2, 3, 4]) (wr := []) (w2 := [(ak, .inr (2, [.ref a1, .ref a2, .ref a3, .ref a4, .int (nI (zk_removeRow G f).1), .int ((zk_removeRow G f).2.1)])), (a1, .inl (cI, 10, .inl ((zk_removeRow G f).2.2.1))), (a2, .inl (cI, 10, .inl ((zk_removeRow G f).2.2.2.1))), (a3, .inl (cI, 10, .inl ((zk_removeRow G f).2.2.2.2.1))), (a4, .inl (cI, 10, .inl ((zk_removeRow G f).2.2.2.2.2)))]) (va_runV (As := [.int (nI f)]) (rest := []) ⟨hx, hb, hml, hown, hts⟩ (kk_removeRow l D cI cZ ak a1 a2 a3 a4 G f (hT) (by omega) _) ⟨(callB_of 1 hts gd_yK_removeRow rfl rfl rfl (hts _ mw26) (hts _ mw120) (by decide +kernel) ⟨Nat.le_of_ble_eq_true rfl, Nat.le_of_ble_eq_true rfl⟩), hts _ mw122, hts _ mw2⟩ (kpreV hNw hP hD hK [0, 1, 2, 3, 4] rfl (by decide) 0 rfl (ci := 2) rfl) rfl rfl hl.1 rfl (lv_room (Nat.le_of_ble_eq_true rfl)) dK_removeOwnedBy_23 ⟨Nat.le_of_ble_eq_true rfl, Nat.le_of_ble_eq_true rfl⟩) hP hD hS hA [0, 1, 2, 3, 4] rfl rfl (by decide) (by decide) (by decide) rfl (fun H locs hP hD hS => ?_)
        refine lv_iinc (k := 0) (v := ((nI f) - 1)) hx hb dK_removeOwnedBy_26 hl rfl (kincm1 _) (by decide) rfl (fun ls hl => ?_)
        have hl : lv_has ls 3 [(2, .int ((nI f) - 1)), (0, .ref ak), (1, .int g1)] := hl
        refine lv_goto hx hb dK_removeOwnedBy_29 (tgt := 7) (by decide) ?_
        exact ih (zk_removeRow G f) _ _ _ (by show f ≤ G.1 - 1; omega) (by show G.1 - 1 ≤ 10; omega) (by rw [he, zk_rob, if_pos h1]) (lv_sub hl [0, 1, 2] rfl) hP hD hS
  refine lv_aload_n hx hb dK_removeOwnedBy_0 rfl (lv_at hl 0 rfl) ?_
  refine va_get (D := D) (ci := 2) (v := .int (nI K.1)) (C := cnK) (T := ftK) (N := 6) hx hb hts inK hown hK hP 0 rfl rfl 4 (by decide) (hts _ mw64) (fun _ h9 => h9) rfl dK_removeOwnedBy_1 ?_
  refine lv_iconst (v := 1) hx hb dK_removeOwnedBy_4 (by decide) ?_
  refine lv_isub hx hb dK_removeOwnedBy_5 ?_
  refine lv_istore_n hx hb dK_removeOwnedBy_6 rfl hl (by decide) rfl (fun ls hl => ?_)
  have hl : lv_has ls 3 [(2, .int ((nI K.1) - 1)), (0, .ref ak), (1, .int g1)] := hl
  exact L K.1 K _ _ _ (Nat.le_refl _) hn rfl hl hP hD hS

set_option maxHeartbeats 4000000 in
set_option maxRecDepth 100000 in
theorem kk_removePrivate (l : Launch) (D : va_G) (cI cZ : ClassId) (ak a1 a2 a3 a4 : Nat) (K : KS) (hn : K.1 ≤ 10) : kV l yK_removePrivateSessionKeys wsK_removePrivateSessionKeys (rmOf 1 22) D (kT cI cZ) [.ref ak] (wK cI ak a1 a2 a3 a4 K) (wK cI ak a1 a2 a3 a4 (zk_removePrivate K)) := by
  intro sz
  refine kOf (Qc := fun A => kQv D (kT cI cZ) A (wK cI ak a1 a2 a3 a4 (zk_removePrivate K))) (cc := cK_removePrivateSessionKeys) (maxL := 2) (ret := none) (by decide) rfl (Nat.le_of_ble_eq_true rfl) ?_ sz
  intro p e s m args below meth c A ls hx hb hml hown hts hNw hr hlk hin hA hS hP hD hK hl
  show W p l e (rmOf 1 22) s m args below meth c s.heap [] 0 0 (MQ below (kQv D (kT cI cZ) A (wK cI ak a1 a2 a3 a4 (zk_removePrivate K))) args s 0 0 A) (F0 m 0 ls [])
  have hts : ∀ q ∈ lw_g, q.before args s = true := fun q h => hts q (List.mem_cons_of_mem _ h)
  have hown : s.vm.findClass cnK = some m.cls := hown
  have hl : lv_has ls 2 [(0, .ref ak)] := hl
  have hP : va_P D vwCl [(ak, .inr (2, [.ref a1, .ref a2, .ref a3, .ref a4, .int (nI K.1), .int K.2.1])), (a1, .inl (cI, 10, .inl K.2.2.1)), (a2, .inl (cI, 10, .inl K.2.2.2.1)), (a3, .inl (cI, 10, .inl K.2.2.2.2.1)), (a4, .inl (cI, 10, .inl K.2.2.2.2.2))] s.heap := hP
  have hD : va_D A [(ak, .inr (2, [.ref a1, .ref a2, .ref a3, .ref a4, .int (nI K.1), .int K.2.1])), (a1, .inl (cI, 10, .inl K.2.2.1)), (a2, .inl (cI, 10, .inl K.2.2.2.1)), (a3, .inl (cI, 10, .inl K.2.2.2.2.1)), (a4, .inl (cI, 10, .inl K.2.2.2.2.2))] := hD
  have L : ∀ (f : Nat) (G : KS) (ls : Array Slot) (H : Heap) (locs : List Loc), (f ≤ G.1) → (G.1 ≤ 10) → (zk_removePrivate K = zk_rps f G) → lv_has ls 2 [(1, .int ((nI f) - 1)), (0, .ref ak)] → va_P D vwCl [(ak, .inr (2, [.ref a1, .ref a2, .ref a3, .ref a4, .int (nI G.1), .int G.2.1])), (a1, .inl (cI, 10, .inl G.2.2.1)), (a2, .inl (cI, 10, .inl G.2.2.2.1)), (a3, .inl (cI, 10, .inl G.2.2.2.2.1)), (a4, .inl (cI, 10, .inl G.2.2.2.2.2))] H → va_D A [(ak, .inr (2, [.ref a1, .ref a2, .ref a3, .ref a4, .int (nI G.1), .int G.2.1])), (a1, .inl (cI, 10, .inl G.2.2.1)), (a2, .inl (cI, 10, .inl G.2.2.2.1)), (a3, .inl (cI, 10, .inl G.2.2.2.2.1)), (a4, .inl (cI, 10, .inl G.2.2.2.2.2))] → va_S A s.heap H locs → W p l e (rmOf 1 22) s m args below meth c H locs 0 0 (MQ below (kQv D (kT cI cZ) A (wK cI ak a1 a2 a3 a4 (zk_removePrivate K))) args s 0 0 A) (F0 m 7 ls []) := by
    intro f
    induction f with
    | zero =>
      intro G ls H locs hG hT he hl hP hD hS
      refine lv_iload_n hx hb dK_removePrivateSessionKeys_7 rfl (lv_at hl 0 rfl) ?_
      refine lv_if_lt (tgt := 40) hx hb dK_removePrivateSessionKeys_8 (by decide) (fun _ => ?_) (fun h => absurd (by decide) h)
      exact kretV (wf := fun st => wK cI ak a1 a2 a3 a4 st) (st := G) (he) hx hb hr hlk hS hP hD hK dK_removePrivateSessionKeys_40
    | succ f ih =>
      intro G ls H locs hG hT he hl hP hD hS
      have hl : lv_has ls 2 [(1, .int (nI f)), (0, .ref ak)] := by rw [← nI_pred f]; exact hl
      refine lv_iload_n hx hb dK_removePrivateSessionKeys_7 rfl (lv_at hl 0 rfl) ?_
      refine lv_if_lt (tgt := 40) hx hb dK_removePrivateSessionKeys_8 (by decide) (fun h => absurd h (nI_pos (by omega))) (fun _ => ?_)
      refine lv_aload_n hx hb dK_removePrivateSessionKeys_11 rfl (lv_at hl 1 rfl) ?_
      refine lv_iload_n hx hb dK_removePrivateSessionKeys_12 rfl (lv_at hl 0 rfl) ?_
      refine lv_iconst (v := 2) hx hb dK_removePrivateSessionKeys_13 (by decide) ?_
      refine kcI (isR := []) (isC := [0, 1, 2, 3, 4]) (wr := []) (w2 := [(ak, .inr (2, [.ref a1, .ref a2, .ref a3, .ref a4, .int (nI G.1), .int G.2.1])), (a1, .inl (cI, 10, .inl G.2.2.1)), (a2, .inl (cI, 10, .inl G.2.2.2.1)), (a3, .inl (cI, 10, .inl G.2.2.2.2.1)), (a4, .inl (cI, 10, .inl G.2.2.2.2.2))]) (va_runV (As := [.int (nI f), .int 2]) (rest := []) ⟨hx, hb, hml, hown, hts⟩ (kk_has l D cI cZ ak a1 a2 a3 a4 G (nI f) 2 (hT) _) ⟨(callB_of 2 hts gd_yK_has rfl rfl rfl (hts _ mw26) (hts _ mw140) (by decide +kernel) ⟨Nat.le_of_ble_eq_true rfl, Nat.le_of_ble_eq_true rfl⟩), hts _ mw142, hts _ mw5⟩ (kpreV hNw hP hD hK [0, 1, 2, 3, 4] rfl (by decide) 0 rfl (ci := 2) rfl) rfl rfl hl.1 rfl (lv_room (Nat.le_of_ble_eq_true rfl)) dK_removePrivateSessionKeys_14 ⟨Nat.le_of_ble_eq_true rfl, Nat.le_of_ble_eq_true rfl⟩) hP hD hS hA [0, 1, 2, 3, 4] rfl rfl (by decide) (by decide) (by decide) rfl (fun H locs hP hD hS => ?_)
      refine lv_if_eq (tgt := 34) hx hb dK_removePrivateSessionKeys_17 (by decide) (fun h1 => ?_) (fun h1 => ?_)
      ·
        refine lv_iinc (k := 0) (v := ((nI f) - 1)) hx hb dK_removePrivateSessionKeys_34 hl rfl (kincm1 _) (by decide) rfl (fun ls hl => ?_)
        have hl : lv_has ls 2 [(1, .int ((nI f) - 1)), (0, .ref ak)] := hl
        refine lv_goto hx hb dK_removePrivateSessionKeys_37 (tgt := 7) (by decide) ?_
        exact ih G _ _ _ (by omega) (hT) (by rw [he, zk_rps, if_pos h1]) (lv_sub hl [0, 1] rfl) hP hD hS
      ·
        refine lv_aload_n hx hb dK_removePrivateSessionKeys_20 rfl (lv_at hl 1 rfl) ?_
        refine lv_iload_n hx hb dK_removePrivateSessionKeys_21 rfl (lv_at hl 0 rfl) ?_
        refine lv_iconst (v := 1) hx hb dK_removePrivateSessionKeys_22 (by decide) ?_
        refine kcI (isR := []) (isC := [0, 1, 2, 3, 4]) (wr := []) (w2 := [(ak, .inr (2, [.ref a1, .ref a2, .ref a3, .ref a4, .int (nI G.1), .int G.2.1])), (a1, .inl (cI, 10, .inl G.2.2.1)), (a2, .inl (cI, 10, .inl G.2.2.2.1)), (a3, .inl (cI, 10, .inl G.2.2.2.2.1)), (a4, .inl (cI, 10, .inl G.2.2.2.2.2))]) (va_runV (As := [.int (nI f), .int 1]) (rest := []) ⟨hx, hb, hml, hown, hts⟩ (kk_has l D cI cZ ak a1 a2 a3 a4 G (nI f) 1 (hT) _) ⟨(callB_of 2 hts gd_yK_has rfl rfl rfl (hts _ mw26) (hts _ mw140) (by decide +kernel) ⟨Nat.le_of_ble_eq_true rfl, Nat.le_of_ble_eq_true rfl⟩), hts _ mw142, hts _ mw5⟩ (kpreV hNw hP hD hK [0, 1, 2, 3, 4] rfl (by decide) 0 rfl (ci := 2) rfl) rfl rfl hl.1 rfl (lv_room (Nat.le_of_ble_eq_true rfl)) dK_removePrivateSessionKeys_23 ⟨Nat.le_of_ble_eq_true rfl, Nat.le_of_ble_eq_true rfl⟩) hP hD hS hA [0, 1, 2, 3, 4] rfl rfl (by decide) (by decide) (by decide) rfl (fun H locs hP hD hS => ?_)
        refine lv_if_ne (tgt := 34) hx hb dK_removePrivateSessionKeys_26 (by decide) (fun h2 => ?_) (fun h2 => ?_)
        ·
          refine lv_iinc (k := 0) (v := ((nI f) - 1)) hx hb dK_removePrivateSessionKeys_34 hl rfl (kincm1 _) (by decide) rfl (fun ls hl => ?_)
          have hl : lv_has ls 2 [(1, .int ((nI f) - 1)), (0, .ref ak)] := hl
          refine lv_goto hx hb dK_removePrivateSessionKeys_37 (tgt := 7) (by decide) ?_
          exact ih G _ _ _ (by omega) (hT) (by rw [he, zk_rps, if_neg h1, if_neg h2]) (lv_sub hl [0, 1] rfl) hP hD hS
        ·
          refine lv_aload_n hx hb dK_removePrivateSessionKeys_29 rfl (lv_at hl 1 rfl) ?_
          refine lv_iload_n hx hb dK_removePrivateSessionKeys_30 rfl (lv_at hl 0 rfl) ?_
          refine kcV (isR := []) (isC := [0, 1, 2, 3, 4]) (wr := []) (w2 := [(ak, .inr (2, [.ref a1, .ref a2, .ref a3, .ref a4, .int (nI (zk_removeRow G f).1), .int ((zk_removeRow G f).2.1)])), (a1, .inl (cI, 10, .inl ((zk_removeRow G f).2.2.1))), (a2, .inl (cI, 10, .inl ((zk_removeRow G f).2.2.2.1))), (a3, .inl (cI, 10, .inl ((zk_removeRow G f).2.2.2.2.1))), (a4, .inl (cI, 10, .inl ((zk_removeRow G f).2.2.2.2.2)))]) (va_runV (As := [.int (nI f)]) (rest := []) ⟨hx, hb, hml, hown, hts⟩ (kk_removeRow l D cI cZ ak a1 a2 a3 a4 G f (hT) (by omega) _) ⟨(callB_of 1 hts gd_yK_removeRow rfl rfl rfl (hts _ mw26) (hts _ mw120) (by decide +kernel) ⟨Nat.le_of_ble_eq_true rfl, Nat.le_of_ble_eq_true rfl⟩), hts _ mw122, hts _ mw2⟩ (kpreV hNw hP hD hK [0, 1, 2, 3, 4] rfl (by decide) 0 rfl (ci := 2) rfl) rfl rfl hl.1 rfl (lv_room (Nat.le_of_ble_eq_true rfl)) dK_removePrivateSessionKeys_31 ⟨Nat.le_of_ble_eq_true rfl, Nat.le_of_ble_eq_true rfl⟩) hP hD hS hA [0, 1, 2, 3, 4] rfl rfl (by decide) (by decide) (by decide) rfl (fun H locs hP hD hS => ?_)
          refine lv_iinc (k := 0) (v := ((nI f) - 1)) hx hb dK_removePrivateSessionKeys_34 hl rfl (kincm1 _) (by decide) rfl (fun ls hl => ?_)
          have hl : lv_has ls 2 [(1, .int ((nI f) - 1)), (0, .ref ak)] := hl
          refine lv_goto hx hb dK_removePrivateSessionKeys_37 (tgt := 7) (by decide) ?_
          exact ih (zk_removeRow G f) _ _ _ (by show f ≤ G.1 - 1; omega) (by show G.1 - 1 ≤ 10; omega) (by rw [he, zk_rps, if_neg h1, if_pos h2]) (lv_sub hl [0, 1] rfl) hP hD hS
  refine lv_aload_n hx hb dK_removePrivateSessionKeys_0 rfl (lv_at hl 0 rfl) ?_
  refine va_get (D := D) (ci := 2) (v := .int (nI K.1)) (C := cnK) (T := ftK) (N := 6) hx hb hts inK hown hK hP 0 rfl rfl 4 (by decide) (hts _ mw64) (fun _ h9 => h9) rfl dK_removePrivateSessionKeys_1 ?_
  refine lv_iconst (v := 1) hx hb dK_removePrivateSessionKeys_4 (by decide) ?_
  refine lv_isub hx hb dK_removePrivateSessionKeys_5 ?_
  refine lv_istore_n hx hb dK_removePrivateSessionKeys_6 rfl hl (by decide) rfl (fun ls hl => ?_)
  have hl : lv_has ls 2 [(1, .int ((nI K.1) - 1)), (0, .ref ak)] := hl
  exact L K.1 K _ _ _ (Nat.le_refl _) hn rfl hl hP hD hS
