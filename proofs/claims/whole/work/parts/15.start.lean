def zcell (L : Nat) (xs : Nat → Int32) (j : Nat) : Int32 := if j < L then xs j else 0
abbrev kXB (b L : Nat) (xs : Nat → Int32) (sz : Nat) (U : State) : Prop := U.heap.size = sz ∧ va_X b L xs U U.heap ∧ b < sz
abbrev kQc (ans : Int32) (sz : Nat) : Array Value → State → Outcome → State → Prop := va_Qi (fun r (_ : Unit) => r = ans) (fun _ _ => True) (fun q => sz ≤ q)
set_option maxHeartbeats 4000000 in
set_option maxRecDepth 100000 in
theorem kl_cell (l : Launch) (b L : Nat) (xs : Nat → Int32) (j : Nat) (hL : L ≤ 3074) (hj : j < 3074) (sz : Nat) : Met l yL_cell wsL_cell (rmOf 0 0) (va_Pc [.ref b, .int (nI j)] (kXB b L xs sz)) (kQc (zcell L xs j) sz) 0 0 (fun q => sz ≤ q) := by
  refine Met.ofW (cc := cL_cell) (maxL := 2) (ret := some .int) (by decide) rfl ?_
  intro p e s m args below meth c s₁ B hml hv
  obtain ⟨rfl, hsz, hX, hbl⟩ := hv
  have hx := B.exec
  have hb := B.bytes
  have hr := B.returns
  have hlk := B.notSynchronized
  subst hsz
  have hS : va_S (fun q => s.heap.size ≤ q) s.heap s.heap [] := va_S.rf
  have hbA : ¬ s.heap.size ≤ b := Nat.not_le.mpr hbl
  have hl := lv_entry ([.ref b, .int (nI j)]) (n := 2) (Nat.le_of_ble_eq_true rfl)
  rw [lg_entry_eq]
  generalize (lg_sl ([.ref b, .int (nI j)]) ++ List.replicate (2 - (lg_sl ([.ref b, .int (nI j)])).length) Slot.unset).toArray = ls at hl ⊢
  have hl : lv_has ls 2 [(0, .ref b), (1, .int (nI j))] := hl
  refine lv_iload_n hx hb dL_cell_0 rfl (lv_at hl 1 rfl) ?_
  refine lv_aload_n hx hb dL_cell_1 rfl (lv_at hl 0 rfl) ?_
  refine va_slen (A := fun q => s.heap.size ≤ q) hx hb hX hbl hbA hS dL_cell_2 ?_
  refine lv_icmp_ge (tgt := 12) hx hb dL_cell_3 (by decide) (fun h => ?_) (fun h => ?_)
  · have h2 : nI L ≤ nI j := h
    rw [nI_leI (by omega) (by omega)] at h2
    refine lv_iconst (v := 0) hx hb dL_cell_12 (by decide) ?_
    exact W.iret hx hb hr (fun t ht hW => ⟨⟨_, (), rfl, by rw [zcell, if_neg (by omega)], trivial⟩, hS.F ht⟩) hS.2.2 dL_cell_13 hlk
  · have h2 : ¬ nI L ≤ nI j := h
    rw [nI_leI (by omega) (by omega)] at h2
    refine lv_aload_n hx hb dL_cell_6 rfl (lv_at hl 0 rfl) ?_
    refine lv_iload_n hx hb dL_cell_7 rfl (lv_at hl 1 rfl) ?_
    refine va_sld (A := fun q => s.heap.size ≤ q) hx hb hX hbl hbA hS (vp_in_nI (by omega) (by omega)) dL_cell_8 ?_
    refine lv_goto (tgt := 13) hx hb dL_cell_9 (by decide) ?_
    exact W.iret hx hb hr (fun t ht hW => ⟨⟨_, (), rfl, by rw [zcell, if_pos (by omega), nI_clamp (by omega)], trivial⟩, hS.F ht⟩) hS.2.2 dL_cell_13 hlk
theorem kcC {p : Program} {l : Launch} {e : Env} {R : Room} {s : State} {m : MethodId} {args : Array Value} {below : List Frame} {meth : Method} {c : Code} {H : Heap} {locs : List Loc} {cells slots : Nat} {Q : State → Prop} {pc : Nat} {ls : Array Slot} {rest st0 : List Value} {D : va_G} {A : Nat → Prop} {ws : va_W} {H0 : Heap} {ans : Int32} {a : Array Value} (hr : va_Run p l e R s m args below meth c H locs cells slots 0 0 (F0 m pc ls st0) rest (kQc ans H.size a) (fun q => H.size ≤ q)) (hP : va_P D vwCl ws H) (hS : va_S A H0 H locs) (hA : ∀ q, H0.size ≤ q → A q)
    (kk : ∀ (H1 : Heap) (locs1 : List Loc), va_P D vwCl ws H1 → va_S A H0 H1 locs1 → W p l e R s m args below meth c H1 locs1 cells slots Q (F0 m (pc + 3) ls (.int ans :: rest))) : W p l e R s m args below meth c H locs cells slots Q (F0 m pc ls st0) := by
  refine va_calli hr hS (fun q h1 h2 => absurd h1 (Nat.not_lt.mpr h2)) (fun q h => hA q (Nat.le_trans hS.1 h)) (fun r u t H1 locs1 ht hvm hw hB hz1 hk1 hS1 => ?_)
  subst hw
  exact kk H1 locs1 (hP.kept (fun k q hq => hk1 q.1 (hP k q hq).lt (Nat.not_le.mpr (hP k q hq).lt))) hS1
theorem kpreC {s : State} {H : Heap} {locs : List Loc} {A : Nat → Prop} {b L j : Nat} {xs : Nat → Int32} (hX : va_X b L xs s s.heap) (hbl : b < s.heap.size) (hbA : ¬ A b) (hS : va_S A s.heap H locs) : PreS s H (va_Pc [.ref b, .int (nI j)] (kXB b L xs H.size)) [.ref b, .int (nI j)] :=
  ⟨fun a U g mk q => by
    obtain ⟨q0, q1, q2, q3⟩ := q
    exact ⟨q0, q1, va_X.moved (u := U) (U := U.calling g mk a) (Vm.Alike.refl U.vm) q2, q3⟩,
   fun U hU hW => ⟨rfl, by rw [hU], by rw [hU]; exact va_X.moved hW.alike (hX.kept (hS.2.1 b hbl hbA)), Nat.lt_of_lt_of_le hbl hS.1⟩⟩
theorem karr {s : State} {args : Array Value} {ty : FieldType} (h : (Cond.arrayClass ty).before args s = true) (hT : ∀ cA, s.vm.findClass ("[" ++ ty.toString) = some cA → va_RA s cA ty) : ∃ cA, ArrOfT s cA ty ∧ va_RA s cA ty := by
  obtain ⟨cA, kA, comp, h1, h2, h3⟩ := Cond.arrayClass_spec h
  exact ⟨cA, fun n z => ⟨fun k h => (by cases h), kA, h2, comp, h3⟩, hT cA h1⟩
theorem khead {L i : Nat} (hL : L ≤ 3074) (hi : i ≤ 100000) : (nI L - 6 < nI i) ↔ L < i + 6 := by
  have h : (nI L - nI 6).toInt = (L : Int) - 6 := pk_sub_toInt (by omega) (by decide)
  have h2 : (nI i).toInt = (i : Int) := nI_toInt (by omega)
  have h3 : nI L - 6 < nI i ↔ (nI L - nI 6).toInt < (nI i).toInt := Int32.lt_iff_toInt_lt
  rw [h3, h, h2]
  omega
theorem RR.init (g1 g2 : Int32) : RR (zX0 g1 g2) (zY0 g1 g2) :=
  ⟨⟨rfl, rfl, rfl, rfl⟩, rfl, Or.inl rfl, rfl, ⟨0, 0, 0, rfl, rfl, rfl, (by decide : (0 : Int32) = zop 0 0 0), (by decide : (0 : Int32) = zrw 0 0 0)⟩, ⟨(by decide : 0 ≤ 10), rfl, rfl⟩⟩

theorem ksw19 {g : Int32} (h0 : ¬ g = 0) (h1 : ¬ g = 1) (h2 : ¬ g = 2) (h3 : ¬ g = 3) (h4 : ¬ g = 4) (h5 : ¬ g = 5) (h6 : ¬ g = 6) (h7 : ¬ g = 7) (h8 : ¬ g = 8) (h9 : ¬ g = 9) (h10 : ¬ g = 10) (h11 : ¬ g = 11) (h12 : ¬ g = 12) (h13 : ¬ g = 13) (h14 : ¬ g = 14) (h15 : ¬ g = 15) (h16 : ¬ g = 16) (h17 : ¬ g = 17) (h18 : ¬ g = 18) : g.toInt < 0 ∨ 18 < g.toInt := by
  have a0 := lv_neT (a := 0) h0 (by decide)
  have a1 := lv_neT (a := 1) h1 (by decide)
  have a2 := lv_neT (a := 2) h2 (by decide)
  have a3 := lv_neT (a := 3) h3 (by decide)
  have a4 := lv_neT (a := 4) h4 (by decide)
  have a5 := lv_neT (a := 5) h5 (by decide)
  have a6 := lv_neT (a := 6) h6 (by decide)
  have a7 := lv_neT (a := 7) h7 (by decide)
  have a8 := lv_neT (a := 8) h8 (by decide)
  have a9 := lv_neT (a := 9) h9 (by decide)
  have a10 := lv_neT (a := 10) h10 (by decide)
  have a11 := lv_neT (a := 11) h11 (by decide)
  have a12 := lv_neT (a := 12) h12 (by decide)
  have a13 := lv_neT (a := 13) h13 (by decide)
  have a14 := lv_neT (a := 14) h14 (by decide)
  have a15 := lv_neT (a := 15) h15 (by decide)
  have a16 := lv_neT (a := 16) h16 (by decide)
  have a17 := lv_neT (a := 17) h17 (by decide)
  have a18 := lv_neT (a := 18) h18 (by decide)
  omega

set_option maxHeartbeats 4000000 in
set_option maxRecDepth 100000 in
theorem ll_loop (l : Launch) {p : Program} {e : Env} {s : State} {m : MethodId} {below : List Frame} {meth : Method} {c : Code} {b L : Nat} {xs : Nat → Int32} (D : va_G) (cI cZ : ClassId) {A : Nat → Prop} {Q : State → Prop} (hL : L ≤ 3074) (hx : p.tables.exec = Jvm.exec) (hb : c.code = code) (hml : c.maxLocals = 4) (hown : s.vm.findClass R_law = some m.cls) (hts : ∀ w ∈ lw_g, w.before #[Value.ref b] s = true) (hNw : kNw s) (hX : va_X b L xs s s.heap) (hbl : b < s.heap.size) (hbA : ¬ A b) (hA : ∀ q, s.heap.size ≤ q → A q) (hK : va_K D vwCl (kT cI cZ) s) (ao au af ak a1 a2 a3 a4 bo b1 b2 b3 b4 b5 b6 b7 : Nat) (kx : ∀ (ls : Array Slot) (H : Heap) (locs : List Loc), va_S A s.heap H locs → W p l e room_1 s m #[Value.ref b] below meth c H locs 16 2124 Q (F0 m 894 ls [])) : ∀ (f i : Nat) (x : XS) (y : YS) (ls : Array Slot) (H : Heap) (locs : List Loc), L ≤ i + f → i ≤ 3080 → 6 * y.2.2.2.2.1 + 2 ≤ i → RR x y → lv_has ls 4 [(3, .int (nI i)), (2, .ref bo), (1, .ref ao), (0, .ref b)] → va_P D vwCl (wX cI ao au af ak a1 a2 a3 a4 x ++ wY cI cZ bo b1 b2 b3 b4 b5 b6 b7 y) H → va_D A (wX cI ao au af ak a1 a2 a3 a4 x ++ wY cI cZ bo b1 b2 b3 b4 b5 b6 b7 y) → va_S A s.heap H locs → W p l e room_1 s m #[Value.ref b] below meth c H locs 16 2124 Q (F0 m 38 ls []) := by
  intro f
  induction f with
  | zero =>
    intro i x y ls H locs hf hi3 hn hR hl hP hD hS
    refine lv_iload_n hx hb dL_law_38 rfl (lv_at hl 0 rfl) ?_
    refine lv_aload_n hx hb dL_law_39 rfl (lv_at hl 3 rfl) ?_
    refine va_slen hx hb hX hbl hbA hS dL_law_40 ?_
    refine lv_bipush (v := 6) hx hb dL_law_41 (by decide) ?_
    refine lv_isub hx hb dL_law_43 ?_
    refine lv_icmp_gt (tgt := 894) hx hb dL_law_44 (by decide) (fun _ => ?_) (fun h => absurd ((khead hL (by omega)).mpr (by omega)) h)
    exact kx _ _ _ hS
  | succ f ih =>
    intro i x y ls H locs hf hi3 hn hR hl hP hD hS
    by_cases hi : i + 6 ≤ L
    ·
      refine lv_iload_n hx hb dL_law_38 rfl (lv_at hl 0 rfl) ?_
      refine lv_aload_n hx hb dL_law_39 rfl (lv_at hl 3 rfl) ?_
      refine va_slen hx hb hX hbl hbA hS dL_law_40 ?_
      refine lv_bipush (v := 6) hx hb dL_law_41 (by decide) ?_
      refine lv_isub hx hb dL_law_43 ?_
      refine lv_icmp_gt (tgt := 894) hx hb dL_law_44 (by decide) (fun h => absurd ((khead hL (by omega)).mp h) (by omega)) (fun _ => ?_)
      have kk : ∀ (x1 : XS) (y1 : YS) (H : Heap) (locs : List Loc), RR x1 y1 → y1.2.2.2.2.1 ≤ y.2.2.2.2.1 + 1 → va_P D vwCl (wX cI ao au af ak a1 a2 a3 a4 x1 ++ wY cI cZ bo b1 b2 b3 b4 b5 b6 b7 y1) H → va_D A (wX cI ao au af ak a1 a2 a3 a4 x1 ++ wY cI cZ bo b1 b2 b3 b4 b5 b6 b7 y1) → va_S A s.heap H locs → W p l e room_1 s m #[Value.ref b] below meth c H locs 16 2124 Q (F0 m 888 ls []) := by
        intro x1 y1 H locs h1 h2 h3 h4 h5
        refine lv_iinc (k := 0) (v := nI (i + 6)) hx hb dL_law_888 hl rfl (by rw [kinc6]; exact nI_add i 6) (by decide) rfl (fun ls hl => ?_)
        refine lv_goto (tgt := 38) hx hb dL_law_891 (by decide) ?_
        exact ih (i + 6) x1 y1 ls H locs (by omega) (by omega) (by omega) h1 hl h3 h4 h5
      have hN : y.2.2.2.2.1 < 512 := by omega
      refine lv_aload_n hx hb dL_law_47 rfl (lv_at hl 3 rfl) ?_
      refine lv_iload_n hx hb dL_law_48 rfl (lv_at hl 0 rfl) ?_
      refine va_sld hx hb hX hbl hbA hS (vp_in_nI (by omega) (by omega)) dL_law_49 ?_
      refine lv_bipush (v := 31) hx hb dL_law_50 (by decide) ?_
      refine lv_iand hx hb dL_law_52 ?_
      refine lv_topi (fun z hz => ?_)
      clear hz
      by_cases z0 : z = 0
      ·
        subst z0
        refine lv_tableIn (x := 0) (off := 91) (tgt := 144) hx hb dL_law_53 (by decide) (by decide) (by decide) (by decide) ?_
        exact lc_open l D cI cZ hL hx hb hml hown hts hNw hX hbl hbA hA hK ao au af ak a1 a2 a3 a4 bo b1 b2 b3 b4 b5 b6 b7 x y i hi hl hP hD hS hR hN kk
      by_cases z1 : z = 1
      ·
        subst z1
        refine lv_tableIn (x := 1) (off := 130) (tgt := 183) hx hb dL_law_53 (by decide) (by decide) (by decide) (by decide) ?_
        exact lc_close l D cI cZ hL hx hb hml hown hts hNw hX hbl hbA hA hK ao au af ak a1 a2 a3 a4 bo b1 b2 b3 b4 b5 b6 b7 x y i hi hl hP hD hS hR hN kk
      by_cases z2 : z = 2
      ·
        subst z2
        refine lv_tableIn (x := 2) (off := 153) (tgt := 206) hx hb dL_law_53 (by decide) (by decide) (by decide) (by decide) ?_
        exact lc_login l D cI cZ hL hx hb hml hown hts hNw hX hbl hbA hA hK ao au af ak a1 a2 a3 a4 bo b1 b2 b3 b4 b5 b6 b7 x y i hi hl hP hD hS hR hN kk
      by_cases z3 : z = 3
      ·
        subst z3
        refine lv_tableIn (x := 3) (off := 212) (tgt := 265) hx hb dL_law_53 (by decide) (by decide) (by decide) (by decide) ?_
        exact lc_logout l D cI cZ hL hx hb hml hown hts hNw hX hbl hbA hA hK ao au af ak a1 a2 a3 a4 bo b1 b2 b3 b4 b5 b6 b7 x y i hi hl hP hD hS hR hN kk
      by_cases z4 : z = 4
      ·
        subst z4
        refine lv_tableIn (x := 4) (off := 235) (tgt := 288) hx hb dL_law_53 (by decide) (by decide) (by decide) (by decide) ?_
        exact lc_unlock l D cI cZ hL hx hb hml hown hts hNw hX hbl hbA hA hK ao au af ak a1 a2 a3 a4 bo b1 b2 b3 b4 b5 b6 b7 x y i hi hl hP hD hS hR hN kk
      by_cases z5 : z = 5
      ·
        subst z5
        refine lv_tableIn (x := 5) (off := 268) (tgt := 321) hx hb dL_law_53 (by decide) (by decide) (by decide) (by decide) ?_
        exact lc_create l D cI cZ hL hx hb hml hown hts hNw hX hbl hbA hA hK ao au af ak a1 a2 a3 a4 bo b1 b2 b3 b4 b5 b6 b7 x y i hi hl hP hD hS hR hN kk
      by_cases z6 : z = 6
      ·
        subst z6
        refine lv_tableIn (x := 6) (off := 311) (tgt := 364) hx hb dL_law_53 (by decide) (by decide) (by decide) (by decide) ?_
        exact lc_generate l D cI cZ hL hx hb hml hown hts hNw hX hbl hbA hA hK ao au af ak a1 a2 a3 a4 bo b1 b2 b3 b4 b5 b6 b7 x y i hi hl hP hD hS hR hN kk
      by_cases z7 : z = 7
      ·
        subst z7
        refine lv_tableIn (x := 7) (off := 344) (tgt := 397) hx hb dL_law_53 (by decide) (by decide) (by decide) (by decide) ?_
        exact lc_destroy l D cI cZ hL hx hb hml hown hts hNw hX hbl hbA hA hK ao au af ak a1 a2 a3 a4 bo b1 b2 b3 b4 b5 b6 b7 x y i hi hl hP hD hS hR hN kk
      by_cases z8 : z = 8
      ·
        subst z8
        refine lv_tableIn (x := 8) (off := 377) (tgt := 430) hx hb dL_law_53 (by decide) (by decide) (by decide) (by decide) ?_
        exact lc_attributes l D cI cZ hL hx hb hml hown hts hNw hX hbl hbA hA hK ao au af ak a1 a2 a3 a4 bo b1 b2 b3 b4 b5 b6 b7 x y i hi hl hP hD hS hR hN kk
      by_cases z9 : z = 9
      ·
        subst z9
        refine lv_tableIn (x := 9) (off := 410) (tgt := 463) hx hb dL_law_53 (by decide) (by decide) (by decide) (by decide) ?_
        exact lc_limit l D cI cZ hL hx hb hml hown hts hNw hX hbl hbA hA hK ao au af ak a1 a2 a3 a4 bo b1 b2 b3 b4 b5 b6 b7 x y i hi hl hP hD hS hR hN kk
      by_cases z10 : z = 10
      ·
        subst z10
        refine lv_tableIn (x := 10) (off := 453) (tgt := 506) hx hb dL_law_53 (by decide) (by decide) (by decide) (by decide) ?_
        exact lc_trust l D cI cZ hL hx hb hml hown hts hNw hX hbl hbA hA hK ao au af ak a1 a2 a3 a4 bo b1 b2 b3 b4 b5 b6 b7 x y i hi hl hP hD hS hR hN kk
      by_cases z11 : z = 11
      ·
        subst z11
        refine lv_tableIn (x := 11) (off := 486) (tgt := 539) hx hb dL_law_53 (by decide) (by decide) (by decide) (by decide) ?_
        exact lc_read l D cI cZ hL hx hb hml hown hts hNw hX hbl hbA hA hK ao au af ak a1 a2 a3 a4 bo b1 b2 b3 b4 b5 b6 b7 x y i hi hl hP hD hS hR hN kk
      by_cases z12 : z = 12
      ·
        subst z12
        refine lv_tableIn (x := 12) (off := 520) (tgt := 573) hx hb dL_law_53 (by decide) (by decide) (by decide) (by decide) ?_
        exact lc_encrypt l D cI cZ hL hx hb hml hown hts hNw hX hbl hbA hA hK ao au af ak a1 a2 a3 a4 bo b1 b2 b3 b4 b5 b6 b7 x y i hi hl hP hD hS hR hN kk
      by_cases z13 : z = 13
      ·
        subst z13
        refine lv_tableIn (x := 13) (off := 564) (tgt := 617) hx hb dL_law_53 (by decide) (by decide) (by decide) (by decide) ?_
        exact lc_decrypt l D cI cZ hL hx hb hml hown hts hNw hX hbl hbA hA hK ao au af ak a1 a2 a3 a4 bo b1 b2 b3 b4 b5 b6 b7 x y i hi hl hP hD hS hR hN kk
      by_cases z14 : z = 14
      ·
        subst z14
        refine lv_tableIn (x := 14) (off := 608) (tgt := 661) hx hb dL_law_53 (by decide) (by decide) (by decide) (by decide) ?_
        exact lc_sign l D cI cZ hL hx hb hml hown hts hNw hX hbl hbA hA hK ao au af ak a1 a2 a3 a4 bo b1 b2 b3 b4 b5 b6 b7 x y i hi hl hP hD hS hR hN kk
      by_cases z15 : z = 15
      ·
        subst z15
        refine lv_tableIn (x := 15) (off := 652) (tgt := 705) hx hb dL_law_53 (by decide) (by decide) (by decide) (by decide) ?_
        exact lc_wrap l D cI cZ hL hx hb hml hown hts hNw hX hbl hbA hA hK ao au af ak a1 a2 a3 a4 bo b1 b2 b3 b4 b5 b6 b7 x y i hi hl hP hD hS hR hN kk
      by_cases z16 : z = 16
      ·
        subst z16
        refine lv_tableIn (x := 16) (off := 696) (tgt := 749) hx hb dL_law_53 (by decide) (by decide) (by decide) (by decide) ?_
        exact lc_unwrap l D cI cZ hL hx hb hml hown hts hNw hX hbl hbA hA hK ao au af ak a1 a2 a3 a4 bo b1 b2 b3 b4 b5 b6 b7 x y i hi hl hP hD hS hR hN kk
      by_cases z17 : z = 17
      ·
        subst z17
        refine lv_tableIn (x := 17) (off := 779) (tgt := 832) hx hb dL_law_53 (by decide) (by decide) (by decide) (by decide) ?_
        exact lc_find l D cI cZ hL hx hb hml hown hts hNw hX hbl hbA hA hK ao au af ak a1 a2 a3 a4 bo b1 b2 b3 b4 b5 b6 b7 x y i hi hl hP hD hS hR hN kk
      by_cases z18 : z = 18
      ·
        subst z18
        refine lv_tableIn (x := 18) (off := 812) (tgt := 865) hx hb dL_law_53 (by decide) (by decide) (by decide) (by decide) ?_
        exact lc_status l D cI cZ hL hx hb hml hown hts hNw hX hbl hbA hA hK ao au af ak a1 a2 a3 a4 bo b1 b2 b3 b4 b5 b6 b7 x y i hi hl hP hD hS hR hN kk
      refine lv_tableOut (tgt := 888) hx hb dL_law_53 (ksw19 z0 z1 z2 z3 z4 z5 z6 z7 z8 z9 z10 z11 z12 z13 z14 z15 z16 z17 z18) (by decide) ?_
      exact kk x y _ _ hR (Nat.le_succ _) hP hD hS
    ·
      refine lv_iload_n hx hb dL_law_38 rfl (lv_at hl 0 rfl) ?_
      refine lv_aload_n hx hb dL_law_39 rfl (lv_at hl 3 rfl) ?_
      refine va_slen hx hb hX hbl hbA hS dL_law_40 ?_
      refine lv_bipush (v := 6) hx hb dL_law_41 (by decide) ?_
      refine lv_isub hx hb dL_law_43 ?_
      refine lv_icmp_gt (tgt := 894) hx hb dL_law_44 (by decide) (fun _ => ?_) (fun h => absurd ((khead hL (by omega)).mpr (by omega)) h)
      exact kx _ _ _ hS

set_option maxHeartbeats 4000000 in
set_option maxRecDepth 100000 in
theorem whole_start {p : Program} {e : Env} {s : State} {m : MethodId} {below : List Frame} {meth : Method} {c : Code} (l : Launch) {b L : Nat} {xs : Nat → Int32} (hL : L ≤ 3074) (C0 : lw_At p s m meth c b L xs) : W p l e room_1 s m #[Value.ref b] below meth c s.heap [] 0 0 (lw_Z below #[Value.ref b] s) (entryFrame m ([Value.ref b] : List Value).toArray 4) := by
  obtain ⟨hx, hb, hr, hml, hown, hts0, hX, hbl, hlk, hgv⟩ := C0
  have hts : ∀ w ∈ lw_g, w.before #[Value.ref b] s = true := fun w h => hts0 w (List.mem_filter.mp h).1
  have hNw : kNw s := fun w h => va_Nw.of (lw_n_tab w h) (hts0 w (lw_n_in w h))
  obtain ⟨c0, iS0, hk0⟩ := u_known (C := cnT) (T := ftT) (N := 7) (n := 7) hts inT (hts _ mw30)
  obtain ⟨c1, iS1, hk1⟩ := u_known (C := cnR) (T := ftR) (N := 2) (n := 2) hts inR (hts _ mw38)
  obtain ⟨c2, iS2, hk2⟩ := u_known (C := cnK) (T := ftK) (N := 6) (n := 6) hts inK (hts _ mw52)
  obtain ⟨c3, iS3, hk3⟩ := u_known (C := cnM) (T := ftM) (N := 10) (n := 10) hts inM (hts _ mw284)
  obtain ⟨cI, hcI1, hcI2⟩ := karr (ty := .int) (hts _ mw81) (fun cA h => h)
  obtain ⟨cZ, hcZ1, hcZ2⟩ := karr (ty := .boolean) (hts _ mw320) (fun cA h => h)
  obtain ⟨D, hD0⟩ : ∃ D : va_G, D = ((fun k => if k = 0 then c0 else if k = 1 then c1 else if k = 2 then c2 else c3), (fun k => if k = 0 then iS0 else if k = 1 then iS1 else if k = 2 then iS2 else iS3)) := ⟨_, rfl⟩
  have hK : va_K D vwCl (kT cI cZ) s := by
    subst hD0
    refine ⟨fun k q hq => ?_, fun k q hq => ?_⟩
    · match k, hq with
      | 0, hq => cases hq; exact hk0
      | 1, hq => cases hq; exact hk1
      | 2, hq => cases hq; exact hk2
      | 3, hq => cases hq; exact hk3
      | k + 4, hq => simp [vwCl] at hq
    · match k, hq with
      | 0, hq => cases hq; exact ⟨hcI1, hcI2⟩
      | 1, hq => cases hq; exact ⟨hcZ1, hcZ2⟩
      | k + 2, hq => simp [kT] at hq
  clear hD0 hgv
  obtain ⟨A, hAe⟩ : ∃ A : Nat → Prop, A = fun q => s.heap.size ≤ q := ⟨_, rfl⟩
  have hA : ∀ q, s.heap.size ≤ q → A q := fun q h => by rw [hAe]; exact h
  have hbA : ¬ A b := by rw [hAe]; exact Nat.not_le.mpr hbl
  have hS : va_S A s.heap s.heap [] := va_S.rf
  have hP : va_P D vwCl [] s.heap := fun k q h => by simp at h
  have hD : va_D A [] := ⟨fun i j p q h => by simp at h, fun k q h => by simp at h⟩
  have hl := lv_entry ([.ref b]) (n := 4) (Nat.le_of_ble_eq_true rfl)
  rw [lg_entry_eq]
  generalize (lg_sl ([.ref b]) ++ List.replicate (4 - (lg_sl ([.ref b])).length) Slot.unset).toArray = ls at hl ⊢
  have hl : lv_has ls 4 [(0, .ref b)] := hl
  have kx : ∀ (ls : Array Slot) (H : Heap) (locs : List Loc), va_S A s.heap H locs → W p l e room_1 s m #[Value.ref b] below meth c H locs 16 2124 (lw_Z below #[Value.ref b] s) (F0 m 894 ls []) := by
    intro ls H locs hS
    refine va_forget (fun q hq => by have := hS.2.2 q hq; rw [hAe] at this; exact this) ?_
    refine lv_iconst (v := 1) hx hb dL_law_894 (by decide) ?_
    exact lw_ret hx hb hr hlk dL_law_895
  refine va_new (D := (D)) (ci := 0) (fs := [.null, .null, .null, .int 0, .int 0, .int 0, .int 0]) (C := cnT) (T := ftT) (N := 7) hx hb hts inT tyT tyT_ok hown (hts _ mw29) (hts _ mw30) (hts _ mw24) hK hP hD hS hA rfl (fun j hj => by rcases (show j = 0 ∨ j = 1 ∨ j = 2 ∨ j = 3 ∨ j = 4 ∨ j = 5 ∨ j = 6 by omega) with rfl | rfl | rfl | rfl | rfl | rfl | rfl <;> rfl) (Nat.le_of_ble_eq_true rfl) (Nat.le_of_ble_eq_true rfl) dL_law_0 (fun q0 H hP hD hS => ?_)
  have hP : va_P D vwCl [(q0, .inr (0, [.null, .null, .null, .int 0, .int 0, .int 0, .int 0]))] H := hP
  have hD : va_D A [(q0, .inr (0, [.null, .null, .null, .int 0, .int 0, .int 0, .int 0]))] := hD
  refine lv_dup hx hb dL_law_3 rfl ?_
  refine lv_aload_n hx hb dL_law_4 rfl (lv_at hl 0 rfl) ?_
  refine lv_iconst (v := 0) hx hb dL_law_5 (by decide) ?_
  refine kcC (va_runS (As := [.ref b, .int (nI 0)]) (rest := [.ref q0, .ref q0]) ⟨hx, hb, hml, hown, hts⟩ (kl_cell l b L xs 0 hL (by decide) _) ⟨(callB_of 2 hts gd_yL_cell rfl rfl rfl (hts _ mw23) (hts _ mw280) (by decide +kernel) ⟨Nat.le_of_ble_eq_true rfl, Nat.le_of_ble_eq_true rfl⟩), hts _ mw281⟩ (kpreC hX hbl hbA hS) rfl rfl hl.1 rfl (lv_room (Nat.le_of_ble_eq_true rfl)) dL_law_6 ⟨Nat.le_of_ble_eq_true rfl, Nat.le_of_ble_eq_true rfl⟩) hP hS hA (fun H locs hP hS => ?_)
  refine lv_aload_n hx hb dL_law_9 rfl (lv_at hl 0 rfl) ?_
  refine lv_iconst (v := 1) hx hb dL_law_10 (by decide) ?_
  refine kcC (va_runS (As := [.ref b, .int (nI 1)]) (rest := [.int (zcell L xs 0), .ref q0, .ref q0]) ⟨hx, hb, hml, hown, hts⟩ (kl_cell l b L xs 1 hL (by decide) _) ⟨(callB_of 2 hts gd_yL_cell rfl rfl rfl (hts _ mw23) (hts _ mw280) (by decide +kernel) ⟨Nat.le_of_ble_eq_true rfl, Nat.le_of_ble_eq_true rfl⟩), hts _ mw281⟩ (kpreC hX hbl hbA hS) rfl rfl hl.1 rfl (lv_room (Nat.le_of_ble_eq_true rfl)) dL_law_11 ⟨Nat.le_of_ble_eq_true rfl, Nat.le_of_ble_eq_true rfl⟩) hP hS hA (fun H locs hP hS => ?_)
  refine kcN (isR := []) (isC := [0]) (wr := []) (wf := (fun u : Nat × Nat × Nat × Nat × Nat × Nat × Nat => wX cI q0 u.1 u.2.1 u.2.2.1 u.2.2.2.1 u.2.2.2.2.1 u.2.2.2.2.2.1 u.2.2.2.2.2.2 (zX0 (zcell L xs 0) (zcell L xs 1)))) (va_runI (As := [.int (zcell L xs 0), .int (zcell L xs 1)]) (rest := [.ref q0]) ⟨hx, hb, hml, hown, hts⟩ (kt_init l D cI cZ q0 (zcell L xs 0) (zcell L xs 1) _) ⟨(callB_of 2 hts gd_yT_init rfl rfl rfl (hts _ mw24) (hts _ mw31) (by decide +kernel) ⟨Nat.le_of_ble_eq_true rfl, Nat.le_of_ble_eq_true rfl⟩), rfl, hts _ mw32⟩ (kpreS hNw hP hD hK [0] rfl (by decide)) rfl rfl hl.1 rfl (lv_room (Nat.le_of_ble_eq_true rfl)) dL_law_14 ⟨Nat.le_of_ble_eq_true rfl, Nat.le_of_ble_eq_true rfl⟩) hP hD hS hA rfl rfl (by decide) (by decide) (fun u H locs hP hD hS => ?_)
  obtain ⟨au, af, ak, a1, a2, a3, a4⟩ := u
  have hP : va_P D vwCl [(q0, .inr (0, [.ref au, .ref af, .ref ak, .int ((zX0 (zcell L xs 0) (zcell L xs 1)).2.2.1), .int ((zX0 (zcell L xs 0) (zcell L xs 1)).2.2.2.1), .int ((zX0 (zcell L xs 0) (zcell L xs 1)).2.2.2.2.1), .int ((zX0 (zcell L xs 0) (zcell L xs 1)).2.2.2.2.2.1)])), (au, .inr (1, [.int ((zX0 (zcell L xs 0) (zcell L xs 1)).1.1), .int ((zX0 (zcell L xs 0) (zcell L xs 1)).1.2)])), (af, .inr (1, [.int ((zX0 (zcell L xs 0) (zcell L xs 1)).2.1.1), .int ((zX0 (zcell L xs 0) (zcell L xs 1)).2.1.2)])), (ak, .inr (2, [.ref a1, .ref a2, .ref a3, .ref a4, .int (nI (zX0 (zcell L xs 0) (zcell L xs 1)).2.2.2.2.2.2.1), .int ((zX0 (zcell L xs 0) (zcell L xs 1)).2.2.2.2.2.2.2.1)])), (a1, .inl (cI, 10, .inl ((zX0 (zcell L xs 0) (zcell L xs 1)).2.2.2.2.2.2.2.2.1))), (a2, .inl (cI, 10, .inl ((zX0 (zcell L xs 0) (zcell L xs 1)).2.2.2.2.2.2.2.2.2.1))), (a3, .inl (cI, 10, .inl ((zX0 (zcell L xs 0) (zcell L xs 1)).2.2.2.2.2.2.2.2.2.2.1))), (a4, .inl (cI, 10, .inl ((zX0 (zcell L xs 0) (zcell L xs 1)).2.2.2.2.2.2.2.2.2.2.2)))] H := hP
  have hD : va_D A [(q0, .inr (0, [.ref au, .ref af, .ref ak, .int ((zX0 (zcell L xs 0) (zcell L xs 1)).2.2.1), .int ((zX0 (zcell L xs 0) (zcell L xs 1)).2.2.2.1), .int ((zX0 (zcell L xs 0) (zcell L xs 1)).2.2.2.2.1), .int ((zX0 (zcell L xs 0) (zcell L xs 1)).2.2.2.2.2.1)])), (au, .inr (1, [.int ((zX0 (zcell L xs 0) (zcell L xs 1)).1.1), .int ((zX0 (zcell L xs 0) (zcell L xs 1)).1.2)])), (af, .inr (1, [.int ((zX0 (zcell L xs 0) (zcell L xs 1)).2.1.1), .int ((zX0 (zcell L xs 0) (zcell L xs 1)).2.1.2)])), (ak, .inr (2, [.ref a1, .ref a2, .ref a3, .ref a4, .int (nI (zX0 (zcell L xs 0) (zcell L xs 1)).2.2.2.2.2.2.1), .int ((zX0 (zcell L xs 0) (zcell L xs 1)).2.2.2.2.2.2.2.1)])), (a1, .inl (cI, 10, .inl ((zX0 (zcell L xs 0) (zcell L xs 1)).2.2.2.2.2.2.2.2.1))), (a2, .inl (cI, 10, .inl ((zX0 (zcell L xs 0) (zcell L xs 1)).2.2.2.2.2.2.2.2.2.1))), (a3, .inl (cI, 10, .inl ((zX0 (zcell L xs 0) (zcell L xs 1)).2.2.2.2.2.2.2.2.2.2.1))), (a4, .inl (cI, 10, .inl ((zX0 (zcell L xs 0) (zcell L xs 1)).2.2.2.2.2.2.2.2.2.2.2)))] := hD
  refine lv_astore_n hx hb dL_law_17 rfl hl (by decide) rfl (fun ls hl => ?_)
  have hl : lv_has ls 4 [(1, .ref q0), (0, .ref b)] := hl
  refine va_new (D := (D)) (ci := 3) (fs := [.null, .int 0, .null, .null, .int 0, .int 0, .null, .null, .null, .null]) (C := cnM) (T := ftM) (N := 10) hx hb hts inM tyM tyM_ok hown (hts _ mw283) (hts _ mw284) (hts _ mw27) hK hP hD hS hA rfl (fun j hj => by rcases (show j = 0 ∨ j = 1 ∨ j = 2 ∨ j = 3 ∨ j = 4 ∨ j = 5 ∨ j = 6 ∨ j = 7 ∨ j = 8 ∨ j = 9 by omega) with rfl | rfl | rfl | rfl | rfl | rfl | rfl | rfl | rfl | rfl <;> rfl) (Nat.le_of_ble_eq_true rfl) (Nat.le_of_ble_eq_true rfl) dL_law_18 (fun q18 H hP hD hS => ?_)
  have hP : va_P D vwCl [(q0, .inr (0, [.ref au, .ref af, .ref ak, .int ((zX0 (zcell L xs 0) (zcell L xs 1)).2.2.1), .int ((zX0 (zcell L xs 0) (zcell L xs 1)).2.2.2.1), .int ((zX0 (zcell L xs 0) (zcell L xs 1)).2.2.2.2.1), .int ((zX0 (zcell L xs 0) (zcell L xs 1)).2.2.2.2.2.1)])), (au, .inr (1, [.int ((zX0 (zcell L xs 0) (zcell L xs 1)).1.1), .int ((zX0 (zcell L xs 0) (zcell L xs 1)).1.2)])), (af, .inr (1, [.int ((zX0 (zcell L xs 0) (zcell L xs 1)).2.1.1), .int ((zX0 (zcell L xs 0) (zcell L xs 1)).2.1.2)])), (ak, .inr (2, [.ref a1, .ref a2, .ref a3, .ref a4, .int (nI (zX0 (zcell L xs 0) (zcell L xs 1)).2.2.2.2.2.2.1), .int ((zX0 (zcell L xs 0) (zcell L xs 1)).2.2.2.2.2.2.2.1)])), (a1, .inl (cI, 10, .inl ((zX0 (zcell L xs 0) (zcell L xs 1)).2.2.2.2.2.2.2.2.1))), (a2, .inl (cI, 10, .inl ((zX0 (zcell L xs 0) (zcell L xs 1)).2.2.2.2.2.2.2.2.2.1))), (a3, .inl (cI, 10, .inl ((zX0 (zcell L xs 0) (zcell L xs 1)).2.2.2.2.2.2.2.2.2.2.1))), (a4, .inl (cI, 10, .inl ((zX0 (zcell L xs 0) (zcell L xs 1)).2.2.2.2.2.2.2.2.2.2.2))), (q18, .inr (3, [.null, .int 0, .null, .null, .int 0, .int 0, .null, .null, .null, .null]))] H := hP
  have hD : va_D A [(q0, .inr (0, [.ref au, .ref af, .ref ak, .int ((zX0 (zcell L xs 0) (zcell L xs 1)).2.2.1), .int ((zX0 (zcell L xs 0) (zcell L xs 1)).2.2.2.1), .int ((zX0 (zcell L xs 0) (zcell L xs 1)).2.2.2.2.1), .int ((zX0 (zcell L xs 0) (zcell L xs 1)).2.2.2.2.2.1)])), (au, .inr (1, [.int ((zX0 (zcell L xs 0) (zcell L xs 1)).1.1), .int ((zX0 (zcell L xs 0) (zcell L xs 1)).1.2)])), (af, .inr (1, [.int ((zX0 (zcell L xs 0) (zcell L xs 1)).2.1.1), .int ((zX0 (zcell L xs 0) (zcell L xs 1)).2.1.2)])), (ak, .inr (2, [.ref a1, .ref a2, .ref a3, .ref a4, .int (nI (zX0 (zcell L xs 0) (zcell L xs 1)).2.2.2.2.2.2.1), .int ((zX0 (zcell L xs 0) (zcell L xs 1)).2.2.2.2.2.2.2.1)])), (a1, .inl (cI, 10, .inl ((zX0 (zcell L xs 0) (zcell L xs 1)).2.2.2.2.2.2.2.2.1))), (a2, .inl (cI, 10, .inl ((zX0 (zcell L xs 0) (zcell L xs 1)).2.2.2.2.2.2.2.2.2.1))), (a3, .inl (cI, 10, .inl ((zX0 (zcell L xs 0) (zcell L xs 1)).2.2.2.2.2.2.2.2.2.2.1))), (a4, .inl (cI, 10, .inl ((zX0 (zcell L xs 0) (zcell L xs 1)).2.2.2.2.2.2.2.2.2.2.2))), (q18, .inr (3, [.null, .int 0, .null, .null, .int 0, .int 0, .null, .null, .null, .null]))] := hD
  refine lv_dup hx hb dL_law_21 rfl ?_
  refine lv_aload_n hx hb dL_law_22 rfl (lv_at hl 1 rfl) ?_
  refine lv_iconst (v := 0) hx hb dL_law_23 (by decide) ?_
  refine kcC (va_runS (As := [.ref b, .int (nI 0)]) (rest := [.ref q18, .ref q18]) ⟨hx, hb, hml, hown, hts⟩ (kl_cell l b L xs 0 hL (by decide) _) ⟨(callB_of 2 hts gd_yL_cell rfl rfl rfl (hts _ mw23) (hts _ mw280) (by decide +kernel) ⟨Nat.le_of_ble_eq_true rfl, Nat.le_of_ble_eq_true rfl⟩), hts _ mw281⟩ (kpreC hX hbl hbA hS) rfl rfl hl.1 rfl (lv_room (Nat.le_of_ble_eq_true rfl)) dL_law_24 ⟨Nat.le_of_ble_eq_true rfl, Nat.le_of_ble_eq_true rfl⟩) hP hS hA (fun H locs hP hS => ?_)
  refine lv_aload_n hx hb dL_law_27 rfl (lv_at hl 1 rfl) ?_
  refine lv_iconst (v := 1) hx hb dL_law_28 (by decide) ?_
  refine kcC (va_runS (As := [.ref b, .int (nI 1)]) (rest := [.int (zcell L xs 0), .ref q18, .ref q18]) ⟨hx, hb, hml, hown, hts⟩ (kl_cell l b L xs 1 hL (by decide) _) ⟨(callB_of 2 hts gd_yL_cell rfl rfl rfl (hts _ mw23) (hts _ mw280) (by decide +kernel) ⟨Nat.le_of_ble_eq_true rfl, Nat.le_of_ble_eq_true rfl⟩), hts _ mw281⟩ (kpreC hX hbl hbA hS) rfl rfl hl.1 rfl (lv_room (Nat.le_of_ble_eq_true rfl)) dL_law_29 ⟨Nat.le_of_ble_eq_true rfl, Nat.le_of_ble_eq_true rfl⟩) hP hS hA (fun H locs hP hS => ?_)
  refine kcN (isR := [0, 1, 2, 3, 4, 5, 6, 7]) (isC := [8]) (wr := [(q0, .inr (0, [.ref au, .ref af, .ref ak, .int ((zX0 (zcell L xs 0) (zcell L xs 1)).2.2.1), .int ((zX0 (zcell L xs 0) (zcell L xs 1)).2.2.2.1), .int ((zX0 (zcell L xs 0) (zcell L xs 1)).2.2.2.2.1), .int ((zX0 (zcell L xs 0) (zcell L xs 1)).2.2.2.2.2.1)])), (au, .inr (1, [.int ((zX0 (zcell L xs 0) (zcell L xs 1)).1.1), .int ((zX0 (zcell L xs 0) (zcell L xs 1)).1.2)])), (af, .inr (1, [.int ((zX0 (zcell L xs 0) (zcell L xs 1)).2.1.1), .int ((zX0 (zcell L xs 0) (zcell L xs 1)).2.1.2)])), (ak, .inr (2, [.ref a1, .ref a2, .ref a3, .ref a4, .int (nI (zX0 (zcell L xs 0) (zcell L xs 1)).2.2.2.2.2.2.1), .int ((zX0 (zcell L xs 0) (zcell L xs 1)).2.2.2.2.2.2.2.1)])), (a1, .inl (cI, 10, .inl ((zX0 (zcell L xs 0) (zcell L xs 1)).2.2.2.2.2.2.2.2.1))), (a2, .inl (cI, 10, .inl ((zX0 (zcell L xs 0) (zcell L xs 1)).2.2.2.2.2.2.2.2.2.1))), (a3, .inl (cI, 10, .inl ((zX0 (zcell L xs 0) (zcell L xs 1)).2.2.2.2.2.2.2.2.2.2.1))), (a4, .inl (cI, 10, .inl ((zX0 (zcell L xs 0) (zcell L xs 1)).2.2.2.2.2.2.2.2.2.2.2)))]) (wf := (fun u : Nat × Nat × Nat × Nat × Nat × Nat × Nat => wY cI cZ q18 u.1 u.2.1 u.2.2.1 u.2.2.2.1 u.2.2.2.2.1 u.2.2.2.2.2.1 u.2.2.2.2.2.2 (zY0 (zcell L xs 0) (zcell L xs 1)))) (va_runI (As := [.int (zcell L xs 0), .int (zcell L xs 1)]) (rest := [.ref q18]) ⟨hx, hb, hml, hown, hts⟩ (km_init l D cI cZ q18 (zcell L xs 0) (zcell L xs 1) _) ⟨(callB_of 2 hts gd_yM_init rfl rfl rfl (hts _ mw27) (hts _ mw285) (by decide +kernel) ⟨Nat.le_of_ble_eq_true rfl, Nat.le_of_ble_eq_true rfl⟩), rfl, hts _ mw286⟩ (kpreS hNw hP hD hK [8] rfl (by decide)) rfl rfl hl.1 rfl (lv_room (Nat.le_of_ble_eq_true rfl)) dL_law_32 ⟨Nat.le_of_ble_eq_true rfl, Nat.le_of_ble_eq_true rfl⟩) hP hD hS hA rfl rfl (by decide) (by decide) (fun u H locs hP hD hS => ?_)
  obtain ⟨b1, b2, b3, b4, b5, b6, b7⟩ := u
  have hP : va_P D vwCl [(q0, .inr (0, [.ref au, .ref af, .ref ak, .int ((zX0 (zcell L xs 0) (zcell L xs 1)).2.2.1), .int ((zX0 (zcell L xs 0) (zcell L xs 1)).2.2.2.1), .int ((zX0 (zcell L xs 0) (zcell L xs 1)).2.2.2.2.1), .int ((zX0 (zcell L xs 0) (zcell L xs 1)).2.2.2.2.2.1)])), (au, .inr (1, [.int ((zX0 (zcell L xs 0) (zcell L xs 1)).1.1), .int ((zX0 (zcell L xs 0) (zcell L xs 1)).1.2)])), (af, .inr (1, [.int ((zX0 (zcell L xs 0) (zcell L xs 1)).2.1.1), .int ((zX0 (zcell L xs 0) (zcell L xs 1)).2.1.2)])), (ak, .inr (2, [.ref a1, .ref a2, .ref a3, .ref a4, .int (nI (zX0 (zcell L xs 0) (zcell L xs 1)).2.2.2.2.2.2.1), .int ((zX0 (zcell L xs 0) (zcell L xs 1)).2.2.2.2.2.2.2.1)])), (a1, .inl (cI, 10, .inl ((zX0 (zcell L xs 0) (zcell L xs 1)).2.2.2.2.2.2.2.2.1))), (a2, .inl (cI, 10, .inl ((zX0 (zcell L xs 0) (zcell L xs 1)).2.2.2.2.2.2.2.2.2.1))), (a3, .inl (cI, 10, .inl ((zX0 (zcell L xs 0) (zcell L xs 1)).2.2.2.2.2.2.2.2.2.2.1))), (a4, .inl (cI, 10, .inl ((zX0 (zcell L xs 0) (zcell L xs 1)).2.2.2.2.2.2.2.2.2.2.2))), (q18, .inr (3, [.ref b1, .int ((zY0 (zcell L xs 0) (zcell L xs 1)).2.1), .ref b2, .ref b3, .int (nI (zY0 (zcell L xs 0) (zcell L xs 1)).2.2.2.2.1), .int ((zY0 (zcell L xs 0) (zcell L xs 1)).2.2.2.2.2.1), .ref b4, .ref b5, .ref b6, .ref b7])), (b1, .inl (cI, 3, .inl ((zY0 (zcell L xs 0) (zcell L xs 1)).1))), (b2, .inl (cI, 3, .inl ((zY0 (zcell L xs 0) (zcell L xs 1)).2.2.1))), (b3, .inl (cI, 3, .inl ((zY0 (zcell L xs 0) (zcell L xs 1)).2.2.2.1))), (b4, .inl (cZ, 512, .inl ((zY0 (zcell L xs 0) (zcell L xs 1)).2.2.2.2.2.2.1))), (b5, .inl (cI, 512, .inl ((zY0 (zcell L xs 0) (zcell L xs 1)).2.2.2.2.2.2.2.1))), (b6, .inl (cI, 512, .inl ((zY0 (zcell L xs 0) (zcell L xs 1)).2.2.2.2.2.2.2.2.1))), (b7, .inl (cI, 512, .inl ((zY0 (zcell L xs 0) (zcell L xs 1)).2.2.2.2.2.2.2.2.2)))] H := hP
  have hD : va_D A [(q0, .inr (0, [.ref au, .ref af, .ref ak, .int ((zX0 (zcell L xs 0) (zcell L xs 1)).2.2.1), .int ((zX0 (zcell L xs 0) (zcell L xs 1)).2.2.2.1), .int ((zX0 (zcell L xs 0) (zcell L xs 1)).2.2.2.2.1), .int ((zX0 (zcell L xs 0) (zcell L xs 1)).2.2.2.2.2.1)])), (au, .inr (1, [.int ((zX0 (zcell L xs 0) (zcell L xs 1)).1.1), .int ((zX0 (zcell L xs 0) (zcell L xs 1)).1.2)])), (af, .inr (1, [.int ((zX0 (zcell L xs 0) (zcell L xs 1)).2.1.1), .int ((zX0 (zcell L xs 0) (zcell L xs 1)).2.1.2)])), (ak, .inr (2, [.ref a1, .ref a2, .ref a3, .ref a4, .int (nI (zX0 (zcell L xs 0) (zcell L xs 1)).2.2.2.2.2.2.1), .int ((zX0 (zcell L xs 0) (zcell L xs 1)).2.2.2.2.2.2.2.1)])), (a1, .inl (cI, 10, .inl ((zX0 (zcell L xs 0) (zcell L xs 1)).2.2.2.2.2.2.2.2.1))), (a2, .inl (cI, 10, .inl ((zX0 (zcell L xs 0) (zcell L xs 1)).2.2.2.2.2.2.2.2.2.1))), (a3, .inl (cI, 10, .inl ((zX0 (zcell L xs 0) (zcell L xs 1)).2.2.2.2.2.2.2.2.2.2.1))), (a4, .inl (cI, 10, .inl ((zX0 (zcell L xs 0) (zcell L xs 1)).2.2.2.2.2.2.2.2.2.2.2))), (q18, .inr (3, [.ref b1, .int ((zY0 (zcell L xs 0) (zcell L xs 1)).2.1), .ref b2, .ref b3, .int (nI (zY0 (zcell L xs 0) (zcell L xs 1)).2.2.2.2.1), .int ((zY0 (zcell L xs 0) (zcell L xs 1)).2.2.2.2.2.1), .ref b4, .ref b5, .ref b6, .ref b7])), (b1, .inl (cI, 3, .inl ((zY0 (zcell L xs 0) (zcell L xs 1)).1))), (b2, .inl (cI, 3, .inl ((zY0 (zcell L xs 0) (zcell L xs 1)).2.2.1))), (b3, .inl (cI, 3, .inl ((zY0 (zcell L xs 0) (zcell L xs 1)).2.2.2.1))), (b4, .inl (cZ, 512, .inl ((zY0 (zcell L xs 0) (zcell L xs 1)).2.2.2.2.2.2.1))), (b5, .inl (cI, 512, .inl ((zY0 (zcell L xs 0) (zcell L xs 1)).2.2.2.2.2.2.2.1))), (b6, .inl (cI, 512, .inl ((zY0 (zcell L xs 0) (zcell L xs 1)).2.2.2.2.2.2.2.2.1))), (b7, .inl (cI, 512, .inl ((zY0 (zcell L xs 0) (zcell L xs 1)).2.2.2.2.2.2.2.2.2)))] := hD
  refine lv_astore_n hx hb dL_law_35 rfl hl (by decide) rfl (fun ls hl => ?_)
  have hl : lv_has ls 4 [(2, .ref q18), (1, .ref q0), (0, .ref b)] := hl
  refine lv_iconst (v := 2) hx hb dL_law_36 (by decide) ?_
  refine lv_istore_n hx hb dL_law_37 rfl hl (by decide) rfl (fun ls hl => ?_)
  have hl : lv_has ls 4 [(3, .int 2), (2, .ref q18), (1, .ref q0), (0, .ref b)] := hl
  exact ll_loop l D cI cZ hL hx hb hml hown hts hNw hX hbl hbA hA hK q0 au af ak a1 a2 a3 a4 q18 b1 b2 b3 b4 b5 b6 b7 kx L 2 _ _ _ _ _ (by omega) (by decide) (Nat.le_of_ble_eq_true rfl) (RR.init _ _) (lv_sub hl [0, 1, 2, 3] rfl) hP hD hS
