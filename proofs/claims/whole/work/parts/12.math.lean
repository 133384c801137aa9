/-! The reference's loops; sessions; bits; words. -/
theorem zm_clz_at (mk ow : Nat → Int32) (g : Int32) : ∀ (f i : Nat) (t : Nat → Int32) (k : Nat), (¬ zm_clz mk ow g f i t k = 0) ↔ (¬ t k = 0 ∧ (i ≤ k ∧ k < i + f → ¬ zm_has (mk k) 1 = 0 ∨ ¬ ow k = g)) := by
  intro f
  induction f with
  | zero => intro i t k; rw [zm_clz]; exact ⟨fun h => ⟨h, fun q => by omega⟩, fun h => h.1⟩
  | succ f ih =>
    intro i t k
    rw [zm_clz, ih]
    by_cases hk : k = i
    · subst hk
      rw [pk_us]
      constructor
      · intro ⟨h1, _⟩
        refine ⟨fun q => h1 (by rw [if_pos q]), fun _ => ?_⟩
        apply Classical.byContradiction
        intro hc
        have c1 : zm_has (mk k) 1 = 0 := Classical.byContradiction fun q => hc (Or.inl q)
        have c2 : ow k = g := Classical.byContradiction fun q => hc (Or.inr q)
        apply h1
        rw [if_pos c1, if_pos c2]
        split <;> rfl
      · intro ⟨h1, h2⟩
        refine ⟨?_, fun q => by omega⟩
        rw [if_neg h1]
        rcases h2 (by omega) with c | c
        · rw [if_neg c]; decide
        · rw [if_neg c]; split <;> decide
    · rw [pk_un hk]
      constructor
      · intro ⟨h1, h2⟩; exact ⟨h1, fun q => h2 (by omega)⟩
      · intro ⟨h1, h2⟩; exact ⟨h1, fun q => h2 (by omega)⟩
theorem zm_loz_at (mk : Nat → Int32) : ∀ (f i : Nat) (t : Nat → Int32) (k : Nat), (¬ zm_loz mk f i t k = 0) ↔ (¬ t k = 0 ∧ (i ≤ k ∧ k < i + f → ¬ zm_has (mk k) 1 = 0 ∨ zm_has (mk k) 2 = 0)) := by
  intro f
  induction f with
  | zero => intro i t k; rw [zm_loz]; exact ⟨fun h => ⟨h, fun q => by omega⟩, fun h => h.1⟩
  | succ f ih =>
    intro i t k
    rw [zm_loz, ih]
    by_cases hk : k = i
    · subst hk
      rw [pk_us]
      constructor
      · intro ⟨h1, _⟩
        refine ⟨fun q => h1 (by rw [if_pos q]), fun _ => ?_⟩
        apply Classical.byContradiction
        intro hc
        have c1 : zm_has (mk k) 1 = 0 := Classical.byContradiction fun q => hc (Or.inl q)
        have c2 : ¬ zm_has (mk k) 2 = 0 := fun q => hc (Or.inr q)
        apply h1
        rw [if_pos c1, if_neg c2]
        split <;> rfl
      · intro ⟨h1, h2⟩
        refine ⟨?_, fun q => by omega⟩
        rw [if_neg h1]
        rcases h2 (by omega) with c | c
        · rw [if_neg c]; decide
        · rw [if_pos c]; split <;> decide
    · rw [pk_un hk]
      constructor
      · intro ⟨h1, h2⟩; exact ⟨h1, fun q => h2 (by omega)⟩
      · intro ⟨h1, h2⟩; exact ⟨h1, fun q => h2 (by omega)⟩
theorem zm_cnt_at (t : Nat → Int32) : ∀ (f i c : Nat), zm_cnt t f i (nI c) = nI (c + ((List.range' i f).filter (fun k => decide (¬ t k = 0))).length) := by
  intro f
  induction f with
  | zero => intro i c; rfl
  | succ f ih =>
    intro i c
    rw [zm_cnt, List.range'_succ]
    by_cases h : t i = 0
    · rw [if_pos h, ih, List.filter_cons_of_neg (by simp [h])]
    · rw [if_neg h, nI_1, ih, List.filter_cons_of_pos (by simp [h]), List.length_cons]
      congr 1
      omega
theorem zm_count_eq (y : YS) : zm_count y = nI (zlive y.2.2.2.2.2.2.1 y.2.2.2.2.1).length := by
  have h := zm_cnt_at y.2.2.2.2.2.2.1 y.2.2.2.2.1 0 0
  rw [zm_count, show (0 : Int32) = nI 0 from rfl, h, Nat.zero_add, zlive, List.range_eq_range']
/-- the k-th that is seen -/
def zfl (k : Int32) : List (Bool × Int32) → Int32 → Int32
  | [], _ => 0
  | (v, h) :: l, b => if v = true then (if b = k then h else zfl k l (b + 1)) else zfl k l b
theorem zt_fnd_l (x : XS) (k : Int32) : ∀ (f i : Nat) (b : Int32), zt_fnd x k f i b = zfl k ((List.range' i f).map (fun j => (!decide (zt_isVisible x (nI j) = 0), x.2.2.2.2.2.2.2.2.1 j))) b := by
  intro f
  induction f with
  | zero => intro i b; rfl
  | succ f ih =>
    intro i b
    rw [zt_fnd, List.range'_succ, List.map_cons, zfl, ih, ih]
    by_cases h : zt_isVisible x (nI i) = 0
    · rw [if_pos h, if_neg (by simp [h])]
    · rw [if_neg h]; simp [h]
theorem zm_fnd_l (y : YS) (k : Int32) : ∀ (f i : Nat) (b : Int32), zm_fnd y k f i b = zfl k ((List.range' i f).map (fun j => (!decide (zm_visible y (nI j) = 0), nI (j + 1)))) b := by
  intro f
  induction f with
  | zero => intro i b; rfl
  | succ f ih =>
    intro i b
    rw [zm_fnd, List.range'_succ, List.map_cons, zfl, ih, ih, nI_1]
    by_cases h : zm_visible y (nI i) = 0
    · rw [if_pos h, if_neg (by simp [h])]
    · rw [if_neg h]; simp [h]
theorem zfl_filter (k : Int32) (p : Nat → Bool) (v : Nat → Bool) (h : Nat → Int32) : ∀ (l : List Nat) (b : Int32), (∀ i ∈ l, p i = false → v i = false) → zfl k (l.map (fun j => (v j, h j))) b = zfl k ((l.filter p).map (fun j => (v j, h j))) b := by
  intro l
  induction l with
  | nil => intro b _; rfl
  | cons a l ih =>
    intro b hp
    have ih2 := fun b => ih b (fun i hi => hp i (List.mem_cons_of_mem _ hi))
    cases c : p a with
    | true => rw [List.filter_cons_of_pos c, List.map_cons, List.map_cons, zfl, zfl, ih2, ih2]
    | false =>
      rw [List.filter_cons_of_neg (by simp [c]), List.map_cons, zfl, if_neg (by simp [hp a List.mem_cons_self c]), ih2]
-- sessions
def zop (a b c : Fin 3) : Int32 := ((if a = 0 then 0 else 1) ||| (if b = 0 then 0 else 2)) ||| (if c = 0 then 0 else 4)
def zrw (a b c : Fin 3) : Int32 := ((if a = 2 then 1 else 0) ||| (if b = 2 then 2 else 0)) ||| (if c = 2 then 4 else 0)
def zse (a b c : Fin 3) (k : Fin 3) : Fin 3 := if k = 0 then a else if k = 1 then b else c
def RS3 (ss : Nat → Int32) (op rw : Int32) : Prop := ∃ a b c : Fin 3, ss 0 = nI a.val ∧ ss 1 = nI b.val ∧ ss 2 = nI c.val ∧ op = zop a b c ∧ rw = zrw a b c
set_option maxRecDepth 100000 in
theorem zs_bit : ∀ a b c k : Fin 3, ((zop a b c &&& ((1 : Int32) <<< (nI k.val &&& 31))) = 0 ↔ zse a b c k = 0) ∧ ((zrw a b c &&& ((1 : Int32) <<< (nI k.val &&& 31))) = 0 ↔ ¬ zse a b c k = 2) := by decide +kernel
set_option maxRecDepth 100000 in
theorem zs_close : ∀ a b c k : Fin 3, (zop a b c &&& (((1 : Int32) <<< (nI k.val &&& 31)) ^^^ (-1))) = zop (if k = 0 then 0 else a) (if k = 1 then 0 else b) (if k = 2 then 0 else c) ∧ (zrw a b c &&& (((1 : Int32) <<< (nI k.val &&& 31)) ^^^ (-1))) = zrw (if k = 0 then 0 else a) (if k = 1 then 0 else b) (if k = 2 then 0 else c) := by decide +kernel
theorem zs_zero : ∀ a b c : Fin 3, (zop a b c = 0 ↔ (nI a.val + nI b.val) + nI c.val = 0) := by decide +kernel
theorem zs_eq : ∀ a b c : Fin 3, (zop a b c = zrw a b c ↔ (¬ a = 1 ∧ ¬ b = 1 ∧ ¬ c = 1)) := by decide +kernel
theorem zs_v : ∀ a : Fin 3, (nI a.val = 0 ↔ a = 0) ∧ (nI a.val = 1 ↔ a = 1) ∧ (nI a.val = 2 ↔ a = 2) ∧ (nI a.val ≤ 0 ↔ a = 0) := by decide +kernel
theorem zs_open0 : ∀ b c : Fin 3, zop 0 b c ||| 1 = zop 1 b c ∧ zrw 0 b c = zrw 1 b c ∧ zop 0 b c ||| 1 = zop 2 b c ∧ zrw 0 b c ||| 1 = zrw 2 b c := by decide +kernel
theorem zs_open1 : ∀ a c : Fin 3, zop a 0 c ||| 2 = zop a 1 c ∧ zrw a 0 c = zrw a 1 c ∧ zop a 0 c ||| 2 = zop a 2 c ∧ zrw a 0 c ||| 2 = zrw a 2 c := by decide +kernel
theorem zs_open2 : ∀ a b : Fin 3, zop a b 0 ||| 4 = zop a b 1 ∧ zrw a b 0 = zrw a b 1 ∧ zop a b 0 ||| 4 = zop a b 2 ∧ zrw a b 0 ||| 4 = zrw a b 2 := by decide +kernel
theorem zs_status : ∀ a b c : Fin 3, zop a b c + (8 * zrw a b c) = ((((((0 + (if (nI a.val) ≤ 0 then 0 else 1)) + (if (nI a.val) = 2 then 8 else 0)) + (if (nI b.val) ≤ 0 then 0 else 2)) + (if (nI b.val) = 2 then 16 else 0)) + (if (nI c.val) ≤ 0 then 0 else 4)) + (if (nI c.val) = 2 then 32 else 0)) := by decide +kernel
theorem zse_ss {ss : Nat → Int32} {a b c k : Fin 3} (h0 : ss 0 = nI a.val) (h1 : ss 1 = nI b.val) (h2 : ss 2 = nI c.val) : ss k.val = nI (zse a b c k).val := by
  match k with
  | 0 => exact h0
  | 1 => exact h1
  | 2 => exact h2
/-- a session number: none, or one of three -/
theorem zs_num (g : Int32) : (g < 0 ∨ (¬ g < 0 ∧ 3 ≤ g ∧ 2 < g)) ∨ (¬ g < 0 ∧ ¬ 3 ≤ g ∧ ¬ 2 < g ∧ ∃ k : Fin 3, g = nI k.val ∧ Int32.toNatClampNeg g = k.val) := by
  by_cases h0 : g < 0
  · exact Or.inl (Or.inl h0)
  obtain ⟨j, hj, rfl⟩ := nI_of h0
  by_cases h : j < 3
  · refine Or.inr ⟨h0, fun q => ?_, fun q => ?_, ⟨j, h⟩, rfl, nI_clamp hj⟩
    · have q2 : nI 3 ≤ nI j := q
      rw [nI_leI (by decide) hj] at q2; omega
    · have q2 : nI 2 < nI j := q
      rw [nI_ltI (by decide) hj] at q2; omega
  · refine Or.inl (Or.inr ⟨h0, ?_, ?_⟩)
    · show nI 3 ≤ nI j
      rw [nI_leI (by decide) hj]; omega
    · show nI 2 < nI j
      rw [nI_ltI (by decide) hj]; omega
-- words
theorem zw_half_eq (k r x : Int32) : zw_half k r x = zm_half k r x := rfl
theorem zw_enc_eq (k w : Int32) : zm_rounds k w 1 = zw_enc k w := by
  have h : ¬ (1 : Int32) = 0 := by decide
  simp only [zm_rounds, zw_enc, if_neg h, zw_half_eq]
theorem zw_dec_eq (k w : Int32) : zm_rounds k w 0 = zw_dec k w := by
  simp only [zm_rounds, zw_dec, if_true, zw_half_eq]
theorem zw_mac_eq (k w : Int32) : zm_mac k w = zw_mac k w := by
  simp only [zm_mac, zw_mac, zw_byteOf, show (8 : Int32) * 0 = 0 by decide, show (8 : Int32) * 1 = 8 by decide, show (8 : Int32) * 2 = 16 by decide, show (8 : Int32) * 3 = 24 by decide]
-- long answers
theorem zu32 (w : Int32) : ((0 ≤ w → (uN w.toInt64 : Int) = w.toInt) ∧ (¬ 0 ≤ w → (uN w.toInt64 : Int) = w.toInt + 18446744073709551616)) ∧ -2147483648 ≤ w.toInt ∧ w.toInt < 2147483648 ∧ (0 ≤ w ↔ 0 ≤ w.toInt) := by
  have h := uN_int w.toInt64
  rw [Int32.toInt_toInt64] at h
  have b1 := Int32.le_toInt w
  have b2 := Int32.toInt_lt w
  have b3 : 0 ≤ w ↔ 0 ≤ w.toInt := Int32.le_iff_toInt_le
  have b4 := uN_lt w.toInt64
  refine ⟨⟨fun q => ?_, fun q => ?_⟩, by omega, by omega, b3⟩
  · rw [b3] at q
    split at h <;> omega
  · rw [b3] at q
    split at h <;> omega
theorem zans_eq (w : Int32) : zt_answered w = zm_answer w := by
  obtain ⟨⟨h1, h2⟩, h3, h4, h5⟩ := zu32 w
  have hu := uN_lt w.toInt64
  apply uN_inj
  rw [zt_answered, uN_lo, zm_answer]
  by_cases h : 0 ≤ w
  · rw [if_pos h]
    have := h1 h
    omega
  · rw [if_neg h, uN_add, show uN 4294967296 = 4294967296 by decide]
    have := h2 h
    have h6 : ¬ 0 ≤ w.toInt := fun q => h (h5.mpr q)
    omega
theorem zshl_eq (x : Int64) : zlshl x 32 = x * 4294967296 := by
  obtain ⟨n, hn, rfl⟩ := wb_of x
  show lN n <<< ((nI 32).toInt64 &&& 63) = lN n * lN 4294967296
  rw [wb_shl n (by decide), lN_mul]
-- attributes
theorem zhas0 (g b : Int32) : zm_has g b = 0 ↔ g &&& b = 0 := by
  unfold zm_has
  by_cases h : g &&& b = 0
  · simp [h]
  · simp [h]
theorem zone {b : Int32} (i0 : Nat) (hb : ∀ i, i < 32 → bt b i = decide (i = i0)) (z : Int32) : z &&& b = 0 ∨ z &&& b = b := by
  cases h : bt z i0 with
  | false =>
    refine Or.inl (b_ext fun i hi => ?_)
    rw [b_and, hb i hi, b_0]
    by_cases e : i = i0
    · rw [e, h]; rfl
    · simp [e]
  | true =>
    refine Or.inr (b_ext fun i hi => ?_)
    rw [b_and, hb i hi]
    by_cases e : i = i0
    · rw [e, h]; rfl
    · simp [e]
theorem zadd_or {a b : Int32} (h : a &&& b = 0) : a + b = a ||| b :=
  Int32.toBitVec_inj.mp (by rw [Int32.toBitVec_add, Int32.toBitVec_or]; exact BitVec.add_eq_or_of_and_eq_zero _ _ (by rw [← Int32.toBitVec_and, h]; rfl))
theorem zbits_not {v b : Int32} (h : v &&& b = 0) : v &&& (b ^^^ (-1)) = v := b_ext fun i hi => by
  have h1 : bt (v &&& b) i = false := by rw [h, b_0]
  rw [b_and] at h1
  rw [b_and, b_xor, b_m1 i hi]
  revert h1
  cases bt v i <;> cases bt b i <;> decide
theorem zsub_not {v b : Int32} (h : v &&& b = b) : v - b = v &&& (b ^^^ (-1)) := by
  have e1 : (v &&& (b ^^^ (-1))) &&& b = 0 := b_ext fun i hi => by
    rw [b_and, b_and, b_xor, b_m1 i hi, b_0]
    cases bt v i <;> cases bt b i <;> decide
  have e2 : (v &&& (b ^^^ (-1))) ||| b = v := b_ext fun i hi => by
    have h1 : bt (v &&& b) i = bt b i := by rw [h]
    rw [b_and] at h1
    rw [b_or, b_and, b_xor, b_m1 i hi]
    revert h1
    cases bt v i <;> cases bt b i <;> decide
  have e3 := zadd_or e1
  rw [e2] at e3
  calc v - b = (v &&& (b ^^^ (-1))) + b - b := by rw [e3]
    _ = _ := Int32.add_sub_cancel ..
theorem zlim1_eq {b : Int32} (hb : ∀ z : Int32, z &&& b = 0 ∨ z &&& b = b) (g v : Int32) : zm_lim1 g b v = v &&& ((g &&& b) ^^^ (-1)) := by
  unfold zm_lim1
  by_cases h1 : g &&& b = 0
  · rw [if_pos ((zhas0 _ _).mpr h1), h1, zbits_not]
    exact b_ext fun i _ => by rw [b_and, b_0, Bool.and_false]
  · rw [if_neg (fun q => h1 ((zhas0 _ _).mp q)), (hb g).resolve_left h1]
    by_cases h2 : v &&& b = 0
    · rw [if_pos ((zhas0 _ _).mpr h2), zbits_not h2]
    · rw [if_neg (fun q => h2 ((zhas0 _ _).mp q)), zsub_not ((hb v).resolve_left h2)]
theorem zone4 (z : Int32) : z &&& 4 = 0 ∨ z &&& 4 = 4 := zone 2 (by decide +kernel) z
theorem z504 : ∀ i, i < 32 → bt 504 i = (bt 8 i || (bt 16 i || (bt 32 i || (bt 64 i || (bt 128 i || bt 256 i))))) := by decide +kernel
theorem zlim_eq (g v : Int32) : zm_lim1 g 256 (zm_lim1 g 128 (zm_lim1 g 64 (zm_lim1 g 32 (zm_lim1 g 16 (zm_lim1 g 8 v))))) = v &&& ((g &&& 504) ^^^ (-1)) := by
  rw [zlim1_eq (b := 256) (zone 8 (by decide +kernel)), zlim1_eq (b := 128) (zone 7 (by decide +kernel)), zlim1_eq (b := 64) (zone 6 (by decide +kernel)), zlim1_eq (b := 32) (zone 5 (by decide +kernel)), zlim1_eq (b := 16) (zone 4 (by decide +kernel)), zlim1_eq (b := 8) (zone 3 (by decide +kernel))]
  refine b_ext fun i hi => ?_
  simp only [b_and, b_xor, b_m1 i hi, z504 i hi]
  generalize bt v i = a
  generalize bt g i = c
  generalize bt 8 i = c1
  generalize bt 16 i = c2
  generalize bt 32 i = c3
  generalize bt 64 i = c4
  generalize bt 128 i = c5
  generalize bt 256 i = c6
  revert a c c1 c2 c3 c4 c5 c6
  decide
/-- what limit makes of attributes -/
theorem zlimit_eq (g v : Int32) : (if zm_has g 4 = 0 then v else if zm_has v 4 = 0 then v + 4 else v) = v ||| (g &&& 4) := by
  by_cases h1 : g &&& 4 = 0
  · rw [if_pos ((zhas0 _ _).mpr h1), h1]
    exact (b_ext fun i _ => by rw [b_or, b_0, Bool.or_false]).symm
  · rw [if_neg (fun q => h1 ((zhas0 _ _).mp q)), (zone4 g).resolve_left h1]
    by_cases h2 : v &&& 4 = 0
    · rw [if_pos ((zhas0 _ _).mpr h2), zadd_or h2]
    · rw [if_neg (fun q => h2 ((zhas0 _ _).mp q))]
      have h3 := (zone4 v).resolve_left h2
      refine b_ext fun i _ => ?_
      have h4 : bt (v &&& 4) i = bt 4 i := by rw [h3]
      rw [b_and] at h4
      rw [b_or]
      revert h4
      cases bt v i <;> cases bt 4 i <;> decide
theorem z1_504 : ∀ i, i < 32 → (bt 1 i && bt 504 i) = false ∧ (bt 1 i && bt 4 i) = false ∧ (bt 1 i && bt 512 i) = false := by decide +kernel
theorem zlim_tok (g v : Int32) : ((v &&& ((g &&& 504) ^^^ (-1))) ||| (g &&& 4)) &&& 1 = v &&& 1 := b_ext fun i hi => by
  simp only [b_and, b_or, b_xor, b_m1 i hi]
  have h := z1_504 i hi
  revert h
  cases bt v i <;> cases bt g i <;> cases bt 504 i <;> cases bt 4 i <;> cases bt 1 i <;> cases bt 512 i <;> decide
theorem ztrust_tok (v : Int32) : (v ||| 512) &&& 1 = v &&& 1 := b_ext fun i hi => by
  simp only [b_and, b_or]
  have h := z1_504 i hi
  revert h
  cases bt v i <;> cases bt 504 i <;> cases bt 4 i <;> cases bt 1 i <;> cases bt 512 i <;> decide
theorem zone512 (z : Int32) : z &&& 512 = 0 ∨ z &&& 512 = 512 := zone 9 (by decide +kernel) z
theorem ztrust_eq (v : Int32) : (if zm_has v 512 = 0 then v + 512 else v) = v ||| 512 := by
  by_cases h2 : v &&& 512 = 0
  · rw [if_pos ((zhas0 _ _).mpr h2), zadd_or h2]
  · rw [if_neg (fun q => h2 ((zhas0 _ _).mp q))]
    have h3 := (zone512 v).resolve_left h2
    refine b_ext fun i _ => ?_
    have h4 : bt (v &&& 512) i = bt 512 i := by rw [h3]
    rw [b_and] at h4
    rw [b_or]
    revert h4
    cases bt v i <;> cases bt 512 i <;> decide
set_option maxRecDepth 100000 in
theorem zgen_all : ∀ k : Fin 512, nI k.val ||| zt_originOf (nI k.val) = nI k.val + ((1024 + (if zm_has (nI k.val) 4 = 0 then 0 else 2048)) + (if zm_has (nI k.val) 8 = 0 then 4096 else 0)) := by decide +kernel
theorem zgood_eq (g : Int32) : zt_areGood g = zm_good g := by
  unfold zt_areGood zm_good zt_hasBoth zm_has
  repeat' split
  all_goals simp_all
theorem zgen_eq {g : Int32} (h : ¬ zt_areGood g = 0) : g ||| zt_originOf g = g + ((1024 + (if zm_has g 4 = 0 then 0 else 2048)) + (if zm_has g 8 = 0 then 4096 else 0)) := by
  unfold zt_areGood at h
  by_cases h1 : g < 0
  · rw [if_pos h1] at h; exact absurd rfl h
  · rw [if_neg h1] at h
    by_cases h2 : 511 < g
    · rw [if_pos h2] at h; exact absurd rfl h
    · obtain ⟨j, hj, rfl⟩ := nI_of h1
      have h3 : ¬ nI 511 < nI j := h2
      rw [nI_ltI (by decide) hj] at h3
      exact zgen_all ⟨j, by omega⟩
