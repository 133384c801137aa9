/-! ===== Int32 by its bits: bt x i ===== -/
def bt (x : Int32) (i : Nat) : Bool := x.toBitVec.getLsbD i
theorem b_ext {x y : Int32} (h : ∀ i, i < 32 → bt x i = bt y i) : x = y := Int32.toBitVec_inj.mp (BitVec.eq_of_getLsbD_eq (fun i hi => h i hi))
theorem b_or (x y : Int32) (i : Nat) : bt (x ||| y) i = (bt x i || bt y i) := by unfold bt; rw [Int32.toBitVec_or, BitVec.getLsbD_or]
theorem b_and (x y : Int32) (i : Nat) : bt (x &&& y) i = (bt x i && bt y i) := by unfold bt; rw [Int32.toBitVec_and, BitVec.getLsbD_and]
theorem b_xor (x y : Int32) (i : Nat) : bt (x ^^^ y) i = (bt x i ^^ bt y i) := by unfold bt; rw [Int32.toBitVec_xor, BitVec.getLsbD_xor]
theorem b_big {x : Int32} {i : Nat} (h : 32 ≤ i) : bt x i = false := BitVec.getLsbD_of_ge _ _ h
theorem b_m1 : ∀ i, i < 32 → bt (-1) i = true := by decide +kernel
theorem b_0 (i : Nat) : bt 0 i = false := BitVec.getLsbD_zero
/-! ===== lN n to 2^64: shifts, and, or, masks, one bit ===== -/
theorem wb_tb (n : Nat) : (lN n).toBitVec = BitVec.ofNat 64 n := rfl
theorem wb_inj {a b : Int64} (h : a.toBitVec = b.toBitVec) : a = b := Int64.toBitVec_inj.mp h
theorem wb_tn {n : Nat} (h : n < 2 ^ 64) : (lN n).toBitVec.toNat = n := by rw [wb_tb, BitVec.toNat_ofNat, Nat.mod_eq_of_lt h]
theorem wb_of (x : Int64) : ∃ n, n < 2 ^ 64 ∧ x = lN n := ⟨x.toBitVec.toNat, x.toBitVec.isLt, wb_inj (by rw [wb_tb]; simp)⟩
theorem wb_of32 (x : Int32) : ∃ n, n < 2 ^ 32 ∧ x = nI n := ⟨x.toBitVec.toNat, x.toBitVec.isLt, Int32.toBitVec_inj.mp (by show _ = BitVec.ofNat 32 _; simp)⟩
theorem wb_c : ∀ k, k < 64 → ((nI k).toInt64 &&& 63) = lN k := by decide +kernel
theorem wb_cu : ∀ k, k < 64 → ((nI k).toInt64.toUInt64 &&& Int64.toUInt64 63) = UInt64.ofNat k := by decide +kernel
theorem wb_sm : ∀ k, k < 64 → (BitVec.ofNat 64 k).smod 64 = BitVec.ofNat 64 k := by decide +kernel
theorem wb_pw {a b : Nat} (h : a ≤ b) : 2 ^ b = 2 ^ a * 2 ^ (b - a) := by rw [← Nat.pow_add]; congr 1; omega
theorem wb_lt2 {a b : Nat} (h : a < b) : 2 ^ a < 2 ^ b := Nat.pow_lt_pow_right (by decide) h
theorem wb_mod (n : Nat) : lN n = lN (n % 2 ^ 64) := wb_inj (by rw [wb_tb, wb_tb]; apply BitVec.eq_of_toNat_eq; rw [BitVec.toNat_ofNat, BitVec.toNat_ofNat, Nat.mod_mod])
theorem wb_shr {n k : Nat} (hn : n < 2 ^ 64) (hk : k < 64) : ((lN n).toUInt64 >>> ((nI k).toInt64.toUInt64 &&& Int64.toUInt64 63)).toInt64 = lN (n / 2 ^ k) := by
  rw [wb_cu k hk]
  apply wb_inj
  apply BitVec.eq_of_toNat_eq
  show ((lN n).toUInt64 >>> UInt64.ofNat k).toNat = (BitVec.ofNat 64 _).toNat
  have h1 : (UInt64.ofNat k).toNat = k := by
    show (BitVec.ofNat 64 k).toNat = k
    rw [BitVec.toNat_ofNat, Nat.mod_eq_of_lt (by omega)]
  have h2 : (lN n).toUInt64.toNat = n := wb_tn hn
  rw [UInt64.toNat_shiftRight, h1, h2, Nat.mod_eq_of_lt hk, Nat.shiftRight_eq_div_pow, BitVec.toNat_ofNat, Nat.mod_eq_of_lt (Nat.lt_of_le_of_lt (Nat.div_le_self _ _) hn)]
theorem wb_shl (n : Nat) {k : Nat} (hk : k < 64) : lN n <<< ((nI k).toInt64 &&& 63) = lN (n * 2 ^ k) := by
  rw [wb_c k hk]
  apply wb_inj
  rw [Int64.toBitVec_shiftLeft, wb_tb, wb_tb, wb_tb, wb_sm k hk]
  apply BitVec.eq_of_toNat_eq
  rw [BitVec.shiftLeft_eq', BitVec.toNat_shiftLeft, BitVec.toNat_ofNat, BitVec.toNat_ofNat, BitVec.toNat_ofNat, Nat.mod_eq_of_lt (show k < 2 ^ 64 by omega), Nat.shiftLeft_eq, Nat.mul_mod, Nat.mod_mod, ← Nat.mul_mod]
/-! ===== Int64 as an unsigned number: uN x ===== -/
def uN (x : Int64) : Nat := x.toUInt64.toNat
theorem uN_lt (x : Int64) : uN x < 18446744073709551616 := x.toUInt64.toNat_lt
theorem uN_inj {x y : Int64} (h : uN x = uN y) : x = y := congrArg UInt64.toInt64 (UInt64.toNat_inj.mp h)
theorem uN_add (x y : Int64) : uN (x + y) = (uN x + uN y) % 18446744073709551616 := by
  show (x.toUInt64 + y.toUInt64).toNat = _
  exact UInt64.toNat_add _ _
theorem uN_mul (x y : Int64) : uN (x * y) = (uN x * uN y) % 18446744073709551616 := by
  show (x.toUInt64 * y.toUInt64).toNat = _
  exact UInt64.toNat_mul _ _
theorem uN_lo (x : Int64) : uN (x &&& 4294967295) = uN x % 4294967296 := by
  show (x.toUInt64 &&& Int64.toUInt64 4294967295).toNat = _
  rw [UInt64.toNat_and]
  exact Nat.and_two_pow_sub_one_eq_mod _ 32
theorem uN_int (x : Int64) : x.toInt = if 2 * uN x < 18446744073709551616 then (uN x : Int) else (uN x : Int) - 18446744073709551616 := BitVec.toInt_eq_toNat_cond _
/-! The class's keys and the reference's: rows of one list. -/
abbrev Rw : Type := Int32 × Int32 × Int32 × Int32
def zrows (K : KS) : List Rw := (List.range K.1).map (fun j => (K.2.2.1 j, K.2.2.2.1 j, K.2.2.2.2.1 j, K.2.2.2.2.2 j))
def zlive (t : Nat → Int32) (n : Nat) : List Nat := (List.range n).filter (fun i => decide (¬ t i = 0))
def zrow (vl ow mk : Nat → Int32) (i : Nat) : Rw := (nI (i + 1), mk i, vl i, if mk i &&& 1 = 0 then ow i else -1)
theorem zrows_len (K : KS) : (zrows K).length = K.1 := by simp [zrows]
theorem zrows_get {K : KS} {j : Nat} (h : j < K.1) : (zrows K)[j]? = some (K.2.2.1 j, K.2.2.2.1 j, K.2.2.2.2.1 j, K.2.2.2.2.2 j) := by
  simp [zrows, h]
theorem zrows_none {K : KS} {j : Nat} (h : K.1 ≤ j) : (zrows K)[j]? = none := by
  simp [zrows, h]
theorem zlive_nodup (t : Nat → Int32) (n : Nat) : (zlive t n).Nodup := List.Pairwise.filter _ List.nodup_range
theorem zlive_mem {t : Nat → Int32} {n i : Nat} : i ∈ zlive t n ↔ i < n ∧ ¬ t i = 0 := by
  simp [zlive]
theorem zlive_inj {t : Nat → Int32} {n i j k : Nat} (h1 : (zlive t n)[j]? = some i) (h2 : (zlive t n)[k]? = some i) : j = k := by
  have hl : j < (zlive t n).length := (List.getElem?_eq_some_iff.mp h1).1
  exact (List.getElem?_inj hl (zlive_nodup t n)).mp (by rw [h1, h2])
/-- what the class's keys and the reference's have to do with each other -/
def RK (K : KS) (n : Nat) (t vl ow mk : Nat → Int32) : Prop := K.1 ≤ 10 ∧ K.2.1 = nI n ∧ zrows K = (zlive t n).map (zrow vl ow mk)
theorem RK.len {K : KS} {n : Nat} {t vl ow mk : Nat → Int32} (h : RK K n t vl ow mk) : K.1 = (zlive t n).length := by
  rw [← zrows_len, h.2.2, List.length_map]
theorem RK.at {K : KS} {n : Nat} {t vl ow mk : Nat → Int32} (h : RK K n t vl ow mk) {j : Nat} (hj : j < K.1) : ∃ i, (zlive t n)[j]? = some i ∧ i < n ∧ ¬ t i = 0 ∧ K.2.2.1 j = nI (i + 1) ∧ K.2.2.2.1 j = mk i ∧ K.2.2.2.2.1 j = vl i ∧ K.2.2.2.2.2 j = (if mk i &&& 1 = 0 then ow i else -1) := by
  have h1 := zrows_get hj
  rw [h.2.2, List.getElem?_map] at h1
  cases hi : (zlive t n)[j]? with
  | none => rw [hi] at h1; cases h1
  | some i =>
    rw [hi] at h1
    have h2 := Option.some.inj h1
    have h3 := zlive_mem.mp (List.mem_of_getElem? hi)
    simp only [zrow, Prod.mk.injEq] at h2
    exact ⟨i, rfl, h3.1, h3.2, h2.1.symm, h2.2.1.symm, h2.2.2.1.symm, h2.2.2.2.symm⟩
theorem RK.mem {K : KS} {n : Nat} {t vl ow mk : Nat → Int32} (h : RK K n t vl ow mk) {i : Nat} (hi : i < n) (ht : ¬ t i = 0) : ∃ j, j < K.1 ∧ (zlive t n)[j]? = some i := by
  obtain ⟨j, hj⟩ := List.getElem?_of_mem (zlive_mem.mpr ⟨hi, ht⟩)
  exact ⟨j, by rw [h.len]; exact (List.getElem?_eq_some_iff.mp hj).1, hj⟩
theorem zk_find_spec (hs : Nat → Int32) (g : Int32) : ∀ f i, (zk_find hs g f i = -1 ∧ ∀ j, i ≤ j → j < i + f → ¬ hs j = g) ∨ ∃ j, i ≤ j ∧ j < i + f ∧ hs j = g ∧ zk_find hs g f i = nI j := by
  intro f
  induction f with
  | zero => intro i; exact Or.inl ⟨rfl, fun j h1 h2 => by omega⟩
  | succ f ih =>
    intro i
    rw [zk_find]
    by_cases h : hs i = g
    · rw [if_pos h]; exact Or.inr ⟨i, by omega, by omega, h, rfl⟩
    · rw [if_neg h]
      rcases ih (i + 1) with ⟨e, h2⟩ | ⟨j, h1, h2, h3, e⟩
      · refine Or.inl ⟨e, fun j h3 h4 => ?_⟩
        by_cases hj : j = i
        · rw [hj]; exact h
        · exact h2 j (by omega) (by omega)
      · exact Or.inr ⟨j, by omega, by omega, h3, e⟩
/-- the row of a handle: none, and then the reference has none; or one, and the key there is the reference's -/
theorem RK.row {K : KS} {n : Nat} {t vl ow mk : Nat → Int32} (h : RK K n t vl ow mk) (hN : n ≤ 512) (g : Int32) :
    (zk_rowWith K g = -1 ∧ (g < 1 ∨ nI n < g ∨ t (Int32.toNatClampNeg (g - 1)) = 0)) ∨
    ∃ i j, zk_rowWith K g = nI j ∧ j < K.1 ∧ i < n ∧ g = nI (i + 1) ∧ (zlive t n)[j]? = some i ∧ ¬ t i = 0 ∧ K.2.2.2.1 j = mk i ∧ K.2.2.2.2.1 j = vl i := by
  rcases zk_find_spec K.2.2.1 g K.1 0 with ⟨e, hno⟩ | ⟨j, h1, h2, h3, e⟩
  · refine Or.inl ⟨e, ?_⟩
    by_cases a1 : g < 1
    · exact Or.inl a1
    by_cases a2 : nI n < g
    · exact Or.inr (Or.inl a2)
    refine Or.inr (Or.inr ?_)
    have h0 : ¬ g < 0 := fun q => a1 (Int32.lt_trans q (by decide))
    obtain ⟨k, hk, rfl⟩ := nI_of h0
    have a3 : ¬ nI k < nI 1 := a1
    rw [nI_ltI hk (by decide)] at a3
    rw [nI_ltI (by omega) hk] at a2
    obtain ⟨i, rfl⟩ : ∃ i, k = i + 1 := ⟨k - 1, by omega⟩
    rw [nI_pred, nI_clamp (by omega)]
    apply Classical.byContradiction
    intro ht
    obtain ⟨j, hj, hl⟩ := h.mem (i := i) (by omega) ht
    obtain ⟨i', hl', -, -, hh, -⟩ := h.at hj
    rw [hl] at hl'
    have := Option.some.inj hl'
    subst this
    exact hno j (by omega) (by omega) hh
  · have hj : j < K.1 := by omega
    obtain ⟨i, hl, hi, ht, hh, ha, hv, -⟩ := h.at hj
    exact Or.inr ⟨i, j, e, hj, hi, by rw [← h3, hh], hl, ht, ha, hv⟩
theorem zk_has_at {K : KS} {j : Nat} (hn : K.1 ≤ 10) (hj : j < K.1) (b : Int32) : zk_has K (nI j) b = zm_has (K.2.2.2.1 j) b := by
  rw [zk_has, if_neg (nI_pos (by omega)), if_neg (nI_ge hj (by omega)), nI_clamp (by omega), zm_has]
/-- an attribute is changed in both -/
theorem RK.setA {K : KS} {n : Nat} {t vl ow mk : Nat → Int32} (h : RK K n t vl ow mk) {i j : Nat} (hj : j < K.1) (hl : (zlive t n)[j]? = some i) (v : Int32) (hv : v &&& 1 = 0 ↔ mk i &&& 1 = 0) : RK (K.1, K.2.1, K.2.2.1, upd K.2.2.2.1 j v, K.2.2.2.2.1, K.2.2.2.2.2) n t vl ow (upd mk i v) := by
  refine ⟨h.1, h.2.1, List.ext_getElem? fun k => ?_⟩
  by_cases hk : k < K.1
  · rw [zrows_get (K := (K.1, K.2.1, K.2.2.1, upd K.2.2.2.1 j v, K.2.2.2.2.1, K.2.2.2.2.2)) hk, List.getElem?_map]
    obtain ⟨i', hl', -, -, hh, ha, hv', ho⟩ := h.at hk
    rw [hl']
    show some _ = some (zrow vl ow (upd mk i v) i')
    by_cases e : k = j
    · subst e
      rw [hl] at hl'
      have := Option.some.inj hl'
      subst this
      simp only [zrow, pk_us, hh, hv', ho, hv]
    · have e2 : i' ≠ i := fun q => e (zlive_inj hl' (q ▸ hl))
      simp only [zrow, pk_un e, pk_un e2, hh, ha, hv', ho]
  · rw [zrows_none (K := (K.1, K.2.1, K.2.2.1, upd K.2.2.2.1 j v, K.2.2.2.2.1, K.2.2.2.2.2)) (Nat.le_of_not_lt hk)]
    rw [List.getElem?_eq_none (by rw [List.length_map, ← h.len]; omega)]
theorem zrow_congr {vl ow mk vl' ow' mk' : Nat → Int32} {l : List Nat} (h : ∀ i ∈ l, vl i = vl' i ∧ ow i = ow' i ∧ mk i = mk' i) : l.map (zrow vl ow mk) = l.map (zrow vl' ow' mk') := by
  refine List.map_congr_left fun i hi => ?_
  obtain ⟨h1, h2, h3⟩ := h i hi
  simp only [zrow, h1, h2, h3]
/-- a key is added in both -/
theorem RK.add {K : KS} {n : Nat} {t vl ow mk : Nat → Int32} (h : RK K n t vl ow mk) (hK : K.1 < 10) (a v s : Int32) : RK (zk_add K a v s).2 (n + 1) (upd t n 1) (upd vl n v) (upd ow n s) (upd mk n a) ∧ (zk_add K a v s).1 = nI (n + 1) := by
  have hlt : nI K.1 < 10 := nI_lt (b := 10) hK (by decide)
  rw [zk_add, if_pos hlt]
  refine ⟨⟨hK, by show K.2.1 + 1 = _; rw [h.2.1, nI_1], ?_⟩, by show K.2.1 + 1 = _; rw [h.2.1, nI_1]⟩
  have e1 : zlive (upd t n 1) (n + 1) = zlive t n ++ [n] := by
    simp only [zlive, List.range_succ, List.filter_append]
    congr 1
    · refine List.filter_congr fun i hi => ?_
      rw [pk_un (Nat.ne_of_lt (List.mem_range.mp hi))]
    · simp [pk_us]
  rw [e1, List.map_append]
  have e2 : (zlive t n).map (zrow (upd vl n v) (upd ow n s) (upd mk n a)) = zrows K := by
    rw [h.2.2]
    refine zrow_congr fun i hi => ?_
    have := Nat.ne_of_lt (zlive_mem.mp hi).1
    exact ⟨pk_un this, pk_un this, pk_un this⟩
  rw [e2]
  simp only [zrows, List.range_succ, List.map_append, List.map_cons, List.map_nil]
  congr 1
  · refine List.map_congr_left fun i hi => ?_
    have := Nat.ne_of_lt (List.mem_range.mp hi)
    simp only [pk_un this]
  · simp only [zrow, pk_us, h.2.1, nI_1]
theorem zk_shift_at : ∀ (k i : Nat) (f : Nat → Int32) (p : Nat), zk_shift k i f p = if i ≤ p ∧ p < i + k then f (p + 1) else f p := by
  intro k
  induction k with
  | zero => intro i f p; rw [zk_shift, if_neg (by omega)]
  | succ k ih =>
    intro i f p
    rw [zk_shift, ih]
    by_cases h1 : i + 1 ≤ p ∧ p < i + 1 + k
    · rw [if_pos h1, if_pos (by omega), pk_un (by omega)]
    · rw [if_neg h1]
      by_cases h2 : p = i
      · subst h2; rw [pk_us, if_pos (by omega)]
      · rw [pk_un h2, if_neg (by omega)]
theorem zrows_remove {K : KS} {g : Nat} (hg : g < K.1) : zrows (zk_removeRow K g) = (zrows K).eraseIdx g := by
  refine List.ext_getElem? fun k => ?_
  rw [List.getElem?_eraseIdx]
  by_cases hk : k < K.1 - 1
  · rw [zrows_get (K := zk_removeRow K g) hk]
    show some (zk_shift _ _ _ k, zk_shift _ _ _ k, zk_shift _ _ _ k, zk_shift _ _ _ k) = _
    simp only [zk_shift_at]
    by_cases h : k < g
    · rw [if_pos h, zrows_get (by omega)]
      simp only [show ¬ (g ≤ k ∧ k < g + (K.1 - 1 - g)) by omega, if_false]
    · rw [if_neg h, zrows_get (by omega)]
      simp only [if_pos (show (g ≤ k ∧ k < g + (K.1 - 1 - g)) by omega)]
  · rw [zrows_none (K := zk_removeRow K g) (Nat.le_of_not_lt hk), if_neg (by omega), zrows_none (by omega)]
theorem filter_ne_erase {i : Nat} : ∀ {l : List Nat} {j : Nat}, l.Nodup → l[j]? = some i → l.filter (fun a => decide (¬ a = i)) = l.eraseIdx j := by
  intro l
  induction l with
  | nil => intro j _ h; cases h
  | cons a l ih =>
    intro j hn h
    rw [List.nodup_cons] at hn
    cases j with
    | zero =>
      have e : a = i := by simpa using h
      subst e
      rw [List.eraseIdx_cons_zero, List.filter_cons_of_neg (by simp)]
      exact List.filter_eq_self.mpr fun b hb => by
        simp only [decide_eq_true_eq]
        intro q; exact hn.1 (q ▸ hb)
    | succ j =>
      have h2 : l[j]? = some i := by simpa using h
      have e : ¬ a = i := fun q => hn.1 (q ▸ List.mem_of_getElem? h2)
      rw [List.eraseIdx_cons_succ, List.filter_cons_of_pos (by simpa using e), ih hn.2 h2]
/-- a key is removed in both -/
theorem RK.remove {K : KS} {n : Nat} {t vl ow mk : Nat → Int32} (h : RK K n t vl ow mk) {i j : Nat} (hj : j < K.1) (hl : (zlive t n)[j]? = some i) : RK (zk_removeRow K j) n (upd t i 0) vl ow mk := by
  have h1 := h.1
  refine ⟨by show K.1 - 1 ≤ 10; omega, h.2.1, ?_⟩
  have e : zlive (upd t i 0) n = (zlive t n).eraseIdx j := by
    rw [← filter_ne_erase (zlive_nodup t n) hl]
    simp only [zlive, List.filter_filter]
    refine List.filter_congr fun k _ => ?_
    by_cases hk : k = i
    · subst hk; simp [pk_us]
    · rw [pk_un hk]; simp [hk]
  rw [zrows_remove hj, e, h.2.2]
  refine List.ext_getElem? fun k => ?_
  rw [List.getElem?_eraseIdx, List.getElem?_map, List.getElem?_map, List.getElem?_map, List.getElem?_eraseIdx]
  split <;> rfl
/-- rows that fit are removed, from the last to the first -/
def zk_rem (p : Rw → Bool) : Nat → KS → KS
  | 0, K => K
  | f + 1, K => zk_rem p f (if p (K.2.2.1 f, K.2.2.2.1 f, K.2.2.2.2.1 f, K.2.2.2.2.2 f) = true then zk_removeRow K f else K)
theorem zk_rem_rows (p : Rw → Bool) : ∀ (f : Nat) (K : KS), f ≤ K.1 → K.1 ≤ 10 → zrows (zk_rem p f K) = ((zrows K).take f).filter (fun w => !p w) ++ (zrows K).drop f ∧ (zk_rem p f K).1 ≤ 10 ∧ (zk_rem p f K).2.1 = K.2.1 := by
  intro f
  induction f with
  | zero => intro K _ h; exact ⟨by simp [zk_rem], h, rfl⟩
  | succ f ih =>
    intro K hf h
    have hg := zrows_get (K := K) (j := f) (by omega)
    have hlt : f < (zrows K).length := by rw [zrows_len]; omega
    have hg2 : (zrows K)[f] = (K.2.2.1 f, K.2.2.2.1 f, K.2.2.2.2.1 f, K.2.2.2.2.2 f) := by
      rw [List.getElem?_eq_getElem hlt] at hg; exact Option.some.inj hg
    rw [zk_rem]
    have et : (zrows K).take (f + 1) = (zrows K).take f ++ [(K.2.2.1 f, K.2.2.2.1 f, K.2.2.2.2.1 f, K.2.2.2.2.2 f)] := by
      rw [← hg2]; exact (List.take_append_getElem hlt).symm
    by_cases hp : p (K.2.2.1 f, K.2.2.2.1 f, K.2.2.2.2.1 f, K.2.2.2.2.2 f) = true
    · rw [if_pos hp]
      obtain ⟨a1, a2, a3⟩ := ih (zk_removeRow K f) (by show f ≤ K.1 - 1; omega) (by show K.1 - 1 ≤ 10; omega)
      refine ⟨?_, a2, a3⟩
      rw [a1, zrows_remove (by omega), et, List.filter_append]
      rw [List.eraseIdx_eq_take_drop_succ]
      rw [List.take_append_of_le_length (by rw [List.length_take]; omega), List.take_take, Nat.min_self]
      rw [List.drop_append_of_le_length (by rw [List.length_take]; omega)]
      rw [List.drop_eq_nil_of_le (by rw [List.length_take]; omega)]
      simp [hp]
    · rw [if_neg hp]
      obtain ⟨a1, a2, a3⟩ := ih K (by omega) h
      refine ⟨?_, a2, a3⟩
      rw [a1, et, List.filter_append, List.append_assoc]
      congr 1
      rw [List.filter_cons_of_pos (by simp [hp]), List.filter_nil, ← hg2]
      exact (List.drop_eq_getElem_cons hlt)
theorem zk_rem_all (p : Rw → Bool) (K : KS) (h : K.1 ≤ 10) : zrows (zk_rem p K.1 K) = (zrows K).filter (fun w => !p w) ∧ (zk_rem p K.1 K).1 ≤ 10 ∧ (zk_rem p K.1 K).2.1 = K.2.1 := by
  obtain ⟨a1, a2, a3⟩ := zk_rem_rows p K.1 K (Nat.le_refl _) h
  refine ⟨?_, a2, a3⟩
  rw [a1, List.take_of_length_le (by rw [zrows_len]; exact Nat.le_refl _), List.drop_eq_nil_of_le (by rw [zrows_len]; exact Nat.le_refl _), List.append_nil]
theorem zk_rob_rem (g : Int32) : ∀ (f : Nat) (K : KS), zk_rob g f K = zk_rem (fun w => decide (w.2.2.2 = g)) f K := by
  intro f
  induction f with
  | zero => intro K; rfl
  | succ f ih => intro K; rw [zk_rob, zk_rem, ih]; simp only [decide_eq_true_eq]
theorem zk_rps_rem : ∀ (f : Nat) (K : KS), f ≤ K.1 → K.1 ≤ 10 → zk_rps f K = zk_rem (fun w => !decide (zm_has w.2.1 2 = 0) && decide (zm_has w.2.1 1 = 0)) f K := by
  intro f
  induction f with
  | zero => intro K _ _; rfl
  | succ f ih =>
    intro K hf h
    rw [zk_rps, zk_rem, zk_has_at h (by omega), zk_has_at h (by omega)]
    by_cases h2 : zm_has (K.2.2.2.1 f) 2 = 0
    · rw [if_pos h2, if_neg (by simp [h2]), ih K (by omega) h]
    · rw [if_neg h2]
      by_cases h1 : zm_has (K.2.2.2.1 f) 1 = 0
      · rw [if_pos h1, if_pos (by simp [h2, h1]), ih _ (by show f ≤ K.1 - 1; omega) (by show K.1 - 1 ≤ 10; omega)]
      · rw [if_neg h1, if_neg (by simp [h1]), ih K (by omega) h]
/-- keys are removed in both -/
theorem RK.filter {K : KS} {n : Nat} {t t' vl ow mk : Nat → Int32} (h : RK K n t vl ow mk) (p : Rw → Bool) (ht : ∀ i, i < n → (¬ t' i = 0 ↔ ¬ t i = 0 ∧ p (zrow vl ow mk i) = false)) : RK (zk_rem p K.1 K) n t' vl ow mk := by
  obtain ⟨a1, a2, a3⟩ := zk_rem_all p K h.1
  refine ⟨a2, by rw [a3, h.2.1], ?_⟩
  rw [a1, h.2.2, List.filter_map]
  congr 1
  simp only [zlive, List.filter_filter]
  refine List.filter_congr fun i hi => ?_
  have := ht i (List.mem_range.mp hi)
  by_cases c1 : t' i = 0 <;> by_cases c2 : t i = 0 <;> cases c3 : p (zrow vl ow mk i) <;> simp_all
