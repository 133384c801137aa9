abbrev RS : Type := Int32 × Int32
/-- size, made, handles, attributes, values, owners -/
abbrev KS : Type := Nat × Int32 × (Nat → Int32) × (Nat → Int32) × (Nat → Int32) × (Nat → Int32)
/-- user role, officer role, logged in, generated, open sessions, read-write sessions, keys -/
abbrev XS : Type := RS × RS × Int32 × Int32 × Int32 × Int32 × KS
/-- sessions, inside, pins, failures, made, generated, there, value, owner, marks -/
abbrev YS : Type := (Nat → Int32) × Int32 × (Nat → Int32) × (Nat → Int32) × Nat × Int32 × (Nat → Int32) × (Nat → Int32) × (Nat → Int32) × (Nat → Int32)
abbrev wR (ra : Nat) (r : RS) : va_W := [(ra, .inr (1, [.int r.1, .int r.2]))]
abbrev wK (cI : ClassId) (ak a1 a2 a3 a4 : Nat) (K : KS) : va_W := [(ak, .inr (2, [.ref a1, .ref a2, .ref a3, .ref a4, .int (nI K.1), .int K.2.1])), (a1, .inl (cI, 10, .inl K.2.2.1)), (a2, .inl (cI, 10, .inl K.2.2.2.1)), (a3, .inl (cI, 10, .inl K.2.2.2.2.1)), (a4, .inl (cI, 10, .inl K.2.2.2.2.2))]
abbrev wX (cI : ClassId) (ao au af ak a1 a2 a3 a4 : Nat) (x : XS) : va_W := [(ao, .inr (0, [.ref au, .ref af, .ref ak, .int x.2.2.1, .int x.2.2.2.1, .int x.2.2.2.2.1, .int x.2.2.2.2.2.1])), (au, .inr (1, [.int x.1.1, .int x.1.2])), (af, .inr (1, [.int x.2.1.1, .int x.2.1.2])), (ak, .inr (2, [.ref a1, .ref a2, .ref a3, .ref a4, .int (nI x.2.2.2.2.2.2.1), .int x.2.2.2.2.2.2.2.1])), (a1, .inl (cI, 10, .inl x.2.2.2.2.2.2.2.2.1)), (a2, .inl (cI, 10, .inl x.2.2.2.2.2.2.2.2.2.1)), (a3, .inl (cI, 10, .inl x.2.2.2.2.2.2.2.2.2.2.1)), (a4, .inl (cI, 10, .inl x.2.2.2.2.2.2.2.2.2.2.2))]
abbrev wY (cI : ClassId) (cZ : ClassId) (bo b1 b2 b3 b4 b5 b6 b7 : Nat) (y : YS) : va_W := [(bo, .inr (3, [.ref b1, .int y.2.1, .ref b2, .ref b3, .int (nI y.2.2.2.2.1), .int y.2.2.2.2.2.1, .ref b4, .ref b5, .ref b6, .ref b7])), (b1, .inl (cI, 3, .inl y.1)), (b2, .inl (cI, 3, .inl y.2.2.1)), (b3, .inl (cI, 3, .inl y.2.2.2.1)), (b4, .inl (cZ, 512, .inl y.2.2.2.2.2.2.1)), (b5, .inl (cI, 512, .inl y.2.2.2.2.2.2.2.1)), (b6, .inl (cI, 512, .inl y.2.2.2.2.2.2.2.2.1)), (b7, .inl (cI, 512, .inl y.2.2.2.2.2.2.2.2.2))]

theorem kz0 : (0 : Int32) = 0 ∨ (0 : Int32) = 1 := Or.inl rfl
theorem kz1 : (1 : Int32) = 0 ∨ (1 : Int32) = 1 := Or.inr rfl
theorem kz_ite {c : Prop} [Decidable c] {a b : Int32} (ha : a = 0 ∨ a = 1) (hb : b = 0 ∨ b = 1) : (if c then a else b) = 0 ∨ (if c then a else b) = 1 := by
  split
  · exact ha
  · exact hb
theorem knar01 {z : Int32} (h : z = 0 ∨ z = 1) : vp_nar .boolean z = z := by
  rcases h with h | h <;> rw [h] <;> decide
theorem kin {n N : Nat} {i : Int32} (hn : n ≤ N) (hN : N < 2 ^ 31) (h1 : ¬ i < 0) (h2 : ¬ nI n ≤ i) : vp_in i N := by
  obtain ⟨j, hj, rfl⟩ := nI_of h1
  rw [nI_leI (by omega) hj] at h2
  exact vp_in_nI (by omega) hN
theorem kin3 {i : Int32} (h1 : ¬ i < 0) (h2 : ¬ 2 < i) : vp_in i 3 := by
  obtain ⟨j, hj, rfl⟩ := nI_of h1
  have h3 : ¬ nI 2 < nI j := h2
  rw [nI_ltI (by decide) hj] at h3
  exact vp_in_nI (by omega) (by decide)
theorem kin1 {n : Nat} {i : Int32} (hn : n ≤ 512) (h1 : ¬ i < 1) (h2 : ¬ nI n < i) : vp_in (i - 1) 512 := by
  have h0 : ¬ i < 0 := fun h => h1 (Int32.lt_trans h (by decide))
  obtain ⟨j, hj, rfl⟩ := nI_of h0
  have h3 : ¬ nI j < nI 1 := h1
  rw [nI_ltI hj (by decide)] at h3
  rw [nI_ltI (by omega) hj] at h2
  obtain ⟨k, rfl⟩ : ∃ k, j = k + 1 := ⟨j - 1, by omega⟩
  rw [nI_pred]
  exact vp_in_nI (by omega) (by decide)
theorem kwho {c : Prop} [Decidable c] : vp_in (if c then (1 : Int32) else 2) 3 := by
  split
  · exact vp_in_nI (n := 1) (by decide) (by decide)
  · exact vp_in_nI (n := 2) (by decide) (by decide)
