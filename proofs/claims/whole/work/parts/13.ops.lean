/-! The class's state and the reference's; every call answers alike and keeps them so. -/
def RR (x : XS) (y : YS) : Prop := (x.1.1 = y.2.2.1 1 ∧ x.1.2 = y.2.2.2.1 1 ∧ x.2.1.1 = y.2.2.1 2 ∧ x.2.1.2 = y.2.2.2.1 2) ∧ x.2.2.1 = y.2.1 ∧ (y.2.1 = 0 ∨ y.2.1 = 1 ∨ y.2.1 = 2) ∧ x.2.2.2.1 = y.2.2.2.2.2.1 ∧ RS3 y.1 x.2.2.2.2.1 x.2.2.2.2.2.1 ∧ RK x.2.2.2.2.2.2 y.2.2.2.2.1 y.2.2.2.2.2.2.1 y.2.2.2.2.2.2.2.1 y.2.2.2.2.2.2.2.2.1 y.2.2.2.2.2.2.2.2.2
section OPS
variable {x : XS} {y : YS}
theorem RR.opn (h : RR x y) (g : Int32) : (zt_isOpen x g = 0 ∧ ¬ zm_closed y g = 0) ∨ (¬ zt_isOpen x g = 0 ∧ zm_closed y g = 0 ∧ (zt_isReadWrite x g = 0 ↔ y.1 (Int32.toNatClampNeg g) = 1) ∧ ∃ k : Fin 3, g = nI k.val ∧ Int32.toNatClampNeg g = k.val) := by
  obtain ⟨-, -, -, -, ⟨a, b, c, h0, h1, h2, ho, hw⟩, -⟩ := h
  rcases zs_num g with (q | ⟨q0, q3, q2⟩) | ⟨n0, n3, n2, k, hk, hc⟩
  · exact Or.inl ⟨by rw [zt_isOpen, if_pos q], by rw [zm_closed, if_pos q]; decide⟩
  · exact Or.inl ⟨by rw [zt_isOpen, if_neg q0, if_pos q3], by rw [zm_closed, if_neg q0, if_pos q2]; decide⟩
  · have hb := zs_bit a b c k
    have hs : y.1 (Int32.toNatClampNeg g) = nI (zse a b c k).val := by rw [hc]; exact zse_ss h0 h1 h2
    have hv := zs_v (zse a b c k)
    rw [← hk, ← ho, ← hw] at hb
    by_cases e : zse a b c k = 0
    · refine Or.inl ⟨?_, ?_⟩
      · rw [zt_isOpen, if_neg n0, if_neg n3, if_pos (hb.1.mpr e)]
      · rw [zm_closed, if_neg n0, if_neg n2, hs, if_pos (hv.1.mpr e)]; decide
    · have o1 : zt_isOpen x g = 1 := by rw [zt_isOpen, if_neg n0, if_neg n3, if_neg (fun q => e (hb.1.mp q))]
      refine Or.inr ⟨by rw [o1]; decide, ?_, ?_, k, hk, hc⟩
      · rw [zm_closed, if_neg n0, if_neg n2, hs, if_neg (fun q => e (hv.1.mp q))]
      · rw [zt_isReadWrite, if_neg (by rw [o1]; decide), hs, hv.2.1]
        have e3 : zse a b c k = 1 ↔ ¬ zse a b c k = 2 := by
          revert e; generalize zse a b c k = z; revert z; decide
        rw [e3, ← hb.2]
        by_cases q : (x.2.2.2.2.2.1 &&& ((1 : Int32) <<< (g &&& 31))) = 0
        · simp [q]
        · simp [q]
theorem RR.row (h : RR x y) (hN : y.2.2.2.2.1 ≤ 512) (g1 g2 : Int32) :
    (¬ zm_closed y g1 = 0 ∧ zt_row x g1 g2 = -1) ∨ (zm_closed y g1 = 0 ∧ ¬ zm_hidden y g2 = 0 ∧ zt_row x g1 g2 = -2) ∨
    (zm_closed y g1 = 0 ∧ zm_hidden y g2 = 0 ∧ ∃ i j, zt_row x g1 g2 = nI j ∧ j < x.2.2.2.2.2.2.1 ∧ i < y.2.2.2.2.1 ∧ Int32.toNatClampNeg (g2 - 1) = i ∧ (zlive y.2.2.2.2.2.2.1 y.2.2.2.2.1)[j]? = some i ∧ x.2.2.2.2.2.2.2.2.2.1 j = y.2.2.2.2.2.2.2.2.2 i ∧ x.2.2.2.2.2.2.2.2.2.2.1 j = y.2.2.2.2.2.2.2.1 i) := by
  have hK := h.2.2.2.2.2
  have hli := h.2.1
  have h10 := hK.1
  rcases h.opn g1 with ⟨o, c⟩ | ⟨o, c, -, -⟩
  · exact Or.inl ⟨c, by rw [zt_row, if_pos o]⟩
  refine Or.inr ?_
  rcases hK.row hN g2 with ⟨e, hno⟩ | ⟨i, j, e, hj, hi, hg, hl, ht, ha, hv⟩
  · refine Or.inl ⟨c, ?_, by rw [zt_row, if_neg o, e, if_pos (by decide)]⟩
    unfold zm_hidden
    by_cases a1 : g2 < 1
    · rw [if_pos a1]; decide
    by_cases a2 : nI y.2.2.2.2.1 < g2
    · rw [if_neg a1, if_pos a2]; decide
    have a3 := (hno.resolve_left a1).resolve_left a2
    rw [if_neg a1, if_neg a2, zm_visible, if_pos a3]; decide
  · have hj2 : zt_isVisible x (nI j) = if x.2.2.1 = 1 then 1 else if zm_has (y.2.2.2.2.2.2.2.2.2 i) 2 = 0 then 1 else 0 := by
      rw [zt_isVisible, zk_has_at h10 hj, ha]
    have n1 : ¬ g2 < 1 := by
      rw [hg]; intro q
      have q2 : nI (i + 1) < nI 1 := q
      rw [nI_ltI (by omega) (by decide)] at q2; omega
    have n2 : ¬ nI y.2.2.2.2.1 < g2 := by
      rw [hg, nI_ltI (by omega) (by omega)]; omega
    have hc : Int32.toNatClampNeg (g2 - 1) = i := by rw [hg, nI_pred, nI_clamp (by omega)]
    have hm : zm_hidden y g2 = if (if zm_has (y.2.2.2.2.2.2.2.2.2 i) 2 = 0 then (1 : Int32) else (if y.2.1 = 1 then 1 else 0)) = 0 then 1 else 0 := by
      rw [zm_hidden, if_neg n1, if_neg n2, zm_visible, hc, if_neg ht]
    have hr : zt_row x g1 g2 = if zt_isVisible x (nI j) = 0 then -2 else nI j := by
      rw [zt_row, if_neg o, e, if_neg (nI_pos (by omega))]
    rw [hr, hj2, hm, hli]
    by_cases c1 : y.2.1 = 1
    · refine Or.inr ⟨c, ?_, i, j, ?_, hj, hi, hc, hl, ha, hv⟩
      · simp [c1]
      · simp [c1]
    · by_cases c2 : zm_has (y.2.2.2.2.2.2.2.2.2 i) 2 = 0
      · refine Or.inr ⟨c, ?_, i, j, ?_, hj, hi, hc, hl, ha, hv⟩
        · simp [c2]
        · simp [c1, c2]
      · refine Or.inl ⟨c, ?_, ?_⟩
        · simp [c1, c2]
        · simp [c1, c2]
theorem RR.fix (h : RR x y) {g1 : Int32} (hc : zm_closed y g1 = 0) {i j : Nat} (hj : j < x.2.2.2.2.2.2.1) (ha : x.2.2.2.2.2.2.2.2.2.1 j = y.2.2.2.2.2.2.2.2.2 i) : zt_isFixedFor x g1 (nI j) = zm_readOnly y g1 (y.2.2.2.2.2.2.2.2.2 i) := by
  rcases h.opn g1 with ⟨-, c⟩ | ⟨-, -, hw, -⟩
  · exact absurd hc c
  rw [zt_isFixedFor, zk_has_at h.2.2.2.2.2.1 hj, ha, zm_readOnly]
  by_cases c1 : y.1 (Int32.toNatClampNeg g1) = 1
  · rw [if_pos (hw.mpr c1), if_pos c1]
  · rw [if_neg (fun q => c1 (hw.mp q)), if_neg c1]; split <;> rfl
theorem RR.cnt (h : RR x y) : zm_count y = nI x.2.2.2.2.2.2.1 := by
  rw [zm_count_eq, h.2.2.2.2.2.len]
theorem RR.refuse (h : RR x y) {g1 g2 g3 bad : Int32} (hc : zm_closed y g1 = 0) (hb : g3 = 0 ↔ ¬ bad = 0) : zt_refusal x g1 g2 g3 = zm_obstacle y g1 g2 bad := by
  have hcn := h.cnt
  have hli := h.2.1
  rcases h.opn g1 with ⟨-, c⟩ | ⟨o, -, hw, -⟩
  · exact absurd hc c
  unfold zt_refusal zm_obstacle zm_readOnly
  rw [if_neg o, zgood_eq, hcn, hli]
  simp only [zhas0]
  by_cases c1 : g2 &&& 2 = 0 <;> by_cases c2 : g2 &&& 1 = 0 <;> by_cases c3 : y.2.1 = 1 <;> by_cases c4 : y.1 (Int32.toNatClampNeg g1) = 1 <;> by_cases c5 : bad = 0 <;> by_cases c6 : zm_good g2 = 0 <;> simp [c1, c2, c3, c4, c5, c6, hb, hw]
theorem RR.refused (h : RR x y) {g1 g2 g3 : Int32} (hc : ¬ zm_closed y g1 = 0) : zt_refusal x g1 g2 g3 = -1 := by
  rcases h.opn g1 with ⟨o, -⟩ | ⟨-, c, -, -⟩
  · rw [zt_refusal, if_pos o]
  · exact absurd c hc
theorem zt_refusal_0 {g1 g2 g3 : Int32} (h : zt_refusal x g1 g2 g3 = 0) : nI x.2.2.2.2.2.2.1 < 10 ∧ ¬ zt_areGood g2 = 0 := by
  by_cases c1 : nI x.2.2.2.2.2.2.1 < 10
  · by_cases c2 : zt_areGood g2 = 0
    · unfold zt_refusal at h
      rw [c2] at h
      simp only [if_true] at h
      repeat' split at h
      all_goals exact absurd h (by decide)
    · exact ⟨c1, c2⟩
  · unfold zt_refusal at h
    rw [if_neg c1] at h
    repeat' split at h
    all_goals exact absurd h (by decide)
theorem zm_obs_ge (y : YS) (g1 g2 g3 : Int32) : (zm_obstacle y g1 g2 g3 = 0 ∧ 0 ≤ zm_obstacle y g1 g2 g3) ∨ (¬ zm_obstacle y g1 g2 g3 = 0 ∧ ¬ 0 ≤ zm_obstacle y g1 g2 g3) := by
  unfold zm_obstacle
  repeat' split
  all_goals first | exact Or.inl ⟨rfl, by decide⟩ | exact Or.inr ⟨by decide, by decide⟩
end OPS
/-- what a call must do: answers alike, states alike, at most one key more -/
def OK2 {α : Type} (n : Nat) (p : α × XS) (q : α × YS) : Prop := p.1 = q.1 ∧ RR p.2 q.2 ∧ q.2.2.2.2.2.1 ≤ n + 1
/-! Every call, one by one. -/
section OPQ
variable {x : XS} {y : YS}
theorem zm_bar_r {g1 g2 : Int32} (c : zm_closed y g1 = 0) (d : zm_hidden y g2 = 0) : zm_bar y g1 g2 0 4 = if zm_has (y.2.2.2.2.2.2.2.2.2 (Int32.toNatClampNeg (g2 - 1))) 4 = 0 then 0 else -5 := by
  rw [zm_bar, if_pos c, if_pos d, if_pos (rfl : (0 : Int32) = 0), if_neg (show ¬ (4 : Int32) = 0 by decide)]
  by_cases q : zm_has (y.2.2.2.2.2.2.2.2.2 (Int32.toNatClampNeg (g2 - 1))) 4 = 0
  · rw [if_pos q, if_pos q]; decide
  · rw [if_neg q, if_neg q]; decide
theorem zm_bar_u {g1 g2 b : Int32} (hb : ¬ b = 0) (c : zm_closed y g1 = 0) (d : zm_hidden y g2 = 0) : zm_bar y g1 g2 b 0 = if zm_has (y.2.2.2.2.2.2.2.2.2 (Int32.toNatClampNeg (g2 - 1))) b = 0 then -5 else 0 := by
  rw [zm_bar, if_pos c, if_pos d, if_neg hb, if_pos (rfl : (0 : Int32) = 0)]
  by_cases q : zm_has (y.2.2.2.2.2.2.2.2.2 (Int32.toNatClampNeg (g2 - 1))) b = 0
  · rw [if_pos q, if_pos q]; decide
  · rw [if_neg q, if_neg q]; decide
theorem zm_bar_c {g1 g2 b w : Int32} (c : ¬ zm_closed y g1 = 0) : zm_bar y g1 g2 b w = -1 := by rw [zm_bar, if_neg c]
theorem zm_bar_h {g1 g2 b w : Int32} (c : zm_closed y g1 = 0) (d : ¬ zm_hidden y g2 = 0) : zm_bar y g1 g2 b w = -2 := by rw [zm_bar, if_pos c, if_neg d]
theorem op_attributes (h : RR x y) (hN : y.2.2.2.2.1 ≤ 512) (g1 g2 : Int32) : zt_attributes x g1 g2 = zm_attributes y g1 g2 := by
  have h10 := h.2.2.2.2.2.1
  rcases h.row hN g1 g2 with ⟨c, e⟩ | ⟨c, d, e⟩ | ⟨c, d, i, j, e, hj, hi, hc, hl, ha, hv⟩
  · rw [zt_attributes, e, if_neg (by decide), zm_attributes, if_neg c]
  · rw [zt_attributes, e, if_neg (by decide), zm_attributes, if_pos c, if_neg d]
  · rw [zt_attributes, e, if_pos (nI_pos' (by omega)), nI_clamp (by omega), zm_attributes, if_pos c, if_pos d, hc, ha]
theorem op_read (h : RR x y) (hN : y.2.2.2.2.1 ≤ 512) (g1 g2 : Int32) : zt_read x g1 g2 = zm_read y g1 g2 := by
  have h10 := h.2.2.2.2.2.1
  rcases h.row hN g1 g2 with ⟨c, e⟩ | ⟨c, d, e⟩ | ⟨c, d, i, j, e, hj, hi, hc, hl, ha, hv⟩
  · rw [zt_read, e, if_neg (by decide), zm_read, zm_bar_c c, if_neg (by decide)]
  · rw [zt_read, e, if_neg (by decide), zm_read, zm_bar_h c d, if_neg (by decide)]
  · rw [zt_read, e, if_pos (nI_pos' (by omega)), nI_clamp (by omega), zm_read, zm_bar_r c d, hc, zk_has_at h10 hj, ha, hv]
    by_cases q : zm_has (y.2.2.2.2.2.2.2.2.2 i) 4 = 0
    · rw [if_pos q, if_pos q, if_pos (by decide), zans_eq]
    · rw [if_neg q, if_neg q, if_neg (by decide)]; decide
theorem zt_use_at (h : RR x y) {g1 g2 b : Int32} {i j : Nat} (e : zt_row x g1 g2 = nI j) (hj : j < x.2.2.2.2.2.2.1) (ha : x.2.2.2.2.2.2.2.2.2.1 j = y.2.2.2.2.2.2.2.2.2 i) : zt_use x g1 g2 b = if zm_has (y.2.2.2.2.2.2.2.2.2 i) b = 0 then -5 else nI j := by
  have h10 := h.2.2.2.2.2.1
  rw [zt_use, e, if_neg (nI_pos (by omega)), zk_has_at h10 hj, ha]
theorem zt_use_m1 {g1 g2 b : Int32} (e : zt_row x g1 g2 = -1) : zt_use x g1 g2 b = -1 := by rw [zt_use, e, if_pos (by decide)]
theorem zt_use_m2 {g1 g2 b : Int32} (e : zt_row x g1 g2 = -2) : zt_use x g1 g2 b = -2 := by rw [zt_use, e, if_pos (by decide)]
theorem op_encrypt (h : RR x y) (hN : y.2.2.2.2.1 ≤ 512) (g1 g2 g3 : Int32) : zt_encrypt x g1 g2 g3 = zm_encrypt y g1 g2 g3 := by
  have h10 := h.2.2.2.2.2.1
  rcases h.row hN g1 g2 with ⟨c, e⟩ | ⟨c, d, e⟩ | ⟨c, d, i, j, e, hj, hi, hc, hl, ha, hv⟩
  · rw [zt_encrypt, zt_use_m1 e, if_neg (by decide), zm_encrypt, zm_bar_c c, if_neg (by decide)]
  · rw [zt_encrypt, zt_use_m2 e, if_neg (by decide), zm_encrypt, zm_bar_h c d, if_neg (by decide)]
  · rw [zt_encrypt, zt_use_at h e hj ha, zm_encrypt, zm_bar_u (by decide) c d, hc]
    by_cases q : zm_has (y.2.2.2.2.2.2.2.2.2 i) 16 = 0
    · rw [if_pos q, if_pos q, if_neg (by decide), if_neg (by decide)]
    · rw [if_neg q, if_neg q, if_pos (nI_pos' (by omega)), if_pos (by decide), nI_clamp (by omega), hv, zans_eq, zw_enc_eq]
theorem op_decrypt (h : RR x y) (hN : y.2.2.2.2.1 ≤ 512) (g1 g2 g3 : Int32) : zt_decrypt x g1 g2 g3 = zm_decrypt y g1 g2 g3 := by
  have h10 := h.2.2.2.2.2.1
  rcases h.row hN g1 g2 with ⟨c, e⟩ | ⟨c, d, e⟩ | ⟨c, d, i, j, e, hj, hi, hc, hl, ha, hv⟩
  · rw [zt_decrypt, zt_use_m1 e, if_neg (by decide), zm_decrypt, zm_bar_c c, if_neg (by decide)]
  · rw [zt_decrypt, zt_use_m2 e, if_neg (by decide), zm_decrypt, zm_bar_h c d, if_neg (by decide)]
  · rw [zt_decrypt, zt_use_at h e hj ha, zm_decrypt, zm_bar_u (by decide) c d, hc]
    by_cases q : zm_has (y.2.2.2.2.2.2.2.2.2 i) 32 = 0
    · rw [if_pos q, if_pos q, if_neg (by decide), if_neg (by decide)]
    · rw [if_neg q, if_neg q, if_pos (nI_pos' (by omega)), if_pos (by decide), nI_clamp (by omega), hv, zans_eq, zw_dec_eq]
theorem op_sign (h : RR x y) (hN : y.2.2.2.2.1 ≤ 512) (g1 g2 g3 : Int32) : zt_sign x g1 g2 g3 = zm_sign y g1 g2 g3 := by
  have h10 := h.2.2.2.2.2.1
  rcases h.row hN g1 g2 with ⟨c, e⟩ | ⟨c, d, e⟩ | ⟨c, d, i, j, e, hj, hi, hc, hl, ha, hv⟩
  · rw [zt_sign, zt_use_m1 e, if_neg (by decide), zm_sign, zm_bar_c c, if_neg (by decide)]
  · rw [zt_sign, zt_use_m2 e, if_neg (by decide), zm_sign, zm_bar_h c d, if_neg (by decide)]
  · rw [zt_sign, zt_use_at h e hj ha, zm_sign, zm_bar_u (by decide) c d, hc]
    by_cases q : zm_has (y.2.2.2.2.2.2.2.2.2 i) 64 = 0
    · rw [if_pos q, if_pos q, if_neg (by decide), if_neg (by decide)]
    · rw [if_neg q, if_neg q, if_pos (nI_pos' (by omega)), if_pos (by decide), nI_clamp (by omega), hv, zans_eq, zw_mac_eq]
theorem op_wrap (h : RR x y) (hN : y.2.2.2.2.1 ≤ 512) (g1 g2 g3 : Int32) : zt_wrap x g1 g2 g3 = zm_wrap y g1 g2 g3 := by
  have h10 := h.2.2.2.2.2.1
  rcases h.row hN g1 g2 with ⟨c, e⟩ | ⟨c, d, e⟩ | ⟨c, d, i, j, e, hj, hi, hc, hl, ha, hv⟩
  · rw [zt_wrap, e, if_neg (by decide), zm_wrap, if_neg c]; decide
  · rw [zt_wrap, e, if_neg (by decide), zm_wrap, if_pos c, if_neg d]; decide
  · rw [zt_wrap, e, if_pos (nI_pos' (by omega)), zm_wrap, if_pos c, if_pos d, hc, zk_has_at h10 hj, zk_has_at h10 hj, ha, nI_clamp (by omega), hv]
    rcases h.row hN g1 g3 with ⟨c', e'⟩ | ⟨c', d', e'⟩ | ⟨c', d', i', j', e', hj', hi', hc', hl', ha', hv'⟩
    · exact absurd c c'
    · rw [e', if_neg (by decide), if_neg d']; decide
    · rw [e', if_pos (nI_pos' (by omega)), if_pos d', hc', zk_has_at h10 hj', ha', nI_clamp (by omega), hv']
      by_cases q1 : zm_has (y.2.2.2.2.2.2.2.2.2 i) 128 = 0
      · rw [if_pos q1, if_pos q1, if_pos rfl]
      rw [if_neg q1, if_neg q1]
      by_cases q2 : zm_has (y.2.2.2.2.2.2.2.2.2 i) 512 = 0
      · rw [if_pos q2, if_pos q2, if_pos rfl]
      rw [if_neg q2, if_neg q2, if_neg (by decide)]
      by_cases q3 : zm_has (y.2.2.2.2.2.2.2.2.2 i') 8 = 0
      · rw [if_pos q3, if_pos q3]
      rw [if_neg q3, if_neg q3, zshl_eq, zans_eq, zw_enc_eq, zt_tagOf, zw_mac_eq]
theorem op_find (h : RR x y) (hN : y.2.2.2.2.1 ≤ 512) (g1 g2 : Int32) : zt_find x g1 g2 = zm_find y g1 g2 := by
  have hK := h.2.2.2.2.2
  have h10 := hK.1
  rw [zt_find, zm_find]
  rcases h.opn g1 with ⟨o, c⟩ | ⟨o, c, -, -⟩
  · rw [if_pos o, if_neg c]
  rw [if_neg o, if_pos c, zt_fnd_l, zm_fnd_l]
  rw [zfl_filter g2 (fun i => decide (¬ y.2.2.2.2.2.2.1 i = 0)) _ _ (List.range' 0 y.2.2.2.2.1) 0 (fun i hi hp => by
    have hi2 : i < y.2.2.2.2.1 := by have := List.mem_range'_1.mp hi; omega
    have ht : y.2.2.2.2.2.2.1 i = 0 := by simpa using hp
    rw [zm_visible, nI_clamp (by omega), if_pos ht]; rfl)]
  rw [← List.range_eq_range', ← List.range_eq_range']
  congr 1
  show _ = List.map _ (zlive y.2.2.2.2.2.2.1 y.2.2.2.2.1)
  refine List.ext_getElem? fun k => ?_
  rw [List.getElem?_map, List.getElem?_map]
  by_cases hk : k < x.2.2.2.2.2.2.1
  · obtain ⟨i, hl, hi, ht, hh, ha, -, -⟩ := hK.at hk
    rw [hl, List.getElem?_range hk]
    show some (!decide (zt_isVisible x (nI k) = 0), x.2.2.2.2.2.2.2.2.1 k) = some (!decide (zm_visible y (nI i) = 0), nI (i + 1))
    rw [hh, zt_isVisible, zk_has_at h10 hk, ha, zm_visible, nI_clamp (by omega), if_neg ht, h.2.1]
    by_cases c1 : y.2.1 = 1 <;> by_cases c2 : zm_has (y.2.2.2.2.2.2.2.2.2 i) 2 = 0 <;> simp [c1, c2]
  · have e1 : (List.range x.2.2.2.2.2.2.1)[k]? = none := List.getElem?_eq_none (by rw [List.length_range]; omega)
    have e2 : (zlive y.2.2.2.2.2.2.1 y.2.2.2.2.1)[k]? = none := List.getElem?_eq_none (by rw [← hK.len]; omega)
    rw [e1, e2]; rfl
theorem op_status (h : RR x y) (g1 : Int32) : zt_status x g1 = zm_status y g1 := by
  obtain ⟨a, b, c, h0, h1, h2, ho, hw⟩ := h.2.2.2.2.1
  rw [zt_status, zm_status, h.cnt, h.2.1, h.1.2.1, h.1.2.2.2, h.2.2.2.2.2.2.1, h0, h1, h2, ho, hw, zs_status]
/-- nothing changed -/
theorem OK2.same {α : Type} (h : RR x y) {a b : α} (e : a = b) : OK2 y.2.2.2.2.1 (a, x) (b, y) := ⟨e, h, Nat.le_succ _⟩
theorem op_destroy (h : RR x y) (hN : y.2.2.2.2.1 ≤ 512) (g1 g2 : Int32) : OK2 y.2.2.2.2.1 (zt_destroy x g1 g2) (zm_destroy y g1 g2) := by
  have h10 := h.2.2.2.2.2.1
  rcases h.row hN g1 g2 with ⟨c, e⟩ | ⟨c, d, e⟩ | ⟨c, d, i, j, e, hj, hi, hc, hl, ha, hv⟩
  · rw [zt_destroy, e, if_neg (by decide), zm_destroy, if_neg c]; exact OK2.same h rfl
  · rw [zt_destroy, e, if_neg (by decide), zm_destroy, if_pos c, if_neg d]; exact OK2.same h rfl
  · rw [zt_destroy, e, if_pos (nI_pos' (by omega)), nI_clamp (by omega), zm_destroy, if_pos c, if_pos d, hc, h.fix c hj ha]
    by_cases q : zm_readOnly y g1 (y.2.2.2.2.2.2.2.2.2 i) = 0
    · rw [if_pos q, if_pos q]
      exact ⟨rfl, ⟨h.1, h.2.1, h.2.2.1, h.2.2.2.1, h.2.2.2.2.1, h.2.2.2.2.2.remove hj hl⟩, Nat.le_succ _⟩
    · rw [if_neg q, if_neg q]; exact OK2.same h rfl
theorem op_limit (h : RR x y) (hN : y.2.2.2.2.1 ≤ 512) (g1 g2 g3 : Int32) : OK2 y.2.2.2.2.1 (zt_limit x g1 g2 g3) (zm_limit y g1 g2 g3) := by
  have h10 := h.2.2.2.2.2.1
  rcases h.row hN g1 g2 with ⟨c, e⟩ | ⟨c, d, e⟩ | ⟨c, d, i, j, e, hj, hi, hc, hl, ha, hv⟩
  · rw [zt_limit, e, if_neg (by decide), zm_limit, if_neg c]; exact OK2.same h rfl
  · rw [zt_limit, e, if_neg (by decide), zm_limit, if_pos c, if_neg d]; exact OK2.same h rfl
  · rw [zt_limit, e, if_pos (nI_pos' (by omega)), nI_clamp (by omega), zm_limit, if_pos c, if_pos d, hc, h.fix c hj ha]
    by_cases q : zm_readOnly y g1 (y.2.2.2.2.2.2.2.2.2 i) = 0
    · rw [if_pos q, if_pos q]
      by_cases q1 : g3 = 0
      · rw [if_pos q1, if_pos q1]; exact OK2.same h rfl
      rw [if_neg q1, if_neg q1]
      by_cases q2 : g3 &&& (-509) = 0
      · rw [if_pos q2, if_pos ((zhas0 _ _).mpr q2), zlim_eq, zlimit_eq, pk_us, pk_us, ha]
        exact ⟨rfl, ⟨h.1, h.2.1, h.2.2.1, h.2.2.2.1, h.2.2.2.2.1, h.2.2.2.2.2.setA hj hl _ (by rw [zlim_tok])⟩, Nat.le_succ _⟩
      · rw [if_neg q2, if_neg (fun z => q2 ((zhas0 _ _).mp z))]; exact OK2.same h rfl
    · rw [if_neg q, if_neg q]; exact OK2.same h rfl
theorem op_trust (h : RR x y) (hN : y.2.2.2.2.1 ≤ 512) (g1 g2 : Int32) : OK2 y.2.2.2.2.1 (zt_trust x g1 g2) (zm_trust y g1 g2) := by
  have h10 := h.2.2.2.2.2.1
  rcases h.row hN g1 g2 with ⟨c, e⟩ | ⟨c, d, e⟩ | ⟨c, d, i, j, e, hj, hi, hc, hl, ha, hv⟩
  · rw [zt_trust, e, if_neg (by decide), zm_trust, if_neg c]; exact OK2.same h rfl
  · rw [zt_trust, e, if_neg (by decide), zm_trust, if_pos c, if_neg d]; exact OK2.same h rfl
  · rw [zt_trust, e, if_pos (nI_pos' (by omega)), nI_clamp (by omega), zm_trust, if_pos c, if_pos d, hc, h.fix c hj ha, zk_has_at h10 hj, zk_has_at h10 hj, ha, h.2.1]
    by_cases q0 : y.2.1 = 2
    · rw [if_pos q0, if_pos q0]
      by_cases q : zm_readOnly y g1 (y.2.2.2.2.2.2.2.2.2 i) = 0
      · rw [if_pos q, if_pos q]
        by_cases q1 : zm_has (y.2.2.2.2.2.2.2.2.2 i) 1 = 0
        · rw [if_pos q1, if_pos q1]; exact OK2.same h rfl
        rw [if_neg q1, if_neg q1]
        by_cases q2 : zm_has (y.2.2.2.2.2.2.2.2.2 i) 128 = 0
        · rw [if_pos q2, if_pos q2]; exact OK2.same h rfl
        rw [if_neg q2, if_neg q2, ztrust_eq]
        exact ⟨rfl, ⟨h.1, rfl, h.2.2.1, h.2.2.2.1, h.2.2.2.2.1, h.2.2.2.2.2.setA hj hl _ (by rw [ztrust_tok])⟩, Nat.le_succ _⟩
      · rw [if_neg q, if_neg q]; exact OK2.same h rfl
    · rw [if_neg q0, if_neg q0]; exact OK2.same h rfl
theorem op_create (h : RR x y) (g1 g2 g3 : Int32) : OK2 y.2.2.2.2.1 (zt_create x g1 g2 g3) (zm_create y g1 g2 g3) := by
  by_cases c : zm_closed y g1 = 0
  · have e := h.refuse (g2 := g2) (g3 := 1) (bad := 0) c (by decide)
    rw [zt_create, zm_create, if_pos c, ← e]
    rcases zm_obs_ge y g1 g2 0 with ⟨a1, a2⟩ | ⟨a1, a2⟩
    · rw [← e] at a1 a2
      obtain ⟨b1, b2⟩ := zt_refusal_0 a1
      rw [if_pos a1, if_pos a2]
      obtain ⟨k1, k2⟩ := h.2.2.2.2.2.add (klt10 h.2.2.2.2.2.1 b1) g2 g3 g1
      exact ⟨k2, ⟨h.1, h.2.1, h.2.2.1, h.2.2.2.1, h.2.2.2.2.1, k1⟩, Nat.le_refl _⟩
    · rw [← e] at a1 a2
      rw [if_neg a1, if_neg a2]; exact OK2.same h rfl
  · have e := h.refused (g2 := g2) (g3 := 1) c
    rw [zt_create, zm_create, if_neg c, e, if_neg (by decide)]; exact OK2.same h rfl
theorem op_generate (h : RR x y) (g1 g2 : Int32) : OK2 y.2.2.2.2.1 (zt_generate x g1 g2) (zm_generate y g1 g2) := by
  by_cases c : zm_closed y g1 = 0
  · have e := h.refuse (g2 := g2) (g3 := 1) (bad := 0) c (by decide)
    rw [zt_generate, zm_generate, if_pos c, ← e]
    rcases zm_obs_ge y g1 g2 0 with ⟨a1, a2⟩ | ⟨a1, a2⟩
    · rw [← e] at a1 a2
      obtain ⟨b1, b2⟩ := zt_refusal_0 a1
      rw [if_pos a1, if_pos a2, zgen_eq b2, zw_mac_eq, h.2.2.2.1]
      obtain ⟨k1, k2⟩ := h.2.2.2.2.2.add (klt10 h.2.2.2.2.2.1 b1) (g2 + ((1024 + (if zm_has g2 4 = 0 then 0 else 2048)) + (if zm_has g2 8 = 0 then 4096 else 0))) (zw_mac y.2.2.2.2.2.1 1234567) g1
      exact ⟨k2, ⟨h.1, h.2.1, h.2.2.1, rfl, h.2.2.2.2.1, k1⟩, Nat.le_refl _⟩
    · rw [← e] at a1 a2
      rw [if_neg a1, if_neg a2]; exact OK2.same h rfl
  · have e := h.refused (g2 := g2) (g3 := 1) c
    rw [zt_generate, zm_generate, if_neg c, e, if_neg (by decide)]; exact OK2.same h rfl
theorem op_unwrap (h : RR x y) (hN : y.2.2.2.2.1 ≤ 512) (g1 g2 : Int32) (g3 : Int64) (g4 : Int32) : OK2 y.2.2.2.2.1 (zt_unwrap x g1 g2 g3 g4) (zm_unwrap y g1 g2 g3 g4) := by
  have h10 := h.2.2.2.2.2.1
  rcases h.row hN g1 g2 with ⟨c, e⟩ | ⟨c, d, e⟩ | ⟨c, d, i, j, e, hj, hi, hc, hl, ha, hv⟩
  · rw [zt_unwrap, e, if_neg (by decide), zm_unwrap, if_neg c]; exact OK2.same h rfl
  · rw [zt_unwrap, e, if_neg (by decide), zm_unwrap, if_pos c, if_neg d]; exact OK2.same h rfl
  · rw [zt_unwrap, e, if_pos (nI_pos' (by omega)), nI_clamp (by omega), zm_unwrap, if_pos c, if_pos d, hc, zk_has_at h10 hj, ha, hv, zw_dec_eq, zw_mac_eq, zt_tagOf]
    have er := h.refuse (g2 := g4) (g3 := if zm_has (y.2.2.2.2.2.2.2.2.2 i) 256 = 0 then 0 else (if (g4 &&& 128) = 0 then 1 else 0)) (bad := if zm_has g4 128 = 0 then (if zm_has (y.2.2.2.2.2.2.2.2.2 i) 256 = 0 then 1 else 0) else 1) c (by
      by_cases c1 : zm_has (y.2.2.2.2.2.2.2.2.2 i) 256 = 0 <;> by_cases c2 : g4 &&& 128 = 0 <;> simp [c1, c2, zhas0])
    rw [← er]
    rcases zm_obs_ge y g1 g4 (if zm_has g4 128 = 0 then (if zm_has (y.2.2.2.2.2.2.2.2.2 i) 256 = 0 then 1 else 0) else 1) with ⟨a1, a2⟩ | ⟨a1, a2⟩
    · rw [← er] at a1 a2
      obtain ⟨b1, b2⟩ := zt_refusal_0 a1
      rw [if_pos a1, if_pos a2]
      by_cases q : lg_cmp (zlush g3 32) (Int32.toInt64 ((zw_mac (y.2.2.2.2.2.2.2.1 i) (zw_dec (y.2.2.2.2.2.2.2.1 i) (Int64.toInt32 g3))) &&& 2147483647)) = 0
      · rw [if_pos q, if_pos q]
        obtain ⟨k1, k2⟩ := h.2.2.2.2.2.add (klt10 h.2.2.2.2.2.1 b1) g4 (zw_dec (y.2.2.2.2.2.2.2.1 i) (Int64.toInt32 g3)) g1
        exact ⟨k2, ⟨h.1, h.2.1, h.2.2.1, h.2.2.2.1, h.2.2.2.2.1, k1⟩, Nat.le_refl _⟩
      · rw [if_neg q, if_neg q]; exact OK2.same h rfl
    · rw [← er] at a1 a2
      rw [if_neg a1, if_neg a2]; exact OK2.same h rfl
theorem op_unlock (h : RR x y) (g1 g2 : Int32) : OK2 y.2.2.2.2.1 (zt_unlock x g1 g2) (zm_unlock y g1 g2) := by
  rw [zt_unlock, zm_unlock, h.2.1]
  rcases h.opn g1 with ⟨o, c⟩ | ⟨o, c, -, -⟩
  · rw [if_pos o, if_neg c]; exact OK2.same h rfl
  rw [if_neg o, if_pos c]
  by_cases q : y.2.1 = 2
  · rw [if_pos q, if_pos q]
    exact ⟨rfl, ⟨⟨rfl, rfl, h.1.2.2.1, h.1.2.2.2⟩, rfl, h.2.2.1, h.2.2.2.1, h.2.2.2.2.1, h.2.2.2.2.2⟩, Nat.le_succ _⟩
  · rw [if_neg q, if_neg q]; exact OK2.same h rfl
theorem op_login (h : RR x y) (g1 g2 g3 : Int32) : OK2 y.2.2.2.2.1 (zt_login x g1 g2 g3) (zm_login y g1 g2 g3) := by
  obtain ⟨a, b, c', s0, s1, s2, ho, hw⟩ := h.2.2.2.2.1
  have hs := zs_eq a b c'
  rw [← ho, ← hw] at hs
  have v0 := (zs_v a).2.1
  have v1 := (zs_v b).2.1
  have v2 := (zs_v c').2.1
  rw [← s0] at v0; rw [← s1] at v1; rw [← s2] at v2
  rcases h.opn g1 with ⟨o, c⟩ | ⟨o, c, -, -⟩
  · rw [zt_login, zm_login, if_pos o, if_neg c]; exact OK2.same h rfl
  rw [zt_login, zm_login, if_neg o, if_pos c, h.2.1]
  by_cases q : y.2.1 = 0
  · have q' : y.2.1 ≤ 0 := by rw [q]; decide
    rw [if_pos q, if_pos q']
    by_cases q2 : g2 = 0
    · have ec : Int32.toNatClampNeg (if g2 = 0 then 1 else 2) = 1 := by rw [if_pos q2]; decide
      rw [if_pos q2, if_pos q2, ec, if_pos q2, zr_tryPin, h.1.1, h.1.2.1]
      by_cases f1 : y.2.2.2.1 1 < 3
      · rw [if_pos f1, if_pos f1]
        by_cases f2 : g3 = y.2.2.1 1
        · rw [if_pos f2, if_pos f2.symm, if_pos (rfl : (0 : Int32) = 0)]
          exact ⟨rfl, ⟨⟨rfl, rfl, h.1.2.2.1, h.1.2.2.2⟩, rfl, Or.inr (Or.inl rfl), h.2.2.2.1, h.2.2.2.2.1, h.2.2.2.2.2⟩, Nat.le_succ _⟩
        · rw [if_neg f2, if_neg (show ¬ (-9 : Int32) = 0 by decide), if_neg (show ¬ y.2.2.1 1 = g3 from fun z => f2 z.symm)]
          exact ⟨rfl, ⟨⟨rfl, rfl, h.1.2.2.1, h.1.2.2.2⟩, rfl, h.2.2.1, h.2.2.2.1, h.2.2.2.2.1, h.2.2.2.2.2⟩, Nat.le_succ _⟩
      · rw [if_neg f1, if_neg f1, if_neg (show ¬ (-8 : Int32) = 0 by decide)]
        exact ⟨rfl, ⟨⟨h.1.1, h.1.2.1, h.1.2.2.1, h.1.2.2.2⟩, rfl, h.2.2.1, h.2.2.2.1, h.2.2.2.2.1, h.2.2.2.2.2⟩, Nat.le_succ _⟩
    · have ec : Int32.toNatClampNeg (if g2 = 0 then 1 else 2) = 2 := by rw [if_neg q2]; decide
      rw [if_neg q2, if_neg q2]
      by_cases p0 : y.1 0 = 1
      · rw [if_pos p0, if_neg (fun z => (hs.mp z).1 (v0.mp p0))]; exact OK2.same h rfl
      rw [if_neg p0]
      by_cases p1 : y.1 1 = 1
      · rw [if_pos p1, if_neg (fun z => (hs.mp z).2.1 (v1.mp p1))]; exact OK2.same h rfl
      rw [if_neg p1]
      by_cases p2 : y.1 2 = 1
      · rw [if_pos p2, if_neg (fun z => (hs.mp z).2.2 (v2.mp p2))]; exact OK2.same h rfl
      rw [if_neg p2, if_pos (hs.mpr ⟨fun z => p0 (v0.mpr z), fun z => p1 (v1.mpr z), fun z => p2 (v2.mpr z)⟩), ec, if_neg q2, zr_tryPin, h.1.2.2.1, h.1.2.2.2]
      by_cases f1 : y.2.2.2.1 2 < 3
      · rw [if_pos f1, if_pos f1]
        by_cases f2 : g3 = y.2.2.1 2
        · rw [if_pos f2, if_pos f2.symm, if_pos (rfl : (0 : Int32) = 0)]
          exact ⟨rfl, ⟨⟨h.1.1, h.1.2.1, rfl, rfl⟩, rfl, Or.inr (Or.inr rfl), h.2.2.2.1, h.2.2.2.2.1, h.2.2.2.2.2⟩, Nat.le_succ _⟩
        · rw [if_neg f2, if_neg (show ¬ (-9 : Int32) = 0 by decide), if_neg (show ¬ y.2.2.1 2 = g3 from fun z => f2 z.symm)]
          exact ⟨rfl, ⟨⟨h.1.1, h.1.2.1, rfl, rfl⟩, rfl, h.2.2.1, h.2.2.2.1, h.2.2.2.2.1, h.2.2.2.2.2⟩, Nat.le_succ _⟩
      · rw [if_neg f1, if_neg f1, if_neg (show ¬ (-8 : Int32) = 0 by decide)]
        exact ⟨rfl, ⟨⟨h.1.1, h.1.2.1, h.1.2.2.1, h.1.2.2.2⟩, rfl, h.2.2.1, h.2.2.2.1, h.2.2.2.2.1, h.2.2.2.2.2⟩, Nat.le_succ _⟩
  · have q' : ¬ y.2.1 ≤ 0 := by
      rcases h.2.2.1 with z | z | z
      · exact absurd z q
      · rw [z]; decide
      · rw [z]; decide
    rw [if_neg q, if_neg q']; exact OK2.same h rfl
theorem op_logout (h : RR x y) (g1 : Int32) : OK2 y.2.2.2.2.1 (zt_logout x g1) (zm_logout y g1) := by
  have hK := h.2.2.2.2.2
  rw [zt_logout, zm_logout, h.2.1]
  rcases h.opn g1 with ⟨o, c⟩ | ⟨o, c, -, -⟩
  · rw [if_pos o, if_neg c]; exact OK2.same h rfl
  rw [if_neg o, if_pos c]
  by_cases q : y.2.1 = 0
  · rw [if_pos q, if_pos q]; exact OK2.same h rfl
  rw [if_neg q, if_neg q]
  refine ⟨rfl, ⟨h.1, rfl, Or.inl rfl, h.2.2.2.1, h.2.2.2.2.1, ?_⟩, Nat.le_succ _⟩
  show RK (zk_removePrivate _) _ _ _ _ _
  rw [zk_removePrivate, zk_rps_rem _ _ (Nat.le_refl _) hK.1]
  refine hK.filter _ fun i hi => ?_
  rw [zm_loz_at]
  show _ ↔ _ ∧ (!decide (zm_has (y.2.2.2.2.2.2.2.2.2 i) 2 = 0) && decide (zm_has (y.2.2.2.2.2.2.2.2.2 i) 1 = 0)) = false
  have e : (0 ≤ i ∧ i < 0 + y.2.2.2.2.1) := by omega
  by_cases c1 : zm_has (y.2.2.2.2.2.2.2.2.2 i) 1 = 0 <;> by_cases c2 : zm_has (y.2.2.2.2.2.2.2.2.2 i) 2 = 0 <;> simp [c1, c2, e, hi]
theorem zs_u0 : ∀ a k : Fin 3, (if (0 : Nat) = k.val then (0 : Int32) else nI a.val) = nI (if k = 0 then (0 : Fin 3) else a).val := by decide +kernel
theorem zs_u1 : ∀ a k : Fin 3, (if (1 : Nat) = k.val then (0 : Int32) else nI a.val) = nI (if k = 1 then (0 : Fin 3) else a).val := by decide +kernel
theorem zs_u2 : ∀ a k : Fin 3, (if (2 : Nat) = k.val then (0 : Int32) else nI a.val) = nI (if k = 2 then (0 : Fin 3) else a).val := by decide +kernel
theorem zs_m1 : ∀ k : Fin 3, ¬ (-1 : Int32) = nI k.val := by decide +kernel
theorem op_close (h : RR x y) (g1 : Int32) : OK2 y.2.2.2.2.1 (zt_close x g1) (zm_close y g1) := by
  have hK := h.2.2.2.2.2
  obtain ⟨a, b, c', s0, s1, s2, ho, hw⟩ := h.2.2.2.2.1
  rcases h.opn g1 with ⟨o, c⟩ | ⟨o, c, -, k, hk, hkc⟩
  · rw [zt_close, zm_close, if_pos o, if_neg c]; exact OK2.same h rfl
  rw [zt_close, zm_close, if_neg o, if_pos c, hkc]
  have hs := zs_close a b c' k
  rw [← hk, ← ho, ← hw] at hs
  have u0 : upd y.1 k.val 0 0 = nI (if k = 0 then (0 : Fin 3) else a).val := by
    unfold upd; rw [s0]; exact zs_u0 a k
  have u1 : upd y.1 k.val 0 1 = nI (if k = 1 then (0 : Fin 3) else b).val := by
    unfold upd; rw [s1]; exact zs_u1 b k
  have u2 : upd y.1 k.val 0 2 = nI (if k = 2 then (0 : Fin 3) else c').val := by
    unfold upd; rw [s2]; exact zs_u2 c' k
  have hz := zs_zero (if k = 0 then 0 else a) (if k = 1 then 0 else b) (if k = 2 then 0 else c')
  rw [← u0, ← u1, ← u2, ← hs.1] at hz
  have hRS : RS3 (upd y.1 k.val 0) (x.2.2.2.2.1 &&& (((1 : Int32) <<< (g1 &&& 31)) ^^^ (-1))) (x.2.2.2.2.2.1 &&& (((1 : Int32) <<< (g1 &&& 31)) ^^^ (-1))) := ⟨_, _, _, u0, u1, u2, hs.1, hs.2⟩
  have hRK : RK (zk_removeOwnedBy x.2.2.2.2.2.2 g1) y.2.2.2.2.1 (zm_clz y.2.2.2.2.2.2.2.2.2 y.2.2.2.2.2.2.2.2.1 g1 y.2.2.2.2.1 0 y.2.2.2.2.2.2.1) y.2.2.2.2.2.2.2.1 y.2.2.2.2.2.2.2.2.1 y.2.2.2.2.2.2.2.2.2 := by
    rw [zk_removeOwnedBy, zk_rob_rem]
    refine hK.filter _ fun i hi => ?_
    rw [zm_clz_at]
    show _ ↔ _ ∧ decide ((if y.2.2.2.2.2.2.2.2.2 i &&& 1 = 0 then y.2.2.2.2.2.2.2.2.1 i else -1) = g1) = false
    have e : (0 ≤ i ∧ i < 0 + y.2.2.2.2.1) := by omega
    have hne : ¬ (-1 : Int32) = g1 := by rw [hk]; exact zs_m1 k
    simp only [zhas0]
    by_cases c1 : y.2.2.2.2.2.2.2.2.2 i &&& 1 = 0 <;> simp [c1, e, hi, hne]
  by_cases q : (x.2.2.2.2.1 &&& (((1 : Int32) <<< (g1 &&& 31)) ^^^ (-1))) = 0
  · rw [if_pos q, if_pos (hz.mp q)]
    exact ⟨rfl, ⟨h.1, rfl, Or.inl rfl, h.2.2.2.1, hRS, hRK⟩, Nat.le_succ _⟩
  · rw [if_neg q, if_neg (fun z => q (hz.mpr z))]
    exact ⟨rfl, ⟨h.1, h.2.1, h.2.2.1, h.2.2.2.1, hRS, hRK⟩, Nat.le_succ _⟩
theorem RR.op3 (h : RR x y) : (zt_isOpen x 0 = 0 ↔ y.1 0 = 0) ∧ (zt_isOpen x 1 = 0 ↔ y.1 1 = 0) ∧ (zt_isOpen x 2 = 0 ↔ y.1 2 = 0) := by
  have e : ∀ k : Fin 3, zm_closed y (nI k.val) = if y.1 k.val = 0 then 1 else 0 := by
    intro k
    have f : ∀ k : Fin 3, ¬ nI k.val < 0 ∧ ¬ 2 < nI k.val ∧ Int32.toNatClampNeg (nI k.val) = k.val := by decide
    obtain ⟨f1, f2, f3⟩ := f k
    rw [zm_closed, if_neg f1, if_neg f2, f3]
  have m : ∀ k : Fin 3, (zt_isOpen x (nI k.val) = 0 ↔ y.1 k.val = 0) := by
    intro k
    rcases h.opn (nI k.val) with ⟨o, c⟩ | ⟨o, c, -⟩
    · rw [e] at c
      by_cases q : y.1 k.val = 0
      · exact ⟨fun _ => q, fun _ => o⟩
      · rw [if_neg q] at c; exact absurd rfl c
    · rw [e] at c
      by_cases q : y.1 k.val = 0
      · rw [if_pos q] at c; exact absurd c (by decide)
      · exact ⟨fun z => absurd z o, fun z => absurd z q⟩
  exact ⟨m 0, m 1, m 2⟩
theorem op_open (h : RR x y) (g1 : Int32) : OK2 y.2.2.2.2.1 (zt_open x g1) (zm_open y g1) := by
  obtain ⟨m0, m1, m2⟩ := h.op3
  obtain ⟨a, b, c, s0, s1, s2, ho, hw⟩ := h.2.2.2.2.1
  have v0 := (zs_v a).1
  have v1 := (zs_v b).1
  have v2 := (zs_v c).1
  rw [← s0] at v0; rw [← s1] at v1; rw [← s2] at v2
  have fin : ∀ (r : Int32) (ss : Nat → Int32) (o w : Int32), RS3 ss o w → OK2 (α := Int32) y.2.2.2.2.1 (r, (x.1, x.2.1, x.2.2.1, x.2.2.2.1, o, w, x.2.2.2.2.2.2)) (r, (ss, y.2.1, y.2.2.1, y.2.2.2.1, y.2.2.2.2.1, y.2.2.2.2.2.1, y.2.2.2.2.2.2.1, y.2.2.2.2.2.2.2.1, y.2.2.2.2.2.2.2.2.1, y.2.2.2.2.2.2.2.2.2)) := fun r ss o w hr => ⟨rfl, ⟨h.1, h.2.1, h.2.2.1, h.2.2.2.1, hr, h.2.2.2.2.2⟩, Nat.le_succ _⟩
  have rest : ∀ (d : Fin 3), (d = 1 ∨ d = 2) → OK2 (α := Int32) y.2.2.2.2.1 (if zt_isOpen x 0 = 0 then (0, (x.1, x.2.1, x.2.2.1, x.2.2.2.1, (x.2.2.2.2.1 ||| 1), (if d = 1 then x.2.2.2.2.2.1 else x.2.2.2.2.2.1 ||| 1), x.2.2.2.2.2.2)) else (if zt_isOpen x 1 = 0 then (1, (x.1, x.2.1, x.2.2.1, x.2.2.2.1, (x.2.2.2.2.1 ||| 2), (if d = 1 then x.2.2.2.2.2.1 else x.2.2.2.2.2.1 ||| 2), x.2.2.2.2.2.2)) else (if zt_isOpen x 2 = 0 then (2, (x.1, x.2.1, x.2.2.1, x.2.2.2.1, (x.2.2.2.2.1 ||| 4), (if d = 1 then x.2.2.2.2.2.1 else x.2.2.2.2.2.1 ||| 4), x.2.2.2.2.2.2)) else ((-6), x))))
      (if y.1 0 = 0 then (0, ((upd y.1 0 (nI d.val)), y.2.1, y.2.2.1, y.2.2.2.1, y.2.2.2.2.1, y.2.2.2.2.2.1, y.2.2.2.2.2.2.1, y.2.2.2.2.2.2.2.1, y.2.2.2.2.2.2.2.2.1, y.2.2.2.2.2.2.2.2.2)) else (if y.1 1 = 0 then (1, ((upd y.1 1 (nI d.val)), y.2.1, y.2.2.1, y.2.2.2.1, y.2.2.2.2.1, y.2.2.2.2.2.1, y.2.2.2.2.2.2.1, y.2.2.2.2.2.2.2.1, y.2.2.2.2.2.2.2.2.1, y.2.2.2.2.2.2.2.2.2)) else (if y.1 2 = 0 then (2, ((upd y.1 2 (nI d.val)), y.2.1, y.2.2.1, y.2.2.2.1, y.2.2.2.2.1, y.2.2.2.2.2.1, y.2.2.2.2.2.2.1, y.2.2.2.2.2.2.2.1, y.2.2.2.2.2.2.2.2.1, y.2.2.2.2.2.2.2.2.2)) else ((-6), y)))) := by
    intro d hd
    by_cases q0 : y.1 0 = 0
    · rw [if_pos (m0.mpr q0), if_pos q0]
      have e := v0.mp q0
      subst e
      obtain ⟨z1, z2, z3, z4⟩ := zs_open0 b c
      refine fin _ (upd y.1 0 (nI d.val)) _ _ ⟨d, b, c, pk_us, s1, s2, ?_, ?_⟩
      · rw [ho]; rcases hd with rfl | rfl <;> assumption
      · rw [hw]; rcases hd with rfl | rfl
        · rw [if_pos rfl]; exact z2
        · rw [if_neg (by decide)]; exact z4
    rw [if_neg (fun z => q0 (m0.mp z)), if_neg q0]
    by_cases q1 : y.1 1 = 0
    · rw [if_pos (m1.mpr q1), if_pos q1]
      have e := v1.mp q1
      subst e
      obtain ⟨z1, z2, z3, z4⟩ := zs_open1 a c
      refine fin _ (upd y.1 1 (nI d.val)) _ _ ⟨a, d, c, s0, pk_us, s2, ?_, ?_⟩
      · rw [ho]; rcases hd with rfl | rfl <;> assumption
      · rw [hw]; rcases hd with rfl | rfl
        · rw [if_pos rfl]; exact z2
        · rw [if_neg (by decide)]; exact z4
    rw [if_neg (fun z => q1 (m1.mp z)), if_neg q1]
    by_cases q2 : y.1 2 = 0
    · rw [if_pos (m2.mpr q2), if_pos q2]
      have e := v2.mp q2
      subst e
      obtain ⟨z1, z2, z3, z4⟩ := zs_open2 a b
      refine fin _ (upd y.1 2 (nI d.val)) _ _ ⟨a, b, d, s0, s1, pk_us, ?_, ?_⟩
      · rw [ho]; rcases hd with rfl | rfl <;> assumption
      · rw [hw]; rcases hd with rfl | rfl
        · rw [if_pos rfl]; exact z2
        · rw [if_neg (by decide)]; exact z4
    rw [if_neg (fun z => q2 (m2.mp z)), if_neg q2]
    exact OK2.same h rfl
  rw [zt_open, zm_open]
  by_cases q : g1 = 0
  · rw [if_pos q, if_pos q]
    by_cases q2 : y.2.1 = 2
    · rw [if_pos (h.2.1.trans q2), if_pos q2]; exact OK2.same h rfl
    · rw [if_neg (fun z => q2 (h.2.1.symm.trans z)), if_neg q2]; exact rest 1 (Or.inl rfl)
  · rw [if_neg q, if_neg q]; exact rest 2 (Or.inr rfl)
end OPQ
