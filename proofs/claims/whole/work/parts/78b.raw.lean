section
/-! raw and copy. -/
/-- byte i of a long -/
def byt (l : Int64) (i : Nat) : Int32 := ((l.toUInt64 >>> (((8 : Int32) * nI i).toInt64.toUInt64 &&& Int64.toUInt64 63)).toInt64).toInt32 &&& 255
theorem s_byteOf (l : Int64) (i : Nat) (m : Mm) : r_X_byteOf l (nI i) m = some (byt l i, m) := by
  rw [r_X_byteOf_eq, b_X_byteOf_0_eq]
  rfl
theorem and255 (x : Int32) : 0 ≤ x &&& 255 ∧ x &&& 255 ≤ 255 := by
  have e : (x &&& 255) = nI (x.toBitVec.toNat % 2 ^ 8) := by
    rw [← nI_mod (n := x.toBitVec.toNat) 8]
    congr 1
    apply Int32.toBitVec_inj.mp
    rw [nI_bv, BitVec.ofNat_toNat, BitVec.setWidth_eq]
  rw [e]
  have : x.toBitVec.toNat % 2 ^ 8 < 2 ^ 8 := Nat.mod_lt _ (by decide)
  grind [nI_T]
theorem byt_in (l : Int64) (i : Nat) : 0 ≤ byt l i ∧ byt l i ≤ 255 := and255 _
theorem byt_k : ∀ i, i < 8 → (((8 : Int32) * nI i).toInt64.toUInt64 &&& Int64.toUInt64 63).toNat % 64 = 8 * i ∧ ((((8 : Int32) * nI i).toInt64 &&& 63).toBitVec.smod 64).toNat = 8 * i := by decide +kernel
theorem byt_m (l : Int64) {i : Nat} (hi : i < 8) : ((l >>> (((8 : Int32) * nI i).toInt64 &&& 63)) &&& Int64.ofNat 255).toInt32 = byt l i := by
  unfold byt
  have hk := byt_k i hi
  generalize ((8 : Int32) * nI i).toInt64 = y at *
  apply Int32.toBitVec_inj.mp
  rw [Int32.toBitVec_and]
  show (((l >>> (y &&& 63)) &&& Int64.ofNat 255).toBitVec.signExtend 32) = ((l.toUInt64 >>> (y.toUInt64 &&& Int64.toUInt64 63)).toBitVec.signExtend 32) &&& 255#32
  rw [Int64.toBitVec_and, Int64.toBitVec_shiftRight, UInt64.toBitVec_shiftRight]
  unfold BitVec.sshiftRight'
  rw [hk.2, BitVec.ushiftRight_eq']
  have e : ((y.toUInt64 &&& Int64.toUInt64 63).toBitVec % 64).toNat = 8 * i := by
    rw [BitVec.toNat_umod]
    exact hk.1
  rw [e]
  apply BitVec.eq_of_getLsbD_eq
  intro j hj
  rw [BitVec.getLsbD_signExtend, BitVec.getLsbD_and, BitVec.getLsbD_and, BitVec.getLsbD_signExtend, BitVec.getLsbD_sshiftRight, BitVec.getLsbD_ushiftRight]
  have t1 : (Int64.ofNat 255).toBitVec.getLsbD j = decide (j < 8) := by
    have : ∀ j, j < 32 → (Int64.ofNat 255).toBitVec.getLsbD j = decide (j < 8) := by decide +kernel
    exact this j hj
  have t2 : (255#32).getLsbD j = decide (j < 8) := by
    have : ∀ j, j < 32 → (255#32).getLsbD j = decide (j < 8) := by decide +kernel
    exact this j hj
  rw [t1, t2]
  by_cases h8 : j < 8
  · simp [h8, hj, show j < 64 by omega, show 8 * i + j < 64 by omega]
  · simp [h8, show j < 64 by omega]
def rwV (V : Vt) (r n : Nat) (l : Int64) : Vt := fun k a b => if k = 14 ∧ a = 0 ∧ r ≤ b ∧ b < r + n then byt l (b - r) else V k a b
theorem rwV_step {V : Vt} {r i : Nat} {l : Int64} : uV (rwV V r i l) 14 0 (r + i) (byt l i) = rwV V r (i + 1) l := by
  funext k a b
  unfold uV rwV
  by_cases z : k = 14 ∧ a = 0 ∧ b = r + i
  · obtain ⟨rfl, rfl, rfl⟩ := z
    rw [if_pos ⟨rfl, rfl, rfl⟩, if_pos (by omega), show r + i - r = i by omega]
  · rw [if_neg z]
    by_cases y : k = 14 ∧ a = 0 ∧ r ≤ b ∧ b < r + i
    · rw [if_pos y, if_pos (by omega)]
    · rw [if_neg y, if_neg (by omega)]
theorem rwV_0 {V : Vt} {r : Nat} {l : Int64} : rwV V r 0 l = V := by
  funext k a b
  exact if_neg (by omega)
theorem rwV_o {V : Vt} {r n k a b : Nat} {l : Int64} (hk : k ≠ 14) : rwV V r n l k a b = V k a b := if_neg (by omega)
theorem s_raw {V : Vt} {w W : Nat → Nat} {r n : Nat} {l : Int64} (hn : n ≤ 8) (h5 : V 6 0 0 = nI r) (hr : r + n ≤ 37) : ∀ (j i f : Nat) (m : Mm), i + j = n → j < f → RC m (rwV V r i l) w W → ∃ m', b_X_raw_23 f 0 (nI n) l (nI i) m = some (.inl (some (.inl (nI (r + n))), m')) ∧ RC m' (uV (rwV V r n l) 6 0 0 (nI (r + n))) w W ∧ FM m m' := by
  intro j
  induction j with
  | zero =>
    intro i f m hi hf h
    obtain ⟨f, rfl⟩ : ∃ g, f = g + 1 := ⟨f - 1, by omega⟩
    obtain rfl : i = n := by omega
    have k6 := c6 h (p := 0) rfl
    rw [rwV_o (by omega), h5] at k6
    rw [b_X_raw_23_eq, if_pos (by (try clear ih); grind [nI_T]), k6, nI_add, lt_eq, uI_s]
    exact ⟨_, rfl, cu6 h rfl _, FM_uI (by omega)⟩
  | succ j ih =>
    intro i f m hi hf h
    obtain ⟨f, rfl⟩ : ∃ g, f = g + 1 := ⟨f - 1, by omega⟩
    have k6 := c6 h (p := 0) rfl
    rw [rwV_o (by omega), h5] at k6
    rw [b_X_raw_23_eq, if_neg (by (try clear ih); grind [nI_T]), s_byteOf]
    simp only [ob_s, lt_eq]
    rw [k6, nI_add, ab_ix_nI (show r + i < 37 by omega) (by decide)]
    simp only [ob_s, lt_eq]
    rw [nI_1]
    have h' := cu14 h (b := r + i) (by omega) (p := 0 + 5) rfl (byt l i)
    rw [rwV_step] at h'
    obtain ⟨m', e1, e2, e3⟩ := ih (i + 1) f _ (by omega) (by omega) h'
    exact ⟨m', e1, e2, FM_tr (FM_uI (by omega)) e3⟩
/-- one of the model's numbers beside its arrays -/
theorem RM_x {m : Mm} {V : Vt} (h : RM m V) {x : Int32} : RM (ab_uI m 126 98 0 x) (uV V 6 0 0 x) := by
  obtain ⟨h1, h2, h3, h4, h5⟩ := h
  refine ⟨fun k' a' b' t' z' => ?_, ⟨h2.1, uI_s _ _ _ _ _, h2.2.2⟩, h3, h4, h5⟩
  have := mr_in k' (Ts_k t').1
  have q6 : k' ≠ 6 := by rintro rfl; exact z' rfl
  rw [uI_r _ _ _ _ _ _ _ _ (by omega), uV_k _ _ _ _ _ q6]; exact h1 k' a' b' t' z'
theorem t_raw {V : Vt} {r n : Nat} {l : Int64} (hn : n ≤ 8) (h5 : V 6 0 0 = nI r) (hr : r + n ≤ 37) : ∀ (j i f : Nat) (m : Mm), i + j = n → j < f → RM m (rwV V r i l) → ∃ m', b_M_raw_31 f 98 (nI n) l (nI i) m = some (.inl (some (.inl (nI (r + n))), m')) ∧ RM m' (uV (rwV V r n l) 6 0 0 (nI (r + n))) ∧ FC m m' := by
  intro j
  induction j with
  | zero =>
    intro i f m hi hf h
    obtain ⟨f, rfl⟩ : ∃ g, f = g + 1 := ⟨f - 1, by omega⟩
    obtain rfl : i = n := by omega
    have k6 : m.1 126 98 0 = nI r := by rw [h.2.1.2.1, rwV_o (by omega), h5]
    rw [b_M_raw_31_eq, if_pos (by (try clear ih); grind [nI_T]), k6, nI_add, lt_eq, uI_s]
    exact ⟨_, rfl, RM_x h, FC_uI (by omega)⟩
  | succ j ih =>
    intro i f m hi hf h
    obtain ⟨f, rfl⟩ : ∃ g, f = g + 1 := ⟨f - 1, by omega⟩
    have k6 : m.1 126 98 0 = nI r := by rw [h.2.1.2.1, rwV_o (by omega), h5]
    rw [b_M_raw_31_eq, if_neg (by (try clear ih); grind [nI_T]), k6, nI_add, ab_ix_nI (show r + i < 37 by omega) (by decide)]
    simp only [ob_s, lt_eq]
    rw [nI_1, byt_m l (show i < 8 by omega)]
    have h' := nu14 h (b := r + i) (by omega) (p := 98 + 37) (j := r + i) rfl rfl (byt l i)
    rw [rwV_step] at h'
    obtain ⟨m', e1, e2, e3⟩ := ih (i + 1) f _ (by omega) (by omega) h'
    exact ⟨m', e1, e2, FC_tr (FC_uI (by omega)) e3⟩
theorem J_raw {c : Nat} {m : Mm} (h : St c m) (hc : c < 512) (v : Int32) (l : Int64) : Jn c (r_X_raw 0 v l m) (r_M_raw 98 v l) := by
  obtain ⟨V, w, W, h1, h2, h3⟩ := id h
  have h2' : RM (ab_uI m 84 98 0 0) V := RM_sm h2 (by unfold Sm; omega)
  have ix := h3.2.2.2.1
  unfold IX at ix
  obtain ⟨r, hr, h5⟩ := i_ofc (x := V 6 0 0) (N := 37) ix.2.1.1 ix.2.1.2 (by decide)
  by_cases hv : (1 ≤ v ∧ v ≤ 8) ∧ V 6 0 0 + v ≤ 37
  · obtain ⟨n, hn, rfl⟩ := i_ofc (x := v) (N := 8) (by grind) hv.1.2 (by decide)
    have hrn : r + n ≤ 37 := by
      have := hv.2
      rw [h5] at this
      grind [nI_T]
    obtain ⟨m1, e1, r1, f1⟩ := s_raw (V := V) (w := w) (W := W) (l := l) hn h5 hrn n 0 49999 m (by omega) (by omega) (by rw [rwV_0]; exact h1)
    have g : RM (ab_uI m1 84 98 0 0) V := RM_sm (RM_FM h2 f1) (by unfold Sm; omega)
    obtain ⟨m2, e2, r2, f2⟩ := t_raw (V := V) (l := l) hn h5 hrn n 0 49999 _ (by omega) (by omega) (by rw [rwV_0]; exact g)
    refine ⟨(nI (r + n), m1), ?_, (nI (r + n), m2), ?_, rfl, uV (rwV V r n l) 6 0 0 (nI (r + n)), w, W, RC_FC (RC_FC r1 (FC_uI (by omega))) f2, r2, ?_⟩
    · rw [r_X_raw_eq, b_X_raw_0_eq, s_isCallBytes]
      simp only [ob_s, ib_if, if_pos hv.1, c6 h1 (p := 0) rfl, if_pos hv.2]
      exact congrArg ab_rI e1
    · have k6 : (ab_uI m1 84 98 0 0).1 126 98 0 = V 6 0 0 := g.2.1.2.1
      rw [r_M_raw_eq, b_M_raw_0_eq]
      simp only [ob_s, lt_eq, ib_if, t_in, if_pos hv.1, k6, if_pos hv.2]
      exact congrArg ab_rI e2
    · have u : ∀ k a b, k ≠ 14 → k ≠ 6 → uV (rwV V r n l) 6 0 0 (nI (r + n)) k a b = V k a b := fun k a b q q' => (uV_k _ _ _ _ _ q').trans (rwV_o q)
      refine Iv_more (c := c) ⟨fun a ha => IO_k (by omega) (h3.1 a ha), fun a ha => IN_k (by omega) (h3.2.1 a ha), fun e he => IE_k (by omega) (h3.2.2.1 e he), ?_, fun a ha hl => IR_k (by omega) (h3.2.2.2.2.1 a ha hl), fun a ha => IS_k (by omega) (h3.2.2.2.2.2 a ha)⟩ (by omega) (by omega)
      unfold IX
      rw [uV_s, u 5 _ _ (by omega) (by omega), u 7 _ _ (by omega) (by omega)]
      refine ⟨ix.1, by grind [nI_T], ix.2.2.1, fun b hb => ?_⟩
      rw [uV_k _ _ _ _ _ (by omega)]
      unfold rwV
      split
      · exact byt_in l _
      · exact ix.2.2.2 b hb
  · refine ⟨(-1, m), ?_, (-1, ab_uI m 84 98 0 0), ?_, rfl, St_more (St_84 h) (by omega) (by omega)⟩
    · rw [r_X_raw_eq, b_X_raw_0_eq, s_isCallBytes]
      simp only [c6 h1 (p := 0) rfl, bo_0, bo_1, ob_s, lt_eq, rI_ite, rI_some, rV_ite, rV_some, ib_if]
      grind
    · have k6 : (ab_uI m 84 98 0 0).1 126 98 0 = V 6 0 0 := h2'.2.1.2.1
      rw [r_M_raw_eq, b_M_raw_0_eq]
      simp only [t_in, k6, bo_0, bo_1, ob_s, lt_eq, rI_ite, rI_some, rV_ite, rV_some, ib_if]
      grind
end
