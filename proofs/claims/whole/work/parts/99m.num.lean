section
/-! Bytes and numbers are written, on both sides. -/
def lB (L : List Nat) (j : Nat) : Nat := L.getD j 0
theorem lB_a (L : List Nat) (b : Nat) : ∀ j, j < L.length → lB L j = lB (L ++ [b]) j := by
  intro j hj
  unfold lB
  rw [List.getD_eq_getElem?_getD, List.getD_eq_getElem?_getD, List.getElem?_append_left hj]
theorem lB_e (L : List Nat) (b : Nat) : lB (L ++ [b]) L.length = b := by
  unfold lB
  rw [List.getD_eq_getElem?_getD, List.getElem?_append_right (Nat.le_refl _), Nat.sub_self]
  rfl
/-- the class's row -/
def WC (m : Mm) (q : Nat) (x : Int32) (L : List Nat) : Prop := Wr m q x (lB L) L.length
/-- the model's -/
def ML (m : Mm) (L : List Nat) : Prop := m.1 125 98 0 = nI L.length ∧ ∀ j, j < L.length → m.1 168 134 (1 + j) = nI (lB L j)
def s2 (r : Nat) : Prop := r = 125 ∨ r = 168
theorem ML_FS {S : Nat → Prop} {m m' : Mm} {L : List Nat} (h : ML m L) (hF : FS S m m') (h1 : ¬ S 125) (h2 : ¬ S 168) : ML m' L :=
  ⟨by rw [FS_g hF _ _ _ h1]; exact h.1, fun j hj => by rw [FS_g hF _ _ _ h2]; exact h.2 j hj⟩
theorem s_putL {m : Mm} {V : Vt} {w W : Nat → Nat} (h : RC m V w W) {q b : Nat} {x v : Int32} {L : List Nat} (hf : Fr V w q) (hr : WC m q x L) (hs : L.length < 40) (hv : v &&& 255 = nI b) : ∃ m', r_Row_put q v m = some m' ∧ RC m' V w W ∧ WC m' q x (L ++ [b]) ∧ FS rw3 m m' := by
  obtain ⟨m', a1, a2, a3, a4⟩ := s_put h (v := v) hf (Wr_c hr (lB_a L b)) hs (by rw [lB_e]; exact hv)
  refine ⟨m', a1, a2, ?_, a4⟩
  unfold WC
  rw [List.length_append]
  exact a3
theorem t_putL {m : Mm} {V : Vt} (h : RM m V) {b : Nat} {L : List Nat} (hr : ML m L) (hs : L.length < 47) : ∃ m', r_M_put 98 (nI b) m = some m' ∧ RM m' V ∧ ML m' (L ++ [b]) ∧ FS s2 m m' := by
  have o1 : (1 : Int32) + nI L.length = nI (1 + L.length) := by
    rw [Int32.add_comm, Nat.add_comm]
    exact nI_1 _
  refine ⟨ab_uI (ab_uI m 168 134 (1 + L.length) (nI b)) 125 98 0 (nI (L.length + 1)), ?_, RM_sm (RM_sm h (by unfold Sm; omega)) (by unfold Sm; omega), ⟨?_, fun j hj => ?_⟩, FS_tr (FS_uI (.inr rfl)) (FS_uI (.inl rfl))⟩
  · rw [r_M_put_eq, b_M_put_0_eq, hr.1, o1, ab_ix_nI (show 1 + L.length < 48 by omega) (by decide)]
    try simp only [ob_s, lt_eq]
    rw [uI_r _ _ _ _ _ _ _ _ (by omega), hr.1, nI_1, rV_some]
  · rw [uI_s, List.length_append]
    rfl
  · rw [uI_r _ _ _ _ _ _ _ _ (by omega), uI_1]
    by_cases y : j = L.length
    · subst y
      rw [if_pos ⟨rfl, rfl, rfl⟩, lB_e]
    · have hj' : j < L.length := by
        rw [List.length_append] at hj
        have : [b].length = 1 := rfl
        omega
      rw [if_neg (fun z => y (by omega)), ← lB_a L b j hj']
      exact hr.2 j hj'
/-- the bytes of a number -/
def nb (v : Nat) : List Nat := if v < 64 then [v] else if v < 16384 then [64 + v / 256, v % 256] else [128 + v / 16777216, v / 65536 % 256, v / 256 % 256, v % 256]
def nw (v : Nat) : Nat := if v < 64 then 1 else if v < 16384 then 2 else 4
theorem nb_l (v : Nat) : (nb v).length = nw v := by
  unfold nb nw
  split
  · rfl
  · split <;> rfl
theorem wd_nw {v : Nat} (h : v < 2 ^ 30) : wd (nI v) = nI (nw v) := by
  unfold wd nw
  by_cases h1 : v < 64
  · rw [if_pos (by grind [nI_T]), if_pos h1]
    rfl
  · rw [if_neg (by grind [nI_T]), if_neg h1]
    by_cases h2 : v < 16384
    · rw [if_pos (by grind [nI_T]), if_pos h2]
      rfl
    · rw [if_neg (by grind [nI_T]), if_neg h2]
      rfl
theorem a255 (n : Nat) : nI n &&& 255 = nI (n % 256) := nI_mod (n := n) 8
theorem s_numL {m : Mm} {V : Vt} {w W : Nat → Nat} (h : RC m V w W) {q v : Nat} {x : Int32} {L : List Nat} (hf : Fr V w q) (hr : WC m q x L) (hv : v < 2 ^ 30) (hs : L.length + nw v ≤ 40) : ∃ m', r_Row_putNumber q (nI v) m = some m' ∧ RC m' V w W ∧ WC m' q x (L ++ nb v) ∧ FS rw3 m m' := by
  rw [r_Row_putNumber_eq, b_Row_putNumber_0_eq, s_sizeOf, wd_nw hv]
  simp only [ob_s, lt_eq]
  unfold nw at *
  unfold nb
  by_cases h1 : v < 64
  · rw [if_pos h1] at hs
    have e0 : 0 + ((nI v).toUInt32 >>> (((8 : Int32) * (nI 1 - 1)).toUInt32 &&& Int32.toUInt32 31)).toInt32 = nI v := by
      rw [nI_ushr (k := 0) (by omega) (by decide), Nat.pow_zero, Nat.div_one]
      exact Int32.zero_add _
    obtain ⟨m', a1, a2, a3, a4⟩ := s_putL h (v := nI v) (b := v) hf hr (by omega) (m255 (by omega))
    rw [if_pos h1, if_pos h1]
    refine ⟨m', ?_, a2, a3, a4⟩
    rw [if_pos (by decide), b_Row_putNumber_28_eq, e0, a1]
    simp only [ob_s, lt_eq]
    rw [b_Row_putNumber_46_eq, if_pos (by decide), rV_some]
  · rw [if_neg h1] at hs
    by_cases h2 : v < 16384
    · rw [if_pos h2] at hs
      have e0 : 64 + ((nI v).toUInt32 >>> (((8 : Int32) * (nI 2 - 1)).toUInt32 &&& Int32.toUInt32 31)).toInt32 = nI (64 + v / 256) := by
        rw [nI_ushr (k := 8) (by omega) (by decide)]
        exact nI_add 64 _
      have e1 : ((nI v).toUInt32 >>> (((8 : Int32) * (nI 2 - 1 - 1)).toUInt32 &&& Int32.toUInt32 31)).toInt32 = nI v := by
        rw [nI_ushr (k := 0) (by omega) (by decide), Nat.pow_zero, Nat.div_one]
      obtain ⟨m1, a1, a2, a3, a4⟩ := s_putL h (v := nI (64 + v / 256)) (b := 64 + v / 256) hf hr (by omega) (m255 (by omega))
      obtain ⟨m2, d1, d2, d3, d4⟩ := s_putL a2 (v := nI v) (b := v % 256) hf a3 (by rw [List.length_append]; show L.length + 1 < 40; omega) (a255 v)
      rw [if_neg h1, if_pos h2, if_neg h1, if_pos h2]
      rw [List.append_assoc] at d3
      refine ⟨m2, ?_, d2, d3, FS_tr a4 d4⟩
      rw [if_neg (by decide), if_pos (by decide), b_Row_putNumber_28_eq, e0, a1]
      simp only [ob_s, lt_eq]
      rw [b_Row_putNumber_46_eq, if_neg (by decide), e1, d1]
      simp only [ob_s, lt_eq]
      rw [b_Row_putNumber_46_eq, if_pos (by decide), rV_some]
    · rw [if_neg h2] at hs
      have e0 : 128 + ((nI v).toUInt32 >>> (((8 : Int32) * (nI 4 - 1)).toUInt32 &&& Int32.toUInt32 31)).toInt32 = nI (128 + v / 16777216) := by
        rw [nI_ushr (k := 24) (by omega) (by decide)]
        exact nI_add 128 _
      have e1 : ((nI v).toUInt32 >>> (((8 : Int32) * (nI 4 - 1 - 1)).toUInt32 &&& Int32.toUInt32 31)).toInt32 = nI (v / 65536) := nI_ushr (k := 16) (by omega) (by decide)
      have e2 : ((nI v).toUInt32 >>> (((8 : Int32) * (nI 4 - 1 - 1 + -1)).toUInt32 &&& Int32.toUInt32 31)).toInt32 = nI (v / 256) := nI_ushr (k := 8) (by omega) (by decide)
      have e3 : ((nI v).toUInt32 >>> (((8 : Int32) * (nI 4 - 1 - 1 + -1 + -1)).toUInt32 &&& Int32.toUInt32 31)).toInt32 = nI v := by
        rw [nI_ushr (k := 0) (by omega) (by decide), Nat.pow_zero, Nat.div_one]
      obtain ⟨m1, a1, a2, a3, a4⟩ := s_putL h (v := nI (128 + v / 16777216)) (b := 128 + v / 16777216) hf hr (by omega) (m255 (by omega))
      obtain ⟨m2, d1, d2, d3, d4⟩ := s_putL a2 (v := nI (v / 65536)) (b := v / 65536 % 256) hf a3 (by rw [List.length_append]; show L.length + 1 < 40; omega) (a255 _)
      rw [List.append_assoc] at d3
      obtain ⟨m3, g1, g2, g3, g4⟩ := s_putL d2 (v := nI (v / 256)) (b := v / 256 % 256) hf d3 (by rw [List.length_append]; show L.length + 2 < 40; omega) (a255 _)
      rw [List.append_assoc] at g3
      obtain ⟨m4, k1, k2, k3, k4⟩ := s_putL g2 (v := nI v) (b := v % 256) hf g3 (by rw [List.length_append]; show L.length + 3 < 40; omega) (a255 _)
      rw [List.append_assoc] at k3
      rw [if_neg h1, if_neg h2, if_neg h1, if_neg h2]
      refine ⟨m4, ?_, k2, k3, FS_tr (FS_tr (FS_tr a4 d4) g4) k4⟩
      rw [if_neg (by decide), if_neg (by decide), b_Row_putNumber_28_eq, e0, a1]
      simp only [ob_s, lt_eq]
      rw [b_Row_putNumber_46_eq, if_neg (by decide), e1, d1]
      simp only [ob_s, lt_eq]
      rw [b_Row_putNumber_46_eq, if_neg (by decide), e2, g1]
      simp only [ob_s, lt_eq]
      rw [b_Row_putNumber_46_eq, if_neg (by decide), e3, k1]
      simp only [ob_s, lt_eq]
      rw [b_Row_putNumber_46_eq, if_pos (by decide), rV_some]
theorem t_numL {m : Mm} {V : Vt} (h : RM m V) {v : Nat} {L : List Nat} (hr : ML m L) (hv : v < 2 ^ 30) (hs : L.length + nw v ≤ 47) : ∃ m', r_M_putNumber 98 (nI v) m = some m' ∧ RM m' V ∧ ML m' (L ++ nb v) ∧ FS s2 m m' := by
  rw [r_M_putNumber_eq, b_M_putNumber_0_eq, t_width, wd_nw hv]
  simp only [ob_s, lt_eq]
  unfold nw at *
  unfold nb
  have s8 : nI v >>> ((8 : Int32) &&& 31) = nI (v / 256) := nI_shr (k := 8) (by omega) (by decide)
  have s16 : nI v >>> ((16 : Int32) &&& 31) = nI (v / 65536) := nI_shr (k := 16) (by omega) (by decide)
  have s24 : nI v >>> ((24 : Int32) &&& 31) = nI (v / 16777216) := nI_shr (k := 24) (by omega) (by decide)
  rw [s16, s24, a255, show (128 : Int32) + nI (v / 16777216) = nI (128 + v / 16777216) from nI_add 128 _]
  by_cases h1 : v < 64
  · rw [if_pos h1] at hs
    obtain ⟨m', a1, a2, a3, a4⟩ := t_putL h (b := v) hr (by omega)
    rw [if_pos h1, if_pos h1]
    refine ⟨m', ?_, a2, a3, a4⟩
    rw [if_neg (by decide), b_M_putNumber_34_eq, if_neg (by decide), b_M_putNumber_50_eq, if_neg (by decide), b_M_putNumber_67_eq, if_pos (by decide), b_M_putNumber_82_eq, a1, ob_s, rV_some]
  · rw [if_neg h1] at hs
    by_cases h2 : v < 16384
    · rw [if_pos h2] at hs
      obtain ⟨m1, a1, a2, a3, a4⟩ := t_putL h (b := 64 + v / 256) hr (by omega)
      obtain ⟨m2, d1, d2, d3, d4⟩ := t_putL a2 (b := v % 256) a3 (by rw [List.length_append]; show L.length + 1 < 47; omega)
      rw [if_neg h1, if_pos h2, if_neg h1, if_pos h2]
      rw [List.append_assoc] at d3
      refine ⟨m2, ?_, d2, d3, FS_tr a4 d4⟩
      rw [if_neg (by decide), b_M_putNumber_34_eq, if_pos (by decide), s8, show (64 : Int32) + nI (v / 256) = nI (64 + v / 256) from nI_add 64 _, a1, ob_s, b_M_putNumber_50_eq, if_neg (by decide), b_M_putNumber_67_eq, if_neg (by decide), b_M_putNumber_82_eq, a255, d1, ob_s, rV_some]
    · rw [if_neg h2] at hs
      obtain ⟨m1, a1, a2, a3, a4⟩ := t_putL h (b := 128 + v / 16777216) hr (by omega)
      obtain ⟨m2, d1, d2, d3, d4⟩ := t_putL a2 (b := v / 65536 % 256) a3 (by rw [List.length_append]; show L.length + 1 < 47; omega)
      rw [List.append_assoc] at d3
      obtain ⟨m3, g1, g2, g3, g4⟩ := t_putL d2 (b := v / 256 % 256) d3 (by rw [List.length_append]; show L.length + 2 < 47; omega)
      rw [List.append_assoc] at g3
      obtain ⟨m4, k1, k2, k3, k4⟩ := t_putL g2 (b := v % 256) g3 (by rw [List.length_append]; show L.length + 3 < 47; omega)
      rw [List.append_assoc] at k3
      rw [if_neg h1, if_neg h2, if_neg h1, if_neg h2]
      refine ⟨m4, ?_, k2, k3, FS_tr (FS_tr (FS_tr a4 d4) g4) k4⟩
      rw [if_pos (by decide), a1, ob_s, d1, ob_s, b_M_putNumber_34_eq, if_neg (by decide), b_M_putNumber_50_eq, if_pos (by decide), s8, a255, g1, ob_s, b_M_putNumber_67_eq, if_neg (by decide), b_M_putNumber_82_eq, a255, k1, ob_s, rV_some]
end
