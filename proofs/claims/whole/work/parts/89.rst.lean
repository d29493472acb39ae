section
/-! A RESET frame, on both sides. -/
def rsV (V : Vt) (e a v : Nat) : Vt := lkV (uV (uV (uV V 48 (4 * e + a) 0 (nI v)) 49 (4 * e + a) 0 (nI v)) 51 (4 * e + a) 0 1) e
theorem ff_48 {V : Vt} {e a t : Nat} (h : ff V e a t 1 = 0) : ¬ nI t < V 48 (4 * e + a) 0 := by
  intro y
  unfold ff at h
  by_cases z : V 50 (4 * e + a) 0 < nI t ∨ V 43 e 0 < nI (oth V e a + max (nn (V 48 (4 * e + a) 0)) t)
  · rw [if_pos z] at h
    exact absurd h (by decide)
  · rw [if_neg z, if_pos (.inl ⟨by decide, y⟩)] at h
    exact absurd h (by decide)
def sRs (r : Nat) : Prop := r = 44 ∨ r = 48 ∨ r = 49 ∨ r = 51
theorem s_takeReset {V : Vt} {w W : Nat → Nat} {e a I v : Nat} {m : Mm} (h : RC m V w W) (hi : ∀ a, a < 8 → IN V a) (he : e < 2) (hI : I = 12 + 30 * e) (ha : a < 2 ^ 31) (hv : v < 2 ^ 31) :
    (4 ≤ a → r_Int_takeReset I (nI a) (nI v) m = some (2, m)) ∧ (a < 4 → ff V e a v 1 ≠ 0 → r_Int_takeReset I (nI a) (nI v) m = some (ff V e a v 1, m)) ∧
    (a < 4 → ff V e a v 1 = 0 → ∃ m', r_Int_takeReset I (nI a) (nI v) m = some (0, m') ∧ RC m' (rsV V e a v) w W ∧ FS sRs m m') := by
  have start : b_Int_takeReset_0 50000 I (nI a) (nI v) m = if (if 4 ≤ a then 2 else ff V e a v 1) = 0 then (ab_ix (nI a) 4).bind fun i2 => (r_Inc_reachTo (I + 1 + 1 + 2 * i2) (nI v) 1 m).bind fun m3 => (ab_ix (nI a) 4).bind fun i4 => (r_Int_lookAtLimitAll I (ab_uI m3 51 (I + 1 + 1 + 2 * i4) 0 1)).bind fun m7 => some (.inl (some (.inl 0), m7)) else some (.inl (some (.inl (if 4 ≤ a then 2 else ff V e a v 1)), m)) := by
    rw [b_Int_takeReset_0_eq, s_findFault h hi he hI hv ha]
    simp only [ob_s, lt_eq, bo_1]
  refine ⟨fun z => ?_, fun z z2 => ?_, fun z z2 => ?_⟩
  · rw [r_Int_takeReset_eq, start, if_pos z, if_neg (by decide)]
    rfl
  · rw [r_Int_takeReset_eq, start, if_neg (show ¬ 4 ≤ a by omega), if_neg z2]
    rfl
  · have q := ff_48 z2
    have mx : (if V 48 (4 * e + a) 0 < nI v then nI v else V 48 (4 * e + a) 0) = nI v := by
      clear start
      by_cases y : V 48 (4 * e + a) 0 < nI v
      · rw [if_pos y]
      · rw [if_neg y]
        grind
    have rt : r_Inc_reachTo (I + 1 + 1 + 2 * a) (nI v) 1 m = some (ab_uI (ab_uI m 48 (I + 1 + 1 + 2 * a) 0 (nI v)) 49 (I + 1 + 1 + 2 * a) 0 (nI v)) := by
      rw [r_Inc_reachTo_eq, b_Inc_reachTo_0_eq, c48 h he z (by omega), s_max, mx]
      try simp only [ob_s, lt_eq]
      rw [if_neg (by decide)]
      rfl
    have h3 := cu51 (cu49 (cu48 h he z (p := I + 1 + 1 + 2 * a) (by omega) (nI v)) he z (p := I + 1 + 1 + 2 * a) (by omega) (nI v)) he z (p := I + 1 + 1 + 2 * a) (by omega) 1
    obtain ⟨m', a1, a2, a3⟩ := s_lookAtLimitAll h3 he hI
    refine ⟨m', ?_, a2, FS_tr (FS_tr (FS_tr (FS_uI (by unfold sRs; omega)) (FS_uI (by unfold sRs; omega))) (FS_uI (by unfold sRs; omega))) (FS_le a3 (fun r hr => by unfold sRs; omega))⟩
    rw [r_Int_takeReset_eq, start, if_neg (show ¬ 4 ≤ a by omega), if_pos z2, ab_ix_nI z (by decide)]
    try simp only [ob_s, lt_eq]
    rw [rt]
    try simp only [ob_s, lt_eq]
    rw [a1]
    rfl
theorem t_resetBy {U : Vt} {e a v : Nat} {m : Mm} (h : RM m U) (hi : ∀ a, a < 8 → IN U a) (hg : 0 ≤ U 43 e 0) (h44 : U 44 e 0 = 0 ∨ U 44 e 0 = 1) (he : e < 2) (ha : a < 4) (hv : v < 1073741824) :
    (ff U e a v 1 ≠ 0 → r_M_resetBy 98 (nI e) (nI (4 * e + a)) (nI v) m = some (ff U e a v 1, m)) ∧
    (ff U e a v 1 = 0 → ∃ m', r_M_resetBy 98 (nI e) (nI (4 * e + a)) (nI v) m = some (0, m') ∧ RM m' (rsV U e a v) ∧ FS (fun r => r = 143 ∨ r = 144 ∨ r = 147 ∨ r = 157) m m') := by
  have hx : 4 * e + a < 8 := by omega
  have inn := hi (4 * e + a) hx
  have i48 := IN_48 inn
  unfold IN at inn
  have i50 := inn.2.1.2.2
  have i49 := inn.2.2.1.1
  have k48 := n48 h hx (p := 98 + 11) rfl rfl
  have k50 := n50 h hx (p := 98 + 14) rfl rfl
  have k49 := n49 h hx (p := 98 + 12) rfl rfl
  have run : b_M_resetBy_0 50000 98 (nI e) (nI (4 * e + a)) (nI v) m = if ff U e a v 1 = 0 then b_M_resetBy_72 49998 98 (nI e) (nI (4 * e + a)) (nI v) m else some (.inl (some (.inl (ff U e a v 1)), m)) := by
    rw [b_M_resetBy_0_eq, ab_ix_nI hx (by decide)]
    try simp only [ob_s, lt_eq]
    rw [k50, k48]
    by_cases y1 : U 50 (4 * e + a) 0 < nI v
    · have f3 : ff U e a v 1 = 3 := by
        unfold ff
        rw [if_pos (.inl y1)]
      rw [if_pos y1, f3, if_neg (show ¬ (3 : Int32) = 0 by decide)]
    · have ht64 : v ≤ 64 := by
        clear inn
        grind [nI_T]
      have hmax : max (nn (U 48 (4 * e + a) 0)) v ≤ 64 := Nat.max_le.mpr ⟨i48.2, ht64⟩
      have far : (if nI v ≤ U 48 (4 * e + a) 0 then b_M_resetBy_33 49999 98 (nI e) (nI (4 * e + a)) (nI v) 98 (nI e) (nI (4 * e + a)) (U 48 (4 * e + a) 0) m else b_M_resetBy_33 49999 98 (nI e) (nI (4 * e + a)) (nI v) 98 (nI e) (nI (4 * e + a)) (nI v) m) = b_M_resetBy_33 49999 98 (nI e) (nI (4 * e + a)) (nI v) 98 (nI e) (nI (4 * e + a)) (nI (max (nn (U 48 (4 * e + a) 0)) v)) m := by
        have q1 := i48.1
        have q2 := i48.2
        generalize nn (U 48 (4 * e + a) 0) = H at *
        rw [← q1]
        by_cases y : v ≤ H
        · rw [if_pos (by clear inn; grind [nI_T]), Nat.max_eq_left (by omega)]
        · rw [if_neg (by clear inn; grind [nI_T]), Nat.max_eq_right (by omega)]
      rw [if_neg y1, far, b_M_resetBy_33_eq, t_isBeyond h hi he ha hmax hg]
      try simp only [ob_s, lt_eq]
      rw [ib_if]
      by_cases y2 : U 43 e 0 < nI (oth U e a + max (nn (U 48 (4 * e + a) 0)) v)
      · have f3 : ff U e a v 1 = 3 := by
          unfold ff
          rw [if_pos (.inr y2)]
        rw [if_pos y2, f3, if_neg (show ¬ (3 : Int32) = 0 by decide)]
      · have f3 : ff U e a v 1 = if ((1 : Int32) ≠ 0 ∧ nI v < U 48 (4 * e + a) 0) ∨ (U 49 (4 * e + a) 0 ≠ -1 ∧ (if (1 : Int32) = 0 then U 49 (4 * e + a) 0 < nI v else nI v ≠ U 49 (4 * e + a) 0)) then 4 else 0 := by
          unfold ff
          rw [if_neg (fun y => y.elim y1 y2)]
        rw [if_neg y2, f3, ab_ix_nI hx (by decide)]
        try simp only [ob_s, lt_eq]
        rw [k48, k49]
        generalize b_M_resetBy_72 49998 98 (nI e) (nI (4 * e + a)) (nI v) m = X at *
        generalize U 48 (4 * e + a) 0 = a48 at *
        generalize U 49 (4 * e + a) 0 = a49 at *
        clear far inn f3 k48 k49 k50 h hi i48 hmax
        generalize nI v = tt at *
        have one : ¬ (1 : Int32) = 0 := by decide
        by_cases w1 : a49 = -1 <;> by_cases w2 : tt = a49 <;> by_cases w3 : tt < a48 <;> grind
  constructor
  · intro z
    rw [r_M_resetBy_eq, run, if_neg z]
    rfl
  · intro z
    have h3 := nu48 (nu49 (nu51 h hx (p := 98 + 15) (j := 4 * e + a) rfl rfl 1) hx (p := 98 + 12) (j := 4 * e + a) rfl rfl (nI v)) hx (p := 98 + 11) (j := 4 * e + a) rfl rfl (nI v)
    obtain ⟨m', a1, a2, a3⟩ := t_lookAll h3 he (by rw [uV_k _ _ _ _ _ (by omega), uV_k _ _ _ _ _ (by omega), uV_k _ _ _ _ _ (by omega)]; exact h44)
    refine ⟨m', ?_, ?_, FS_tr (FS_tr (FS_tr (FS_uI (.inr (.inr (.inl rfl)))) (FS_uI (.inr (.inl rfl)))) (FS_uI (.inl rfl))) (FS_le a3 (fun r hr => .inr (.inr (.inr hr))))⟩
    · rw [r_M_resetBy_eq, run, if_pos z, b_M_resetBy_72_eq, ab_ix_nI hx (by decide), bo_1]
      try simp only [ob_s, lt_eq]
      rw [a1]
      rfl
    · unfold rsV
      rw [uV_comm (k := 51) (k' := 49) (by omega), uV_comm (k := 51) (k' := 48) (by omega), uV_comm (k := 49) (k' := 48) (by omega)] at a2
      exact a2
end
