section
/-! An ACK frame: the model. -/
theorem lg0 (w : Int64) : 0 ≤ lg_cmp w (Int64.ofNat 0) ↔ 0 ≤ w.toInt := by
  have z : (Int64.ofNat 0).toInt = 0 := rfl
  unfold lg_cmp
  by_cases h1 : w > Int64.ofNat 0
  · rw [if_pos h1]
    have : (Int64.ofNat 0).toInt < w.toInt := Int64.lt_iff_toInt_lt.mp h1
    rw [z] at this
    exact ⟨fun _ => by omega, fun _ => by decide⟩
  · rw [if_neg h1]
    have n1 : ¬ (Int64.ofNat 0).toInt < w.toInt := fun q => h1 (Int64.lt_iff_toInt_lt.mpr q)
    rw [z] at n1
    by_cases h2 : w = Int64.ofNat 0
    · rw [if_pos h2, h2, z]
      exact ⟨fun _ => Int.le_refl _, fun _ => by decide⟩
    · rw [if_neg h2]
      have n2 : w.toInt ≠ 0 := fun q => h2 (Int64.toInt_inj.mp (q.trans z.symm))
      exact ⟨fun q => absurd q (by decide), fun q => by omega⟩
/-- pairs of numbers stand one behind the other -/
def PF (B : Nat → Nat) (s : Nat) : Nat → List (Nat × Nat) → Nat → Prop
  | p, [], p' => p' = p
  | p, (g, f) :: t, p' => ∃ p1 p2, num B p s = some (g, p1) ∧ num B p1 s = some (f, p2) ∧ PF B s p2 t p'
def s170 (r : Nat) : Prop := r = 124 ∨ r = 127 ∨ r = 170 ∨ r = 171
theorem RM_170 {m m' : Mm} {U : Vt} (h : RM m U) (hF : FS s170 m m') : RM m' U := by
  obtain ⟨h1, h2, h3, h4, h5⟩ := h
  have k : ∀ r p j, ¬ s170 r → m'.1 r p j = m.1 r p j := fun r p j hr => FS_g hF r p j hr
  unfold s170 at k
  refine ⟨fun k' a' b' t' z' => ?_, ?_, fun e he => ?_, fun a' ha hl => ?_, fun a' ha => ?_⟩
  · have := mr_in k' (Ts_k t').1
    rw [k _ _ _ (by omega)]; exact h1 k' a' b' t' z'
  · rw [k _ _ _ (by omega), k _ _ _ (by omega), k _ _ _ (by omega)]; exact h2
  · rw [k _ _ _ (by omega), k _ _ _ (by omega), k _ _ _ (by omega), k _ _ _ (by omega)]; exact h3 e he
  · rw [k _ _ _ (by omega), k _ _ _ (by omega)]
    refine ⟨(h4 a' ha hl).1, (h4 a' ha hl).2.1, fun b' hb hc => ?_⟩
    rw [k _ _ _ (by omega)]
    exact (h4 a' ha hl).2.2 b' hb hc
  · have h6 := h5 a' ha
    rw [k _ _ _ (by omega), k _ _ _ (by omega), k _ _ _ (by omega)]
    refine ⟨h6.1, h6.2.1, h6.2.2.1, fun s hs => ?_⟩
    rw [k _ _ _ (by omega)]
    exact h6.2.2.2 s hs
/-- two numbers are behind, the range is noted -/
theorem t_ackStep {e l r i : Nat} {v5 : Int64} {v7 x2 x4 : Int32} {m m1 m2 : Mm} (hi : i < 3) (hir : i ≤ r) (hr : r < 3) (n1 : r_M_numberAt 98 m = some (x2, m1)) (n2 : r_M_numberAt 98 m1 = some (x4, m2)) (h7 : v7 = 0 ∨ v7 = 1) (f : Nat) :
    ∃ x y v7' g, f ≤ g + 1 ∧ b_M_ack_80 (f + 5) 98 (nI e) (nI l) (nI r) v5 v7 (nI i) m = b_M_ack_80 g 98 (nI e) (nI l) (nI r) (v5 - x2.toInt64 - Int64.ofNat 2 - x4.toInt64) v7' (nI (i + 1)) (ab_uI (ab_uI m2 170 136 i x) 171 137 i y) ∧ (v7' = 0 ∨ v7' = 1) ∧ (v7' = 0 ↔ v7 = 0 ∧ 0 ≤ (v5 - x2.toInt64 - Int64.ofNat 2 - x4.toInt64).toInt) ∧ (v7' = 0 → x = (v5 - x2.toInt64 - Int64.ofNat 2).toInt32 ∧ y = (v5 - x2.toInt64 - Int64.ofNat 2 - x4.toInt64).toInt32) := by
  have q : ∀ (g : Nat) (w3 w5 : Int64) (u : Int32), u = 0 ∨ u = 1 → b_M_ack_128 (g + 3) 98 (nI e) (nI l) (nI r) w5 (nI i) w3 u m2 = b_M_ack_80 g 98 (nI e) (nI l) (nI r) w5 u (nI (i + 1)) (ab_uI (ab_uI m2 170 136 i (if u = 0 then w3.toInt32 else -1)) 171 137 i (if u = 0 then w5.toInt32 else 0)) := by
    intro g w3 w5 u hu
    have q148 : ∀ x, b_M_ack_148 (g + 2) 98 (nI e) (nI l) (nI r) w5 u (nI i) (98 + 38) (nI i) x m2 = b_M_ack_80 g 98 (nI e) (nI l) (nI r) w5 u (nI (i + 1)) (ab_uI (ab_uI m2 170 136 i x) 171 137 i (if u = 0 then w5.toInt32 else 0)) := by
      intro x
      have q167 : ∀ y, b_M_ack_167 (g + 1) 98 (nI e) (nI l) (nI r) w5 u (nI i) (98 + 39) (nI i) y (ab_uI m2 170 (98 + 38) i x) = b_M_ack_80 g 98 (nI e) (nI l) (nI r) w5 u (nI (i + 1)) (ab_uI (ab_uI m2 170 136 i x) 171 137 i y) := by
        intro y
        rw [b_M_ack_167_eq, ab_ix_nI hi (by decide)]
        try simp only [ob_s, lt_eq]
        rw [nI_1]
      rw [b_M_ack_148_eq, ab_ix_nI hi (by decide)]
      try simp only [ob_s, lt_eq]
      rw [q167, q167]
      by_cases z : u = 0
      · rw [if_pos z, if_pos z]
      · rw [if_neg z, if_neg z]
    rw [b_M_ack_128_eq, q148, q148]
    by_cases z : u = 0
    · simp only [if_pos z]
    · simp only [if_neg z]
  have start : b_M_ack_80 (f + 5) 98 (nI e) (nI l) (nI r) v5 v7 (nI i) m = if v7 = 0 then if 0 ≤ lg_cmp (v5 - x2.toInt64 - Int64.ofNat 2 - x4.toInt64) (Int64.ofNat 0) then b_M_ack_128 (f + 4) 98 (nI e) (nI l) (nI r) (v5 - x2.toInt64 - Int64.ofNat 2 - x4.toInt64) (nI i) (v5 - x2.toInt64 - Int64.ofNat 2) 0 m2 else b_M_ack_123 (f + 4) 98 (nI e) (nI l) (nI r) (v5 - x2.toInt64 - Int64.ofNat 2 - x4.toInt64) (nI i) (v5 - x2.toInt64 - Int64.ofNat 2) m2 else b_M_ack_123 (f + 4) 98 (nI e) (nI l) (nI r) (v5 - x2.toInt64 - Int64.ofNat 2 - x4.toInt64) (nI i) (v5 - x2.toInt64 - Int64.ofNat 2) m2 := by
    rw [b_M_ack_80_eq, if_neg (by clear q n1 n2; grind [nI_T]), n1]
    try simp only [ob_s, lt_eq]
    rw [n2]
    try simp only [ob_s, lt_eq]
  generalize v5 - x2.toInt64 - Int64.ofNat 2 - x4.toInt64 = w5 at *
  generalize v5 - x2.toInt64 - Int64.ofNat 2 = w3 at *
  have one : ∀ (g : Nat), b_M_ack_123 (g + 4) 98 (nI e) (nI l) (nI r) w5 (nI i) w3 m2 = b_M_ack_80 g 98 (nI e) (nI l) (nI r) w5 1 (nI (i + 1)) (ab_uI (ab_uI m2 170 136 i (-1)) 171 137 i 0) := by
    intro g
    rw [b_M_ack_123_eq, q _ _ _ _ (.inr rfl), if_neg (by decide), if_neg (by decide)]
  by_cases z : v7 = 0
  · rw [if_pos z] at start
    by_cases z2 : 0 ≤ w5.toInt
    · rw [if_pos ((lg0 w5).mpr z2), q _ _ _ _ (.inl rfl), if_pos rfl, if_pos rfl] at start
      exact ⟨_, _, _, _, by omega, start, .inl rfl, ⟨fun _ => ⟨z, z2⟩, fun _ => rfl⟩, fun _ => ⟨rfl, rfl⟩⟩
    · rw [if_neg (fun y => z2 ((lg0 w5).mp y)), one] at start
      exact ⟨_, _, _, _, by omega, start, .inr rfl, ⟨fun y => absurd y (by decide), fun y => (z2 y.2).elim⟩, fun y => absurd y (by decide)⟩
  · rw [if_neg z, one] at start
    exact ⟨_, _, _, _, by omega, start, .inr rfl, ⟨fun y => absurd y (by decide), fun y => (z y.1).elim⟩, fun y => absurd y (by decide)⟩
/-- a number is missing: the frame is none -/
theorem t_ackMiss {e l r s : Nat} {B : Nat → Nat} (hB : ∀ j, B j < 256) (hs : s ≤ 38) (hr : r < 3) : ∀ (j i f p : Nat) (v5 : Int64) (v7 : Int32) (m : Mm), i + j = r + 1 → 10 * j + 1 < f → p ≤ s → v7 = 0 ∨ v7 = 1 → Cu m B p s → m.1 127 98 0 = 1 → ∃ m', b_M_ack_80 f 98 (nI e) (nI l) (nI r) v5 v7 (nI i) m = some (.inl (some (.inl 1), m')) ∧ FS s170 m m' := by
  intro j
  induction j with
  | zero =>
    intro i f p v5 v7 m hi hf hp h7 hc hm
    obtain ⟨f, rfl⟩ : ∃ g, f = g + 1 := ⟨f - 1, by omega⟩
    rw [b_M_ack_80_eq, if_pos (by (try clear ih); grind [nI_T]), hm, if_neg (by decide)]
    exact ⟨m, rfl, FS_rfl _ _⟩
  | succ j ih =>
    intro i f p v5 v7 m hi hf hp h7 hc hm
    obtain ⟨f, rfl⟩ : ∃ g, f = g + 5 := ⟨f - 5, by omega⟩
    have nx : ∀ (p : Nat) (m : Mm), p ≤ s → Cu m B p s → m.1 127 98 0 = 1 → ∃ x m1 p1, r_M_numberAt 98 m = some (x, m1) ∧ p1 ≤ s ∧ Cu m1 B p1 s ∧ m1.1 127 98 0 = 1 ∧ FS s170 m m1 := by
      intro p m hp hc hm
      obtain ⟨a1, a2⟩ := t_numberAt hc hB hs hp
      cases hn : num B p s with
      | none =>
        refine ⟨_, _, p, a2 hn, hp, ?_, uI_s _ _ _ _ _, FS_uI (by unfold s170; omega)⟩
        refine ⟨?_, ?_, fun t ht ht' => ?_⟩
        · rw [uI_r _ _ _ _ _ _ _ _ (by omega)]; exact hc.1
        · rw [uI_r _ _ _ _ _ _ _ _ (by omega)]; exact hc.2.1
        · rw [uI_r _ _ _ _ _ _ _ _ (by omega)]; exact hc.2.2 t ht ht'
      | some z =>
        obtain ⟨v, p1⟩ := z
        have := num_lt hB hn
        exact ⟨_, _, p1, a1 v p1 hn, this.2.2, Cu_124 hc, by rw [uI_r _ _ _ _ _ _ _ _ (by omega)]; exact hm, FS_uI (by unfold s170; omega)⟩
    obtain ⟨x2, m1, p1, a1, a2, a3, a4, a5⟩ := nx p m hp hc hm
    obtain ⟨x4, m2, p2, b1, b2, b3, b4, b5⟩ := nx p1 m1 a2 a3 a4
    obtain ⟨x, y, v7', g, c1, c2, c3, _, _⟩ := t_ackStep (e := e) (l := l) (v5 := v5) (i := i) (by omega) (by omega) hr a1 b1 h7 f
    have f2 : FS s170 m2 (ab_uI (ab_uI m2 170 136 i x) 171 137 i y) := FS_tr (FS_uI (by unfold s170; omega)) (FS_uI (by unfold s170; omega))
    obtain ⟨m', d1, d2⟩ := ih (i + 1) g p2 _ v7' (ab_uI (ab_uI m2 170 136 i x) 171 137 i y) (by omega) (by omega) b2 c3 (by
      refine ⟨?_, ?_, fun t ht ht' => ?_⟩
      · rw [uI_r _ _ _ _ _ _ _ _ (by omega), uI_r _ _ _ _ _ _ _ _ (by omega)]; exact b3.1
      · rw [uI_r _ _ _ _ _ _ _ _ (by omega), uI_r _ _ _ _ _ _ _ _ (by omega)]; exact b3.2.1
      · rw [uI_r _ _ _ _ _ _ _ _ (by omega), uI_r _ _ _ _ _ _ _ _ (by omega)]; exact b3.2.2 t ht ht') (by rw [uI_r _ _ _ _ _ _ _ _ (by omega), uI_r _ _ _ _ _ _ _ _ (by omega)]; exact b4)
    exact ⟨m', c2.trans d1, FS_tr a5 (FS_tr b5 (FS_tr f2 d2))⟩
end
