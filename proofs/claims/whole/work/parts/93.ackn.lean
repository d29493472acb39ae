section
theorem l_sub {v : Int64} {L : Int} {g f : Nat} (hv : v.toInt = L) (h1 : -17179869184 ≤ L) (h2 : L < 1073741824) (hg : g < 1073741824) (hf : f < 1073741824) : (v - (nI g).toInt64 - Int64.ofNat 2).toInt = L - g - 2 ∧ (v - (nI g).toInt64 - Int64.ofNat 2 - (nI f).toInt64).toInt = L - g - 2 - f := by
  have t2 : (Int64.ofNat 2).toInt = 2 := rfl
  have e1 : (v - (nI g).toInt64 - Int64.ofNat 2).toInt = L - g - 2 := by
    rw [Int64.toInt_sub, Int64.toInt_sub, Int32.toInt_toInt64, nI_toInt (by omega), hv, t2, Int.bmod_eq_of_le (n := L - g) (by omega) (by omega), Int.bmod_eq_of_le (by omega) (by omega)]
  refine ⟨e1, ?_⟩
  rw [Int64.toInt_sub, e1, Int32.toInt_toInt64, nI_toInt (by omega), Int.bmod_eq_of_le (by omega) (by omega)]
theorem l_32 {v : Int64} {n : Nat} (hv : v.toInt = n) (hn : n < 2 ^ 31) : v.toInt32 = nI n := by
  apply Int32.toInt_inj.mp
  rw [Int64.toInt_toInt32, hv, nI_toInt hn, Int.bmod_eq_of_le (by omega) (by omega)]
/-- ranges are noted from k on -/
def ST (m : Mm) (k : Nat) (R : List (Nat × Nat)) : Prop := ∀ j (hj : j < R.length), m.1 170 136 (k + j) = nI R[j].2 ∧ m.1 171 137 (k + j) = nI R[j].1
theorem Cu_170 {m m' : Mm} {B : Nat → Nat} {p s : Nat} (h : Cu m B p s) (hF : FS (fun r => r = 170 ∨ r = 171) m m') : Cu m' B p s := Cu_FS h hF (by omega) (by omega) (by omega)
theorem t_ackOk {U : Vt} {e l r s N : Nat} {B : Nat → Nat} (he : e < 2) (hU : U 21 e 0 = nI N) (hN : N ≤ 512) (hl : l < 1073741824) (hB : ∀ j, B j < 256) (hs : s ≤ 38) (hr : r < 3) : ∀ (F : List (Nat × Nat)) (i f p p' : Nat) (L : Int) (v5 : Int64) (v7 : Int32) (m : Mm), i + F.length = r + 1 → 10 * F.length + 2 < f → p ≤ s → PF B s p F p' → v5.toInt = L → -17179869184 + 2147483650 * F.length ≤ L → L < 1073741824 → v7 = 0 ∨ v7 = 1 → (v7 = 0 ↔ 0 ≤ L) → RM m U → Cu m B p s → m.1 127 98 0 = 0 →
    (l < N ∧ (nd 0 F : Int) ≤ L → ∃ m' g, f ≤ g + 10 * F.length + 1 ∧ b_M_ack_80 f 98 (nI e) (nI l) (nI r) v5 v7 (nI i) m = b_M_ack_203 g 98 (nI e) (nI r) 0 m' ∧ FS s170 m m' ∧ Cu m' B p' s ∧ (∀ j, j < i → m'.1 170 136 j = m.1 170 136 j ∧ m'.1 171 137 j = m.1 171 137 j) ∧ ST m' i (rgs L.toNat F)) ∧
    (¬ (l < N ∧ (nd 0 F : Int) ≤ L) → ∃ m', b_M_ack_80 f 98 (nI e) (nI l) (nI r) v5 v7 (nI i) m = some (.inl (some (.inl 5), m')) ∧ FS s170 m m') := by
  intro F
  induction F with
  | nil =>
    intro i f p p' L v5 v7 m hi hf hp hpf hv5 hL1 hL2 h7 h7' h hc hm
    obtain ⟨f, rfl⟩ : ∃ g, f = g + 1 := ⟨f - 1, by omega⟩
    simp only [List.length_nil, Nat.add_zero] at hi
    obtain rfl : p' = p := hpf
    have st : b_M_ack_80 (f + 1) 98 (nI e) (nI l) (nI r) v5 v7 (nI i) m = if nI N ≤ nI l then some (.inl (some (.inl 5), m)) else if v7 = 0 then b_M_ack_203 f 98 (nI e) (nI r) 0 m else some (.inl (some (.inl 5), m)) := by
      rw [b_M_ack_80_eq, if_pos (by clear h hc h7'; grind [nI_T]), hm, if_pos rfl, ab_ix_nI he (by decide)]
      try simp only [ob_s, lt_eq]
      rw [n21 h he (p := 98 + 19) rfl rfl, hU]
    constructor
    · intro z
      have v0 : v7 = 0 := h7'.mpr (by have := z.2; show 0 ≤ L; simp [nd] at this; omega)
      refine ⟨m, f, by omega, ?_, FS_rfl _ _, hc, fun _ _ => ⟨rfl, rfl⟩, fun j hj => by cases hj⟩
      rw [st, if_neg (by have := z.1; clear h hc h7' st z hm; grind [nI_T]), if_pos v0]
    · intro z
      refine ⟨m, ?_, FS_rfl _ _⟩
      rw [st]
      by_cases y : l < N
      · have v0 : ¬ v7 = 0 := fun q => z ⟨y, by have := h7'.mp q; simp [nd]; omega⟩
        rw [if_neg (by clear h hc h7' st z hm; grind [nI_T]), if_neg v0]
      · rw [if_pos (by clear h hc h7' st z hm; grind [nI_T])]
  | cons x F ih =>
    obtain ⟨g1, f1⟩ := x
    intro i f p p' L v5 v7 m hi hf hp hpf hv5 hL1 hL2 h7 h7' h hc hm
    simp only [List.length_cons] at hi hf hL1 ⊢
    obtain ⟨p1, p2, k1, k2, k3⟩ := hpf
    have q1 := num_lt hB k1
    have q2 := num_lt hB k2
    obtain ⟨f, rfl⟩ : ∃ g, f = g + 5 := ⟨f - 5, by omega⟩
    have a1 := (t_numberAt hc hB hs hp).1 g1 p1 k1
    have c1 : Cu (ab_uI m 124 98 0 (nI p1)) B p1 s := Cu_124 hc
    have a2 := (t_numberAt c1 hB hs q1.2.2).1 f1 p2 k2
    rw [uI_uI] at a2
    have c2 : Cu (ab_uI m 124 98 0 (nI p2)) B p2 s := Cu_124 hc
    obtain ⟨x, y, v7', g, d1, d2, d3, d4, d5⟩ := t_ackStep (e := e) (l := l) (v5 := v5) (i := i) (by omega) (by omega) hr a1 a2 h7 f
    obtain ⟨l1, l2⟩ := l_sub hv5 (by omega) hL2 q1.1 q2.1
    have fm : FS s170 m (ab_uI m 124 98 0 (nI p2)) := FS_uI (by unfold s170; omega)
    have f2 : FS (fun r => r = 170 ∨ r = 171) (ab_uI m 124 98 0 (nI p2)) (ab_uI (ab_uI (ab_uI m 124 98 0 (nI p2)) 170 136 i x) 171 137 i y) := FS_tr (FS_uI (.inl rfl)) (FS_uI (.inr rfl))
    have fa : FS s170 m (ab_uI (ab_uI (ab_uI m 124 98 0 (nI p2)) 170 136 i x) 171 137 i y) := FS_tr fm (FS_le f2 (fun r hr => by unfold s170; omega))
    have c3 := Cu_170 c2 f2
    have r3 := RM_170 h fa
    have m3 : (ab_uI (ab_uI (ab_uI m 124 98 0 (nI p2)) 170 136 i x) 171 137 i y).1 127 98 0 = 0 := by
      rw [FS_g f2 _ _ _ (by omega), uI_r _ _ _ _ _ _ _ _ (by omega)]; exact hm
    have keep : ∀ j, j < i → (ab_uI (ab_uI (ab_uI m 124 98 0 (nI p2)) 170 136 i x) 171 137 i y).1 170 136 j = m.1 170 136 j ∧ (ab_uI (ab_uI (ab_uI m 124 98 0 (nI p2)) 170 136 i x) 171 137 i y).1 171 137 j = m.1 171 137 j := by
      intro j hj
      constructor
      · rw [uI_r _ _ _ _ _ _ _ _ (by omega), uI_1, if_neg (by omega), uI_r _ _ _ _ _ _ _ _ (by omega)]
      · rw [uI_1, if_neg (by omega), uI_r _ _ _ _ _ _ _ _ (by omega), uI_r _ _ _ _ _ _ _ _ (by omega)]
    have at_i : (ab_uI (ab_uI (ab_uI m 124 98 0 (nI p2)) 170 136 i x) 171 137 i y).1 170 136 i = x ∧ (ab_uI (ab_uI (ab_uI m 124 98 0 (nI p2)) 170 136 i x) 171 137 i y).1 171 137 i = y := by
      constructor
      · rw [uI_r _ _ _ _ _ _ _ _ (by omega), uI_s]
      · rw [uI_s]
    generalize ab_uI (ab_uI (ab_uI m 124 98 0 (nI p2)) 170 136 i x) 171 137 i y = M at *
    have h7n : v7' = 0 ↔ 0 ≤ L - g1 - 2 - f1 := by
      rw [d4, l2, h7']
      omega
    obtain ⟨i1, i2⟩ := ih (i + 1) g p2 p' (L - g1 - 2 - f1) _ v7' M (by omega) (by omega) q2.2.2 k3 l2 (by omega) (by omega) d3 h7n r3 c3 m3
    have nda : ∀ (c : Nat) (G : List (Nat × Nat)) , nd c G = c + nd 0 G := by
      intro c G
      induction G generalizing c with
      | nil => rfl
      | cons u G ihG =>
        obtain ⟨u1, u2⟩ := u
        show nd (c + u1 + 2 + u2) G = c + nd (0 + u1 + 2 + u2) G
        rw [ihG, ihG (0 + u1 + 2 + u2)]
        omega
    have ndx : nd 0 ((g1, f1) :: F) = g1 + 2 + f1 + nd 0 F := by
      show nd (0 + g1 + 2 + f1) F = _
      rw [nda (0 + g1 + 2 + f1) F]
      omega
    rw [ndx]
    constructor
    · intro z
      have z2 := z.2
      obtain ⟨m', g', e1, e2, e3, e4, e5, e6⟩ := i1 ⟨z.1, by omega⟩
      have v0 : v7' = 0 := h7n.mpr (by omega)
      obtain ⟨x1, y1⟩ := d5 v0
      refine ⟨m', g', by omega, d2.trans e2, FS_tr fa e3, e4, fun j hj => ?_, fun j hj => ?_⟩
      · have := e5 j (by omega)
        have := keep j hj
        exact ⟨(e5 j (by omega)).1.trans (keep j hj).1, (e5 j (by omega)).2.trans (keep j hj).2⟩
      · unfold rgs
        have et : (L - g1 - 2 - f1).toNat = L.toNat - g1 - 2 - f1 := by omega
        rw [et] at e6
        cases j with
        | zero =>
          have := e5 i (by omega)
          show m'.1 170 136 i = nI (L.toNat - g1 - 2) ∧ m'.1 171 137 i = nI (L.toNat - g1 - 2 - f1)
          rw [this.1, this.2, at_i.1, at_i.2, x1, y1]
          exact ⟨l_32 (by rw [l1]; omega) (by omega), l_32 (by rw [l2]; omega) (by omega)⟩
        | succ j =>
          unfold rgs at hj
          have := e6 j (by simpa using hj)
          rw [show i + (j + 1) = i + 1 + j by omega]
          exact this
    · intro z
      obtain ⟨m', e1, e2⟩ := i2 (fun y => z ⟨y.1, by omega⟩)
      exact ⟨m', d2.trans e1, FS_tr fa e2⟩
end
