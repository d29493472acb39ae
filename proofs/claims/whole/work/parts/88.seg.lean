section
/-! A STREAM frame, on both sides. -/
/-- data of a stream have come -/
def sgV (V : Vt) (e s o n : Nat) (u : Int32) (D : Nat → Int32) : Vt := if u = 0 then uV (kpV V (4 * e + s) o n D) 48 (4 * e + s) 0 (if V 48 (4 * e + s) 0 < nI (o + n) then nI (o + n) else V 48 (4 * e + s) 0) else uV (uV (kpV V (4 * e + s) o n D) 48 (4 * e + s) 0 (if V 48 (4 * e + s) 0 < nI (o + n) then nI (o + n) else V 48 (4 * e + s) 0)) 49 (4 * e + s) 0 (nI (o + n))
theorem ff_le {V : Vt} {e s t : Nat} {u : Int32} (hi : ∀ a, a < 8 → IN V a) (he : e < 2) (hs : s < 4) (ht : t < 2 ^ 31) (h : ff V e s t u = 0) : t ≤ 64 := by
  have i50 : V 50 (4 * e + s) 0 ≤ 64 := by
    have := hi (4 * e + s) (by omega)
    unfold IN at this
    exact this.2.1.2.2
  unfold ff at h
  by_cases z : V 50 (4 * e + s) 0 < nI t ∨ V 43 e 0 < nI (oth V e s + max (nn (V 48 (4 * e + s) 0)) t)
  · rw [if_pos z] at h
    exact absurd h (by decide)
  · have z1 : ¬ V 50 (4 * e + s) 0 < nI t := fun q => z (.inl q)
    clear h z hi
    grind [nI_T]
theorem nI_mod2 {k : Nat} (hk : k < 2 ^ 31) : (if nI k - nI k / 2 * 2 = 1 then (1 : Int32) else 0) = nI (k % 2) := by
  have e : nI k - nI k / 2 * 2 = nI (k % 2) := nI_rem (k := 2) hk (by decide) (by decide)
  rw [e]
  have : k % 2 = 0 ∨ k % 2 = 1 := by omega
  rcases this with q | q <;> rw [q] <;> decide
theorem s_takeData {V : Vt} {w W : Nat → Nat} {e a I R q o k d : Nat} {m : Mm} (h : RC m V w W) (hi : ∀ a, a < 8 → IN V a) (he : e < 2) (hI : I = 12 + 30 * e) (ha : a < 2 ^ 31) (ho : o < 1073741824) (hk : k < 1073741824) (hd : d + k / 2 ≤ 40) (n0 : m.1 38 (R + 1) 0 = nI a) (n1 : m.1 38 (R + 1) 1 = nI o) (n2 : m.1 38 (R + 1) 2 = nI k) (h34 : m.2.2.1 34 R 0 = some q) (h35 : m.1 35 R 0 = nI d) :
    (4 ≤ a → r_Int_takeData I R m = some (2, m)) ∧ (a < 4 → ff V e a (o + k / 2) (nI (k % 2)) ≠ 0 → r_Int_takeData I R m = some (ff V e a (o + k / 2) (nI (k % 2)), m)) ∧
    (a < 4 → ff V e a (o + k / 2) (nI (k % 2)) = 0 → ∃ m', r_Int_takeData I R m = some (0, m') ∧ RC m' (sgV V e a o (k / 2) (nI (k % 2)) (fun t => m.1 13 (q + 1) (d + t))) w W ∧ FS (fun r => r = 48 ∨ r = 49 ∨ r = 53) m m') := by
  have e2 : nI k / 2 = nI (k / 2) := nI_div (k := 2) (by omega) (by decide) (by decide)
  have q33 : ∀ f u, b_Int_takeData_33 (f + 1) I R (nI a) (nI (k / 2)) u m = if (if 4 ≤ a then 2 else ff V e a (o + k / 2) u) = 0 then b_Int_takeData_67 f I R (nI a) (nI (k / 2)) u (nI o) 0 m else some (.inl (some (.inl (if 4 ≤ a then 2 else ff V e a (o + k / 2) u)), m)) := by
    intro f u
    rw [b_Int_takeData_33_eq, i_ix (x := 1) (k := 1) (n := 7) rfl (by omega) (by decide)]
    try simp only [ob_s, lt_eq]
    rw [n1, nI_add, s_findFault h hi he hI (by omega) ha]
    try simp only [ob_s, lt_eq]
  have start : b_Int_takeData_0 50000 I R m = b_Int_takeData_33 49999 I R (nI a) (nI (k / 2)) (nI (k % 2)) m := by
    rw [b_Int_takeData_0_eq, i_ix (x := 0) (k := 0) (n := 7) rfl (by omega) (by decide), i_ix (x := 2) (k := 2) (n := 7) rfl (by omega) (by decide)]
    try simp only [ob_s, lt_eq]
    rw [n0, n2, if_neg (by decide), if_neg (by decide), e2, ← nI_mod2 (k := k) (by omega), e2]
    split <;> rfl
  refine ⟨fun z => ?_, fun z z2 => ?_, fun z z2 => ?_⟩
  · rw [r_Int_takeData_eq, start, q33, if_pos z, if_neg (by decide)]
    rfl
  · rw [r_Int_takeData_eq, start, q33, if_neg (show ¬ 4 ≤ a by omega), if_neg z2]
    rfl
  · have hon := ff_le hi he z (by omega) z2
    obtain ⟨m', a1, a2, a3⟩ := s_dataLoop (V := V) (w := w) (W := W) (I := I) (R := R) (q := q) (u := nI (k % 2)) (D := fun t => m.1 13 (q + 1) (d + t)) he z hI hon hd (k / 2) 0 49998 m (by omega) (by omega) (by rw [kpV_0]; exact h) h34 h35 (fun t _ => rfl)
    refine ⟨m', ?_, a2, a3⟩
    rw [r_Int_takeData_eq, start, q33, if_neg (show ¬ 4 ≤ a by omega), if_pos z2]
    exact congrArg ab_rI a1
theorem Cu_FS {S : Nat → Prop} {m m' : Mm} {B : Nat → Nat} {p s : Nat} (h : Cu m B p s) (hF : FS S m m') (h1 : ¬ S 123) (h2 : ¬ S 124) (h3 : ¬ S 167) : Cu m' B p s := by
  obtain ⟨a1, a2, a3⟩ := h
  refine ⟨?_, ?_, fun j hj hj' => ?_⟩
  · rw [FS_g hF _ _ _ h2]; exact a1
  · rw [FS_g hF _ _ _ h1]; exact a2
  · rw [FS_g hF _ _ _ h3]; exact a3 j hj hj'
theorem Cu_124 {m : Mm} {B : Nat → Nat} {p p' s : Nat} (h : Cu m B p s) : Cu (ab_uI m 124 98 0 (nI p')) B p' s := by
  obtain ⟨a1, a2, a3⟩ := h
  refine ⟨uI_s _ _ _ _ _, ?_, fun j hj hj' => ?_⟩
  · rw [uI_r _ _ _ _ _ _ _ _ (by omega)]; exact a2
  · rw [uI_r _ _ _ _ _ _ _ _ (by omega)]; exact a3 j hj hj'
def sSg (r : Nat) : Prop := r = 142 ∨ r = 143 ∨ r = 144 ∨ r = 124
theorem kpV_49 {V : Vt} {a o n : Nat} {D : Nat → Int32} {x : Int32} : kpV (uV V 49 a 0 x) a o n D = uV (kpV V a o n D) 49 a 0 x := by
  funext k a' b
  unfold kpV
  rw [uV_k _ _ _ _ _ (show (53 : Nat) ≠ 49 by omega), uV_k _ _ _ _ _ (show (51 : Nat) ≠ 49 by omega)]
  by_cases z : k = 53 ∧ a' = a ∧ o ≤ b ∧ b < o + n ∧ V 53 a b = -1 ∧ V 51 a 0 = 0
  · rw [if_pos z, uV_k _ _ _ _ _ (by omega), if_pos z]
  · rw [if_neg z]
    unfold uV
    by_cases y : k = 49 ∧ a' = a ∧ b = 0
    · rw [if_pos y, if_pos y]
    · rw [if_neg y, if_neg y]
      exact (if_neg z).symm
theorem t_segLoop {U : Vt} {e a o n p s : Nat} {B : Nat → Nat} {far : Int32} (he : e < 2) (ha : a < 4) (hon : o + n ≤ 64) (hs : s ≤ 38) (hps : p + n ≤ s) (hneg : ∀ b, b < 64 → -1 ≤ U 53 (4 * e + a) b) (hB : ∀ j, B j < 256) : ∀ (j i f : Nat) (m : Mm), i + j = n → 2 * j + 2 < f → RM m (kpV U (4 * e + a) o i (fun t => nI (B (p + t)))) → Cu m B p s → ∃ m', b_M_segment_204 f 98 (nI o) (nI n) (nI (4 * e + a)) far (nI i) m = some (.inl (some (.inl 0), m')) ∧ RM m' (uV (kpV U (4 * e + a) o n (fun t => nI (B (p + t)))) 48 (4 * e + a) 0 far) ∧ Cu m' B (p + n) s ∧ FS sSg m m' := by
  intro j
  have hx : 4 * e + a < 8 := by omega
  have fin : ∀ (f : Nat) (m : Mm), RM m (kpV U (4 * e + a) o n (fun t => nI (B (p + t)))) → Cu m B p s → ∃ m', b_M_segment_278 (f + 1) 98 (nI n) (nI (4 * e + a)) far m = some (.inl (some (.inl 0), m')) ∧ RM m' (uV (kpV U (4 * e + a) o n (fun t => nI (B (p + t)))) 48 (4 * e + a) 0 far) ∧ Cu m' B (p + n) s ∧ FS sSg m m' := by
    intro f m h hc
    rw [b_M_segment_278_eq, ab_ix_nI hx (by decide)]
    try simp only [ob_s, lt_eq]
    rw [uI_r _ _ _ _ _ _ _ _ (by omega), hc.1, nI_add]
    have f1 : FS sSg m (ab_uI m 143 (98 + 11) (4 * e + a) far) := FS_uI (by unfold sSg; omega)
    refine ⟨_, rfl, RM_sm (nu48 h hx rfl rfl far) (by unfold Sm; omega), ?_, FS_tr f1 (FS_uI (by unfold sSg; omega))⟩
    refine Cu_124 (p := p) ⟨?_, ?_, fun t ht ht' => ?_⟩
    · rw [uI_r _ _ _ _ _ _ _ _ (by omega)]; exact hc.1
    · rw [uI_r _ _ _ _ _ _ _ _ (by omega)]; exact hc.2.1
    · rw [uI_r _ _ _ _ _ _ _ _ (by omega)]; exact hc.2.2 t ht ht'
  induction j with
  | zero =>
    intro i f m hi hf h hc
    obtain ⟨f, rfl⟩ : ∃ g, f = g + 2 := ⟨f - 2, by omega⟩
    obtain rfl : i = n := by omega
    rw [b_M_segment_204_eq, if_pos (Int32.le_refl _)]
    exact fin f m h hc
  | succ j ih =>
    intro i f m hi hf h hc
    obtain ⟨f, rfl⟩ : ∃ g, f = g + 2 := ⟨f - 2, by omega⟩
    have k51 := n51 h hx (p := 98 + 15) rfl rfl
    rw [kpV_o (by omega)] at k51
    rw [b_M_segment_204_eq, if_neg (by (try clear ih); grind [nI_T]), ab_ix_nI hx (by decide)]
    try simp only [ob_s, lt_eq]
    rw [k51]
    by_cases z : U 51 (4 * e + a) 0 = 0
    · have k53 := n53 h hx (b := o + i) (by omega) (p := 98 + 10) rfl rfl
      have v53 : kpV U (4 * e + a) o i (fun t => nI (B (p + t))) 53 (4 * e + a) (o + i) = U 53 (4 * e + a) (o + i) := if_neg (by omega)
      rw [v53] at k53
      rw [if_pos z, nI_64, nI_add, show 64 * (4 * e + a) + o + i = 64 * (4 * e + a) + (o + i) by omega, ab_ix_nI (show 64 * (4 * e + a) + (o + i) < 512 by omega) (by decide)]
      try simp only [ob_s, lt_eq]
      rw [k53, hc.1, nI_add, ab_ix_nI (show p + i < 48 by omega) (by decide)]
      try simp only [ob_s, lt_eq]
      rw [show (98 : Nat) + 35 = 133 from rfl, hc.2.2 (p + i) (by omega) (by omega)]
      have q : ∀ u2, b_M_segment_271 (f + 1) 98 (nI o) (nI n) (nI (4 * e + a)) far (nI i) (98 + 10) (nI (64 * (4 * e + a) + (o + i))) u2 m = b_M_segment_204 f 98 (nI o) (nI n) (nI (4 * e + a)) far (nI (i + 1)) (ab_uI m 142 (98 + 10) (64 * (4 * e + a) + (o + i)) u2) := by
        intro u2
        rw [b_M_segment_271_eq, ab_ix_nI (show 64 * (4 * e + a) + (o + i) < 512 by omega) (by decide)]
        try simp only [ob_s, lt_eq]
        rw [nI_1]
      rw [q, q]
      have hn := hneg (o + i) (by omega)
      by_cases z3 : U 53 (4 * e + a) (o + i) = -1
      · rw [if_neg (by rw [z3]; decide)]
        have h' := nu53 h hx (b := o + i) (by omega) (p := 98 + 10) (j := 64 * (4 * e + a) + (o + i)) rfl rfl (nI (B (p + i)))
        rw [kpV_step (D := fun t => nI (B (p + t))) ⟨z3, z⟩] at h'
        have f1 : FS sSg m (ab_uI m 142 (98 + 10) (64 * (4 * e + a) + (o + i)) (nI (B (p + i)))) := FS_uI (by unfold sSg; omega)
        obtain ⟨m', a1, a2, a3, a4⟩ := ih (i + 1) f _ (by omega) (by omega) h' (by
          refine ⟨?_, ?_, fun t ht ht' => ?_⟩
          · rw [uI_r _ _ _ _ _ _ _ _ (by omega)]; exact hc.1
          · rw [uI_r _ _ _ _ _ _ _ _ (by omega)]; exact hc.2.1
          · rw [uI_r _ _ _ _ _ _ _ _ (by omega)]; exact hc.2.2 t ht ht')
        exact ⟨m', a1, a2, a3, FS_tr f1 a4⟩
      · rw [if_pos (by clear ih fin q; grind)]
        have h' := nu53 h hx (b := o + i) (by omega) (p := 98 + 10) (j := 64 * (4 * e + a) + (o + i)) rfl rfl (U 53 (4 * e + a) (o + i))
        have e0 := uV_self (V := kpV U (4 * e + a) o i (fun t => nI (B (p + t)))) (k := 53) (a := 4 * e + a) (b := o + i)
        rw [v53] at e0
        rw [e0.trans (kpV_same (fun y => z3 y.1))] at h'
        have f1 : FS sSg m (ab_uI m 142 (98 + 10) (64 * (4 * e + a) + (o + i)) (U 53 (4 * e + a) (o + i))) := FS_uI (by unfold sSg; omega)
        obtain ⟨m', a1, a2, a3, a4⟩ := ih (i + 1) f _ (by omega) (by omega) h' (by
          refine ⟨?_, ?_, fun t ht ht' => ?_⟩
          · rw [uI_r _ _ _ _ _ _ _ _ (by omega)]; exact hc.1
          · rw [uI_r _ _ _ _ _ _ _ _ (by omega)]; exact hc.2.1
          · rw [uI_r _ _ _ _ _ _ _ _ (by omega)]; exact hc.2.2 t ht ht')
        exact ⟨m', a1, a2, a3, FS_tr f1 a4⟩
    · rw [if_neg z]
      have ev : ∀ i', kpV U (4 * e + a) o i' (fun t => nI (B (p + t))) = U := by
        intro i'
        funext k a' b
        exact if_neg (fun y => z y.2.2.2.2.2)
      rw [ev] at h
      refine fin (f + 0) m ?_ hc
      rw [ev]
      exact h
theorem t_segment {U : Vt} {e a o p s : Nat} {B : Nat → Nat} {m : Mm} (h : RM m U) (hi : ∀ a, a < 8 → IN U a) (hg : 0 ≤ U 43 e 0) (he : e < 2) (ha : a < 1073741824) (ho : o < 1073741824) (hs : s ≤ 38) (hp : p ≤ s) (hB : ∀ j, B j < 256) (hc : Cu m B p s) (h127 : m.1 127 98 0 = 0) :
    (num B p s = none → ∃ m', r_M_segment 98 (nI e) (nI a) (nI o) m = some (1, m') ∧ RM m' U ∧ FC m m') ∧
    ∀ k p1, num B p s = some (k, p1) → (s < p1 + k / 2 → ∃ m', r_M_segment 98 (nI e) (nI a) (nI o) m = some (1, m') ∧ RM m' U ∧ FC m m') ∧
      (p1 + k / 2 ≤ s → 4 ≤ a → ∃ m', r_M_segment 98 (nI e) (nI a) (nI o) m = some (2, m') ∧ RM m' U ∧ FC m m') ∧
      (p1 + k / 2 ≤ s → a < 4 → ff U e a (o + k / 2) (nI (k % 2)) ≠ 0 → ∃ m', r_M_segment 98 (nI e) (nI a) (nI o) m = some (ff U e a (o + k / 2) (nI (k % 2)), m') ∧ RM m' U ∧ FC m m') ∧
      (p1 + k / 2 ≤ s → a < 4 → ff U e a (o + k / 2) (nI (k % 2)) = 0 → ∃ m', r_M_segment 98 (nI e) (nI a) (nI o) m = some (0, m') ∧ RM m' (sgV U e a o (k / 2) (nI (k % 2)) (fun t => nI (B (p1 + t)))) ∧ Cu m' B (p1 + k / 2) s ∧ FC m m') := by
  obtain ⟨n1, n2⟩ := t_numberAt hc hB hs hp
  constructor
  · intro hn
    have r := n2 hn
    have h1 : RM (ab_uI m 127 98 0 1) U := RM_sm h (by unfold Sm; omega)
    refine ⟨ab_uI m 127 98 0 1, ?_, h1, FC_uI (by omega)⟩
    rw [r_M_segment_eq, b_M_segment_0_eq, r]
    try simp only [ob_s, lt_eq]
    rw [if_neg (by decide), if_neg (by decide), if_neg (by decide), b_M_segment_25_eq, uI_s, if_neg (by decide)]
    rfl
  · intro k p1 hn
    have r := n1 k p1 hn
    have hk := num_lt hB hn
    have h1 : RM (ab_uI m 124 98 0 (nI p1)) U := RM_sm h (by unfold Sm; omega)
    have f1 : FC m (ab_uI m 124 98 0 (nI p1)) := FC_uI (by omega)
    have c1 : Cu (ab_uI m 124 98 0 (nI p1)) B p1 s := Cu_124 hc
    have z127 : (ab_uI m 124 98 0 (nI p1)).1 127 98 0 = 0 := by rw [uI_r _ _ _ _ _ _ _ _ (by omega)]; exact h127
    have e2 : nI k / 2 = nI (k / 2) := nI_div (k := 2) (by omega) (by decide) (by decide)
    generalize ab_uI m 124 98 0 (nI p1) = m1 at *
    have start : b_M_segment_0 50000 98 (nI e) (nI a) (nI o) m = b_M_segment_25 49999 98 (nI e) (nI a) (nI o) (nI (k / 2)) (nI (k % 2)) m1 := by
      rw [b_M_segment_0_eq, r]
      try simp only [ob_s, lt_eq]
      rw [if_neg (by decide), if_neg (by decide), e2, ← nI_mod2 (k := k) (by omega), e2]
      split <;> rfl
    have sub : nI (s + 2) - 2 - nI p1 = nI (s - p1) := by
      clear start n1 n2 h1 h hi
      grind [nI_T]
    have z25 : b_M_segment_25 49999 98 (nI e) (nI a) (nI o) (nI (k / 2)) (nI (k % 2)) m1 = if nI (k / 2) ≤ nI (s - p1) then (if nI a ≤ 3 then (ab_ix (nI (4 * e + a)) 8).bind fun i3 => if nI (o + k / 2) ≤ m1.1 143 (98 + 11) i3 then (ab_ix (nI (4 * e + a)) 8).bind fun i4 => b_M_segment_96 49998 98 (nI e) (nI o) (nI (k / 2)) (nI (k % 2)) (nI (4 * e + a)) (nI (o + k / 2)) (m1.1 143 (98 + 11) i4) m1 else b_M_segment_96 49998 98 (nI e) (nI o) (nI (k / 2)) (nI (k % 2)) (nI (4 * e + a)) (nI (o + k / 2)) (nI (o + k / 2)) m1 else some (.inl (some (.inl 2), m1))) else some (.inl (some (.inl 1), m1)) := by
      rw [b_M_segment_25_eq, z127, if_pos rfl, c1.2.1, c1.1, sub, nI_4, nI_add]
      try simp only [ob_s, lt_eq]
    have run : ∀ (z : p1 + k / 2 ≤ s) (z2 : a < 4), b_M_segment_25 49999 98 (nI e) (nI a) (nI o) (nI (k / 2)) (nI (k % 2)) m1 = if ff U e a (o + k / 2) (nI (k % 2)) = 0 then b_M_segment_187 49996 98 (nI o) (nI (k / 2)) (nI (k % 2)) (nI (4 * e + a)) (nI (o + k / 2)) (if U 48 (4 * e + a) 0 < nI (o + k / 2) then nI (o + k / 2) else U 48 (4 * e + a) 0) m1 else some (.inl (some (.inl (ff U e a (o + k / 2) (nI (k % 2)))), m1)) := by
      intro z z2
      have hx : 4 * e + a < 8 := by omega
      have inn := hi (4 * e + a) hx
      have i48 := IN_48 inn
      unfold IN at inn
      have i50 := inn.2.1.2.2
      have i49 := inn.2.2.1.1
      have k48 := n48 h1 hx (p := 98 + 11) rfl rfl
      have k50 := n50 h1 hx (p := 98 + 14) rfl rfl
      have k49 := n49 h1 hx (p := 98 + 12) rfl rfl
      have ht : o + k / 2 < 2 ^ 31 := by omega
      rw [z25, if_pos (by clear start z25 n1 n2; grind [nI_T]), if_pos (by clear start z25 n1 n2; grind [nI_T]), ab_ix_nI hx (by decide)]
      try simp only [ob_s, lt_eq]
      rw [k48]
      generalize o + k / 2 = t at *
      have far : (if nI t ≤ U 48 (4 * e + a) 0 then b_M_segment_96 49998 98 (nI e) (nI o) (nI (k / 2)) (nI (k % 2)) (nI (4 * e + a)) (nI t) (U 48 (4 * e + a) 0) m1 else b_M_segment_96 49998 98 (nI e) (nI o) (nI (k / 2)) (nI (k % 2)) (nI (4 * e + a)) (nI t) (nI t) m1) = b_M_segment_96 49998 98 (nI e) (nI o) (nI (k / 2)) (nI (k % 2)) (nI (4 * e + a)) (nI t) (if U 48 (4 * e + a) 0 < nI t then nI t else U 48 (4 * e + a) 0) m1 := by
        by_cases y : nI t ≤ U 48 (4 * e + a) 0
        · rw [if_pos y, if_neg (by clear start z25 n1 n2 inn; grind)]
        · rw [if_neg y, if_pos (by clear start z25 n1 n2 inn; grind)]
      rw [far]
      have fm : (if U 48 (4 * e + a) 0 < nI t then nI t else U 48 (4 * e + a) 0) = nI (max (nn (U 48 (4 * e + a) 0)) t) := by
        have q1 := i48.1
        have q2 := i48.2
        generalize nn (U 48 (4 * e + a) 0) = H at *
        rw [← q1]
        by_cases y : H < t
        · rw [if_pos (by clear far start z25 n1 n2 inn; grind [nI_T]), Nat.max_eq_right (by omega)]
        · rw [if_neg (by clear far start z25 n1 n2 inn; grind [nI_T]), Nat.max_eq_left (by omega)]
      rw [b_M_segment_96_eq, ab_ix_nI hx (by decide)]
      try simp only [ob_s, lt_eq]
      rw [k50]
      by_cases y1 : U 50 (4 * e + a) 0 < nI t
      · have f3 : ff U e a t (nI (k % 2)) = 3 := by
          unfold ff
          rw [if_pos (.inl y1)]
        rw [if_pos y1, f3, if_neg (show ¬ (3 : Int32) = 0 by decide)]
      · have ht64 : t ≤ 64 := by
          clear far start z25 n1 n2 inn fm
          grind [nI_T]
        have hmax : max (nn (U 48 (4 * e + a) 0)) t ≤ 64 := Nat.max_le.mpr ⟨i48.2, ht64⟩
        rw [if_neg y1, fm, t_isBeyond h1 hi he z2 hmax hg]
        try simp only [ob_s, lt_eq]
        rw [ib_if]
        by_cases y2 : U 43 e 0 < nI (oth U e a + max (nn (U 48 (4 * e + a) 0)) t)
        · have f3 : ff U e a t (nI (k % 2)) = 3 := by
            unfold ff
            rw [if_pos (.inr y2)]
          rw [if_pos y2, f3, if_neg (show ¬ (3 : Int32) = 0 by decide)]
        · have f3 : ff U e a t (nI (k % 2)) = if (nI (k % 2) ≠ 0 ∧ nI t < U 48 (4 * e + a) 0) ∨ (U 49 (4 * e + a) 0 ≠ -1 ∧ (if nI (k % 2) = 0 then U 49 (4 * e + a) 0 < nI t else nI t ≠ U 49 (4 * e + a) 0)) then 4 else 0 := by
            unfold ff
            rw [if_neg (fun y => y.elim y1 y2)]
          rw [if_neg y2, f3, k48, k49]
          have q163 : b_M_segment_163 49997 98 (nI o) (nI (k / 2)) (nI (k % 2)) (nI (4 * e + a)) (nI t) (nI (max (nn (U 48 (4 * e + a) 0)) t)) m1 = if U 49 (4 * e + a) 0 = -1 ∨ nI t ≤ U 49 (4 * e + a) 0 then b_M_segment_187 49996 98 (nI o) (nI (k / 2)) (nI (k % 2)) (nI (4 * e + a)) (nI t) (nI (max (nn (U 48 (4 * e + a) 0)) t)) m1 else some (.inl (some (.inl 4), m1)) := by
            rw [b_M_segment_163_eq, ab_ix_nI hx (by decide)]
            try simp only [ob_s, lt_eq]
            rw [k49]
            by_cases w1 : U 49 (4 * e + a) 0 = -1
            · rw [if_pos (by rw [w1]; decide), if_pos (.inl w1)]
            · rw [if_neg (by clear far start z25 n1 n2 inn fm; grind)]
              by_cases w2 : nI t ≤ U 49 (4 * e + a) 0
              · rw [if_pos w2, if_pos (.inr w2)]
              · rw [if_neg w2, if_neg (fun y => y.elim w1 w2)]
          rw [q163]
          generalize b_M_segment_187 49996 98 (nI o) (nI (k / 2)) (nI (k % 2)) (nI (4 * e + a)) (nI t) (nI (max (nn (U 48 (4 * e + a) 0)) t)) m1 = X at *
          generalize U 48 (4 * e + a) 0 = a48 at *
          generalize U 49 (4 * e + a) 0 = a49 at *
          generalize nI (k % 2) = u at *
          clear far start z25 n1 n2 inn fm q163 k48 k49 k50 r sub h h1 hi c1 f3
          generalize nI t = tt at *
          clear i48 hmax
          by_cases w0 : u = 0 <;> by_cases w1 : a49 = -1 <;> by_cases w2 : tt ≤ a49 <;> by_cases w3 : tt < a48 <;> grind
    refine ⟨fun z => ⟨m1, ?_, h1, f1⟩, fun z z2 => ⟨m1, ?_, h1, f1⟩, fun z z2 z3 => ⟨m1, ?_, h1, f1⟩, fun z z2 z3 => ?_⟩
    · rw [r_M_segment_eq, start, z25, if_neg (by clear start z25 n1 n2; grind [nI_T])]
      rfl
    · rw [r_M_segment_eq, start, z25, if_pos (by clear start z25 n1 n2; grind [nI_T]), if_neg (by clear start z25 n1 n2; grind [nI_T])]
      rfl
    · rw [r_M_segment_eq, start, run z z2, if_neg z3]
      rfl
    · have hx : 4 * e + a < 8 := by omega
      have hon := ff_le hi he z2 (by omega) z3
      have fin : ∀ (m2 : Mm) (U2 : Vt), RM m2 U2 → Cu m2 B p1 s → FC m1 m2 → (∀ b, b < 64 → -1 ≤ U2 53 (4 * e + a) b) → ∃ m', ab_rI (b_M_segment_201 49995 98 (nI o) (nI (k / 2)) (nI (4 * e + a)) (if U 48 (4 * e + a) 0 < nI (o + k / 2) then nI (o + k / 2) else U 48 (4 * e + a) 0) m2) = some (0, m') ∧ RM m' (uV (kpV U2 (4 * e + a) o (k / 2) (fun t => nI (B (p1 + t)))) 48 (4 * e + a) 0 (if U 48 (4 * e + a) 0 < nI (o + k / 2) then nI (o + k / 2) else U 48 (4 * e + a) 0)) ∧ Cu m' B (p1 + k / 2) s ∧ FC m m' := by
        intro m2 U2 g1 g2 g3 g4
        obtain ⟨m', a1, a2, a3, a4⟩ := t_segLoop (far := if U 48 (4 * e + a) 0 < nI (o + k / 2) then nI (o + k / 2) else U 48 (4 * e + a) 0) he z2 hon hs z g4 hB (k / 2) 0 49994 m2 (by omega) (by omega) (by rw [kpV_0]; exact g1) g2
        refine ⟨m', ?_, a2, a3, FC_tr f1 (FC_tr g3 (FS_FC a4 (fun r hr => by unfold sSg at hr; omega)))⟩
        rw [b_M_segment_201_eq, show (0 : Int32) = nI 0 from rfl, a1]
        rfl
      have ng : ∀ b, b < 64 → -1 ≤ U 53 (4 * e + a) b := fun b hb => by
        have := hi _ hx
        unfold IN at this
        exact (this.2.2.2.2.1 b hb).1
      rw [r_M_segment_eq, start, run z z2, if_pos z3, b_M_segment_187_eq]
      unfold sgV
      by_cases y : nI (k % 2) = 0
      · rw [if_pos y, if_pos y]
        exact fin m1 U h1 c1 (FC_rfl _) ng
      · rw [if_neg y, if_neg y, ab_ix_nI hx (by decide)]
        try simp only [ob_s, lt_eq]
        obtain ⟨m', b1, b2, b3, b4⟩ := fin (ab_uI m1 144 (98 + 12) (4 * e + a) (nI (o + k / 2))) (uV U 49 (4 * e + a) 0 (nI (o + k / 2))) (nu49 h1 hx rfl rfl _) (by
          refine ⟨?_, ?_, fun t ht ht' => ?_⟩
          · rw [uI_r _ _ _ _ _ _ _ _ (by omega)]; exact c1.1
          · rw [uI_r _ _ _ _ _ _ _ _ (by omega)]; exact c1.2.1
          · rw [uI_r _ _ _ _ _ _ _ _ (by omega)]; exact c1.2.2 t ht ht') (FC_uI (by omega)) (fun b hb => by rw [uV_k _ _ _ _ _ (by omega)]; exact ng b hb)
        refine ⟨m', b1, ?_, b3, b4⟩
        rw [kpV_49, uV_comm (k := 49) (k' := 48) (by omega)] at b2
        exact b2
end
