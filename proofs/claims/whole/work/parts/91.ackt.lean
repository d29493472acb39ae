section
/-! An ACK frame is taken: the class. -/
theorem s_ackRange {V : Vt} {w W : Nat → Nat} {c e E N lo hi : Nat} {m : Mm} (h : RC m V w W) (hI : Iv c V) (he : e < 2) (hE : E = 6 + 30 * e) (hN : N ≤ 512) (hV : V 21 e 0 = nI N) (hh : hi < N) (hl : lo ≤ hi) : ∃ m', r_End_ackRange E (nI lo) (nI hi) m = some m' ∧ RC m' (ark e lo (hi + 1 - lo) V) w W ∧ Iv c (ark e lo (hi + 1 - lo) V) ∧ FS sAk m m' ∧ (ark e lo (hi + 1 - lo) V) 21 e 0 = nI N := by
  obtain ⟨m', a1, a2, a3, a4, a5⟩ := s_ackLoop (w := w) (W := W) (c := c) he hE hN hh (hi + 1 - lo) lo 49999 V m (by omega) (by omega) hV hI h
  refine ⟨m', ?_, a2, a3, a4, a5⟩
  have mx : (if nI lo < 0 then (0 : Int32) else nI lo) = nI lo := if_neg (by clear a1; grind [nI_T])
  rw [r_End_ackRange_eq, b_End_ackRange_0_eq, s_max, mx]
  try simp only [ob_s, lt_eq]
  rw [a1]
  rfl
/-- packets that later ones have overtaken are lost -/
def ovV (e : Nat) (V : Vt) : Vt := lrk e 0 (if V 24 e 0 - 3 < 0 then 0 else nn (V 24 e 0 - 3) + 1) V
theorem ov_K {c N e : Nat} {V : Vt} (hI : Iv c V) (he : e < 2) (hV : V 21 e 0 = nI N) (hN : N ≤ 512) (z : ¬ V 24 e 0 - 3 < 0) : V 24 e 0 - 3 = nI (0 + (nn (V 24 e 0 - 3) + 1)) - 1 ∧ 0 + (nn (V 24 e 0 - 3) + 1) ≤ N := by
  have g := (hI.2.2.1 e he).2.2.2.1
  rw [hV] at g
  have z' : 0 ≤ V 24 e 0 - 3 := by clear g hI; grind
  have q := nI_nn z'
  have q2 : nn (V 24 e 0 - 3) ≤ 600 := nn_le z' (by clear q; grind [nI_T]) (by decide)
  generalize nn (V 24 e 0 - 3) = K at *
  rw [← q]
  constructor
  · clear g hI
    grind [nI_T]
  · clear hI
    grind [nI_T]
theorem s_loseOvertaken {V : Vt} {w W : Nat → Nat} {c e E N : Nat} {m : Mm} (h : RC m V w W) (hI : Iv c V) (he : e < 2) (hE : E = 6 + 30 * e) (hN : N ≤ 512) (hV : V 21 e 0 = nI N) : ∃ m', r_End_loseOvertaken E m = some m' ∧ RC m' (ovV e V) w W ∧ Iv c (ovV e V) ∧ FS sLs m m' := by
  rw [r_End_loseOvertaken_eq, b_End_loseOvertaken_0_eq]
  unfold ovV
  by_cases z : V 24 e 0 - 3 < 0
  · rw [b_End_loseOvertaken_2_eq, c24 h he hE, if_pos z, if_pos z]
    exact ⟨m, rfl, h, hI, FS_rfl _ _⟩
  · rw [if_neg z]
    obtain ⟨k1, k2⟩ := ov_K hI he hV hN z
    obtain ⟨m', a1, a2, a3, a4, a5⟩ := s_loseLoop (w := w) (W := W) (c := c) he hE hN (nn (V 24 e 0 - 3) + 1) 0 49999 V m (by omega) k2 k1 hV hI h
    exact ⟨m', congrArg ab_rV a1, a2, a3, a4⟩
def sTa (r : Nat) : Prop := sAk r ∨ sLs r
/-- the ranges of a right ACK, and what they leave -/
def akA (e l f : Nat) (F : List (Nat × Nat)) (V : Vt) : Vt := ovV e (arL e ((l - f, l) :: rgs (l - f) F) V)
theorem s_takeAck {V : Vt} {w W : Nat → Nat} {c e E Q l f N : Nat} {F : List (Nat × Nat)} {m : Mm} (h : RC m V w W) (hI : Iv c V) (he : e < 2) (hE : E = 6 + 30 * e) (hN : V 21 e 0 = nI N) (hN5 : N ≤ 512) (hl : l < 1073741824) (hf : f < 1073741824) (hF : sm F) (a : AN m Q l f F) :
    (¬ (l < N ∧ nd f F ≤ l) → r_End_takeAck E Q m = some (5, m)) ∧ (l < N ∧ nd f F ≤ l → ∃ m', r_End_takeAck E Q m = some (0, m') ∧ RC m' (akA e l f F V) w W ∧ Iv c (akA e l f F V) ∧ FS sTa m m') := by
  have rt := s_isAckRight h he hE hN hN5 hl hf hF a
  obtain ⟨a0, a1, a2, a3, a4⟩ := a
  constructor
  · intro z
    rw [r_End_takeAck_eq, b_End_takeAck_0_eq, rt]
    try simp only [ob_s, lt_eq]
    rw [ib_if, if_neg z]
    rfl
  · intro z
    have fl : f ≤ l := Nat.le_trans nd_le z.2
    have loop : ∀ (F' : List (Nat × Nat)) (i g y : Nat) (V' : Vt) (m1 : Mm), i + F'.length = F.length → F'.length + 1 < g → y < N → nd 0 F' ≤ y → sm F' → (∀ j (hj : j < F'.length), m.1 38 Q (3 + 2 * (i + j)) = nI F'[j].1 ∧ m.1 38 Q (4 + 2 * (i + j)) = nI F'[j].2) → RC m1 V' w W → Iv c V' → V' 21 e 0 = nI N → FS sTa m m1 → ∃ m', b_End_takeAck_28 (g + 1) E Q (nI y) (nI i) m1 = some (.inl (some (.inl 0), m')) ∧ RC m' (ovV e (arL e (rgs y F') V')) w W ∧ Iv c (ovV e (arL e (rgs y F') V')) ∧ FS sTa m m' := by
      intro F'
      induction F' with
      | nil =>
        intro i g y V' m1 hi hg hy hnd hs ha h1 hI1 hV1 hF1
        obtain ⟨g, rfl⟩ : ∃ g', g = g' + 1 := ⟨g - 1, by simp at hg; omega⟩
        have b2 : m1.1 38 Q 2 = nI F.length := by rw [FS_g hF1 _ _ _ (by unfold sTa sAk sLs; omega)]; exact a2
        obtain ⟨m', c1, c2, c3, c4⟩ := s_loseOvertaken h1 hI1 he hE hN5 hV1
        refine ⟨m', ?_, c2, c3, FS_tr hF1 (FS_le c4 (fun r hr => .inr hr))⟩
        rw [b_End_takeAck_28_eq, i_ix (x := 2) (k := 2) (n := 7) rfl (by omega) (by decide)]
        try simp only [ob_s, lt_eq]
        rw [b2, if_pos (by simp at hi; rw [hi]; exact Int32.le_refl _), b_End_takeAck_77_eq, c1]
        try simp only [ob_s, lt_eq]
      | cons x F' ih =>
        obtain ⟨g1, f1⟩ := x
        intro i g y V' m1 hi hg hy hnd hs ha h1 hI1 hV1 hF1
        simp only [List.length_cons] at hi hg
        have s1 := hs (g1, f1) (by simp)
        have b := ha 0 (by simp)
        have b1 : m1.1 38 Q (3 + 2 * i) = nI g1 := by rw [FS_g hF1 _ _ _ (by unfold sTa sAk sLs; omega)]; exact b.1
        have b2 : m1.1 38 Q (4 + 2 * i) = nI f1 := by rw [FS_g hF1 _ _ _ (by unfold sTa sAk sLs; omega)]; exact b.2
        have b3 : m1.1 38 Q 2 = nI F.length := by rw [FS_g hF1 _ _ _ (by unfold sTa sAk sLs; omega)]; exact a2
        obtain ⟨g, rfl⟩ : ∃ g', g = g' + 1 := ⟨g - 1, by omega⟩
        have j3 : (3 : Int32) + 2 * nI i = nI (3 + 2 * i) := by
          clear ih ha hs rt a4
          grind [nI_T]
        have j4 : (4 : Int32) + 2 * nI i = nI (4 + 2 * i) := by
          clear ih ha hs rt a4
          grind [nI_T]
        have nda : ∀ (c : Nat) (G : List (Nat × Nat)) , nd c G = c + nd 0 G := by
          intro c G
          induction G generalizing c with
          | nil => rfl
          | cons u G ihG =>
            obtain ⟨u1, u2⟩ := u
            show nd (c + u1 + 2 + u2) G = c + nd (0 + u1 + 2 + u2) G
            rw [ihG, ihG (0 + u1 + 2 + u2)]
            omega
        have ndx : nd 0 ((g1, f1) :: F') = g1 + 2 + f1 + nd 0 F' := by
          show nd (0 + g1 + 2 + f1) F' = _
          rw [nda (0 + g1 + 2 + f1) F']
          omega
        rw [ndx] at hnd
        have e3 : nI y - nI g1 - 2 = nI (y - g1 - 2) := sub_eq2 (by omega) s1.1 (by omega)
        have e4 : nI (y - g1 - 2) - nI f1 = nI (y - g1 - 2 - f1) := by
          clear ih ha hs rt a4 e3
          grind [nI_T]
        obtain ⟨m2, d1, d2, d3, d4, d5⟩ := s_ackRange (lo := y - g1 - 2 - f1) (hi := y - g1 - 2) h1 hI1 he hE hN5 hV1 (by omega) (by omega)
        obtain ⟨m', k1, k2, k3, k4⟩ := ih (i + 1) g (y - g1 - 2 - f1) _ m2 (by omega) (by omega) (by omega) (by omega) (fun x hx => hs x (List.mem_cons_of_mem _ hx)) (fun j hj => by
          have := ha (j + 1) (by simp; omega)
          rw [show i + (j + 1) = i + 1 + j by omega] at this
          exact this) d2 d3 d5 (FS_tr hF1 (FS_le d4 (fun r hr => .inl hr)))
        refine ⟨m', ?_, k2, k3, k4⟩
        rw [b_End_takeAck_28_eq, i_ix (x := 2) (k := 2) (n := 7) rfl (by omega) (by decide)]
        try simp only [ob_s, lt_eq]
        rw [b3, if_neg (by clear ih ha hs rt a4 e3 e4; grind [nI_T]), if_neg (by clear ih ha hs rt a4 e3 e4; grind [nI_T]), j3, j4, ab_ix_nI (show 3 + 2 * i < 7 by omega) (by decide), ab_ix_nI (show 4 + 2 * i < 7 by omega) (by decide)]
        try simp only [ob_s, lt_eq]
        rw [b1, b2, e3, e4, d1]
        try simp only [ob_s, lt_eq]
        rw [nI_1]
        exact k1
    have e1 : nI l - nI f = nI (l - f) := by
      clear loop rt a4
      grind [nI_T]
    have nda : ∀ (c : Nat) (G : List (Nat × Nat)) , nd c G = c + nd 0 G := by
      intro c G
      induction G generalizing c with
      | nil => rfl
      | cons u G ihG =>
        obtain ⟨u1, u2⟩ := u
        show nd (c + u1 + 2 + u2) G = c + nd (0 + u1 + 2 + u2) G
        rw [ihG, ihG (0 + u1 + 2 + u2)]
        omega
    have z2 := z.2
    rw [nda f F] at z2
    obtain ⟨m2, d1, d2, d3, d4, d5⟩ := s_ackRange (lo := l - f) (hi := l) h hI he hE hN5 hN z.1 (by omega)
    obtain ⟨m', k1, k2, k3, k4⟩ := loop F 0 49998 (l - f) _ m2 (by omega) (by omega) (by omega) (by omega) hF (fun j hj => by rw [Nat.zero_add]; exact a4 j hj) d2 d3 d5 (FS_le d4 (fun r hr => .inl hr))
    refine ⟨m', ?_, k2, k3, k4⟩
    rw [r_End_takeAck_eq, b_End_takeAck_0_eq, rt]
    try simp only [ob_s, lt_eq]
    rw [ib_if, if_pos z, i_ix (x := 0) (k := 0) (n := 7) rfl (by omega) (by decide), i_ix (x := 1) (k := 1) (n := 7) rfl (by omega) (by decide)]
    try simp only [ob_s, lt_eq]
    rw [a0, a1, e1, d1]
    try simp only [ob_s, lt_eq]
    exact congrArg ab_rI k1
end
