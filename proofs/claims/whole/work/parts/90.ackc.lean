section
/-! An ACK frame: the class. -/
/-- what a frame's numbers take away from the greatest -/
def nd (f : Nat) : List (Nat × Nat) → Nat
  | [] => f
  | (g, f') :: t => nd (f + g + 2 + f') t
/-- the ranges below -/
def rgs (low : Nat) : List (Nat × Nat) → List (Nat × Nat)
  | [] => []
  | (g, f') :: t => (low - g - 2 - f', low - g - 2) :: rgs (low - g - 2 - f') t
/-- ranges are acked -/
def arL (e : Nat) : List (Nat × Nat) → Vt → Vt
  | [], V => V
  | (l, h) :: t, V => arL e t (ark e l (h + 1 - l) V)
theorem nd_le {f : Nat} : ∀ {F : List (Nat × Nat)}, f ≤ nd f F
  | [] => Nat.le_refl _
  | (g, f') :: t => by
    have := nd_le (f := f + g + 2 + f') (F := t)
    unfold nd
    omega
/-- the frame's numbers stand in the array Q -/
def AN (m : Mm) (Q l f : Nat) (F : List (Nat × Nat)) : Prop := m.1 38 Q 0 = nI l ∧ m.1 38 Q 1 = nI f ∧ m.1 38 Q 2 = nI F.length ∧ F.length ≤ 2 ∧ ∀ j (hj : j < F.length), m.1 38 Q (3 + 2 * j) = nI F[j].1 ∧ m.1 38 Q (4 + 2 * j) = nI F[j].2
def sm (F : List (Nat × Nat)) : Prop := ∀ x ∈ F, x.1 < 1073741824 ∧ x.2 < 1073741824
theorem sub_T {y g f : Nat} (hy : y < 1073741824) (hg : g < 1073741824) (hf : f < 1073741824) : (nI y - nI g - 2 - nI f).toInt = (y : Int) - g - 2 - f := by
  have t2 : (2 : Int32).toInt = 2 := rfl
  rw [Int32.toInt_sub, Int32.toInt_sub, Int32.toInt_sub, nI_toInt (by omega), nI_toInt (by omega), nI_toInt (by omega), t2, Int.bmod_eq_of_le (n := (y : Int) - g) (by omega) (by omega), Int.bmod_eq_of_le (n := (y : Int) - g - 2) (by omega) (by omega), Int.bmod_eq_of_le (by omega) (by omega)]
theorem sub_lt {y g f : Nat} (hy : y < 1073741824) (hg : g < 1073741824) (hf : f < 1073741824) : nI y - nI g - 2 - nI f < 0 ↔ y < g + 2 + f := by
  rw [Int32.lt_iff_toInt_lt, sub_T hy hg hf, show (0 : Int32).toInt = 0 from rfl]
  omega
theorem sub_eq {y g f : Nat} (hy : y < 1073741824) (hg : g < 1073741824) (hf : f < 1073741824) (h : g + 2 + f ≤ y) : nI y - nI g - 2 - nI f = nI (y - g - 2 - f) := by
  apply Int32.toInt_inj.mp
  rw [sub_T hy hg hf, nI_toInt (by omega)]
  omega
theorem sub_eq2 {y g : Nat} (hy : y < 1073741824) (hg : g < 1073741824) (h : g + 2 ≤ y) : nI y - nI g - 2 = nI (y - g - 2) := by
  grind [nI_T]
theorem s_isAckRight {m : Mm} {V : Vt} {w W : Nat → Nat} (h : RC m V w W) {e E Q l f N : Nat} {F : List (Nat × Nat)} (he : e < 2) (hE : E = 6 + 30 * e) (hN : V 21 e 0 = nI N) (hN5 : N ≤ 512) (hl : l < 1073741824) (hf : f < 1073741824) (hF : sm F) (a : AN m Q l f F) : r_End_isAckRight E Q m = some (ib (l < N ∧ nd f F ≤ l), m) := by
  obtain ⟨a0, a1, a2, a3, a4⟩ := a
  have q52 : ∀ (g : Nat) (x : Int32), b_End_isAckRight_52 (g + 1) E Q x m = some (.inl (some (.inl (ib (l < N ∧ ¬ x < 0))), m)) := by
    intro g x
    rw [b_End_isAckRight_52_eq, i_ix (x := 0) (k := 0) (n := 7) rfl (by omega) (by decide)]
    try simp only [ob_s, lt_eq]
    rw [c21 h he hE, hN, a0, bo_0, bo_1]
    try simp only [ob_s, lt_eq]
    by_cases z : l < N
    · rw [if_neg (by clear a4 hF; grind [nI_T])]
      by_cases z2 : x < 0
      · rw [if_pos z2, ← ib_f (c := l < N ∧ ¬ x < 0) (fun y => y.2 z2)]
      · rw [if_neg z2, ← ib_t (c := l < N ∧ ¬ x < 0) ⟨z, z2⟩]
    · rw [if_pos (by clear a4 hF; grind [nI_T]), ← ib_f (c := l < N ∧ ¬ x < 0) (fun y => z y.1)]
  have loop : ∀ (F' : List (Nat × Nat)) (i g y : Nat), i + F'.length = F.length → F'.length + 1 < g → y < 1073741824 → sm F' → (∀ j (hj : j < F'.length), m.1 38 Q (3 + 2 * (i + j)) = nI F'[j].1 ∧ m.1 38 Q (4 + 2 * (i + j)) = nI F'[j].2) → b_End_isAckRight_10 (g + 1) E Q (nI y) (nI i) m = some (.inl (some (.inl (ib (l < N ∧ nd 0 F' ≤ y))), m)) := by
    intro F'
    induction F' with
    | nil =>
      intro i g y hi hg hy hs ha
      obtain ⟨g, rfl⟩ : ∃ g', g = g' + 1 := ⟨g - 1, by simp at hg; omega⟩
      rw [b_End_isAckRight_10_eq, i_ix (x := 2) (k := 2) (n := 7) rfl (by omega) (by decide)]
      try simp only [ob_s, lt_eq]
      rw [a2, if_pos (by simp at hi; rw [hi]; exact Int32.le_refl _), q52]
      have : (l < N ∧ ¬ nI y < 0) ↔ (l < N ∧ nd 0 [] ≤ y) := by
        have : ¬ nI y < 0 := by
          clear q52 a4 hF ha hs
          grind [nI_T]
        simp [this, nd]
      rw [ib_c this]
    | cons x F' ih =>
      obtain ⟨g1, f1⟩ := x
      intro i g y hi hg hy hs ha
      simp only [List.length_cons] at hi hg
      have s1 := hs (g1, f1) (by simp)
      have b := ha 0 (by simp)
      have b1 : m.1 38 Q (3 + 2 * i) = nI g1 := b.1
      have b2 : m.1 38 Q (4 + 2 * i) = nI f1 := b.2
      obtain ⟨g, rfl⟩ : ∃ g', g = g' + 1 := ⟨g - 1, by omega⟩
      have y0 : ¬ nI y < 0 := by
        clear q52 a4 hF ha hs ih
        grind [nI_T]
      have j3 : (3 : Int32) + 2 * nI i = nI (3 + 2 * i) := by
        clear q52 a4 hF ha hs ih
        grind [nI_T]
      have j4 : (4 : Int32) + 2 * nI i = nI (4 + 2 * i) := by
        clear q52 a4 hF ha hs ih
        grind [nI_T]
      rw [b_End_isAckRight_10_eq, i_ix (x := 2) (k := 2) (n := 7) rfl (by omega) (by decide)]
      try simp only [ob_s, lt_eq]
      rw [a2, if_neg (by clear q52 a4 hF ha hs ih; grind [nI_T]), if_neg (by clear q52 a4 hF ha hs ih; grind [nI_T]), if_neg y0, j3, j4, ab_ix_nI (show 3 + 2 * i < 7 by omega) (by decide), ab_ix_nI (show 4 + 2 * i < 7 by omega) (by decide)]
      try simp only [ob_s, lt_eq]
      rw [b1, b2, nI_1]
      have ndx : nd 0 ((g1, f1) :: F') = nd (g1 + 2 + f1) F' := by
        show nd (0 + g1 + 2 + f1) F' = _
        rw [show 0 + g1 + 2 + f1 = g1 + 2 + f1 by omega]
      have nda : ∀ (c : Nat) (G : List (Nat × Nat)) , nd c G = c + nd 0 G := by
        intro c G
        induction G generalizing c with
        | nil => rfl
        | cons u G ihG =>
          obtain ⟨u1, u2⟩ := u
          show nd (c + u1 + 2 + u2) G = c + nd (0 + u1 + 2 + u2) G
          rw [ihG, ihG (0 + u1 + 2 + u2)]
          omega
      by_cases z : g1 + 2 + f1 ≤ y
      · rw [sub_eq hy s1.1 s1.2 z, ih (i + 1) g (y - g1 - 2 - f1) (by omega) (by omega) (by omega) (fun x hx => hs x (List.mem_cons_of_mem _ hx)) (fun j hj => by
          have := ha (j + 1) (by simp; omega)
          rw [show i + (j + 1) = i + 1 + j by omega] at this
          exact this)]
        have : (l < N ∧ nd 0 F' ≤ y - g1 - 2 - f1) ↔ (l < N ∧ nd 0 ((g1, f1) :: F') ≤ y) := by
          rw [ndx, nda (g1 + 2 + f1) F']
          omega
        rw [ib_c this]
      · have neg : nI y - nI g1 - 2 - nI f1 < 0 := (sub_lt hy s1.1 s1.2).mpr (by omega)
        have no : ¬ (l < N ∧ nd 0 ((g1, f1) :: F') ≤ y) := by
          rw [ndx, nda (g1 + 2 + f1) F']
          omega
        obtain ⟨g, rfl⟩ : ∃ g', g = g' + 1 := ⟨g - 1, by omega⟩
        generalize nI y - nI g1 - 2 - nI f1 = x at *
        rw [b_End_isAckRight_10_eq, i_ix (x := 2) (k := 2) (n := 7) rfl (by omega) (by decide)]
        try simp only [ob_s, lt_eq]
        have all : ∀ A B C D : Option Rs, A = D → B = D → C = D → (if m.1 38 Q 2 ≤ nI (i + 1) then A else if 2 ≤ nI (i + 1) then B else C) = D := by
          intro A B C D h1 h2 h3
          split
          · exact h1
          · split
            · exact h2
            · exact h3
        rw [q52, if_pos neg]
        have : ¬ (l < N ∧ ¬ x < 0) := fun y => y.2 neg
        rw [ib_c (show (l < N ∧ ¬ x < 0) ↔ (l < N ∧ nd 0 ((g1, f1) :: F') ≤ y) from ⟨fun y => (this y).elim, fun y => (no y).elim⟩)]
        exact all _ _ _ _ rfl rfl rfl
  rw [r_End_isAckRight_eq, b_End_isAckRight_0_eq, i_ix (x := 0) (k := 0) (n := 7) rfl (by omega) (by decide), i_ix (x := 1) (k := 1) (n := 7) rfl (by omega) (by decide)]
  try simp only [ob_s, lt_eq]
  rw [a0, a1]
  by_cases z : f ≤ l
  · have e1 : nI l - nI f = nI (l - f) := by
      clear q52 a4 hF loop
      grind [nI_T]
    have nda : ∀ (c : Nat) (G : List (Nat × Nat)) , nd c G = c + nd 0 G := by
      intro c G
      induction G generalizing c with
      | nil => rfl
      | cons u G ihG =>
        obtain ⟨u1, u2⟩ := u
        show nd (c + u1 + 2 + u2) G = c + nd (0 + u1 + 2 + u2) G
        rw [ihG, ihG (0 + u1 + 2 + u2)]
        omega
    have := loop F 0 49998 (l - f) (by omega) (by omega) (by omega) hF (fun j hj => by rw [Nat.zero_add]; exact a4 j hj)
    rw [e1, show (0 : Int32) = nI 0 from rfl, this]
    refine congrArg (fun z => some (z, m)) (ib_c ?_)
    rw [nda f F]
    omega
  · have neg : nI l - nI f < 0 := by
      clear q52 a4 hF loop
      grind [nI_T]
    have no : ¬ (l < N ∧ nd f F ≤ l) := fun y => by
      have := nd_le (f := f) (F := F)
      omega
    generalize nI l - nI f = x at *
    rw [b_End_isAckRight_10_eq, i_ix (x := 2) (k := 2) (n := 7) rfl (by omega) (by decide)]
    try simp only [ob_s, lt_eq]
    have all : ∀ A B C D : Option Rs, A = D → B = D → C = D → (if m.1 38 Q 2 ≤ 0 then A else if (2 : Int32) ≤ 0 then B else C) = D := by
      intro A B C D h1 h2 h3
      split
      · exact h1
      · split
        · exact h2
        · exact h3
    rw [q52, if_pos neg]
    have : ¬ (l < N ∧ ¬ x < 0) := fun y => y.2 neg
    rw [ib_c (show (l < N ∧ ¬ x < 0) ↔ (l < N ∧ nd f F ≤ l) from ⟨fun y => (this y).elim, fun y => (no y).elim⟩)]
    rw [all _ _ _ _ rfl rfl rfl]
    rfl
end
