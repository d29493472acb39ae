section
/-! The ranges of the numbers that came. -/
/-- the least number of the range that ends at n -/
def lrg (V : Vt) (e : Nat) : Nat → Nat
  | 0 => 0
  | n + 1 => if (V 31 e (n / 32) >>> (nI (n % 32) &&& 31)) &&& 1 = 1 then lrg V e n else n + 1
/-- the greatest number below n -/
def gbl (V : Vt) (e : Nat) : Nat → Option Nat
  | 0 => none
  | n + 1 => if (V 31 e (n / 32) >>> (nI (n % 32) &&& 31)) &&& 1 = 1 then some n else gbl V e n
def oi : Option Nat → Int32
  | none => -1
  | some n => nI n
/-- the number before n -/
def pd : Nat → Int32
  | 0 => -1
  | n + 1 => nI n
theorem pd_0 : pd 0 = -1 := rfl
theorem pd_1 (n : Nat) : pd (n + 1) = nI n := rfl
theorem pd_m {n : Nat} (h : n < 100000) : nI n - 1 = pd n := by
  cases n with
  | zero => rfl
  | succ n =>
    rw [pd_1]
    grind [nI_T]
theorem pd_d {n : Nat} (h : n < 100000) : nI n + -1 = pd n := by
  cases n with
  | zero => rfl
  | succ n =>
    rw [pd_1]
    grind [nI_T]
theorem pd_i (n : Nat) (h : n < 100000) : pd n + 1 = nI n := by
  cases n with
  | zero => rfl
  | succ n =>
    rw [pd_1]
    exact nI_1 n
theorem lrg_le (V : Vt) (e n : Nat) : lrg V e n ≤ n := by
  induction n with
  | zero => exact Nat.le_refl _
  | succ n ih =>
    unfold lrg
    split
    · omega
    · omega
theorem gbl_lt {V : Vt} {e n k : Nat} (h : gbl V e n = some k) : k < n ∧ (V 31 e (k / 32) >>> (nI (k % 32) &&& 31)) &&& 1 = 1 := by
  induction n with
  | zero => cases h
  | succ n ih =>
    unfold gbl at h
    split at h
    · rename_i y
      cases h
      exact ⟨by omega, y⟩
    · have := ih h
      exact ⟨by omega, this.2⟩
theorem lrg_gap (V : Vt) (e n : Nat) : lrg V e n = 0 ∨ ¬ ((V 31 e ((lrg V e n - 1) / 32) >>> (nI ((lrg V e n - 1) % 32) &&& 31)) &&& 1 = 1) := by
  induction n with
  | zero => exact .inl rfl
  | succ n ih =>
    unfold lrg
    split
    · exact ih
    · rename_i y
      right
      rw [Nat.add_sub_cancel]
      exact y
theorem gbl_gap {V : Vt} {e n k : Nat} (h : gbl V e (lrg V e n) = some k) : k + 2 ≤ lrg V e n := by
  have a := gbl_lt h
  rcases lrg_gap V e n with z | z
  · rw [z] at a
    omega
  · by_cases y : k = lrg V e n - 1
    · subst y
      exact (z a.2).elim
    · omega
theorem s_lrg {m : Mm} {V : Vt} {w W : Nat → Nat} (h : RC m V w W) {e n P : Nat} (he : e < 2) (hP : P = 7 + 30 * e) (hn : n < 10240) : r_Num_leastOfRange P (nI n) m = some (nI (lrg V e n), m) := by
  have loop : ∀ (n f : Nat), n < 10240 → n < f → b_Num_leastOfRange_6 f P (nI n) (pd n) m = some (.inl (some (.inl (nI (lrg V e n))), m)) := by
    intro n
    induction n with
    | zero =>
      intro f _ hf
      obtain ⟨f, rfl⟩ : ∃ g, f = g + 1 := ⟨f - 1, by omega⟩
      rw [b_Num_leastOfRange_6_eq, if_pos (by decide)]
      rfl
    | succ n ih =>
      intro f hn hf
      obtain ⟨f, rfl⟩ : ∃ g, f = g + 1 := ⟨f - 1, by omega⟩
      rw [b_Num_leastOfRange_6_eq, pd_1, if_neg (by clear ih h; grind [nI_T]), s_has h he hP (n := n) (by omega)]
      simp only [ob_s, lt_eq, ib_if]
      unfold lrg
      by_cases y : (V 31 e (n / 32) >>> (nI (n % 32) &&& 31)) &&& 1 = 1
      · rw [if_pos y, if_pos y, pd_d (by omega)]
        exact ih f (by omega) (by omega)
      · rw [if_neg y, if_neg y]
  rw [r_Num_leastOfRange_eq, b_Num_leastOfRange_0_eq, pd_m (by omega)]
  simp only [lt_eq]
  rw [loop n 49999 hn (by omega), rI_some]
theorem s_gbl {m : Mm} {V : Vt} {w W : Nat → Nat} (h : RC m V w W) {e n P : Nat} (he : e < 2) (hP : P = 7 + 30 * e) (hn : n < 10240) : r_Num_greatestBelow P (nI n) m = some (oi (gbl V e n), m) := by
  have loop : ∀ (n f : Nat), n < 10240 → n < f → b_Num_greatestBelow_4 f P (pd n) m = some (.inl (some (.inl (oi (gbl V e n))), m)) := by
    intro n
    induction n with
    | zero =>
      intro f _ hf
      obtain ⟨f, rfl⟩ : ∃ g, f = g + 1 := ⟨f - 1, by omega⟩
      rw [b_Num_greatestBelow_4_eq, if_pos (by decide)]
      rfl
    | succ n ih =>
      intro f hn hf
      obtain ⟨f, rfl⟩ : ∃ g, f = g + 1 := ⟨f - 1, by omega⟩
      rw [b_Num_greatestBelow_4_eq, pd_1, if_neg (by clear ih h; grind [nI_T]), s_has h he hP (n := n) (by omega)]
      simp only [ob_s, lt_eq, ib_if]
      unfold gbl
      by_cases y : (V 31 e (n / 32) >>> (nI (n % 32) &&& 31)) &&& 1 = 1
      · rw [if_pos y, if_pos y]
        rfl
      · rw [if_neg y, if_neg y, pd_d (by omega)]
        exact ih f (by omega) (by omega)
  rw [r_Num_greatestBelow_eq, b_Num_greatestBelow_0_eq, pd_m (by omega)]
  simp only [lt_eq]
  rw [loop n 49999 hn (by omega), rI_some]
/-- how many ranges lie below, at most two -/
def cnt (V : Vt) (e l : Nat) : Nat := match gbl V e l with
  | none => 0
  | some t => match gbl V e (lrg V e t) with
    | none => 1
    | some _ => 2
theorem oi_ne {k : Nat} (h : k < 100000) : ¬ oi (some k) = -1 := by
  show ¬ nI k = -1
  grind [nI_T]
theorem s_cnt {m : Mm} {V : Vt} {w W : Nat → Nat} (h : RC m V w W) {e n P : Nat} (he : e < 2) (hP : P = 7 + 30 * e) (hn : n < 10240) : r_Num_countRangesBelow P (nI n) 2 m = some (nI (cnt V e n), m) := by
  rw [r_Num_countRangesBelow_eq, b_Num_countRangesBelow_0_eq, s_gbl h he hP hn]
  simp only [ob_s]
  rw [b_Num_countRangesBelow_9_eq, if_neg (by decide)]
  unfold cnt
  cases g : gbl V e n with
  | none =>
    rw [if_pos (show oi none = -1 from rfl), rI_some]
    rfl
  | some t =>
    have tl := gbl_lt g
    have ll := lrg_le V e t
    rw [if_neg (oi_ne (by omega)), show oi (some t) = nI t from rfl, s_lrg h he hP (show t < 10240 by omega)]
    simp only [ob_s, lt_eq]
    rw [s_gbl h he hP (show lrg V e t < 10240 by omega)]
    simp only [ob_s, lt_eq]
    rw [b_Num_countRangesBelow_9_eq, if_neg (by decide)]
    cases g2 : gbl V e (lrg V e t) with
    | none =>
      rw [if_pos (show oi none = -1 from rfl), rI_some]
      rfl
    | some t2 =>
      have tl2 := gbl_lt g2
      have ll2 := lrg_le V e t2
      rw [if_neg (oi_ne (by omega)), show oi (some t2) = nI t2 from rfl, s_lrg h he hP (show t2 < 10240 by omega)]
      simp only [ob_s, lt_eq]
      rw [s_gbl h he hP (show lrg V e t2 < 10240 by omega)]
      simp only [ob_s, lt_eq]
      rw [b_Num_countRangesBelow_9_eq, if_pos (by decide), rI_some]
      rfl
end
