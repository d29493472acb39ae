section
theorem cA_loop {o w : Nat} {m : Mm} (hw : m.1 59 o 0 = nI w) (h64 : w ≤ 64) : ∀ (k i f : Nat), i + k = w → 2 * k < f → b_Out_countAcked_4 f o (nI (cn 3 (fun j => m.1 67 (o + 2) j) i)) (nI i) m = some (.inl (some (.inl (nI (cn 3 (fun j => m.1 67 (o + 2) j) w))), m)) := by
  intro k
  induction k with
  | zero =>
    intro i f hi hf
    obtain ⟨f, rfl⟩ : ∃ g, f = g + 1 := ⟨f - 1, by omega⟩
    obtain rfl : i = w := by omega
    rw [b_Out_countAcked_4_eq, hw, if_pos (by (try clear ih); grind [nI_T])]
  | succ k ih =>
    intro i f hi hf
    obtain ⟨f, rfl⟩ : ∃ g, f = g + 2 := ⟨f - 2, by omega⟩
    rw [b_Out_countAcked_4_eq, hw, if_neg (by (try clear ih); grind [nI_T]), ab_ix_nI (by omega) (by omega)]
    simp only [ob_s, lt_eq]
    have e := ih (i + 1) f (by omega) (by omega)
    rw [← nI_1, cn] at e
    split
    · rename_i hc
      rw [if_pos hc, ← nI_1] at e
      rw [b_Out_countAcked_25_eq]
      simp only [ob_s, lt_eq]
      exact e
    · rename_i hc
      rw [if_neg hc] at e
      rw [b_Out_countAcked_25_eq]
      simp only [ob_s, lt_eq]
      exact e
theorem s_countAcked {o w : Nat} {m : Mm} (hw : m.1 59 o 0 = nI w) (h64 : w ≤ 64) : r_Out_countAcked o m = some (nI (cn 3 (fun j => m.1 67 (o + 2) j) w), m) := by
  rw [r_Out_countAcked_eq, b_Out_countAcked_0_eq]
  exact congrArg ab_rI (cA_loop hw h64 w 0 49999 (by omega) (by omega))
/-- the first that is lost -/
def FL (g : Nat → Int32) (n : Nat) (v : Int32) : Prop := (v = -1 ∧ ∀ j, j < n → g j ≠ 2) ∨ ∃ j, j < n ∧ v = nI j ∧ g j = 2 ∧ ∀ i, i < j → g i ≠ 2
theorem fL_loop {o w : Nat} {m : Mm} (hw : m.1 60 o 0 = nI w) (h64 : w ≤ 64) : ∀ (k i f : Nat), i + k = w → k < f → (∀ j, j < i → m.1 67 (o + 2) j ≠ 2) → ∃ v, b_Out_firstLost_2 f o (nI i) m = some (.inl (some (.inl v), m)) ∧ FL (fun j => m.1 67 (o + 2) j) w v := by
  intro k
  induction k with
  | zero =>
    intro i f hi hf hj
    obtain ⟨f, rfl⟩ : ∃ g, f = g + 1 := ⟨f - 1, by omega⟩
    obtain rfl : i = w := by omega
    rw [b_Out_firstLost_2_eq, hw, if_pos (by (try clear ih); grind [nI_T])]
    exact ⟨_, rfl, .inl ⟨rfl, hj⟩⟩
  | succ k ih =>
    intro i f hi hf hj
    obtain ⟨f, rfl⟩ : ∃ g, f = g + 1 := ⟨f - 1, by omega⟩
    rw [b_Out_firstLost_2_eq, hw, if_neg (by (try clear ih); grind [nI_T]), ab_ix_nI (by omega) (by omega)]
    simp only [ob_s, lt_eq]
    split
    · rename_i hc
      exact ⟨_, rfl, .inr ⟨i, (by omega), rfl, hc, hj⟩⟩
    · rename_i hc
      rw [nI_1]
      exact ih (i + 1) f (by omega) (by omega) (fun j h => by
        by_cases e : j = i
        · rw [e]; exact hc
        · exact hj j (by omega))
theorem s_firstLost {o w : Nat} {m : Mm} (hw : m.1 60 o 0 = nI w) (h64 : w ≤ 64) : ∃ v, r_Out_firstLost o m = some (v, m) ∧ FL (fun j => m.1 67 (o + 2) j) w v := by
  obtain ⟨v, e, h⟩ := fL_loop hw h64 w 0 49999 (by omega) (by omega) (fun j hj => by omega)
  refine ⟨v, ?_, h⟩
  rw [r_Out_firstLost_eq, b_Out_firstLost_0_eq]
  exact congrArg ab_rI e
theorem FL_uniq {g : Nat → Int32} {n : Nat} {v u : Int32} (h : FL g n v) (h' : FL g n u) : v = u := by
  rcases h with ⟨rfl, h⟩ | ⟨j, hj, rfl, h1, h2⟩
  · rcases h' with ⟨rfl, _⟩ | ⟨j, hj, rfl, h1, h2⟩
    · rfl
    · exact (h j hj h1).elim
  · rcases h' with ⟨rfl, h⟩ | ⟨i, hi, rfl, h3, h4⟩
    · exact (h j hj h1).elim
    · have e : i = j := by
        rcases Nat.lt_trichotomy i j with q | q | q
        · exact (h2 i q h3).elim
        · exact q
        · exact (h4 j q h1).elim
      rw [e]
theorem FL_more {g : Nat → Int32} {n n' : Nat} {v : Int32} (hn : n ≤ n') (hz : ∀ j, n ≤ j → j < n' → g j ≠ 2) (h : FL g n v) : FL g n' v := by
  rcases h with ⟨rfl, h⟩ | ⟨j, hj, rfl, h1, h2⟩
  · refine .inl ⟨rfl, fun j hj => ?_⟩
    by_cases e : j < n
    · exact h j e
    · exact hz j (by omega) hj
  · exact .inr ⟨j, by omega, rfl, h1, h2⟩
/-- how many in a row from i on are x, before n -/
def rn (x : Int32) (g : Nat → Int32) : Nat → Nat → Nat
  | 0, _ => 0
  | k + 1, i => if g i = x then rn x g k (i + 1) + 1 else 0
theorem rn_le (x : Int32) (g : Nat → Int32) : ∀ k i, rn x g k i ≤ k
  | 0, _ => Nat.le_refl _
  | k + 1, i => by
    have := rn_le x g k (i + 1)
    unfold rn
    split <;> omega
theorem cL_loop {o w : Nat} {m : Mm} (hw : m.1 60 o 0 = nI w) (h64 : w ≤ 64) : ∀ (k i c f : Nat), i + k = w → k < f → b_Out_countLostFrom_4 f o (nI c) (nI i) m = some (.inl (some (.inl (nI (c + rn 2 (fun j => m.1 67 (o + 2) j) k i))), m)) := by
  intro k
  induction k with
  | zero =>
    intro i c f hi hf
    obtain ⟨f, rfl⟩ : ∃ g, f = g + 1 := ⟨f - 1, by omega⟩
    obtain rfl : i = w := by omega
    rw [b_Out_countLostFrom_4_eq, hw, if_pos (by (try clear ih); grind [nI_T])]
    rfl
  | succ k ih =>
    intro i c f hi hf
    obtain ⟨f, rfl⟩ : ∃ g, f = g + 1 := ⟨f - 1, by omega⟩
    rw [b_Out_countLostFrom_4_eq, hw, if_neg (by (try clear ih); grind [nI_T]), ab_ix_nI (by omega) (by omega), rn]
    simp only [ob_s, lt_eq]
    split
    · rename_i hc
      rw [nI_1, nI_1, ih (i + 1) (c + 1) f (by omega) (by omega)]
      rw [show c + 1 + rn 2 (fun j => m.1 67 (o + 2) j) k (i + 1) = c + (rn 2 (fun j => m.1 67 (o + 2) j) k (i + 1) + 1) by omega]
    · rfl
theorem s_countLostFrom {o w i : Nat} {m : Mm} (hw : m.1 60 o 0 = nI w) (h64 : w ≤ 64) (hi : i ≤ w) : r_Out_countLostFrom o (nI i) m = some (nI (rn 2 (fun j => m.1 67 (o + 2) j) (w - i) i), m) := by
  rw [r_Out_countLostFrom_eq, b_Out_countLostFrom_0_eq]
  have e := cL_loop hw h64 (w - i) i 0 49999 (by omega) (by omega)
  rw [Nat.zero_add, show nI 0 = 0 from rfl] at e
  try simp only [lt_eq]
  rw [e]
  rfl
theorem s_isDone {o w : Nat} {m : Mm} (hw : m.1 59 o 0 = nI w) (h64 : w ≤ 64) : r_Out_isDone o m = some (ib (m.1 65 o 0 = 3 ∨ (m.1 64 o 0 = 3 ∧ nI (cn 3 (fun j => m.1 67 (o + 2) j) w) = nI w)), m) := by
  rw [r_Out_isDone_eq, b_Out_isDone_0_eq, b_Out_isDone_27_eq, s_countAcked hw h64]
  simp only [ib, hw, b_Out_isDone_27_eq, bo_0, bo_1, ob_s, lt_eq, rI_ite, rI_some, rV_ite, rV_some, ib_if]
  grind
theorem s_owesEndAlone {o w : Nat} {m : Mm} (hw : m.1 60 o 0 = nI w) (h64 : w ≤ 64) : ∃ v, FL (fun j => m.1 67 (o + 2) j) w v ∧ r_Out_owesEndAlone o m = some (ib (m.1 62 o 0 ≠ 0 ∧ (m.1 64 o 0 = 0 ∨ m.1 64 o 0 = 2) ∧ nI w = m.1 59 o 0 ∧ v = -1), m) := by
  obtain ⟨v, e, h⟩ := s_firstLost hw h64
  refine ⟨v, h, ?_⟩
  rw [r_Out_owesEndAlone_eq, b_Out_owesEndAlone_0_eq, s_isOwed]
  simp only [ib, hw, e, bo_0, bo_1, ob_s, lt_eq, rI_ite, rI_some, rV_ite, rV_some, ib_if]
  grind
/-- how many bytes stand ready -/
def rd (g : Nat → Int32) : Nat → Nat → Nat
  | 0, _ => 0
  | k + 1, i => if g i = -1 then 0 else rd g k (i + 1) + 1
theorem rd_le (g : Nat → Int32) : ∀ k i, rd g k i ≤ k
  | 0, _ => Nat.le_refl _
  | k + 1, i => by
    have := rd_le g k (i + 1)
    unfold rd
    split <;> omega
theorem rd_ext {g h : Nat → Int32} : ∀ {k i : Nat}, (∀ j, j < i + k → g j = h j) → rd g k i = rd h k i
  | 0, _, _ => rfl
  | k + 1, i, e => by
    unfold rd
    rw [rd_ext (k := k) (i := i + 1) (fun j hj => e j (by omega)), e i (by omega)]
theorem rn_ext {x : Int32} {g h : Nat → Int32} : ∀ {k i : Nat}, (∀ j, j < i + k → g j = h j) → rn x g k i = rn x h k i
  | 0, _, _ => rfl
  | k + 1, i, e => by
    unfold rn
    rw [rn_ext (k := k) (i := i + 1) (fun j hj => e j (by omega)), e i (by omega)]
theorem rd_loop {n : Nat} {m : Mm} : ∀ (k i c f : Nat), i + k = 64 → k < f → b_Inc_ready_7 f n (nI c) (nI i) m = some (.inl (some (.inl (nI (c + rd (fun j => m.1 53 (n + 1) j) k i))), m)) := by
  intro k
  induction k with
  | zero =>
    intro i c f hi hf
    obtain ⟨f, rfl⟩ : ∃ g, f = g + 1 := ⟨f - 1, by omega⟩
    obtain rfl : i = 64 := by omega
    rw [b_Inc_ready_7_eq, if_pos (show (64 : Int32) ≤ nI 64 by decide)]
    rfl
  | succ k ih =>
    intro i c f hi hf
    obtain ⟨f, rfl⟩ : ∃ g, f = g + 1 := ⟨f - 1, by omega⟩
    rw [b_Inc_ready_7_eq, if_neg (by (try clear ih); grind [nI_T]), ab_ix_nI (by omega) (by omega), rd]
    simp only [ob_s, lt_eq]
    split
    · rfl
    · rename_i hc
      rw [nI_1, nI_1, ih (i + 1) (c + 1) f (by omega) (by omega)]
      rw [show c + 1 + rd (fun j => m.1 53 (n + 1) j) k (i + 1) = c + (rd (fun j => m.1 53 (n + 1) j) k (i + 1) + 1) by omega]
theorem s_ready {n t : Nat} {m : Mm} (ht : m.1 47 n 0 = nI t) (h64 : t ≤ 64) : r_Inc_ready n m = some (nI (rd (fun j => m.1 53 (n + 1) j) (64 - t) t), m) := by
  rw [r_Inc_ready_eq, b_Inc_ready_0_eq, ht]
  have e := rd_loop (n := n) (m := m) (64 - t) t 0 49999 (by omega) (by omega)
  rw [Nat.zero_add, show nI 0 = 0 from rfl] at e
  try simp only [lt_eq]
  rw [e]
  rfl
end
