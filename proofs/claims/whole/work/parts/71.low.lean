section
/-! The class's small methods. -/
theorem s_max (a b : Int32) (m : Mm) : r_Math_max a b m = some (if a < b then b else a, m) := by
  rw [r_Math_max_eq, b_Math_max_0_eq]; split <;> rfl
theorem s_min (a b : Int32) (m : Mm) : r_Math_min a b m = some (if b < a then b else a, m) := by
  rw [r_Math_min_eq, b_Math_min_0_eq]; split <;> rfl
def wd (v : Int32) : Int32 := if v < 64 then 1 else if v < 16384 then 2 else 4
theorem s_sizeOf (v : Int32) (m : Mm) : r_X_sizeOf v m = some (wd v, m) := by
  rw [r_X_sizeOf_eq, b_X_sizeOf_0_eq]
  unfold wd
  simp only [bo_0, bo_1, Option.bind_some, ab_let_eq, rI_ite, rI_some, rV_ite, rV_some, ib_if]
  grind
theorem s_roomLeft (q : Nat) (m : Mm) : r_Row_roomLeft q m = some (38 - m.1 11 q 0, m) := by
  rw [r_Row_roomLeft_eq, b_Row_roomLeft_0_eq]; rfl
theorem s_hasRoomFor (q : Nat) (n : Int32) (m : Mm) : r_Row_hasRoomFor q n m = some (ib (n ≤ 38 - m.1 11 q 0), m) := by
  rw [r_Row_hasRoomFor_eq, b_Row_hasRoomFor_0_eq, s_roomLeft]
  simp only [ib, bo_0, bo_1, Option.bind_some, ab_let_eq, rI_ite, rI_some, rV_ite, rV_some, ib_if]
  grind
theorem s_isEnd (v : Int32) (m : Mm) : r_X_isEnd v m = some (ib (0 ≤ v ∧ v < 2), m) := by
  rw [r_X_isEnd_eq, b_X_isEnd_0_eq]
  simp only [ib, bo_0, bo_1, Option.bind_some, ab_let_eq, rI_ite, rI_some, rV_ite, rV_some, ib_if]
  grind
theorem s_isCallBytes (v : Int32) (m : Mm) : r_X_isCallBytes v m = some (ib (1 ≤ v ∧ v ≤ 8), m) := by
  rw [r_X_isCallBytes_eq, b_X_isCallBytes_0_eq]
  simp only [ib, bo_0, bo_1, Option.bind_some, ab_let_eq, rI_ite, rI_some, rV_ite, rV_some, ib_if]
  grind
theorem s_isStream (v s : Int32) (m : Mm) : r_X_isStream v s m = some (ib ((0 ≤ v ∧ v < 2) ∧ 0 ≤ s ∧ s < 4), m) := by
  rw [r_X_isStream_eq, b_X_isStream_0_eq, s_isEnd]
  simp only [ib, bo_0, bo_1, Option.bind_some, ab_let_eq, rI_ite, rI_some, rV_ite, rV_some, ib_if]
  grind
theorem s_isUnderWay (k : Int32) (m : Mm) : r_X_isUnderWay 0 k m = some (ib (0 ≤ k ∧ k < m.1 5 0 0), m) := by
  rw [r_X_isUnderWay_eq, b_X_isUnderWay_0_eq]
  simp only [ib, bo_0, bo_1, Option.bind_some, ab_let_eq, rI_ite, rI_some, rV_ite, rV_some, ib_if]
  grind
theorem s_isGrowing (o : Nat) (m : Mm) : r_Out_isGrowing o m = some (ib (m.1 62 o 0 = 0 ∧ m.1 63 o 0 = 0), m) := by
  rw [r_Out_isGrowing_eq, b_Out_isGrowing_0_eq]
  simp only [ib, bo_0, bo_1, Option.bind_some, ab_let_eq, rI_ite, rI_some, rV_ite, rV_some, ib_if]
  grind
theorem s_isOpen (E : Nat) (m : Mm) : r_End_isOpen E m = some (ib (m.1 22 E 0 = -1), m) := by
  rw [r_End_isOpen_eq, b_End_isOpen_0_eq]
  simp only [ib, bo_0, bo_1, Option.bind_some, ab_let_eq, rI_ite, rI_some, rV_ite, rV_some, ib_if]
  grind
theorem s_isOwed (v : Int32) (m : Mm) : r_Out_isOwed v m = some (ib (v = 0 ∨ v = 2), m) := by
  rw [r_Out_isOwed_eq, b_Out_isOwed_0_eq, b_Out_isOwed_9_eq]
  simp only [ib, bo_0, bo_1, Option.bind_some, ab_let_eq, rI_ite, rI_some, rV_ite, rV_some, ib_if]
  grind
theorem s_owesReset (o : Nat) (m : Mm) : r_Out_owesReset o m = some (ib (m.1 63 o 0 ≠ 0 ∧ (m.1 65 o 0 = 0 ∨ m.1 65 o 0 = 2)), m) := by
  rw [r_Out_owesReset_eq, b_Out_owesReset_0_eq, s_isOwed]
  simp only [ib, bo_0, bo_1, Option.bind_some, ab_let_eq, rI_ite, rI_some, rV_ite, rV_some, ib_if]
  grind
theorem s_spent (i : Nat) (m : Mm) : r_Inc_spent i m = some (if m.1 51 i 0 = 0 then m.1 47 i 0 else m.1 49 i 0, m) := by
  rw [r_Inc_spent_eq, b_Inc_spent_0_eq]
  simp only [bo_0, bo_1, Option.bind_some, ab_let_eq, rI_ite, rI_some, rV_ite, rV_some, ib_if]
  split <;> rfl
theorem s_isWrongSize (i : Nat) (v u : Int32) (m : Mm) : r_Inc_isWrongSize i v u m = some (ib ((u ≠ 0 ∧ v < m.1 48 i 0) ∨ (m.1 49 i 0 ≠ -1 ∧ (if u = 0 then m.1 49 i 0 < v else v ≠ m.1 49 i 0))), m) := by
  rw [r_Inc_isWrongSize_eq, b_Inc_isWrongSize_0_eq, b_Inc_isWrongSize_14_eq, b_Inc_isWrongSize_45_eq]
  simp only [ib, bo_0, bo_1, Option.bind_some, ab_let_eq, rI_ite, rI_some, rV_ite, rV_some, ib_if]
  grind
theorem s_isWorthGiving (l g s t : Int32) (m : Mm) : r_Int_isWorthGiving l g s t m = some (ib (g < l ∧ (s ≤ l - g ∨ l = t)), m) := by
  rw [r_Int_isWorthGiving_eq, b_Int_isWorthGiving_0_eq, b_Int_isWorthGiving_17_eq]
  simp only [ib, bo_0, bo_1, Option.bind_some, ab_let_eq, rI_ite, rI_some, rV_ite, rV_some, ib_if]
  grind
theorem s_limitFor (i n : Nat) (m : Mm) : r_Int_limitFor i n m = some (if 64 < m.1 47 n 0 + m.1 41 i 0 then 64 else m.1 47 n 0 + m.1 41 i 0, m) := by
  rw [r_Int_limitFor_eq, b_Int_limitFor_0_eq, s_min]
  rfl
theorem s_hasMore (r : Nat) (m : Mm) : r_Rdr_hasMore r m = some (ib (m.1 36 r 0 < m.1 37 r 0), m) := by
  rw [r_Rdr_hasMore_eq, b_Rdr_hasMore_0_eq]
  simp only [ib, bo_0, bo_1, Option.bind_some, ab_let_eq, rI_ite, rI_some, rV_ite, rV_some, ib_if]
  grind
theorem s_canHold (r : Nat) (n : Int32) (m : Mm) : r_Num_canHold r n m = some (ib (0 ≤ n ∧ n < 10240), m) := by
  rw [r_Num_canHold_eq, b_Num_canHold_0_eq]
  simp only [ib, bo_0, bo_1, Option.bind_some, ab_let_eq, rI_ite, rI_some, rV_ite, rV_some, ib_if]
  grind
theorem s_shut (E : Nat) (c t : Int32) (ht : t = 0 ∨ t = 1) (m : Mm) : r_End_shut E c t m = some (ab_uI (ab_uI m 22 E 0 c) 28 E 0 t) := by
  rw [r_End_shut_eq, b_End_shut_0_eq]
  rcases ht with rfl | rfl
  · simp only [bo_0, bo_1, Option.bind_some, ab_let_eq, rI_ite, rI_some, rV_ite, rV_some, ib_if]
  · simp only [bo_0, bo_1, Option.bind_some, ab_let_eq, rI_ite, rI_some, rV_ite, rV_some, ib_if]
theorem cA_loop {o w : Nat} {m : Mm} (hw : m.1 59 o 0 = nI w) (h64 : w ≤ 64) : ∀ (k i f : Nat), i + k = w → 2 * k < f → b_Out_countAcked_4 f o (nI (cn 3 (fun j => m.1 67 (o + 2) j) i)) (nI i) m = some (.inl (some (.inl (nI (cn 3 (fun j => m.1 67 (o + 2) j) w))), m)) := by
  intro k
  induction k with
  | zero =>
    intro i f hi hf
    obtain ⟨f, rfl⟩ : ∃ g, f = g + 1 := ⟨f - 1, by omega⟩
    obtain rfl : i = w := by omega
    rw [b_Out_countAcked_4_eq, hw, if_pos (by grind [nI_T])]
  | succ k ih =>
    intro i f hi hf
    obtain ⟨f, rfl⟩ : ∃ g, f = g + 2 := ⟨f - 2, by omega⟩
    rw [b_Out_countAcked_4_eq, hw, if_neg (by grind [nI_T]), ab_ix_nI (by omega) (by omega)]
    simp only [Option.bind_some, ab_let_eq]
    have e := ih (i + 1) f (by omega) (by omega)
    rw [← nI_1, cn] at e
    split
    · rename_i hc
      rw [if_pos hc, ← nI_1] at e
      rw [b_Out_countAcked_25_eq]
      exact e
    · rename_i hc
      rw [if_neg hc] at e
      rw [b_Out_countAcked_25_eq]
      exact e
theorem s_countAcked {o w : Nat} {m : Mm} (hw : m.1 59 o 0 = nI w) (h64 : w ≤ 64) : r_Out_countAcked o m = some (nI (cn 3 (fun j => m.1 67 (o + 2) j) w), m) := by
  rw [r_Out_countAcked_eq, b_Out_countAcked_0_eq]
  exact congrArg ab_rI (cA_loop hw h64 w 0 49999 (by omega) (by omega))
/-- the first that is lost -/
def FL (g : Nat → Int32) (n : Nat) (v : Int32) : Prop := (v = -1 ∧ ∀ j, j < n → g j ≠ 2) ∨ ∃ j, j < n ∧ v = nI j ∧ g j = 2 ∧ ∀ i, i < j → g i ≠ 2
theorem fL_loop {o w : Nat} {m : Mm} (hw : m.1 60 o 0 = nI w) (h64 : w ≤ 64) : ∀ (k i f : Nat), i + k = w → k < f → (∀ j, j < i → m.1 67 (o + 2) j ≠ 2) → ∃ v, b_Out_firstLost_2 f o (nI i) m = some (.inl (some (.inl v), m)) ∧ FL (fun j => m.1 67 (o + 2) j) w v := by
  intro k
  induction k with
  | zero =>
    intro i f hi hf hj
    obtain ⟨f, rfl⟩ : ∃ g, f = g + 1 := ⟨f - 1, by omega⟩
    obtain rfl : i = w := by omega
    rw [b_Out_firstLost_2_eq, hw, if_pos (by grind [nI_T])]
    exact ⟨_, rfl, .inl ⟨rfl, hj⟩⟩
  | succ k ih =>
    intro i f hi hf hj
    obtain ⟨f, rfl⟩ : ∃ g, f = g + 1 := ⟨f - 1, by omega⟩
    rw [b_Out_firstLost_2_eq, hw, if_neg (by grind [nI_T]), ab_ix_nI (by omega) (by omega)]
    simp only [Option.bind_some, ab_let_eq]
    split
    · rename_i hc
      exact ⟨_, rfl, .inr ⟨i, (by omega), rfl, hc, hj⟩⟩
    · rename_i hc
      rw [nI_1]
      exact ih (i + 1) f (by omega) (by omega) (fun j h => by
        by_cases e : j = i
        · rw [e]; exact hc
        · exact hj j (by omega))
theorem s_firstLost {o w : Nat} {m : Mm} (hw : m.1 60 o 0 = nI w) (h64 : w ≤ 64) : ∃ v, r_Out_firstLost o m = some (v, m) ∧ FL (fun j => m.1 67 (o + 2) j) w v := by
  obtain ⟨v, e, h⟩ := fL_loop hw h64 w 0 49999 (by omega) (by omega) (fun j hj => by omega)
  refine ⟨v, ?_, h⟩
  rw [r_Out_firstLost_eq, b_Out_firstLost_0_eq]
  exact congrArg ab_rI e
theorem FL_uniq {g : Nat → Int32} {n : Nat} {v u : Int32} (h : FL g n v) (h' : FL g n u) : v = u := by
  rcases h with ⟨rfl, h⟩ | ⟨j, hj, rfl, h1, h2⟩
  · rcases h' with ⟨rfl, _⟩ | ⟨j, hj, rfl, h1, h2⟩
    · rfl
    · exact (h j hj h1).elim
  · rcases h' with ⟨rfl, h⟩ | ⟨i, hi, rfl, h3, h4⟩
    · exact (h j hj h1).elim
    · have e : i = j := by
        rcases Nat.lt_trichotomy i j with q | q | q
        · exact (h2 i q h3).elim
        · exact q
        · exact (h4 j q h1).elim
      rw [e]
theorem FL_more {g : Nat → Int32} {n n' : Nat} {v : Int32} (hn : n ≤ n') (hz : ∀ j, n ≤ j → j < n' → g j ≠ 2) (h : FL g n v) : FL g n' v := by
  rcases h with ⟨rfl, h⟩ | ⟨j, hj, rfl, h1, h2⟩
  · refine .inl ⟨rfl, fun j hj => ?_⟩
    by_cases e : j < n
    · exact h j e
    · exact hz j (by omega) hj
  · exact .inr ⟨j, by omega, rfl, h1, h2⟩
/-- how many in a row from i on are x, before n -/
def rn (x : Int32) (g : Nat → Int32) : Nat → Nat → Nat
  | 0, _ => 0
  | k + 1, i => if g i = x then rn x g k (i + 1) + 1 else 0
theorem rn_le (x : Int32) (g : Nat → Int32) : ∀ k i, rn x g k i ≤ k
  | 0, _ => Nat.le_refl _
  | k + 1, i => by
    have := rn_le x g k (i + 1)
    unfold rn
    split <;> omega
theorem cL_loop {o w : Nat} {m : Mm} (hw : m.1 60 o 0 = nI w) (h64 : w ≤ 64) : ∀ (k i c f : Nat), i + k = w → k < f → b_Out_countLostFrom_4 f o (nI c) (nI i) m = some (.inl (some (.inl (nI (c + rn 2 (fun j => m.1 67 (o + 2) j) k i))), m)) := by
  intro k
  induction k with
  | zero =>
    intro i c f hi hf
    obtain ⟨f, rfl⟩ : ∃ g, f = g + 1 := ⟨f - 1, by omega⟩
    obtain rfl : i = w := by omega
    rw [b_Out_countLostFrom_4_eq, hw, if_pos (by grind [nI_T])]
    rfl
  | succ k ih =>
    intro i c f hi hf
    obtain ⟨f, rfl⟩ : ∃ g, f = g + 1 := ⟨f - 1, by omega⟩
    rw [b_Out_countLostFrom_4_eq, hw, if_neg (by grind [nI_T]), ab_ix_nI (by omega) (by omega), rn]
    simp only [Option.bind_some, ab_let_eq]
    split
    · rename_i hc
      rw [nI_1, nI_1, ih (i + 1) (c + 1) f (by omega) (by omega)]
      rw [show c + 1 + rn 2 (fun j => m.1 67 (o + 2) j) k (i + 1) = c + (rn 2 (fun j => m.1 67 (o + 2) j) k (i + 1) + 1) by omega]
    · rfl
theorem s_countLostFrom {o w i : Nat} {m : Mm} (hw : m.1 60 o 0 = nI w) (h64 : w ≤ 64) (hi : i ≤ w) : r_Out_countLostFrom o (nI i) m = some (nI (rn 2 (fun j => m.1 67 (o + 2) j) (w - i) i), m) := by
  rw [r_Out_countLostFrom_eq, b_Out_countLostFrom_0_eq]
  have e := cL_loop hw h64 (w - i) i 0 49999 (by omega) (by omega)
  rw [Nat.zero_add] at e
  exact congrArg ab_rI e
theorem s_isDone {o w : Nat} {m : Mm} (hw : m.1 59 o 0 = nI w) (h64 : w ≤ 64) : r_Out_isDone o m = some (ib (m.1 65 o 0 = 3 ∨ (m.1 64 o 0 = 3 ∧ nI (cn 3 (fun j => m.1 67 (o + 2) j) w) = nI w)), m) := by
  rw [r_Out_isDone_eq, b_Out_isDone_0_eq, b_Out_isDone_27_eq, s_countAcked hw h64]
  simp only [ib, hw, b_Out_isDone_27_eq, bo_0, bo_1, Option.bind_some, ab_let_eq, rI_ite, rI_some, rV_ite, rV_some, ib_if]
  grind
theorem s_owesEndAlone {o w : Nat} {m : Mm} (hw : m.1 60 o 0 = nI w) (h64 : w ≤ 64) : ∃ v, FL (fun j => m.1 67 (o + 2) j) w v ∧ r_Out_owesEndAlone o m = some (ib (m.1 62 o 0 ≠ 0 ∧ (m.1 64 o 0 = 0 ∨ m.1 64 o 0 = 2) ∧ nI w = m.1 59 o 0 ∧ v = -1), m) := by
  obtain ⟨v, e, h⟩ := s_firstLost hw h64
  refine ⟨v, h, ?_⟩
  rw [r_Out_owesEndAlone_eq, b_Out_owesEndAlone_0_eq, s_isOwed]
  simp only [ib, hw, e, bo_0, bo_1, Option.bind_some, ab_let_eq, rI_ite, rI_some, rV_ite, rV_some, ib_if]
  grind
/-- how many bytes stand ready -/
def rd (g : Nat → Int32) : Nat → Nat → Nat
  | 0, _ => 0
  | k + 1, i => if g i = -1 then 0 else rd g k (i + 1) + 1
theorem rd_le (g : Nat → Int32) : ∀ k i, rd g k i ≤ k
  | 0, _ => Nat.le_refl _
  | k + 1, i => by
    have := rd_le g k (i + 1)
    unfold rd
    split <;> omega
theorem rd_ext {g h : Nat → Int32} : ∀ {k i : Nat}, (∀ j, j < i + k → g j = h j) → rd g k i = rd h k i
  | 0, _, _ => rfl
  | k + 1, i, e => by
    unfold rd
    rw [rd_ext (k := k) (i := i + 1) (fun j hj => e j (by omega)), e i (by omega)]
theorem rn_ext {x : Int32} {g h : Nat → Int32} : ∀ {k i : Nat}, (∀ j, j < i + k → g j = h j) → rn x g k i = rn x h k i
  | 0, _, _ => rfl
  | k + 1, i, e => by
    unfold rn
    rw [rn_ext (k := k) (i := i + 1) (fun j hj => e j (by omega)), e i (by omega)]
theorem rd_loop {n : Nat} {m : Mm} : ∀ (k i c f : Nat), i + k = 64 → k < f → b_Inc_ready_7 f n (nI c) (nI i) m = some (.inl (some (.inl (nI (c + rd (fun j => m.1 53 (n + 1) j) k i))), m)) := by
  intro k
  induction k with
  | zero =>
    intro i c f hi hf
    obtain ⟨f, rfl⟩ : ∃ g, f = g + 1 := ⟨f - 1, by omega⟩
    obtain rfl : i = 64 := by omega
    rw [b_Inc_ready_7_eq, if_pos (show (64 : Int32) ≤ nI 64 by decide)]
    rfl
  | succ k ih =>
    intro i c f hi hf
    obtain ⟨f, rfl⟩ : ∃ g, f = g + 1 := ⟨f - 1, by omega⟩
    rw [b_Inc_ready_7_eq, if_neg (by grind [nI_T]), ab_ix_nI (by omega) (by omega), rd]
    simp only [Option.bind_some, ab_let_eq]
    split
    · rfl
    · rename_i hc
      rw [nI_1, nI_1, ih (i + 1) (c + 1) f (by omega) (by omega)]
      rw [show c + 1 + rd (fun j => m.1 53 (n + 1) j) k (i + 1) = c + (rd (fun j => m.1 53 (n + 1) j) k (i + 1) + 1) by omega]
theorem s_ready {n t : Nat} {m : Mm} (ht : m.1 47 n 0 = nI t) (h64 : t ≤ 64) : r_Inc_ready n m = some (nI (rd (fun j => m.1 53 (n + 1) j) (64 - t) t), m) := by
  rw [r_Inc_ready_eq, b_Inc_ready_0_eq, ht]
  have e := rd_loop (n := n) (m := m) (64 - t) t 0 49999 (by omega) (by omega)
  rw [Nat.zero_add] at e
  exact congrArg ab_rI e
end
