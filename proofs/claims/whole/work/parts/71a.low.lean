section
/-! The class's small methods. -/
theorem s_max (a b : Int32) (m : Mm) : r_Math_max a b m = some (if a < b then b else a, m) := by
  rw [r_Math_max_eq, b_Math_max_0_eq]; split <;> rfl
theorem s_min (a b : Int32) (m : Mm) : r_Math_min a b m = some (if b < a then b else a, m) := by
  rw [r_Math_min_eq, b_Math_min_0_eq]; split <;> rfl
def wd (v : Int32) : Int32 := if v < 64 then 1 else if v < 16384 then 2 else 4
theorem s_sizeOf (v : Int32) (m : Mm) : r_X_sizeOf v m = some (wd v, m) := by
  rw [r_X_sizeOf_eq, b_X_sizeOf_0_eq]
  unfold wd
  simp only [bo_0, bo_1, ob_s, lt_eq, rI_ite, rI_some, rV_ite, rV_some, ib_if]
  grind
theorem s_roomLeft (q : Nat) (m : Mm) : r_Row_roomLeft q m = some (38 - m.1 11 q 0, m) := by
  rw [r_Row_roomLeft_eq, b_Row_roomLeft_0_eq]; rfl
theorem s_hasRoomFor (q : Nat) (n : Int32) (m : Mm) : r_Row_hasRoomFor q n m = some (ib (n ≤ 38 - m.1 11 q 0), m) := by
  rw [r_Row_hasRoomFor_eq, b_Row_hasRoomFor_0_eq, s_roomLeft]
  simp only [ib, bo_0, bo_1, ob_s, lt_eq, rI_ite, rI_some, rV_ite, rV_some, ib_if]
  grind
theorem s_isEnd (v : Int32) (m : Mm) : r_X_isEnd v m = some (ib (0 ≤ v ∧ v < 2), m) := by
  rw [r_X_isEnd_eq, b_X_isEnd_0_eq]
  simp only [ib, bo_0, bo_1, ob_s, lt_eq, rI_ite, rI_some, rV_ite, rV_some, ib_if]
  grind
theorem s_isCallBytes (v : Int32) (m : Mm) : r_X_isCallBytes v m = some (ib (1 ≤ v ∧ v ≤ 8), m) := by
  rw [r_X_isCallBytes_eq, b_X_isCallBytes_0_eq]
  simp only [ib, bo_0, bo_1, ob_s, lt_eq, rI_ite, rI_some, rV_ite, rV_some, ib_if]
  grind
theorem s_isStream (v s : Int32) (m : Mm) : r_X_isStream v s m = some (ib ((0 ≤ v ∧ v < 2) ∧ 0 ≤ s ∧ s < 4), m) := by
  rw [r_X_isStream_eq, b_X_isStream_0_eq, s_isEnd]
  simp only [ib, bo_0, bo_1, ob_s, lt_eq, rI_ite, rI_some, rV_ite, rV_some, ib_if]
  grind
theorem s_isUnderWay (k : Int32) (m : Mm) : r_X_isUnderWay 0 k m = some (ib (0 ≤ k ∧ k < m.1 5 0 0), m) := by
  rw [r_X_isUnderWay_eq, b_X_isUnderWay_0_eq]
  simp only [ib, bo_0, bo_1, ob_s, lt_eq, rI_ite, rI_some, rV_ite, rV_some, ib_if]
  grind
theorem s_isGrowing (o : Nat) (m : Mm) : r_Out_isGrowing o m = some (ib (m.1 62 o 0 = 0 ∧ m.1 63 o 0 = 0), m) := by
  rw [r_Out_isGrowing_eq, b_Out_isGrowing_0_eq]
  simp only [ib, bo_0, bo_1, ob_s, lt_eq, rI_ite, rI_some, rV_ite, rV_some, ib_if]
  grind
theorem s_isOpen (E : Nat) (m : Mm) : r_End_isOpen E m = some (ib (m.1 22 E 0 = -1), m) := by
  rw [r_End_isOpen_eq, b_End_isOpen_0_eq]
  simp only [ib, bo_0, bo_1, ob_s, lt_eq, rI_ite, rI_some, rV_ite, rV_some, ib_if]
  grind
theorem s_isOwed (v : Int32) (m : Mm) : r_Out_isOwed v m = some (ib (v = 0 ∨ v = 2), m) := by
  rw [r_Out_isOwed_eq, b_Out_isOwed_0_eq, b_Out_isOwed_9_eq]
  simp only [ib, bo_0, bo_1, ob_s, lt_eq, rI_ite, rI_some, rV_ite, rV_some, ib_if]
  grind
theorem s_owesReset (o : Nat) (m : Mm) : r_Out_owesReset o m = some (ib (m.1 63 o 0 ≠ 0 ∧ (m.1 65 o 0 = 0 ∨ m.1 65 o 0 = 2)), m) := by
  rw [r_Out_owesReset_eq, b_Out_owesReset_0_eq, s_isOwed]
  simp only [ib, bo_0, bo_1, ob_s, lt_eq, rI_ite, rI_some, rV_ite, rV_some, ib_if]
  grind
theorem s_spent (i : Nat) (m : Mm) : r_Inc_spent i m = some (if m.1 51 i 0 = 0 then m.1 47 i 0 else m.1 49 i 0, m) := by
  rw [r_Inc_spent_eq, b_Inc_spent_0_eq]
  simp only [bo_0, bo_1, ob_s, lt_eq, rI_ite, rI_some, rV_ite, rV_some, ib_if]
  split <;> rfl
theorem s_isWrongSize (i : Nat) (v u : Int32) (m : Mm) : r_Inc_isWrongSize i v u m = some (ib ((u ≠ 0 ∧ v < m.1 48 i 0) ∨ (m.1 49 i 0 ≠ -1 ∧ (if u = 0 then m.1 49 i 0 < v else v ≠ m.1 49 i 0))), m) := by
  rw [r_Inc_isWrongSize_eq, b_Inc_isWrongSize_0_eq, b_Inc_isWrongSize_14_eq, b_Inc_isWrongSize_45_eq]
  simp only [ib, bo_0, bo_1, ob_s, lt_eq, rI_ite, rI_some, rV_ite, rV_some, ib_if]
  grind
theorem s_isWorthGiving (l g s t : Int32) (m : Mm) : r_Int_isWorthGiving l g s t m = some (ib (g < l ∧ (s ≤ l - g ∨ l = t)), m) := by
  rw [r_Int_isWorthGiving_eq, b_Int_isWorthGiving_0_eq, b_Int_isWorthGiving_17_eq]
  simp only [ib, bo_0, bo_1, ob_s, lt_eq, rI_ite, rI_some, rV_ite, rV_some, ib_if]
  grind
theorem s_limitFor (i n : Nat) (m : Mm) : r_Int_limitFor i n m = some (if 64 < m.1 47 n 0 + m.1 41 i 0 then 64 else m.1 47 n 0 + m.1 41 i 0, m) := by
  rw [r_Int_limitFor_eq, b_Int_limitFor_0_eq, s_min]
  rfl
theorem s_hasMore (r : Nat) (m : Mm) : r_Rdr_hasMore r m = some (ib (m.1 36 r 0 < m.1 37 r 0), m) := by
  rw [r_Rdr_hasMore_eq, b_Rdr_hasMore_0_eq]
  simp only [ib, bo_0, bo_1, ob_s, lt_eq, rI_ite, rI_some, rV_ite, rV_some, ib_if]
  grind
theorem s_canHold (r : Nat) (n : Int32) (m : Mm) : r_Num_canHold r n m = some (ib (0 ≤ n ∧ n < 10240), m) := by
  rw [r_Num_canHold_eq, b_Num_canHold_0_eq]
  simp only [ib, bo_0, bo_1, ob_s, lt_eq, rI_ite, rI_some, rV_ite, rV_some, ib_if]
  grind
theorem s_shut (E : Nat) (c t : Int32) (ht : t = 0 ∨ t = 1) (m : Mm) : r_End_shut E c t m = some (ab_uI (ab_uI m 22 E 0 c) 28 E 0 t) := by
  rw [r_End_shut_eq, b_End_shut_0_eq]
  rcases ht with rfl | rfl
  · simp only [bo_0, bo_1, ob_s, lt_eq, rI_ite, rI_some, rV_ite, rV_some, ib_if]
  · simp only [bo_0, bo_1, ob_s, lt_eq, rI_ite, rI_some, rV_ite, rV_some, ib_if]
end
