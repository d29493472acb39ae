section
/-! Frames: what the class's reader steps over. -/
def nums (B : Nat → Nat) (s : Nat) : Nat → Nat → Option (List Nat × Nat)
  | 0, p => some ([], p)
  | k + 1, p => match num B p s with
    | none => none
    | some (v, q) => match nums B s k q with
      | none => none
      | some (L, q') => some (v :: L, q')
theorem nums_le {B : Nat → Nat} {s : Nat} (hB : ∀ j, B j < 256) : ∀ {k p q : Nat} {L : List Nat}, nums B s k p = some (L, q) → p ≤ s → L.length = k ∧ p ≤ q ∧ q ≤ s ∧ ∀ v ∈ L, v < 1073741824
  | 0, p, q, L, h, hp => by
    cases h
    exact ⟨rfl, Nat.le_refl _, hp, fun v hv => by cases hv⟩
  | k + 1, p, q, L, h, hp => by
    unfold nums at h
    split at h
    · cases h
    · rename_i v q1 e1
      have n1 := num_lt hB e1
      split at h
      · cases h
      · rename_i L' q' e2
        cases h
        have n2 := nums_le hB e2 n1.2.2
        refine ⟨by simp [n2.1], by omega, n2.2.2.1, fun u hu => ?_⟩
        rcases List.mem_cons.mp hu with rfl | hu
        · exact n1.1
        · exact n2.2.2.2 u hu
def sRd (r : Nat) : Prop := 33 ≤ r ∧ r ≤ 38
/-- the row and the place stay, the reader moves -/
theorem Rd_FS {m m' : Mm} {R q p p' s : Nat} {B : Nat → Nat} (h : Rd m R q B p s) (hF : FS sRd m m') (h36 : m'.1 36 R 0 = nI p') (h37 : m'.1 37 R 0 = m.1 37 R 0) : Rd m' R q B p' s := by
  obtain ⟨h1, h2, h3, h4⟩ := h
  refine ⟨by rw [hF.2]; exact h1, h36, by rw [h37]; exact h3, fun j hj hj' => ?_⟩
  rw [FS_g hF _ _ _ (by unfold sRd; omega)]
  exact h4 j hj hj'
theorem s_stepNumbers {R q s : Nat} {B : Nat → Nat} (hB : ∀ j, B j < 256) (hs : s ≤ 38) {fr ct : Nat} (hfc : fr + ct ≤ 7) : ∀ (k i p f : Nat) (m : Mm), i + k = fr + ct → k < f → p ≤ s → Rd m R q B p s →
    (∀ L p', nums B s k p = some (L, p') → ∃ m', b_Rdr_stepNumbers_2 f R (nI fr) (nI ct) (nI i) m = some (.inl (some (.inl 1), m')) ∧ FS sRd m m' ∧ Rd m' R q B p' s ∧ m'.1 33 R 0 = m.1 33 R 0 ∧ (∀ j, j < i → m'.1 38 (R + 1) j = m.1 38 (R + 1) j) ∧ ∀ j (hj : j < L.length), m'.1 38 (R + 1) (i + j) = nI L[j]) ∧
    (nums B s k p = none → ∃ m', b_Rdr_stepNumbers_2 f R (nI fr) (nI ct) (nI i) m = some (.inl (some (.inl 0), m')) ∧ FS sRd m m' ∧ m'.1 33 R 0 = m.1 33 R 0) := by
  intro k
  induction k with
  | zero =>
    intro i p f m hi hf hp h
    obtain ⟨f, rfl⟩ : ∃ g, f = g + 1 := ⟨f - 1, by omega⟩
    rw [b_Rdr_stepNumbers_2_eq, nI_add, if_pos (by (try clear ih); grind [nI_T]), bo_1]
    refine ⟨fun L p' e => ?_, fun e => (by cases e)⟩
    cases e
    exact ⟨m, rfl, FS_rfl _ _, h, rfl, fun _ _ => rfl, fun j hj => by cases hj⟩
  | succ k ih =>
    intro i p f m hi hf hp h
    obtain ⟨f, rfl⟩ : ∃ g, f = g + 1 := ⟨f - 1, by omega⟩
    obtain ⟨n1, n2⟩ := s_nextNumber h hB hs hp
    rw [b_Rdr_stepNumbers_2_eq, nI_add, if_neg (by (try clear ih); grind [nI_T]), if_neg (by (try clear ih); grind [nI_T])]
    unfold nums
    cases hn : num B p s with
    | none =>
      obtain ⟨p1, hp1, e1⟩ := n2 hn
      refine ⟨fun L p' e => (by cases e), fun _ => ?_⟩
      rw [e1]
      simp only [ob_s, lt_eq]
      rw [ab_ix_nI (show i < 7 by omega) (by decide)]
      simp only [ob_s, lt_eq]
      rw [uI_s, if_pos rfl, bo_0]
      refine ⟨_, rfl, FS_tr (FS_uI (by unfold sRd; omega)) (FS_uI (by unfold sRd; omega)), ?_⟩
      rw [uI_r _ _ _ _ _ _ _ _ (by omega), uI_r _ _ _ _ _ _ _ _ (by omega)]
    | some z =>
      obtain ⟨v, p1⟩ := z
      have e1 := n1 v p1 hn
      have hl := num_lt hB hn
      have f1 : FS sRd m (ab_uI (ab_uI m 36 R 0 (nI p1)) 38 (R + 1) i (nI v)) := FS_tr (FS_uI (by unfold sRd; omega)) (FS_uI (by unfold sRd; omega))
      have h1 : Rd (ab_uI (ab_uI m 36 R 0 (nI p1)) 38 (R + 1) i (nI v)) R q B p1 s := Rd_FS h f1 (by rw [uI_r _ _ _ _ _ _ _ _ (by omega), uI_s]) (by rw [uI_r _ _ _ _ _ _ _ _ (by omega), uI_r _ _ _ _ _ _ _ _ (by omega)])
      have k33 : (ab_uI (ab_uI m 36 R 0 (nI p1)) 38 (R + 1) i (nI v)).1 33 R 0 = m.1 33 R 0 := by rw [uI_r _ _ _ _ _ _ _ _ (by omega), uI_r _ _ _ _ _ _ _ _ (by omega)]
      obtain ⟨i1, i2⟩ := ih (i + 1) p1 f _ (by omega) (by omega) hl.2.2 h1
      have run : b_Rdr_stepNumbers_2 (f + 1) R (nI fr) (nI ct) (nI i) m = b_Rdr_stepNumbers_2 f R (nI fr) (nI ct) (nI (i + 1)) (ab_uI (ab_uI m 36 R 0 (nI p1)) 38 (R + 1) i (nI v)) := by
        rw [b_Rdr_stepNumbers_2_eq, nI_add, if_neg (by (try clear ih); grind [nI_T]), if_neg (by (try clear ih); grind [nI_T]), e1]
        simp only [ob_s, lt_eq]
        rw [ab_ix_nI (show i < 7 by omega) (by decide)]
        simp only [ob_s, lt_eq]
        rw [uI_s, if_neg (by (try clear ih); grind [nI_T]), nI_1]
      rw [b_Rdr_stepNumbers_2_eq, nI_add, if_neg (by (try clear ih); grind [nI_T]), if_neg (by (try clear ih); grind [nI_T])] at run
      rw [run]
      simp only
      cases hL : nums B s k p1 with
      | none =>
        refine ⟨fun L p' e => (by cases e), fun _ => ?_⟩
        obtain ⟨m', a1, a2, a3⟩ := i2 hL
        exact ⟨m', a1, FS_tr f1 a2, a3.trans k33⟩
      | some z2 =>
        obtain ⟨L', p2⟩ := z2
        refine ⟨fun L p' e => ?_, fun e => (by cases e)⟩
        cases e
        obtain ⟨m', a1, a2, a3, a4, a5, a6⟩ := i1 L' p2 hL
        refine ⟨m', a1, FS_tr f1 a2, a3, a4.trans k33, fun j hj => ?_, fun j hj => ?_⟩
        · rw [a5 j (by omega), uI_1, if_neg (by omega), uI_r _ _ _ _ _ _ _ _ (by omega)]
        · cases j with
          | zero =>
            show m'.1 38 (R + 1) i = nI v
            rw [a5 i (by omega), uI_s]
          | succ j =>
            have := a6 j (by simpa using hj)
            rw [show i + (j + 1) = i + 1 + j by omega, this]
            rfl
end
