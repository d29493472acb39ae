section
/-! How many bytes the limits allow: the class. -/
theorem s_cal {m : Mm} {V : Vt} {w W : Nat → Nat} (h : RC m V w W) {e s O o : Nat} {n : Nat → Nat} (he : e < 2) (hs : s < 4) (hO : O = 22 + 30 * e) (ho : o = 24 + 30 * e + 3 * s) (hn : ∀ j, j < 4 → V 60 (4 * e + j) 0 = nI (n j)) : ∃ y : Int32, (y = (if (if V 59 (4 * e + s) 0 ≤ V 61 (4 * e + s) 0 then V 59 (4 * e + s) 0 else V 61 (4 * e + s) 0) - nI (n s) ≤ V 55 e 0 - nI (n 0 + n 1 + n 2 + n 3) then (if V 59 (4 * e + s) 0 ≤ V 61 (4 * e + s) 0 then V 59 (4 * e + s) 0 else V 61 (4 * e + s) 0) - nI (n s) else V 55 e 0 - nI (n 0 + n 1 + n 2 + n 3))) ∧ r_Otf_countAllowed O o m = some (if 0 < y then y else 0, m) := by
  have st : ∀ (f i x : Nat) (v2 : Int32), i < 4 → b_Otf_countAllowed_22 (f + 1) O v2 (nI x) (nI i) m = b_Otf_countAllowed_22 f O v2 (nI (x + n i)) (nI (i + 1)) m := by
    intro f i x v2 hi
    rw [b_Otf_countAllowed_22_eq, if_neg (by clear h hn; grind [nI_T]), ab_ix_nI hi (by decide)]
    simp only [ob_s]
    rw [c60 h he hi (p := O + 1 + 1 + 3 * i) (by omega), hn i hi, nI_add, nI_1]
    simp only [lt_eq]
  have mn : ∀ a b : Int32, r_Math_min a b m = some (if a ≤ b then a else b, m) := by
    intro a b
    rw [s_min]
    by_cases q : a ≤ b
    · rw [if_pos q]
      by_cases q2 : b < a
      · exact absurd q (Int32.not_le.mpr q2)
      · first
        | rw [if_neg q2]
        | rw [if_pos q]
    · rw [if_neg q]
      have q2 : b < a := Int32.not_le.mp q
      first
      | rw [if_pos q2]
      | rw [if_neg q]
  refine ⟨_, rfl, ?_⟩
  rw [r_Otf_countAllowed_eq, b_Otf_countAllowed_0_eq, mn]
  simp only [ob_s]
  rw [c59 h he hs ho, c61 h he hs ho, c60 h he hs ho, hn s hs]
  simp only [lt_eq]
  rw [show (0 : Int32) = nI 0 from rfl, show (49999 : Nat) = 49995 + 1 + 1 + 1 + 1 from rfl, st _ 0 _ _ (by omega), st _ 1 _ _ (by omega), st _ 2 _ _ (by omega), st _ 3 _ _ (by omega), b_Otf_countAllowed_22_eq, if_pos (by decide), c55 h he hO, mn]
  simp only [ob_s]
  rw [s_max]
  simp only [ob_s]
  rw [rI_some, Nat.zero_add]
  rfl
end
