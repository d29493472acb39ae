section
/-! Numbers of a packet: what class and model read. -/
/-- the number that stands at p, before s, and where it ends -/
def num (B : Nat → Nat) (p s : Nat) : Option (Nat × Nat) :=
  if s ≤ p then none else if B p < 64 then some (B p, p + 1) else if 192 ≤ B p then none
  else if B p < 128 then (if p + 2 ≤ s then some (B p % 64 * 256 + B (p + 1), p + 2) else none)
  else if p + 4 ≤ s then some (((B p % 64 * 256 + B (p + 1)) * 256 + B (p + 2)) * 256 + B (p + 3), p + 4) else none
theorem num_lt {B : Nat → Nat} (hB : ∀ j, B j < 256) {p s v q : Nat} (h : num B p s = some (v, q)) : v < 1073741824 ∧ p < q ∧ q ≤ s := by
  unfold num at h
  have := hB p; have := hB (p + 1); have := hB (p + 2); have := hB (p + 3)
  split at h
  · cases h
  split at h
  · cases h; omega
  split at h
  · cases h
  split at h
  · split at h
    · cases h; omega
    · cases h
  · split at h
    · cases h; omega
    · cases h
/-- the reader R stands at p of a row q, before s -/
def Rd (m : Mm) (R q : Nat) (B : Nat → Nat) (p s : Nat) : Prop := m.2.2.1 34 R 0 = some q ∧ m.1 36 R 0 = nI p ∧ m.1 37 R 0 = nI s ∧ ∀ j, j < 40 → j < s + 2 → m.1 13 (q + 1) j = nI (B j)
theorem s_nextByte {m : Mm} {R q p s : Nat} {B : Nat → Nat} (h : Rd m R q B p s) (hs : s ≤ 38) (hp : p ≤ s) : r_Rdr_nextByte R m = some (if s ≤ p then -1 else nI (B p), if s ≤ p then m else ab_uI m 36 R 0 (nI (p + 1))) := by
  obtain ⟨h1, h2, h3, h4⟩ := h
  rw [r_Rdr_nextByte_eq, b_Rdr_nextByte_0_eq, h1, oe_s, h2, h3]
  by_cases z : s ≤ p
  · rw [if_pos (by (try clear ih); grind [nI_T]), if_pos z, if_pos z]
    rfl
  · rw [if_neg (by (try clear ih); grind [nI_T]), if_neg z, if_neg z, if_pos (by (try clear ih); grind [nI_T]), lt_eq]
    rw [show (ab_uI m 36 R 0 (nI p + 1)).2.2.1 34 R 0 = some q from h1, uI_s, show nI p + 1 - 1 = nI p by grind, nI_1]
    simp only [ob_s, lt_eq]
    rw [ab_ix_nI (show p < 40 by omega) (by decide)]
    simp only [ob_s, lt_eq]
    rw [uI_r _ _ _ _ _ _ _ _ (by omega), h4 p (by omega) (by omega)]
    rfl
theorem Rd_36 {m : Mm} {R q p s : Nat} {B : Nat → Nat} (h : Rd m R q B p s) (p' : Nat) : Rd (ab_uI m 36 R 0 (nI p')) R q B p' s := by
  obtain ⟨h1, h2, h3, h4⟩ := h
  refine ⟨h1, uI_s _ _ _ _ _, ?_, fun j hj hj' => ?_⟩
  · rw [uI_r _ _ _ _ _ _ _ _ (by omega)]; exact h3
  · rw [uI_r _ _ _ _ _ _ _ _ (by omega)]; exact h4 j hj hj'
theorem uI_uI (m : Mm) (r p j : Nat) (x y : Int32) : ab_uI (ab_uI m r p j x) r p j y = ab_uI m r p j y := by
  unfold ab_uI
  refine Prod.ext ?_ rfl
  funext r' p' j'
  by_cases h : r' = r ∧ p' = p ∧ j' = j
  · simp [h]
  · simp [h]
theorem nI_63 {b : Nat} : nI b &&& 63 = nI (b % 64) := nI_mod (n := b) 6
theorem nI_256 (a b : Nat) : nI a * 256 + nI b = nI (a * 256 + b) := by
  unfold nI
  rw [← show Int32.ofNat 256 = 256 from rfl, ← Int32.ofNat_mul, ← Int32.ofNat_add]
theorem s_nextNumber {m : Mm} {R q p s : Nat} {B : Nat → Nat} (h : Rd m R q B p s) (hB : ∀ j, B j < 256) (hs : s ≤ 38) (hp : p ≤ s) :
    (∀ v p', num B p s = some (v, p') → r_Rdr_nextNumber R m = some (nI v, ab_uI m 36 R 0 (nI p'))) ∧ (num B p s = none → ∃ p', p' ≤ s ∧ r_Rdr_nextNumber R m = some (-1, ab_uI m 36 R 0 (nI p'))) := by
  have e36 : ab_uI m 36 R 0 (nI p) = m := by
    unfold ab_uI
    refine Prod.ext ?_ rfl
    funext r' p' j'
    by_cases z : r' = 36 ∧ p' = R ∧ j' = 0
    · obtain ⟨rfl, rfl, rfl⟩ := z
      simp [h.2.1]
    · simp [z]
  have n0 := s_nextByte h hs hp
  have b0 := hB p; have b1 := hB (p + 1); have b2 := hB (p + 2); have b3 := hB (p + 3)
  rw [r_Rdr_nextNumber_eq, b_Rdr_nextNumber_0_eq, n0]
  unfold num
  by_cases z : s ≤ p
  · rw [if_pos z, if_pos z, if_pos z]
    refine ⟨fun v p' q => (by cases q), fun _ => ⟨p, hp, ?_⟩⟩
    simp only [ob_s, lt_eq]
    rw [if_neg (by decide), e36]
    rfl
  · rw [if_neg z, if_neg z, if_neg z]
    simp only [ob_s, lt_eq]
    have h1 := Rd_36 h (p + 1)
    by_cases z1 : B p < 64
    · rw [if_pos z1, if_neg (show ¬ (64 : Int32) ≤ nI (B p) by grind [nI_T])]
      refine ⟨fun v p' q => ?_, fun q => (by cases q)⟩
      cases q
      rfl
    · rw [if_neg z1, if_pos (show (64 : Int32) ≤ nI (B p) by grind [nI_T])]
      by_cases z2 : 192 ≤ B p
      · rw [if_pos z2, if_neg (show ¬ nI (B p) < 192 by grind [nI_T])]
        refine ⟨fun v p' q => (by cases q), fun _ => ⟨p + 1, by omega, rfl⟩⟩
      · rw [if_neg z2, if_pos (show nI (B p) < 192 by grind [nI_T])]
        have e58 : ∀ u f, b_Rdr_nextNumber_34 (f + 1) R (nI (B p)) u (ab_uI m 36 R 0 (nI (p + 1))) = if u ≤ nI s - nI (p + 1) then b_Rdr_nextNumber_58 f R u (nI (B p % 64)) 0 (ab_uI m 36 R 0 (nI (p + 1))) else some (.inl (some (.inl (-1)), ab_uI m 36 R 0 (nI (p + 1)))) := by
          intro u f
          rw [b_Rdr_nextNumber_34_eq, h1.2.2.1, h1.2.1, nI_63]
          rfl
        by_cases z3 : B p < 128
        · rw [if_pos z3, if_neg (show ¬ (128 : Int32) ≤ nI (B p) by grind [nI_T]), e58]
          by_cases z4 : p + 2 ≤ s
          · rw [if_pos z4, if_pos (show (1 : Int32) ≤ nI s - nI (p + 1) by grind [nI_T])]
            refine ⟨fun v p' q => ?_, fun q => (by cases q)⟩
            cases q
            rw [b_Rdr_nextNumber_58_eq, if_neg (by decide), s_nextByte h1 hs (by omega), if_neg (by omega), if_neg (by omega)]
            simp only [ob_s, lt_eq]
            rw [nI_256, uI_uI, b_Rdr_nextNumber_58_eq, if_pos (by decide)]
            rfl
          · rw [if_neg z4, if_neg (show ¬ (1 : Int32) ≤ nI s - nI (p + 1) by grind [nI_T])]
            exact ⟨fun v p' q => (by cases q), fun _ => ⟨p + 1, by omega, rfl⟩⟩
        · rw [if_neg z3, if_pos (show (128 : Int32) ≤ nI (B p) by grind [nI_T]), e58]
          by_cases z4 : p + 4 ≤ s
          · rw [if_pos z4, if_pos (show (3 : Int32) ≤ nI s - nI (p + 1) by grind [nI_T])]
            refine ⟨fun v p' q => ?_, fun q => (by cases q)⟩
            cases q
            have h2 := Rd_36 h (p + 2)
            have h3 := Rd_36 h (p + 3)
            rw [b_Rdr_nextNumber_58_eq, if_neg (by decide), s_nextByte h1 hs (by omega), if_neg (by omega), if_neg (by omega)]
            simp only [ob_s, lt_eq]
            rw [nI_256, uI_uI, b_Rdr_nextNumber_58_eq, if_neg (by decide), s_nextByte h2 hs (by omega), if_neg (by omega), if_neg (by omega)]
            simp only [ob_s, lt_eq]
            rw [nI_256, uI_uI, b_Rdr_nextNumber_58_eq, if_neg (by decide), s_nextByte h3 hs (by omega), if_neg (by omega), if_neg (by omega)]
            simp only [ob_s, lt_eq]
            rw [nI_256, uI_uI, b_Rdr_nextNumber_58_eq, if_pos (by decide)]
            rfl
          · rw [if_neg z4, if_neg (show ¬ (3 : Int32) ≤ nI s - nI (p + 1) by grind [nI_T])]
            exact ⟨fun v p' q => (by cases q), fun _ => ⟨p + 1, by omega, rfl⟩⟩
end
section
/-! The model's numbers. -/
/-- the model's cursor stands at p, before s -/
def Cu (m : Mm) (B : Nat → Nat) (p s : Nat) : Prop := m.1 124 98 0 = nI p ∧ m.1 123 98 0 = nI (s + 2) ∧ ∀ j, j < 40 → j < s + 2 → m.1 167 133 j = nI (B j)
theorem nI_8or {a b : Nat} (hb : b < 256) : (nI a <<< ((8 : Int32) &&& 31)) ||| nI b = nI (a * 256 + b) := by
  rw [show ((8 : Int32) &&& 31) = nI 8 &&& 31 from rfl, nI_shl (k := 8) (by decide), nI_or, show a * 2 ^ 8 = 2 ^ 8 * a by omega, ← Nat.two_pow_add_eq_or_of_lt (i := 8) hb, show 2 ^ 8 * a + b = a * 256 + b by omega]
theorem t_numberAt {m : Mm} {p s : Nat} {B : Nat → Nat} (h : Cu m B p s) (hB : ∀ j, B j < 256) (hs : s ≤ 38) (hp : p ≤ s) :
    (∀ v p', num B p s = some (v, p') → r_M_numberAt 98 m = some (nI v, ab_uI m 124 98 0 (nI p'))) ∧ (num B p s = none → r_M_numberAt 98 m = some (0, ab_uI m 127 98 0 1)) := by
  obtain ⟨h1, h2, h3⟩ := h
  have b0 := hB p; have b1 := hB (p + 1); have b2 := hB (p + 2); have b3 := hB (p + 3)
  have e2 : nI (s + 2) - 2 = nI s := by grind [nI_T]
  have no : ∀ f, b_M_numberAt_74 (f + 1) 98 m = some (.inl (some (.inl 0), ab_uI m 127 98 0 1)) := by
    intro f
    rw [b_M_numberAt_74_eq, bo_1]
    rfl
  rw [r_M_numberAt_eq, b_M_numberAt_0_eq, h1, h2, e2]
  unfold num
  by_cases z : s ≤ p
  · rw [if_pos (show nI s ≤ nI p by grind [nI_T]), if_pos z, b_M_numberAt_28_eq, if_pos (by decide), if_pos (by decide), b_M_numberAt_51_eq, if_pos (by decide), no]
    exact ⟨fun v p' q => (by cases q), fun _ => rfl⟩
  · rw [if_neg (show ¬ nI s ≤ nI p by grind [nI_T]), if_neg z, ab_ix_nI (show p < 48 by omega) (by decide)]
    simp only [ob_s, lt_eq]
    rw [show (98 : Nat) + 35 = 133 from rfl, h3 p (by omega) (by omega), b_M_numberAt_28_eq]
    by_cases z1 : B p < 64
    · rw [if_pos z1, if_neg (show ¬ (64 : Int32) ≤ nI (B p) by grind [nI_T]), b_M_numberAt_51_eq, if_neg (show ¬ (192 : Int32) ≤ nI (B p) by grind [nI_T]), h1, h2, e2, if_pos (show nI p + 1 ≤ nI s by grind [nI_T]), if_pos rfl, b_M_numberAt_94_eq, b_M_numberAt_98_eq, if_pos (by decide), h1]
      refine ⟨fun v p' q => ?_, fun q => (by cases q)⟩
      cases q
      rw [lt_eq, nI_1]
      rfl
    · rw [if_neg z1, if_pos (show (64 : Int32) ≤ nI (B p) by grind [nI_T])]
      by_cases z2 : 192 ≤ B p
      · rw [if_pos z2, if_pos (show (128 : Int32) ≤ nI (B p) by grind [nI_T]), b_M_numberAt_51_eq, if_pos (show (192 : Int32) ≤ nI (B p) by grind [nI_T]), no]
        exact ⟨fun v p' q => (by cases q), fun _ => rfl⟩
      · rw [if_neg z2]
        by_cases z3 : B p < 128
        · rw [if_pos z3, if_neg (show ¬ (128 : Int32) ≤ nI (B p) by grind [nI_T]), b_M_numberAt_51_eq, if_neg (show ¬ (192 : Int32) ≤ nI (B p) by grind [nI_T]), h1, h2, e2]
          by_cases z4 : p + 2 ≤ s
          · rw [if_pos z4, if_pos (show nI p + 2 ≤ nI s by grind [nI_T]), if_neg (show ¬ (2 : Int32) = 1 by decide), nI_63, b_M_numberAt_94_eq, b_M_numberAt_98_eq, if_neg (by decide), h1, nI_1, ab_ix_nI (show p + 1 < 48 by omega) (by decide)]
            simp only [ob_s, lt_eq]
            rw [show (98 : Nat) + 35 = 133 from rfl, h3 (p + 1) (by omega) (by omega), nI_8or b1, b_M_numberAt_98_eq, if_pos (by decide), h1]
            refine ⟨fun v p' q => ?_, fun q => (by cases q)⟩
            cases q
            rw [lt_eq, show nI p + 2 = nI (p + 2) from nI_add p 2]
            rfl
          · rw [if_neg z4, if_neg (show ¬ nI p + 2 ≤ nI s by grind [nI_T]), no]
            exact ⟨fun v p' q => (by cases q), fun _ => rfl⟩
        · rw [if_neg z3, if_pos (show (128 : Int32) ≤ nI (B p) by grind [nI_T]), b_M_numberAt_51_eq, if_neg (show ¬ (192 : Int32) ≤ nI (B p) by grind [nI_T]), h1, h2, e2]
          by_cases z4 : p + 4 ≤ s
          · rw [if_pos z4, if_pos (show nI p + 4 ≤ nI s by grind [nI_T]), if_neg (show ¬ (4 : Int32) = 1 by decide), nI_63, b_M_numberAt_94_eq, b_M_numberAt_98_eq, if_neg (by decide), h1, nI_1, ab_ix_nI (show p + 1 < 48 by omega) (by decide)]
            simp only [ob_s, lt_eq]
            rw [show (98 : Nat) + 35 = 133 from rfl, h3 (p + 1) (by omega) (by omega), nI_8or b1, b_M_numberAt_98_eq, if_neg (by decide), h1, show nI p + (1 + 1 : Int32) = nI (p + 2) from nI_add p 2, ab_ix_nI (show p + 2 < 48 by omega) (by decide)]
            simp only [ob_s, lt_eq]
            rw [show (98 : Nat) + 35 = 133 from rfl, h3 (p + 2) (by omega) (by omega), nI_8or b2, b_M_numberAt_98_eq, if_neg (by decide), h1, show nI p + (1 + 1 + 1 : Int32) = nI (p + 3) from nI_add p 3, ab_ix_nI (show p + 3 < 48 by omega) (by decide)]
            simp only [ob_s, lt_eq]
            rw [show (98 : Nat) + 35 = 133 from rfl, h3 (p + 3) (by omega) (by omega), nI_8or b3, b_M_numberAt_98_eq, if_pos (by decide), h1]
            refine ⟨fun v p' q => ?_, fun q => (by cases q)⟩
            cases q
            rw [lt_eq, show nI p + 4 = nI (p + 4) from nI_add p 4]
            rfl
          · rw [if_neg z4, if_neg (show ¬ nI p + 4 ≤ nI s by grind [nI_T]), no]
            exact ⟨fun v p' q => (by cases q), fun _ => rfl⟩
end
