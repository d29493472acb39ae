section
/-! May a byte be sent that was not sent yet: the model. -/
def otn (n : Nat → Nat) (s : Nat) : Nat := (if 0 = s then 0 else n 0) + (if 1 = s then 0 else n 1) + (if 2 = s then 0 else n 2) + (if 3 = s then 0 else n 3)
theorem t_mbn {m : Mm} {V : Vt} (h : RM m V) {e s p : Nat} {n : Nat → Nat} (he : e < 2) (hs : s < 4) (hn : ∀ j, j < 4 → V 60 (4 * e + j) 0 = nI (n j)) : r_M_mayBeNew 98 (nI e) (nI (4 * e + s)) (nI p) m = some (ib (¬ V 59 (4 * e + s) 0 ≤ nI p ∧ ¬ V 61 (4 * e + s) 0 ≤ nI p ∧ ¬ V 55 e 0 < nI (p + 1 + otn n s)), m) := by
  have hx : 4 * e + s < 8 := by omega
  have e4 : (4 : Int32) * nI e + 4 = nI (4 * e + 4) := nI4a (b := 4)
  have x4 : (4 : Int32) * nI e = nI (4 * e + 0) := nI4a (b := 0) ▸ (Int32.add_zero _).symm
  have st : ∀ (f i x : Nat), i < 4 → b_M_mayBeNew_10 (f + 2) 98 (nI e) (nI (4 * e + s)) (nI p) (nI x) (nI (4 * e + i)) m = b_M_mayBeNew_10 f 98 (nI e) (nI (4 * e + s)) (nI p) (nI (x + (if i = s then 0 else n i))) (nI (4 * e + (i + 1))) m := by
    intro f i x hi
    rw [b_M_mayBeNew_10_eq, e4, if_neg (by clear h hn; grind [nI_T])]
    by_cases y : i = s
    · subst y
      rw [if_pos rfl, if_pos rfl, b_M_mayBeNew_41_eq]
      simp only [lt_eq]
      rw [nI_1]
      rfl
    · rw [if_neg (ne_k (by omega) (by omega) (by omega)), if_neg y, ab_ix_nI (show 4 * e + i < 8 by omega) (by decide)]
      simp only [ob_s]
      rw [n60 h (show 4 * e + i < 8 by omega) (p := 98 + 4) rfl rfl, hn i hi, nI_add, b_M_mayBeNew_41_eq]
      simp only [lt_eq]
      rw [nI_1]
      rfl
  rw [r_M_mayBeNew_eq, b_M_mayBeNew_0_eq, x4, nI_1]
  simp only [lt_eq]
  rw [show (49999 : Nat) = 49997 + 2 from rfl, st _ 0 _ (by omega), show (49997 : Nat) = 49995 + 2 from rfl, st _ 1 _ (by omega), show (49995 : Nat) = 49993 + 2 from rfl, st _ 2 _ (by omega), show (49993 : Nat) = 49991 + 2 from rfl, st _ 3 _ (by omega)]
  have ev : p + 1 + (if 0 = s then 0 else n 0) + (if 1 = s then 0 else n 1) + (if 2 = s then 0 else n 2) + (if 3 = s then 0 else n 3) = p + 1 + otn n s := by
    unfold otn
    omega
  rw [ev, b_M_mayBeNew_10_eq, e4, if_pos (Int32.le_refl _), ab_ix_nI hx (by decide), ab_ix_nI he (by decide)]
  simp only [ob_s]
  rw [n59 h hx (p := 98 + 3) rfl rfl, n61 h hx (p := 98 + 7) rfl rfl, n55 h he (p := 98 + 17) rfl rfl, bo_0, bo_1]
  simp only [ob_s]
  unfold ib
  by_cases y1 : V 59 (4 * e + s) 0 ≤ nI p
  · rw [if_pos y1, if_neg (fun q => q.1 y1), rI_some]
  · rw [if_neg y1]
    by_cases y2 : V 61 (4 * e + s) 0 ≤ nI p
    · rw [if_pos y2, if_neg (fun q => q.2.1 y2), rI_some]
    · rw [if_neg y2]
      by_cases y3 : V 55 e 0 < nI (p + 1 + otn n s)
      · rw [if_pos y3, if_neg (fun q => q.2.2 y3), rI_some]
      · rw [if_neg y3, if_pos ⟨y1, y2, y3⟩, rI_some]
end
