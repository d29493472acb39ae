section
/-! A row is written. -/
/-- no packet under way lies in the row q -/
def Fr (V : Vt) (w : Nat → Nat) (q : Nat) : Prop := ∀ a, a < 16 → nI a < V 5 0 0 → (q ≠ w a ∧ q ≠ w a + 1) ∧ (q + 1 ≠ w a ∧ q + 1 ≠ w a + 1)
/-- what the row q holds -/
def Wr (m : Mm) (q : Nat) (x : Int32) (B : Nat → Nat) (s : Nat) : Prop := m.1 11 q 0 = nI s ∧ m.1 12 q 0 = x ∧ ∀ j, j < s → m.1 13 (q + 1) j = nI (B j)
def rw3 (r : Nat) : Prop := r = 11 ∨ r = 12 ∨ r = 13
theorem Wr_c {m : Mm} {q s : Nat} {x : Int32} {B B' : Nat → Nat} (h : Wr m q x B s) (e : ∀ j, j < s → B j = B' j) : Wr m q x B' s :=
  ⟨h.1, h.2.1, fun j hj => by rw [← e j hj]; exact h.2.2 j hj⟩
theorem Wr_FS {S : Nat → Prop} {m m' : Mm} {q s : Nat} {x : Int32} {B : Nat → Nat} (h : Wr m q x B s) (hF : FS S m m') (h1 : ¬ S 11) (h2 : ¬ S 12) (h3 : ¬ S 13) : Wr m' q x B s :=
  ⟨by rw [FS_g hF _ _ _ h1]; exact h.1, by rw [FS_g hF _ _ _ h2]; exact h.2.1, fun j hj => by rw [FS_g hF _ _ _ h3]; exact h.2.2 j hj⟩
theorem s_put {m : Mm} {V : Vt} {w W : Nat → Nat} (h : RC m V w W) {q s : Nat} {x v : Int32} {B : Nat → Nat} (hf : Fr V w q) (hr : Wr m q x B s) (hs : s < 40) (hv : v &&& 255 = nI (B s)) : ∃ m', r_Row_put q v m = some m' ∧ RC m' V w W ∧ Wr m' q x B (s + 1) ∧ FS rw3 m m' := by
  refine ⟨ab_uI (ab_uI m 13 (q + 1) s (nI (B s))) 11 q 0 (nI (s + 1)), ?_, RC_sp (RC_sp h (.inr (.inr rfl)) (fun a ha hl => (hf a ha hl).2)) (.inl rfl) (fun a ha hl => (hf a ha hl).1), ⟨uI_s _ _ _ _ _, ?_, fun j hj => ?_⟩, FS_tr (FS_uI (.inr (.inr rfl))) (FS_uI (.inl rfl))⟩
  · rw [r_Row_put_eq, b_Row_put_0_eq, hr.1, if_neg (by clear h hf hr hv; grind [nI_T]), ab_ix_nI hs (by decide), hv]
    try simp only [ob_s, lt_eq]
    rw [uI_r _ _ _ _ _ _ _ _ (by omega), hr.1, nI_1, rV_some]
  · rw [uI_r _ _ _ _ _ _ _ _ (by omega), uI_r _ _ _ _ _ _ _ _ (by omega)]
    exact hr.2.1
  · rw [uI_r _ _ _ _ _ _ _ _ (by omega), uI_1]
    by_cases y : j = s
    · subst y
      rw [if_pos ⟨rfl, rfl, rfl⟩]
    · rw [if_neg (fun z => y z.2.2)]
      exact hr.2.2 j (by omega)
theorem s_rbegin {m : Mm} {V : Vt} {w W : Nat → Nat} (h : RC m V w W) {q n : Nat} {x : Int32} {B : Nat → Nat} (hf : Fr V w q) (hn : n < 100000) (hv : B 0 = n % 16) : ∃ m', r_Row_begin q x (nI n) m = some m' ∧ RC m' V w W ∧ Wr m' q x B 1 ∧ FS rw3 m m' := by
  have h2 : RC (ab_uI (ab_uI m 12 q 0 x) 11 q 0 0) V w W := RC_sp (RC_sp h (.inr (.inl rfl)) (fun a ha hl => (hf a ha hl).1)) (.inl rfl) (fun a ha hl => (hf a ha hl).1)
  have r0 : Wr (ab_uI (ab_uI m 12 q 0 x) 11 q 0 0) q x B 0 := ⟨uI_s _ _ _ _ _, by rw [uI_r _ _ _ _ _ _ _ _ (by omega), uI_s], fun j hj => by omega⟩
  have e2 : nI n - nI n / 16 * 16 = nI (n % 16) := nI_rem (k := 16) (by omega) (by decide) (by decide)
  have m8 := nI_mod (n := n % 16) 8
  rw [show nI (2 ^ 8 - 1) = (255 : Int32) from rfl] at m8
  obtain ⟨m', a1, a2, a3, a4⟩ := s_put h2 (v := nI (n % 16)) hf r0 (by omega) (by rw [m8, hv]; congr 1; omega)
  refine ⟨m', ?_, a2, a3, FS_tr (FS_tr (FS_uI (.inr (.inl rfl))) (FS_uI (.inl rfl))) a4⟩
  rw [r_Row_begin_eq, b_Row_begin_0_eq]
  try simp only [ob_s, lt_eq]
  rw [if_neg (by decide), e2, a1]
  rfl
theorem s_rseal {m : Mm} {V : Vt} {w W : Nat → Nat} (h : RC m V w W) {q s n : Nat} {x c0 : Int32} {B : Nat → Nat} (hf : Fr V w q) (hr : Wr m q x B s) (h38 : s ≤ 38) (hc : 40503 + x = c0) (b1 : B s = sl (hs B c0 s) n / 256) (b2 : B (s + 1) = sl (hs B c0 s) n % 256) : ∃ m', r_Row_seal q (nI n) m = some m' ∧ RC m' V w W ∧ Wr m' q x B (s + 2) ∧ FS rw3 m m' := by
  have sf := s_sealFor (q := q) (ct := s) (n := nI n) (c0 := c0) (B := B) (m := m) (by omega) hr.2.2 (by rw [hr.2.1]; exact hc)
  have sf' : r_Row_sealFor q (nI s) (nI n) m = some (nI (sl (hs B c0 s) n), m) := by
    rw [sf]
    exact congrArg (fun x => some (x, m)) (sl_c _)
  have lt := sl_lt (hs B c0 s) n
  have m8 := nI_mod (n := sl (hs B c0 s) n / 256) 8
  have m9 := nI_mod (n := sl (hs B c0 s) n) 8
  rw [show nI (2 ^ 8 - 1) = (255 : Int32) from rfl] at m8 m9
  obtain ⟨m1, a1, a2, a3, a4⟩ := s_put h (v := nI (sl (hs B c0 s) n / 256)) hf hr (by omega) (by rw [m8, b1]; congr 1; omega)
  obtain ⟨m2, d1, d2, d3, d4⟩ := s_put a2 (v := nI (sl (hs B c0 s) n)) hf a3 (by omega) (by rw [m9, b2])
  refine ⟨m2, ?_, d2, d3, FS_tr a4 d4⟩
  rw [r_Row_seal_eq, b_Row_seal_0_eq, hr.1, sf', ob_s, sl_hi, a1, ob_s, d1]
  rfl
end
