section
/-! craft. -/
theorem hs_c {B B' : Nat → Nat} {c0 : Int32} : ∀ {s : Nat}, (∀ j, j < s → B j = B' j) → hs B c0 s = hs B' c0 s := by
  intro s
  induction s with
  | zero => intro _; rfl
  | succ s ih =>
    intro h
    show (hs B c0 s ^^^ nI (B s)) * 16777619 = (hs B' c0 s ^^^ nI (B' s)) * 16777619
    rw [ih (fun j hj => h j (by omega)), h s (by omega)]
theorem m255 {b : Nat} (h : b < 256) : nI b &&& 255 = nI b := by
  have m8 := nI_mod (n := b) 8
  rw [show nI (2 ^ 8 - 1) = (255 : Int32) from rfl] at m8
  rw [m8, Nat.mod_eq_of_lt (show b < 2 ^ 8 from h)]
/-- what the model is writing -/
def Wm (m : Mm) (B : Nat → Nat) (s : Nat) : Prop := ∀ j, j < s → m.1 168 134 j = nI (B j)
theorem Wm_1 {m : Mm} {B : Nat → Nat} {s : Nat} {v : Int32} (h : Wm m B s) (hv : v = nI (B s)) : Wm (ab_uI m 168 134 s v) B (s + 1) := by
  intro j hj
  rw [uI_1]
  by_cases y : j = s
  · subst y
    rw [if_pos ⟨rfl, rfl, rfl⟩, hv]
  · rw [if_neg (fun z => y z.2.2)]
    exact h j (by omega)
theorem t_seal {m : Mm} {V : Vt} (h : RM m V) {s n : Nat} {x c0 : Int32} {B : Nat → Nat} (hw : Wm m B s) (h38 : s ≤ 38) (hc : 40503 + x = c0) (b1 : B s = sl (hs B c0 s) n / 256) (b2 : B (s + 1) = sl (hs B c0 s) n % 256) : ∃ m', r_M_seal 98 x (nI n) (nI (s + 2)) m = some m' ∧ RM m' V ∧ Wm m' B (s + 2) ∧ FS (fun r => r = 168) m m' := by
  have e2 : nI (s + 2) - 2 = nI s := by
    clear h hw b1 b2
    grind [nI_T]
  have e1 : nI (s + 2) - 1 = nI (s + 1) := by
    clear h hw b1 b2
    grind [nI_T]
  have loop : ∀ (k i f : Nat), i + k = s → b_M_seal_9 (f + k) 98 (nI n) (nI (s + 2)) (hs B c0 i) (nI i) m = b_M_seal_9 f 98 (nI n) (nI (s + 2)) (hs B c0 s) (nI s) m := by
    intro k
    induction k with
    | zero =>
      intro i f hi
      obtain rfl : i = s := by omega
      rfl
    | succ k ih =>
      intro i f hi
      rw [show f + (k + 1) = f + k + 1 by omega, b_M_seal_9_eq, e2, if_neg (by clear ih h hw b1 b2 e1 e2; grind [nI_T]), ab_ix_nI (show i < 48 by omega) (by decide)]
      try simp only [ob_s, lt_eq]
      rw [show (98 : Nat) + 36 = 134 from rfl, hw i (by omega), nI_1]
      exact ih (i + 1) f (by omega)
  have t := loop s 0 (49999 - s) (by omega)
  obtain ⟨g, hg⟩ : ∃ g, 49999 - s = g + 1 := ⟨49999 - s - 1, by omega⟩
  rw [show 49999 - s + s = 49999 by omega, hg, show nI 0 = (0 : Int32) from rfl, show hs B c0 0 = c0 from rfl, b_M_seal_9_eq g, e2, e1, if_pos (Int32.le_refl _), sl_m] at t
  simp only [lt_eq] at t
  rw [sl_hm, sl_lo, ab_ix_nI (show s < 48 by omega) (by decide), ab_ix_nI (show s + 1 < 48 by omega) (by decide)] at t
  simp only [ob_s] at t
  refine ⟨_, ?_, RM_sm (RM_sm h (by unfold Sm; omega)) (by unfold Sm; omega), Wm_1 (Wm_1 hw (by rw [b1])) (by rw [b2]), FS_tr (FS_uI rfl) (FS_uI rfl)⟩
  rw [r_M_seal_eq, b_M_seal_0_eq, hc]
  try simp only [ob_s, lt_eq]
  rw [t]
  rfl
theorem s_craft {V : Vt} {w W : Nat → Nat} {r : Nat} {v1 v2 x : Int32} {B : Nat → Nat} (h6 : V 6 0 0 = nI r) (hr : r ≤ 37) (hB : ∀ j, B j < 256) (h14 : ∀ j, j < r → V 14 0 j = nI (B (j + 1))) (hf : Fr V w 3) : ∀ (j i f : Nat) (m : Mm), i + j = r → RC m V w W → Wr m 3 x B (i + 1) → ∃ m', b_X_craft_39 (f + j) 0 v1 v2 (nI i) m = b_X_craft_39 f 0 v1 v2 (nI r) m' ∧ RC m' V w W ∧ Wr m' 3 x B (r + 1) ∧ FS rw3 m m' := by
  intro j
  induction j with
  | zero =>
    intro i f m hi h1 h2
    obtain rfl : i = r := by omega
    exact ⟨m, rfl, h1, h2, FS_rfl _ _⟩
  | succ j ih =>
    intro i f m hi h1 h2
    obtain ⟨m1, a1, a2, a3, a4⟩ := s_put h1 (v := nI (B (i + 1))) hf h2 (by omega) (m255 (hB _))
    obtain ⟨m2, d1, d2, d3, d4⟩ := ih (i + 1) f m1 (by omega) a2 a3
    refine ⟨m2, ?_, d2, d3, FS_tr a4 d4⟩
    rw [show f + (j + 1) = f + j + 1 by omega, b_X_craft_39_eq, c6 h1 rfl, h6, if_neg (by clear ih h1 h2 a2 a3 a4 d2 d3 d4 h14 hf; grind [nI_T]), ab_ix_nI (show i < 37 by omega) (by decide)]
    try simp only [ob_s, lt_eq]
    rw [c14 h1 (b := i) (by omega) (p := 0 + 5) rfl, h14 i (by omega), show (0 : Nat) + 3 = 3 from rfl, a1]
    try simp only [ob_s, lt_eq]
    rw [nI_1]
    exact d1
theorem t_cr39 {V : Vt} {r : Nat} {v1 v2 : Int32} {B : Nat → Nat} (h6 : V 6 0 0 = nI r) (hr : r ≤ 37) (h14 : ∀ j, j < r → V 14 0 j = nI (B (j + 1))) : ∀ (j i f : Nat) (m : Mm), i + j = r → RM m V → Wm m B (i + 1) → ∃ m', b_M_craft_39 (f + j) 98 v1 v2 (nI i) m = b_M_craft_39 f 98 v1 v2 (nI r) m' ∧ RM m' V ∧ Wm m' B (r + 1) ∧ FC m m' := by
  intro j
  induction j with
  | zero =>
    intro i f m hi h1 h2
    obtain rfl : i = r := by omega
    exact ⟨m, rfl, h1, h2, FC_rfl _⟩
  | succ j ih =>
    intro i f m hi h1 h2
    obtain ⟨m2, d1, d2, d3, d4⟩ := ih (i + 1) f (ab_uI m 168 134 (i + 1) (nI (B (i + 1)))) (by omega) (RM_sm h1 (by unfold Sm; omega)) (Wm_1 h2 rfl)
    refine ⟨m2, ?_, d2, d3, FC_tr (FC_uI (by omega)) d4⟩
    have k6 : m.1 126 98 0 = nI r := by rw [h1.2.1.2.1, h6]
    have o1 : (1 : Int32) + nI i = nI (i + 1) := by
      rw [Int32.add_comm]
      exact nI_1 i
    rw [show f + (j + 1) = f + j + 1 by omega, b_M_craft_39_eq, k6, if_neg (by clear ih h1 h2 d1 d2 d3 d4 h14 k6 o1; grind [nI_T]), o1, ab_ix_nI (show i < 37 by omega) (by decide), ab_ix_nI (show i + 1 < 48 by omega) (by decide)]
    try simp only [ob_s, lt_eq]
    rw [n14 h1 (b := i) (by omega) (p := 98 + 37) rfl rfl, h14 i (by omega), nI_1]
    exact d1
theorem t_cr91 {V : Vt} {z : Nat} {v1 : Int32} {B : Nat → Nat} (hz4 : z ≤ 40) : ∀ (j i f : Nat) (m : Mm), i + j = z → m.1 123 98 0 = nI z → Wm m B z → (∀ t, t < i → m.1 167 133 t = nI (B t)) → RM m V →
    ∃ m', b_M_craft_91 (f + j) 98 v1 (nI i) m = b_M_craft_91 f 98 v1 (nI z) m' ∧ RM m' V ∧ FC m m' ∧ m'.1 123 98 0 = nI z ∧ ∀ t, t < z → m'.1 167 133 t = nI (B t) := by
  intro j
  induction j with
  | zero =>
    intro i f m hi e1 e2 e3 e4
    obtain rfl : i = z := by omega
    exact ⟨m, rfl, e4, FC_rfl _, e1, e3⟩
  | succ j ih =>
    intro i f m hi e1 e2 e3 e4
    obtain ⟨m', r1, r2, r3, r4, r5⟩ := ih (i + 1) f (ab_uI m 167 133 i (nI (B i))) (by omega) (by rw [uI_r _ _ _ _ _ _ _ _ (by omega)]; exact e1) (fun t ht => by rw [uI_r _ _ _ _ _ _ _ _ (by omega)]; exact e2 t ht) (fun t ht => by
      rw [uI_1]
      by_cases y : t = i
      · subst y
        rw [if_pos ⟨rfl, rfl, rfl⟩]
      · rw [if_neg (fun q => y q.2.2)]
        exact e3 t (by omega)) (RM_sm e4 (by unfold Sm; omega))
    refine ⟨m', ?_, r2, FC_tr (FC_uI (by omega)) r3, r4, r5⟩
    rw [show f + (j + 1) = f + j + 1 by omega, b_M_craft_91_eq, e1, if_neg (by clear ih e2 e3 e4 r1 r2 r3 r5; grind [nI_T]), ab_ix_nI (show i < 48 by omega) (by decide)]
    try simp only [ob_s, lt_eq]
    rw [show (98 : Nat) + 35 = 133 from rfl, show (98 : Nat) + 36 = 134 from rfl, e2 i (by omega), nI_1]
    exact r1
end
