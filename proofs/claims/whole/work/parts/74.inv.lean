section
/-! What every state keeps. -/
/-- a stream that is written -/
def IO (V : Vt) (a : Nat) : Prop :=
  (0 ≤ V 60 a 0 ∧ V 60 a 0 ≤ V 59 a 0 ∧ V 59 a 0 ≤ 64) ∧ (V 64 a 0 ≠ 0 → V 62 a 0 ≠ 0) ∧ (∀ b, b < 64 → V 60 a 0 ≤ nI b → V 67 a b = 0) ∧
  (0 ≤ V 61 a 0 ∧ V 61 a 0 < 1073741824) ∧ (∀ b, b < 64 → 0 ≤ V 66 a b ∧ V 66 a b ≤ 255)
/-- a stream that is read -/
def IN (V : Vt) (a : Nat) : Prop :=
  (0 ≤ V 47 a 0 ∧ V 47 a 0 ≤ 64) ∧ (0 ≤ V 48 a 0 ∧ V 48 a 0 ≤ 64 ∧ V 50 a 0 ≤ 64) ∧ (-1 ≤ V 49 a 0 ∧ V 49 a 0 ≤ 64) ∧ (V 52 a 0 = 0 ∨ V 52 a 0 = 1) ∧
  (∀ b, b < 64 → -1 ≤ V 53 a b ∧ V 53 a b ≤ 255) ∧ (V 51 a 0 ≠ 0 → 0 ≤ V 49 a 0)
/-- the number is in the set -/
def hb (V : Vt) (e n : Nat) : Prop := (V 31 e (n / 32) >>> (nI (n % 32) &&& 31)) &&& 1 = 1
def IE (c : Nat) (V : Vt) (e : Nat) : Prop :=
  (0 ≤ V 21 e 0 ∧ V 21 e 0 ≤ nI c) ∧ (-1 ≤ V 22 e 0) ∧ (0 ≤ V 23 e 0 ∧ V 23 e 0 ≤ 3) ∧ (-1 ≤ V 24 e 0 ∧ V 24 e 0 < V 21 e 0 ∨ V 24 e 0 = -1) ∧ (0 ≤ V 25 e 0 ∧ V 25 e 0 ≤ V 7 0 0) ∧
  (V 26 e 0 = 0 ∨ V 26 e 0 = 1) ∧ (V 26 e 0 = 1 → 0 ≤ V 30 e 0) ∧ (-1 ≤ V 30 e 0 ∧ V 30 e 0 ≤ nI (15 + 9 * c)) ∧ (∀ n, n < 10240 → V 30 e 0 = nI n → hb V e n) ∧
  (4 ≤ V 41 e 0 ∧ V 41 e 0 ≤ 19) ∧ (8 ≤ V 42 e 0 ∧ V 42 e 0 ≤ 39) ∧ (0 ≤ V 43 e 0 ∧ V 43 e 0 ≤ 256) ∧ (V 44 e 0 = 0 ∨ V 44 e 0 = 1) ∧ (0 ≤ V 55 e 0 ∧ V 55 e 0 < 1073741824) ∧ V 8 e 0 = V 7 0 0 ∧ (V 22 e 0 = -1 → V 28 e 0 = 0) ∧ V 22 e 0 < 1073741824
def IX (c : Nat) (V : Vt) : Prop :=
  (0 ≤ V 5 0 0 ∧ V 5 0 0 ≤ 16) ∧ (0 ≤ V 6 0 0 ∧ V 6 0 0 ≤ 37) ∧ (0 ≤ V 7 0 0 ∧ V 7 0 0 ≤ nI c) ∧ (∀ b, b < 37 → 0 ≤ V 14 0 b ∧ V 14 0 b ≤ 255)
/-- a packet under way -/
def IR (V : Vt) (a : Nat) : Prop :=
  (3 ≤ V 11 a 0 ∧ V 11 a 0 ≤ 40) ∧ (V 12 a 0 = 0 ∨ V 12 a 0 = 1) ∧ ∀ b, b < 40 → nI b < V 11 a 0 → 0 ≤ V 13 a b ∧ V 13 a b ≤ 255
/-- a packet that was sent -/
def IS (V : Vt) (a : Nat) : Prop :=
  (V 68 a 0 = 1 ∨ V 68 a 0 = 2 ∨ V 68 a 0 = 3) ∧ (V 69 a 0 = 0 ∨ V 69 a 0 = 1) ∧ (-1 ≤ V 70 a 0 ∧ V 70 a 0 ≤ 256) ∧
  ∀ s, s < 4 → (0 ≤ V 77 a s ∧ V 77 a s ≤ 64) ∧ (0 ≤ V 78 a s ∧ V 78 a s ≤ 12) ∧ V 77 a s + V 78 a s ≤ V 60 (4 * (a / 560) + s) 0 ∧ (V 79 a s = 0 ∨ V 79 a s = 1) ∧ (V 79 a s = 1 → V 62 (4 * (a / 560) + s) 0 ≠ 0) ∧
    (V 80 a s = 0 ∨ V 80 a s = 1) ∧ (-1 ≤ V 76 a s ∧ V 76 a s ≤ 64)
def Iv (c : Nat) (V : Vt) : Prop :=
  (∀ a, a < 8 → IO V a) ∧ (∀ a, a < 8 → IN V a) ∧ (∀ e, e < 2 → IE c V e) ∧ IX c V ∧ (∀ a, a < 16 → nI a < V 5 0 0 → IR V a) ∧ (∀ a, Sa V a → IS V a)
/-- the state after c calls -/
def St (c : Nat) (m : Mm) : Prop := ∃ (V : Vt) (w W : Nat → Nat), RC m V w W ∧ RM m V ∧ Iv c V
/-- what a field's change can touch -/
theorem Iv_more {c c' : Nat} {V : Vt} (h : Iv c V) (hc : c ≤ c') (h' : c' ≤ 512) : Iv c' V := by
  obtain ⟨h1, h2, h3, h4, h5, h6⟩ := h
  refine ⟨h1, h2, fun e he => ?_, ?_, h5, h6⟩
  · have := h3 e he
    unfold IE at *
    obtain ⟨a1, a2, a3, a4, a5, a6, a7, a8, a9⟩ := this
    refine ⟨⟨a1.1, ?_⟩, a2, a3, a4, a5, a6, a7, ⟨a8.1, ?_⟩, a9⟩
    · grind [nI_T]
    · grind [nI_T]
  · unfold IX at *
    obtain ⟨a1, a2, a3, a4⟩ := h4
    refine ⟨a1, a2, ⟨a3.1, ?_⟩, a4⟩
    grind [nI_T]
theorem St_more {c c' : Nat} {m : Mm} (h : St c m) (hc : c ≤ c') (h' : c' ≤ 512) : St c' m := by
  obtain ⟨V, w, W, h1, h2, h3⟩ := h
  exact ⟨V, w, W, h1, h2, Iv_more h3 hc h'⟩
/-- an answer that leaves all as it was: the model only forgets its fault -/
theorem St_84 {c : Nat} {m : Mm} {x : Int32} (h : St c m) : St c (ab_uI m 84 98 0 x) := by
  obtain ⟨V, w, W, h1, h2, h3⟩ := h
  exact ⟨V, w, W, RC_FC h1 (FC_uI (by omega)), RM_sm h2 (by unfold Sm; omega), h3⟩
/-- class and model answer alike -/
def Jn (c : Nat) (o : Option (Int32 × Mm)) (f : Mm → Option (Int32 × Mm)) : Prop := wp o fun z => wp (f z.2) fun z' => z.1 = z'.1 ∧ St (c + 1) z'.2
/-! The model's small methods. -/
theorem t_in (v a b : Int32) (m : Mm) : r_M_in v a b m = some (ib (a ≤ v ∧ v ≤ b), m) := by
  rw [r_M_in_eq, b_M_in_0_eq]
  simp only [ib, bo_0, bo_1, ob_s, lt_eq, rI_ite, rI_some, rV_ite, rV_some, ib_if]
  grind
theorem t_isStream (v s : Int32) (m : Mm) : r_M_isStream v s m = some (ib ((0 ≤ v ∧ v < 2) ∧ 0 ≤ s ∧ s < 4), m) := by
  rw [r_M_isStream_eq, b_M_isStream_0_eq, t_in]
  simp only [t_in, ib, bo_0, bo_1, ob_s, lt_eq, rI_ite, rI_some, rV_ite, rV_some, ib_if]
  grind
theorem t_fails (v : Int32) (m : Mm) : r_M_fails 98 v m = some (0, ab_uI m 84 98 0 v) := by
  rw [r_M_fails_eq, b_M_fails_0_eq]; rfl
theorem t_thrown (m : Mm) : r_M_thrown 98 m = some (m.1 84 98 0, m) := by
  rw [r_M_thrown_eq, b_M_thrown_0_eq]; rfl
theorem t_width (v : Int32) (m : Mm) : r_M_width v m = some (wd v, m) := by
  rw [r_M_width_eq, b_M_width_0_eq]
  unfold wd
  simp only [bo_0, bo_1, ob_s, lt_eq, rI_ite, rI_some, rV_ite, rV_some, ib_if]
  grind
theorem t_fits (v : Int32) (m : Mm) : r_M_fits 98 v m = some (ib (m.1 125 98 0 + v ≤ 37), m) := by
  rw [r_M_fits_eq, b_M_fits_0_eq]
  simp only [ib, bo_0, bo_1, ob_s, lt_eq, rI_ite, rI_some, rV_ite, rV_some, ib_if]
  grind
theorem t_flies (k : Int32) (m : Mm) : r_M_flies 98 k m = some (ib (0 ≤ k ∧ k < m.1 118 98 0), m) := by
  rw [r_M_flies_eq, b_M_flies_0_eq]
  simp only [ib, bo_0, bo_1, ob_s, lt_eq, rI_ite, rI_some, rV_ite, rV_some, ib_if]
  grind
theorem okS {v s : Int32} (h : (0 ≤ v ∧ v < 2) ∧ 0 ≤ s ∧ s < 4) : ∃ e t : Nat, e < 2 ∧ t < 4 ∧ v = nI e ∧ s = nI t := by
  obtain ⟨e, he, rfl⟩ := i_of (N := 2) h.1.1 h.1.2 (by decide)
  obtain ⟨t, ht, rfl⟩ := i_of (N := 4) h.2.1 h.2.2 (by decide)
  exact ⟨e, t, he, ht, rfl, rfl⟩
theorem nI_4 (e s : Nat) : (4 : Int32) * nI e + nI s = nI (4 * e + s) := by
  unfold nI
  rw [← show Int32.ofNat 4 = 4 from rfl, ← Int32.ofNat_mul, ← Int32.ofNat_add]
theorem nI_64 (e s : Nat) : (64 : Int32) * nI e + nI s = nI (64 * e + s) := by
  unfold nI
  rw [← show Int32.ofNat 64 = 64 from rfl, ← Int32.ofNat_mul, ← Int32.ofNat_add]
end
