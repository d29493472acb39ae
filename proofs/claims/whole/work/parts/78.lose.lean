section
/-! A packet is taken off the way. -/
def shf (k n j : Nat) : Nat := if j < k then j else if j + 1 < n then j + 1 else if j + 1 = n then k else j
/-- the rows of the view, moved -/
def offV (V : Vt) (k n : Nat) : Vt := fun r a b => if r = 5 ∧ a = 0 ∧ b = 0 then nI (n - 1) else if r = 11 ∨ r = 12 ∨ r = 13 then V r (shf k n a) b else V r a b
theorem tow_loop {m0 : Mm} {w : Nat → Nat} {k n q : Nat} (hk : k < n) (hn : n ≤ 16) (h5 : m0.1 5 0 0 = nI n) (hr : ∀ a, a < 16 → m0.2.2.1 9 2 a = some (w a)) (hq : q = w k) : ∀ (j i f : Nat) (m : Mm), i + j + 1 = n → k ≤ i → j < f → m.1 = m0.1 → m.2.1 = m0.2.1 → m.2.2.2 = m0.2.2.2 → (∀ r p t, m.2.2.1 r p t = if r = 9 ∧ p = 2 then (if t < k then m0.2.2.1 9 2 t else if t < i then m0.2.2.1 9 2 (t + 1) else m0.2.2.1 9 2 t) else m0.2.2.1 r p t) →
    ∃ m', b_X_takeOffWay_9 f 0 q (nI i) m = some (.inl (none, m')) ∧ m'.1 = (ab_uI m0 5 0 0 (nI (n - 1))).1 ∧ m'.2.1 = m0.2.1 ∧ m'.2.2.2 = m0.2.2.2 ∧ (∀ r p t, m'.2.2.1 r p t = if r = 9 ∧ p = 2 ∧ t < 16 then some (w (shf k n t)) else m0.2.2.1 r p t) := by
  intro j
  induction j with
  | zero =>
    intro i f m hi hki hf e1 e2 e3 e4
    obtain ⟨f, rfl⟩ : ∃ g, f = g + 1 := ⟨f - 1, by omega⟩
    have i5 : m.1 5 0 0 = nI n := by rw [e1]; exact h5
    rw [b_X_takeOffWay_9_eq, i5, if_pos (by (try clear ih); grind [nI_T]), show nI n - 1 = nI (n - 1) by grind [nI_T]]
    simp only [ob_s, lt_eq]
    rw [uI_s, ab_ix_nI (show n - 1 < 16 by omega) (by decide)]
    refine ⟨_, rfl, ?_, e2, e3, ?_⟩
    · show (ab_uI m 5 0 0 (nI (n - 1))).1 = _
      unfold ab_uI
      rw [e1]
    · intro r p t
      show (if r = 9 ∧ p = 0 + 2 ∧ t = n - 1 then some q else m.2.2.1 r p t) = _
      rw [e4]
      unfold shf
      by_cases h1 : r = 9 ∧ p = 2
      · obtain ⟨rfl, rfl⟩ := h1
        by_cases ht : t < 16
        · rw [if_pos (show (9 : Nat) = 9 ∧ 2 = 2 ∧ t < 16 from ⟨rfl, rfl, ht⟩), if_pos (show (9 : Nat) = 9 ∧ 2 = 2 from ⟨rfl, rfl⟩)]
          by_cases q1 : t = n - 1
          · rw [if_pos ⟨rfl, rfl, q1⟩, if_neg (by omega), if_neg (by omega), if_pos (by omega), hq]
          · rw [if_neg (fun z => q1 z.2.2)]
            by_cases q2 : t < k
            · rw [if_pos q2, if_pos q2, hr t ht]
            · rw [if_neg q2, if_neg q2]
              by_cases q3 : t < i
              · rw [if_pos q3, if_pos (by omega), hr _ (by omega)]
              · rw [if_neg q3, if_neg (by omega), if_neg (by omega), hr t ht]
        · rw [if_neg (by omega), if_pos (show (9 : Nat) = 9 ∧ 2 = 2 from ⟨rfl, rfl⟩), if_neg (show ¬ t < k by omega), if_neg (show ¬ t < i by omega), if_neg (by omega)]
      · rw [if_neg (by omega), if_neg h1, if_neg (by omega)]
  | succ j ih =>
    intro i f m hi hki hf e1 e2 e3 e4
    obtain ⟨f, rfl⟩ : ∃ g, f = g + 1 := ⟨f - 1, by omega⟩
    have i5 : m.1 5 0 0 = nI n := by rw [e1]; exact h5
    rw [b_X_takeOffWay_9_eq, i5, if_neg (by (try clear ih); grind [nI_T]), nI_1, ab_ix_nI (show i + 1 < 16 by omega) (by decide)]
    simp only [ob_s, lt_eq]
    rw [show (0 : Nat) + 2 = 2 from rfl, e4 9 2 (i + 1), if_pos ⟨rfl, rfl⟩, if_neg (by omega), if_neg (by omega), hr _ (by omega), ab_ix_nI (show i < 16 by omega) (by decide)]
    simp only [ob_s, lt_eq]
    refine ih (i + 1) f _ (by omega) (by omega) (by omega) e1 e2 e3 ?_
    intro r p t
    show (if r = 9 ∧ p = 2 ∧ t = i then some (w (i + 1)) else m.2.2.1 r p t) = _
    rw [e4]
    by_cases h1 : r = 9 ∧ p = 2
    · obtain ⟨rfl, rfl⟩ := h1
      rw [if_pos (show (9 : Nat) = 9 ∧ 2 = 2 from ⟨rfl, rfl⟩), if_pos (show (9 : Nat) = 9 ∧ 2 = 2 from ⟨rfl, rfl⟩)]
      by_cases q1 : t = i
      · subst q1
        rw [if_pos ⟨rfl, rfl, rfl⟩, if_neg (by omega), if_pos (by omega), hr _ (by omega)]
      · rw [if_neg (fun z => q1 z.2.2)]
        by_cases q2 : t < k
        · rw [if_pos q2, if_pos q2]
        · rw [if_neg q2, if_neg q2]
          by_cases q3 : t < i
          · rw [if_pos q3, if_pos (by omega)]
          · rw [if_neg q3, if_neg (by omega)]
    · rw [if_neg (by omega), if_neg h1, if_neg h1]
theorem shf_lt {k n j : Nat} (hk : k < n) (hn : n ≤ 16) (hj : j < 16) : shf k n j < 16 := by
  unfold shf
  split
  · omega
  · split
    · omega
    · split <;> omega
theorem shf_inj {k n j i : Nat} (hk : k < n) (e : shf k n j = shf k n i) : j = i := by
  unfold shf at e
  split at e <;> split at e <;> (try split at e) <;> (try split at e) <;> (try split at e) <;> (try split at e) <;> omega
/-- what takeOffWay leaves -/
theorem s_takeOffWay {m : Mm} {V : Vt} {w W : Nat → Nat} (h : RC m V w W) {k n : Nat} (hk : k < n) (hn : n ≤ 16) (h5 : V 5 0 0 = nI n) : ∃ m', r_X_takeOffWay 0 (nI k) m = some m' ∧ RC m' (offV V k n) (fun a => w (shf k n a)) W ∧ FM m m' ∧ (∀ r, r ≠ 5 → m'.1 r = m.1 r) := by
  obtain ⟨m', e, f1, f2, f3, f4⟩ := tow_loop (m0 := m) (w := w) (q := w k) hk hn (by rw [c5 h rfl, h5]) h.2.1 rfl (n - 1 - k) k 49999 m (by omega) (by omega) (by omega) rfl rfl rfl (by
    intro r p t
    by_cases h1 : r = 9 ∧ p = 2
    · obtain ⟨rfl, rfl⟩ := h1
      rw [if_pos ⟨rfl, rfl⟩]
      by_cases q : t < k
      · rw [if_pos q]
      · rw [if_neg q, if_neg q]
    · rw [if_neg h1])
  have f1' : ∀ r, r ≠ 5 → m'.1 r = m.1 r := by
    intro r hr
    rw [f1]
    funext p j
    exact uI_r m 5 0 0 _ r p j hr
  refine ⟨m', ?_, ?_, fun r hr => f1' r (by omega), f1'⟩
  · rw [r_X_takeOffWay_eq, b_X_takeOffWay_0_eq, ab_ix_nI (show k < 16 by omega) (by decide)]
    simp only [ob_s, lt_eq]
    rw [cw h (show k < 16 by omega) (p := 0 + 2) rfl]
    simp only [ob_s, lt_eq]
    exact congrArg ab_rV e
  · obtain ⟨h1, h2, h3, h4, h6, h7, h8⟩ := h
    have sa : ∀ a, Sa (offV V k n) a ↔ Sa V a := fun a => Iff.rfl
    refine ⟨fun k' a' b' t => ?_, fun a ha => ?_, fun a ha hl => ?_, fun a ha => ⟨?_, fun k' b' t => ?_⟩, fun e he => ?_, ⟨fun a ha => h7.1 _ (shf_lt hk hn ha), fun a b ha hb q => shf_inj hk (h7.2 _ _ (shf_lt hk hn ha) (shf_lt hk hn hb) q)⟩, ?_⟩
    · have tk := Ts_k t
      by_cases q : k' = 5
      · subst q
        have : a' = 0 ∧ b' = 0 := by unfold Ts at t; omega
        obtain ⟨rfl, rfl⟩ := this
        rw [f1]
        rfl
      · rw [f1' k' q, h1 k' a' b' t]
        unfold offV
        rw [if_neg (by omega), if_neg (by omega)]
    · rw [f4, if_pos ⟨rfl, rfl, ha⟩]
    · rw [f1' 11 (by omega), f1' 12 (by omega), f1' 13 (by omega)]
      have hl' : nI a < nI (n - 1) := hl
      refine h3 _ (shf_lt hk hn ha) ?_
      rw [h5]
      unfold shf
      split
      · grind [nI_T]
      · split
        · grind [nI_T]
        · grind [nI_T]
    · rw [f4, if_neg (by omega)]
      exact (h4 a ha).1
    · have tk : k' ≠ 5 ∧ k' ≠ 11 ∧ k' ≠ 12 ∧ k' ≠ 13 := by unfold TS at t; omega
      rw [f1' k' tk.1, (h4 a ha).2 k' b' t]
      unfold offV
      rw [if_neg (by omega), if_neg (by omega)]
    · rw [f1' 15 (by omega)]
      exact h6 e he
    · rw [f3]
      exact h8
theorem out_loop {m0 : Mm} {k n : Nat} (hk : k < n) (hn : n ≤ 16) : ∀ (j i f : Nat) (m : Mm), i + j = 42 * (n - 1) → 42 * k ≤ i → j < f → m.1 118 98 0 = nI (n - 1) → m.2 = m0.2 → (∀ r p t, r ≠ 166 → m.1 r p t = m0.1 r p t) → (∀ p t, m.1 166 p t = if p = 132 ∧ 42 * k ≤ t ∧ t < i then m0.1 166 132 (t + 42) else m0.1 166 p t) →
    ∃ m', b_M_outOf_15 f 98 (nI i) m = some (.inl (none, m')) ∧ m'.2 = m0.2 ∧ (∀ r p t, r ≠ 166 → m'.1 r p t = m0.1 r p t) ∧ (∀ p t, m'.1 166 p t = if p = 132 ∧ 42 * k ≤ t ∧ t < 42 * (n - 1) then m0.1 166 132 (t + 42) else m0.1 166 p t) := by
  intro j
  induction j with
  | zero =>
    intro i f m hi hki hf e1 e2 e3 e4
    obtain ⟨f, rfl⟩ : ∃ g, f = g + 1 := ⟨f - 1, by omega⟩
    obtain rfl : i = 42 * (n - 1) := by omega
    rw [b_M_outOf_15_eq, e1, nI_42a, if_pos (by (try clear ih); grind [nI_T])]
    exact ⟨m, rfl, e2, e3, e4⟩
  | succ j ih =>
    intro i f m hi hki hf e1 e2 e3 e4
    obtain ⟨f, rfl⟩ : ∃ g, f = g + 1 := ⟨f - 1, by omega⟩
    rw [b_M_outOf_15_eq, e1, nI_42a, if_neg (by (try clear ih); grind [nI_T]), show nI i + 42 = nI (i + 42) from nI_add i 42, ab_ix_nI (show i + 42 < 672 by omega) (by decide), ab_ix_nI (show i < 672 by omega) (by decide)]
    simp only [ob_s, lt_eq]
    rw [nI_1]
    refine ih (i + 1) f _ (by omega) (by omega) (by omega) ?_ e2 ?_ ?_
    · rw [uI_r _ _ _ _ _ _ _ _ (by omega)]; exact e1
    · intro r p t hr
      rw [uI_r _ _ _ _ _ _ _ _ hr]; exact e3 r p t hr
    · intro p t
      rw [uI_1, e4, e4, show (98 : Nat) + 34 = 132 from rfl]
      by_cases q : p = 132 ∧ t = i
      · obtain ⟨rfl, rfl⟩ := q
        rw [if_pos ⟨rfl, rfl, rfl⟩, if_neg (by omega), if_pos (by omega)]
      · rw [if_neg (by omega)]
        by_cases q2 : p = 132 ∧ 42 * k ≤ t ∧ t < i
        · rw [if_pos q2, if_pos (by omega)]
        · rw [if_neg q2, if_neg (by omega)]
theorem t_outOf {m : Mm} {V : Vt} (h : RM m V) {k n : Nat} (hk : k < n) (hn : n ≤ 16) (h5 : V 5 0 0 = nI n) : ∃ m', r_M_outOf 98 (nI k) m = some m' ∧ RM m' (offV V k n) ∧ FC m m' ∧ (∀ r, r ≠ 166 → r ≠ 118 → m'.1 r = m.1 r) := by
  have i5 : m.1 118 98 0 = nI n := by rw [h.2.1.1, h5]
  obtain ⟨m', e, f2, f3, f4⟩ := out_loop (m0 := ab_uI m 118 98 0 (nI (n - 1))) hk hn (42 * (n - 1) - 42 * k) (42 * k) 49999 (ab_uI m 118 98 0 (nI (n - 1))) (by omega) (by omega) (by omega) (uI_s _ _ _ _ _) rfl (fun _ _ _ _ => rfl) (by
    intro p t
    split
    · omega
    · rfl)
  have f5 : ∀ r, r ≠ 166 → r ≠ 118 → m'.1 r = m.1 r := by
    intro r h1 h2
    funext p t
    rw [f3 r p t h1, uI_r _ _ _ _ _ _ _ _ h2]
  refine ⟨m', ?_, ?_, ⟨fun r hr => f5 r (by omega) (by omega), f2⟩, f5⟩
  · rw [r_M_outOf_eq, b_M_outOf_0_eq, i5, show nI n - 1 = nI (n - 1) by grind [nI_T]]
    simp only [ob_s, lt_eq]
    rw [nI_42a]
    exact congrArg ab_rV e
  · obtain ⟨h1, h2, h3, h4, h6⟩ := h
    refine ⟨fun k' a' b' t z => ?_, ⟨?_, ?_, ?_⟩, fun e he => ?_, fun a ha hl => ?_, fun a ha => ?_⟩
    · have tk := Ts_k t
      have mk := mr_in k' tk.1
      have q5 : k' ≠ 5 := by rintro rfl; exact z rfl
      rw [f5 _ (by omega) (by omega), h1 k' a' b' t z]
      unfold offV
      rw [if_neg (by omega), if_neg (by omega)]
    · rw [f3 118 98 0 (by omega), uI_s]; rfl
    · rw [f5 126 (by omega) (by omega)]; exact h2.2.1
    · rw [f5 83 (by omega) (by omega)]; exact h2.2.2
    · rw [f5 81 (by omega) (by omega), f5 82 (by omega) (by omega), f5 155 (by omega) (by omega), f5 158 (by omega) (by omega)]
      exact h3 e he
    · have hl' : a < n - 1 := by
        have : nI a < nI (n - 1) := hl
        grind [nI_T]
      have hs : nI (shf k n a) < V 5 0 0 := by
        rw [h5]
        unfold shf
        split
        · grind [nI_T]
        · split
          · grind [nI_T]
          · omega
      have g := h4 (shf k n a) (shf_lt hk hn ha) hs
      have key : ∀ b, b < 42 → m'.1 166 132 (42 * a + b) = m.1 166 132 (42 * shf k n a + b) := by
        intro b hb
        have sv : shf k n a = if a < k then a else a + 1 := by
          unfold shf
          split
          · rfl
          · rw [if_pos (by omega)]
        rw [f4, uI_r _ _ _ _ _ _ _ _ (by omega), uI_r _ _ _ _ _ _ _ _ (by omega), sv]
        by_cases q : a < k
        · rw [if_neg (by omega), if_pos q]
        · rw [if_pos (by omega), if_neg q, show 42 * a + b + 42 = 42 * (a + 1) + b by omega]
      refine ⟨?_, ?_, fun b hb hc => ?_⟩
      · have := key 0 (by omega)
        rw [Nat.add_zero, Nat.add_zero] at this
        rw [this]; exact g.1
      · rw [key 1 (by omega)]; exact g.2.1
      · have := key (2 + b) (by omega)
        rw [← Nat.add_assoc, ← Nat.add_assoc] at this
        rw [this]; exact g.2.2 b hb hc
    · rw [f5 162 (by omega) (by omega), f5 163 (by omega) (by omega), f5 164 (by omega) (by omega), f5 165 (by omega) (by omega)]
      exact h6 a ha
theorem Iv_off {c : Nat} {V : Vt} {k n : Nat} (h : Iv c V) (hk : k < n) (hn : n ≤ 16) (h5 : V 5 0 0 = nI n) : Iv c (offV V k n) := by
  obtain ⟨h1, h2, h3, h4, h6, h7⟩ := h
  refine ⟨h1, h2, h3, ?_, fun a ha hl => ?_, h7⟩
  · unfold IX at *
    refine ⟨?_, h4.2⟩
    show 0 ≤ nI (n - 1) ∧ nI (n - 1) ≤ 16
    grind [nI_T]
  · have hl' : nI a < nI (n - 1) := hl
    refine h6 (shf k n a) (shf_lt hk hn ha) ?_
    rw [h5]
    unfold shf
    split
    · grind [nI_T]
    · split
      · grind [nI_T]
      · grind [nI_T]
theorem J_lose {c : Nat} {m : Mm} (h : St c m) (hc : c < 512) (v : Int32) : Jn c (r_X_lose 0 v m) (r_M_lose 98 v) := by
  obtain ⟨V, w, W, h1, h2, h3⟩ := id h
  by_cases hv : 0 ≤ v ∧ v < V 5 0 0
  · obtain ⟨n, hn, h5⟩ := i_ofc (x := V 5 0 0) (N := 16) h3.2.2.2.1.1.1 h3.2.2.2.1.1.2 (by decide)
    obtain ⟨k, hk, rfl, hl⟩ := okK h3.2.2.2.1.1 hv
    have hkn : k < n := by rw [h5] at hl; grind [nI_T]
    obtain ⟨m1, e1, r1, fm, _⟩ := s_takeOffWay h1 hkn hn h5
    have g : RM (ab_uI m1 84 98 0 0) V := RM_sm (RM_FM h2 fm) (by unfold Sm; omega)
    obtain ⟨m2, e2, r2, fc, _⟩ := t_outOf g hkn hn h5
    have f5 := g.2.1.1
    refine ⟨(1, m1), ?_, (1, m2), ?_, rfl, offV V k n, _, W, RC_FC (RC_FC r1 (FC_uI (by omega))) fc, r2, Iv_more (Iv_off h3 hkn hn h5) (by omega) (by omega)⟩
    · rw [r_X_lose_eq, b_X_lose_0_eq, s_isUnderWay, c5 h1 rfl]
      simp only [if_pos hv, e1, bo_0, bo_1, ob_s, lt_eq, rI_ite, rI_some, rV_ite, rV_some, ib_if]
    · rw [r_M_lose_eq, b_M_lose_0_eq]
      simp only [t_flies, f5, if_pos hv, e2, bo_0, bo_1, ob_s, lt_eq, rI_ite, rI_some, rV_ite, rV_some, ib_if]
  · have h2' : RM (ab_uI m 84 98 0 0) V := RM_sm h2 (by unfold Sm; omega)
    have f5 := h2'.2.1.1
    refine ⟨(0, m), ?_, (0, ab_uI m 84 98 0 0), ?_, rfl, St_more (St_84 h) (by omega) (by omega)⟩
    · rw [r_X_lose_eq, b_X_lose_0_eq, s_isUnderWay, c5 h1 rfl]
      simp only [if_neg hv, bo_0, bo_1, ob_s, lt_eq, rI_ite, rI_some, rV_ite, rV_some, ib_if]
    · rw [r_M_lose_eq, b_M_lose_0_eq]
      simp only [t_flies, f5, if_neg hv, bo_0, bo_1, ob_s, lt_eq, rI_ite, rI_some, rV_ite, rV_some, ib_if]
end
