section
/-! A packet goes on its way. -/
def lnV (V : Vt) (k z : Nat) (x : Int32) (g : Nat → Int32) : Vt := fun r a b => if r = 5 ∧ a = 0 ∧ b = 0 then nI (k + 1) else if r = 11 ∧ a = k ∧ b = 0 then nI z else if r = 12 ∧ a = k ∧ b = 0 then x else if r = 13 ∧ a = k then g b else V r a b
theorem ln_o {V : Vt} {k z : Nat} {x : Int32} {g : Nat → Int32} {r a b : Nat} (h : r ≠ 5 ∧ r ≠ 11 ∧ r ≠ 12 ∧ r ≠ 13) : lnV V k z x g r a b = V r a b := by
  unfold lnV
  rw [if_neg (by omega), if_neg (by omega), if_neg (by omega), if_neg (by omega)]
theorem ln_a {V : Vt} {k z : Nat} {x : Int32} {g : Nat → Int32} {r a b : Nat} (h : r ≠ 5) (ha : a ≠ k) : lnV V k z x g r a b = V r a b := by
  unfold lnV
  rw [if_neg (by omega), if_neg (by omega), if_neg (by omega), if_neg (by omega)]
theorem ln_5 {V : Vt} {k z : Nat} {x : Int32} {g : Nat → Int32} : lnV V k z x g 5 0 0 = nI (k + 1) := if_pos ⟨rfl, rfl, rfl⟩
theorem ln_11 {V : Vt} {k z : Nat} {x : Int32} {g : Nat → Int32} : lnV V k z x g 11 k 0 = nI z := by
  unfold lnV
  rw [if_neg (by omega), if_pos ⟨rfl, rfl, rfl⟩]
theorem ln_12 {V : Vt} {k z : Nat} {x : Int32} {g : Nat → Int32} : lnV V k z x g 12 k 0 = x := by
  unfold lnV
  rw [if_neg (by omega), if_neg (by omega), if_pos ⟨rfl, rfl, rfl⟩]
theorem ln_13 {V : Vt} {k z b : Nat} {x : Int32} {g : Nat → Int32} : lnV V k z x g 13 k b = g b := by
  unfold lnV
  rw [if_neg (by omega), if_neg (by omega), if_neg (by omega), if_pos ⟨rfl, rfl⟩]
theorem Sa_ln {V : Vt} {k z : Nat} {x : Int32} {g : Nat → Int32} (a : Nat) : Sa (lnV V k z x g) a ↔ Sa V a := by
  unfold Sa
  rw [ln_o (by omega)]
theorem RC_way {m : Mm} {V : Vt} {w W : Nat → Nat} (h : RC m V w W) {k z : Nat} {x : Int32} {B : Nat → Nat} (hk : k < 16) (h5 : V 5 0 0 = nI k) (hr : Wr m (w k) x B z) : RC (ab_uI m 5 0 0 (nI (k + 1))) (lnV V k z x (fun b => m.1 13 (w k + 1) b)) w W := by
  obtain ⟨g1, g2, g3, g4, g5, g6, g7⟩ := h
  refine ⟨fun k' a' b' t => ?_, g2, fun a ha hl => ?_, fun a ha => ?_, fun e he => ?_, g6, ?_⟩
  · have tk := Ts_k t
    by_cases q : k' = 5
    · subst q
      have : a' = 0 ∧ b' = 0 := by unfold Ts at t; omega
      obtain ⟨rfl, rfl⟩ := this
      rw [ln_5]
      exact uI_s _ _ _ _ _
    · rw [uI_r _ _ _ _ _ _ _ _ q, ln_o (by omega)]
      exact g1 k' a' b' t
  · rw [ln_5] at hl
    rw [uI_r _ _ _ _ _ _ _ _ (by omega), uI_r _ _ _ _ _ _ _ _ (by omega)]
    by_cases q : a = k
    · subst q
      rw [ln_11, ln_12]
      refine ⟨hr.1, hr.2.1, fun b hb => ?_⟩
      rw [uI_r _ _ _ _ _ _ _ _ (by omega), ln_13]
    · have hl2 : nI a < V 5 0 0 := by
        rw [h5]
        clear g1 g2 g3 g4 g5 g6 g7 hr h5
        grind [nI_T]
      have gg := g3 a ha hl2
      rw [ln_a (by omega) q, ln_a (by omega) q]
      refine ⟨gg.1, gg.2.1, fun b hb => ?_⟩
      rw [uI_r _ _ _ _ _ _ _ _ (by omega), ln_a (by omega) q]
      exact gg.2.2 b hb
  · have sa := (Sa_ln a).mp ha
    refine ⟨(g4 a sa).1, fun k' b' t => ?_⟩
    have tk := TS_k t
    rw [uI_r _ _ _ _ _ _ _ _ (by omega), ln_o (by omega)]
    exact (g4 a sa).2 k' b' t
  · rw [uI_r _ _ _ _ _ _ _ _ (by omega)]
    exact g5 e he
  · exact ⟨fun a ha => g7.1 a ((Sa_ln a).mp ha), fun a b ha hb => g7.2 a b ((Sa_ln a).mp ha) ((Sa_ln b).mp hb)⟩
theorem Iv_way {c : Nat} {V : Vt} {k z : Nat} {x : Int32} {g : Nat → Int32} (h : Iv c V) (hk : k < 16) (h5 : V 5 0 0 = nI k) (hz : 3 ≤ z ∧ z ≤ 40) (hx : x = 0 ∨ x = 1) (hg : ∀ b, b < z → 0 ≤ g b ∧ g b ≤ 255) : Iv c (lnV V k z x g) := by
  obtain ⟨i1, i2, i3, i4, i5, i6⟩ := h
  have o : ∀ r a b, r ≠ 5 ∧ r ≠ 11 ∧ r ≠ 12 ∧ r ≠ 13 → lnV V k z x g r a b = V r a b := fun r a b q => ln_o q
  refine ⟨fun a ha => ?_, fun a ha => ?_, fun e he => ?_, ?_, fun a ha hl => ?_, fun a ha => ?_⟩
  · have := i1 a ha
    unfold IO at *
    simp only [o 59 _ _ (by omega), o 60 _ _ (by omega), o 61 _ _ (by omega), o 62 _ _ (by omega), o 64 _ _ (by omega), o 66 _ _ (by omega), o 67 _ _ (by omega)]
    exact this
  · have := i2 a ha
    unfold IN at *
    simp only [o 47 _ _ (by omega), o 48 _ _ (by omega), o 49 _ _ (by omega), o 50 _ _ (by omega), o 51 _ _ (by omega), o 52 _ _ (by omega), o 53 _ _ (by omega)]
    exact this
  · have := i3 e he
    unfold IE hb at *
    simp only [o 21 _ _ (by omega), o 22 _ _ (by omega), o 23 _ _ (by omega), o 24 _ _ (by omega), o 25 _ _ (by omega), o 26 _ _ (by omega), o 30 _ _ (by omega), o 31 _ _ (by omega), o 41 _ _ (by omega), o 42 _ _ (by omega), o 43 _ _ (by omega), o 44 _ _ (by omega), o 55 _ _ (by omega), o 7 _ _ (by omega), o 8 _ _ (by omega), o 28 _ _ (by omega)]
    exact this
  · unfold IX at *
    rw [ln_5, o 6 _ _ (by omega), o 7 _ _ (by omega)]
    refine ⟨?_, i4.2.1, i4.2.2.1, fun b hb => ?_⟩
    · clear i1 i2 i3 i4 i5 i6 o hg h5
      grind [nI_T]
    · rw [o 14 _ _ (by omega)]
      exact i4.2.2.2 b hb
  · rw [ln_5] at hl
    unfold IR at *
    by_cases q : a = k
    · subst q
      rw [ln_11, ln_12]
      refine ⟨?_, hx, fun b hb hl' => ?_⟩
      · clear i1 i2 i3 i4 i5 i6 o hg h5 hl
        grind [nI_T]
      · rw [ln_13]
        exact hg b (by clear i1 i2 i3 i4 i5 i6 o hg h5 hl; grind [nI_T])
    · have hl2 : nI a < V 5 0 0 := by
        rw [h5]
        clear i1 i2 i3 i4 i5 i6 o hg h5
        grind [nI_T]
      have gg := i5 a ha hl2
      rw [ln_a (by omega) q, ln_a (by omega) q]
      refine ⟨gg.1, gg.2.1, fun b hb hl' => ?_⟩
      rw [ln_a (by omega) q]
      exact gg.2.2 b hb hl'
  · have := i6 a ((Sa_ln a).mp ha)
    unfold IS at *
    simp only [o 60 _ _ (by omega), o 62 _ _ (by omega), o 68 _ _ (by omega), o 69 _ _ (by omega), o 70 _ _ (by omega), o 76 _ _ (by omega), o 77 _ _ (by omega), o 78 _ _ (by omega), o 79 _ _ (by omega), o 80 _ _ (by omega)]
    exact this
theorem lc_loop {m0 : Mm} {k z : Nat} {B : Nat → Nat} (hk : k < 16) (hz : z ≤ 40) (hW : Wm m0 B z) : ∀ (j i f : Nat) (m : Mm), i + j = z → j < f → m.1 118 98 0 = nI k → m.2 = m0.2 → (∀ r p t, r ≠ 166 → m.1 r p t = m0.1 r p t) → (∀ p t, m.1 166 p t = if p = 132 ∧ 42 * k + 2 ≤ t ∧ t < 42 * k + 2 + i then nI (B (t - (42 * k + 2))) else m0.1 166 p t) →
    ∃ m', b_M_launch_40 f 98 (nI z) (nI i) m = some (.inl (none, ab_uI m' 118 98 0 (nI (k + 1)))) ∧ m'.2 = m0.2 ∧ (∀ r p t, r ≠ 166 → m'.1 r p t = m0.1 r p t) ∧ (∀ p t, m'.1 166 p t = if p = 132 ∧ 42 * k + 2 ≤ t ∧ t < 42 * k + 2 + z then nI (B (t - (42 * k + 2))) else m0.1 166 p t) := by
  intro j
  induction j with
  | zero =>
    intro i f m hi hf e1 e2 e3 e4
    obtain ⟨f, rfl⟩ : ∃ g, f = g + 1 := ⟨f - 1, by omega⟩
    obtain rfl : i = z := by omega
    rw [b_M_launch_40_eq, e1, if_pos (Int32.le_refl _), nI_1]
    simp only [lt_eq]
    exact ⟨m, rfl, e2, e3, e4⟩
  | succ j ih =>
    intro i f m hi hf e1 e2 e3 e4
    obtain ⟨f, rfl⟩ : ∃ g, f = g + 1 := ⟨f - 1, by omega⟩
    have k168 : m.1 168 (98 + 36) i = nI (B i) := by
      rw [e3 _ _ _ (by omega)]
      exact hW i (by omega)
    rw [b_M_launch_40_eq, e1, if_neg (by clear ih e1 e2 e3 e4 hW k168; grind [nI_T]), ab_ix_nI (show i < 48 by omega) (by decide), show (2 : Int32) = nI 2 from rfl, nI_42, nI_add, ab_ix_nI (show 42 * k + 2 + i < 672 by omega) (by decide)]
    simp only [ob_s, lt_eq]
    rw [nI_1, k168]
    refine ih (i + 1) f _ (by omega) (by omega) ?_ e2 ?_ ?_
    · rw [uI_r _ _ _ _ _ _ _ _ (by omega)]
      exact e1
    · intro r p t hr
      rw [uI_r _ _ _ _ _ _ _ _ hr]
      exact e3 r p t hr
    · intro p t
      rw [uI_1, e4, show (98 : Nat) + 34 = 132 from rfl]
      by_cases q : p = 132 ∧ t = 42 * k + 2 + i
      · obtain ⟨rfl, rfl⟩ := q
        rw [if_pos ⟨rfl, rfl, rfl⟩, if_pos (by omega), show 42 * k + 2 + i - (42 * k + 2) = i by omega]
      · rw [if_neg (by omega)]
        by_cases q2 : p = 132 ∧ 42 * k + 2 ≤ t ∧ t < 42 * k + 2 + i
        · rw [if_pos q2, if_pos (by omega)]
        · rw [if_neg q2, if_neg (by omega)]
theorem t_launch {m : Mm} {V : Vt} (h : RM m V) {k z : Nat} {x : Int32} {B : Nat → Nat} {g : Nat → Int32} (hk : k < 16) (h5 : V 5 0 0 = nI k) (hz : z ≤ 40) (hW : Wm m B z) (hg : ∀ b, b < z → g b = nI (B b)) : ∃ m', r_M_launch 98 x (nI z) m = some m' ∧ RM m' (lnV V k z x g) ∧ FC m m' ∧ m'.1 125 98 0 = m.1 125 98 0 := by
  have k118 : m.1 118 98 0 = nI k := h.2.1.1.trans h5
  have i42 : (42 : Int32) * nI k = nI (42 * k) := by
    have := nI_42 k 0
    rw [show nI 0 = 0 from rfl, Int32.add_zero] at this
    exact this
  let m0 := ab_uI (ab_uI m 166 (98 + 34) (42 * k) x) 166 (98 + 34) (42 * k + 1) (nI z)
  have r0 : ∀ r p t, r ≠ 166 → m0.1 r p t = m.1 r p t := fun r p t hr => (uI_r _ _ _ _ _ _ _ _ hr).trans (uI_r _ _ _ _ _ _ _ _ hr)
  obtain ⟨m', e1, e2, e3, e4⟩ := lc_loop (m0 := m0) (B := B) hk hz (fun j hj => (r0 _ _ _ (by omega)).trans (hW j hj)) z 0 49999 m0 (by omega) (by omega) ((r0 _ _ _ (by omega)).trans k118) rfl (fun _ _ _ _ => rfl) (fun p t => by rw [if_neg (by omega)])
  have kp : ∀ r a b, r ≠ 118 → r ≠ 166 → (ab_uI m' 118 98 0 (nI (k + 1))).1 r a b = m.1 r a b := by
    intro r a b q1 q2
    rw [uI_r _ _ _ _ _ _ _ _ q1, e3 r a b q2, r0 r a b q2]
  have k166 : ∀ t, (ab_uI m' 118 98 0 (nI (k + 1))).1 166 132 t = if 42 * k + 2 ≤ t ∧ t < 42 * k + 2 + z then nI (B (t - (42 * k + 2))) else if t = 42 * k + 1 then nI z else if t = 42 * k then x else m.1 166 132 t := by
    intro t
    rw [uI_r _ _ _ _ _ _ _ _ (by omega), e4]
    by_cases q : 42 * k + 2 ≤ t ∧ t < 42 * k + 2 + z
    · rw [if_pos ⟨rfl, q⟩, if_pos q]
    · rw [if_neg (fun y => q y.2), if_neg q]
      show (ab_uI (ab_uI m 166 (98 + 34) (42 * k) x) 166 (98 + 34) (42 * k + 1) (nI z)).1 166 132 t = _
      rw [uI_1]
      by_cases q1 : t = 42 * k + 1
      · rw [if_pos ⟨rfl, rfl, q1⟩, if_pos q1]
      · rw [if_neg (fun y => q1 y.2.2), if_neg q1, uI_1]
        by_cases q2 : t = 42 * k
        · rw [if_pos ⟨rfl, rfl, q2⟩, if_pos q2]
        · rw [if_neg (fun y => q2 y.2.2), if_neg q2]
  refine ⟨ab_uI m' 118 98 0 (nI (k + 1)), ?_, ?_, ⟨fun r hr => ?_, e2⟩, kp _ _ _ (by omega) (by omega)⟩
  · rw [r_M_launch_eq, b_M_launch_0_eq, k118, if_neg (by clear h e1 e2 e3 e4 kp k166 r0 hW hg k118 h5 i42; grind [nI_T]), i42, ab_ix_nI (show 42 * k < 672 by omega) (by decide)]
    simp only [ob_s, lt_eq]
    rw [uI_r _ _ _ _ _ _ _ _ (show (118 : Nat) ≠ 166 by omega), k118, show (1 : Int32) = nI 1 from rfl, nI_42, ab_ix_nI (show 42 * k + 1 < 672 by omega) (by decide)]
    simp only [ob_s]
    exact congrArg ab_rV e1
  · obtain ⟨g1, g2, g3, g4, g5⟩ := h
    refine ⟨fun k' a' b' t z' => ?_, ⟨?_, ?_, ?_⟩, fun e he => ?_, fun a ha hl => ?_, fun a ha => ?_⟩
    · have tk := Ts_k t
      have mk := mr_in k' tk.1
      have q5 : k' ≠ 5 := by rintro rfl; exact z' rfl
      rw [kp _ _ _ (by omega) (by omega), ln_o (by omega)]
      exact g1 k' a' b' t z'
    · rw [ln_5]
      exact uI_s _ _ _ _ _
    · rw [kp _ _ _ (by omega) (by omega), ln_o (by omega)]
      exact g2.2.1
    · rw [kp _ _ _ (by omega) (by omega), ln_o (by omega)]
      exact g2.2.2
    · rw [kp _ _ _ (by omega) (by omega), kp _ _ _ (by omega) (by omega), kp _ _ _ (by omega) (by omega), kp _ _ _ (by omega) (by omega), ln_o (by omega), ln_o (by omega), ln_o (by omega), ln_o (by omega), ln_o (by omega), ln_o (by omega)]
      exact g3 e he
    · rw [ln_5] at hl
      rw [k166, k166]
      by_cases q : a = k
      · subst q
        rw [ln_11, ln_12, if_neg (by omega), if_neg (by omega), if_pos rfl, if_neg (by omega), if_pos rfl]
        refine ⟨rfl, rfl, fun b hb hc => ?_⟩
        have hbz : b < z := by
          clear g1 g2 g3 g4 g5 e1 e2 e3 e4 kp k166 r0 hW hg k118 h5 hl i42
          grind [nI_T]
        rw [k166, if_pos (by omega), ln_13, hg b hbz, show 42 * a + 2 + b - (42 * a + 2) = b by omega]
      · have hl2 : nI a < V 5 0 0 := by
          rw [h5]
          clear g1 g2 g3 g4 g5 e1 e2 e3 e4 kp k166 r0 hW hg k118 h5 i42
          grind [nI_T]
        have gg := g4 a ha hl2
        rw [ln_a (by omega) q, ln_a (by omega) q, if_neg (by omega), if_neg (by omega), if_neg (by omega), if_neg (by omega), if_neg (by omega), if_neg (by omega)]
        refine ⟨gg.1, gg.2.1, fun b hb hc => ?_⟩
        rw [k166, ln_a (by omega) q, if_neg (by omega), if_neg (by omega), if_neg (by omega)]
        exact gg.2.2 b hb hc
    · have sa := (Sa_ln a).mp ha
      have gg := g5 a sa
      rw [kp _ _ _ (by omega) (by omega), kp _ _ _ (by omega) (by omega), kp _ _ _ (by omega) (by omega), ln_o (by omega), ln_o (by omega), ln_o (by omega)]
      refine ⟨gg.1, gg.2.1, gg.2.2.1, fun s hs => ?_⟩
      rw [kp _ _ _ (by omega) (by omega), ln_o (by omega), ln_o (by omega), ln_o (by omega), ln_o (by omega), ln_o (by omega)]
      exact gg.2.2.2 s hs
  · funext a b
    exact kp r a b (by omega) (by omega)
theorem t_launch0 {m : Mm} {V : Vt} (h : RM m V) {x z : Int32} (h5 : V 5 0 0 = 16) : r_M_launch 98 x z m = some m := by
  rw [r_M_launch_eq, b_M_launch_0_eq, h.2.1.1, h5, if_pos rfl, rV_some]
end
