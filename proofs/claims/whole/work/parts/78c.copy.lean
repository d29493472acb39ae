section
/-! copy. -/
/-- the row k is under way once more, as n -/
def cpV (V : Vt) (k n : Nat) : Vt := fun r a b => if r = 5 ∧ a = 0 ∧ b = 0 then nI (n + 1) else if (r = 11 ∨ r = 12 ∨ r = 13) ∧ a = n then V r k b else V r a b
theorem s_become {q p : Nat} {m : Mm} (hq : q ≠ p) : ∃ m', r_Row_become q p m = some m' ∧ m'.2 = m.2 ∧ (∀ r a b, m'.1 r a b = if (r = 11 ∨ r = 12) ∧ a = q ∧ b = 0 then m.1 r p 0 else if r = 13 ∧ a = q + 1 ∧ b < 40 then m.1 13 (p + 1) b else m.1 r a b) := by
  rw [r_Row_become_eq, b_Row_become_0_eq]
  simp only [ob_s, lt_eq]
  rw [r_copy_eq, if_pos ⟨rfl, rfl, rfl⟩]
  refine ⟨_, rfl, rfl, fun r a b => ?_⟩
  show (if r = 13 ∧ a = q + 1 ∧ b < 40 then (ab_uI (ab_uI m 12 q 0 (m.1 12 p 0)) 11 q 0 ((ab_uI m 12 q 0 (m.1 12 p 0)).1 11 p 0)).1 13 (p + 1) b else (ab_uI (ab_uI m 12 q 0 (m.1 12 p 0)) 11 q 0 ((ab_uI m 12 q 0 (m.1 12 p 0)).1 11 p 0)).1 r a b) = _
  simp only [uI_1]
  grind
theorem cp_loop {m0 : Mm} {k n : Nat} (hk : k < n) (hn : n < 16) : ∀ (j i f : Nat) (m : Mm), i + j = 42 → j < f → m.1 118 98 0 = nI n → m.2 = m0.2 → (∀ r p t, r ≠ 166 → m.1 r p t = m0.1 r p t) → (∀ p t, m.1 166 p t = if p = 132 ∧ 42 * n ≤ t ∧ t < 42 * n + i then m0.1 166 132 (42 * k + (t - 42 * n)) else m0.1 166 p t) →
    ∃ m', b_M_copy_26 f 98 (nI k) (nI i) m = some (.inl (some (.inl 1), ab_uI m' 118 98 0 (nI (n + 1)))) ∧ m'.2 = m0.2 ∧ (∀ r p t, r ≠ 166 → m'.1 r p t = m0.1 r p t) ∧ (∀ p t, m'.1 166 p t = if p = 132 ∧ 42 * n ≤ t ∧ t < 42 * n + 42 then m0.1 166 132 (42 * k + (t - 42 * n)) else m0.1 166 p t) := by
  intro j
  induction j with
  | zero =>
    intro i f m hi hf e1 e2 e3 e4
    obtain ⟨f, rfl⟩ : ∃ g, f = g + 1 := ⟨f - 1, by omega⟩
    obtain rfl : i = 42 := by omega
    rw [b_M_copy_26_eq, e1, if_pos (show (42 : Int32) ≤ nI 42 by decide), nI_1]
    exact ⟨m, rfl, e2, e3, e4⟩
  | succ j ih =>
    intro i f m hi hf e1 e2 e3 e4
    obtain ⟨f, rfl⟩ : ∃ g, f = g + 1 := ⟨f - 1, by omega⟩
    rw [b_M_copy_26_eq, e1, if_neg (by (try clear ih); grind [nI_T]), nI_42, nI_42, ab_ix_nI (show 42 * k + i < 672 by omega) (by decide), ab_ix_nI (show 42 * n + i < 672 by omega) (by decide)]
    simp only [ob_s, lt_eq]
    rw [nI_1]
    refine ih (i + 1) f _ (by omega) (by omega) ?_ e2 ?_ ?_
    · rw [uI_r _ _ _ _ _ _ _ _ (by omega)]; exact e1
    · intro r p t hr
      rw [uI_r _ _ _ _ _ _ _ _ hr]; exact e3 r p t hr
    · intro p t
      rw [uI_1, e4, e4, show (98 : Nat) + 34 = 132 from rfl]
      by_cases q : p = 132 ∧ t = 42 * n + i
      · obtain ⟨rfl, rfl⟩ := q
        rw [if_pos ⟨rfl, rfl, rfl⟩, if_neg (by omega), if_pos (by omega), show 42 * n + i - 42 * n = i by omega]
      · rw [if_neg (by omega)]
        by_cases q2 : p = 132 ∧ 42 * n ≤ t ∧ t < 42 * n + i
        · rw [if_pos q2, if_pos (by omega)]
        · rw [if_neg q2, if_neg (by omega)]
theorem J_copy {c : Nat} {m : Mm} (h : St c m) (hc : c < 512) (v : Int32) : Jn c (r_X_copy 0 v m) (r_M_copy 98 v) := by
  obtain ⟨V, w, W, h1, h2, h3⟩ := id h
  have ix := h3.2.2.2.1.1
  obtain ⟨n, hn, h5⟩ := i_ofc (x := V 5 0 0) (N := 16) ix.1 ix.2 (by decide)
  by_cases hv : (0 ≤ v ∧ v < V 5 0 0) ∧ n < 16
  · obtain ⟨k, hk, rfl, hl⟩ := okK ix hv.1
    have hkn : k < n := by rw [h5] at hl; grind [nI_T]
    have hv1 : 0 ≤ nI k ∧ nI k < nI n := by rw [← h5]; exact hv.1
    have wn : w n ≠ w k := fun q => by have := h1.2.2.2.2.2.1.2 n k hv.2 hk q; omega
    obtain ⟨m1, e1, f1, f2⟩ := s_become (q := w n) (p := w k) (m := m) wn
    have rc : RC (ab_uI m1 5 0 0 (nI (n + 1))) (cpV V k n) w W := by
      obtain ⟨g1, g2, g3, g4, g5, g6, g7⟩ := h1
      have wev := g6.1
      have keep : ∀ r a b, r ≠ 5 → r ≠ 11 → r ≠ 12 → r ≠ 13 → (ab_uI m1 5 0 0 (nI (n + 1))).1 r a b = m.1 r a b := by
        intro r a b q1 q2 q3 q4
        rw [uI_r _ _ _ _ _ _ _ _ q1, f2, if_neg (by omega), if_neg (by omega)]
      have vk : ∀ r a b, r ≠ 5 → r ≠ 11 → r ≠ 12 → r ≠ 13 → cpV V k n r a b = V r a b := by
        intro r a b q1 q2 q3 q4
        unfold cpV
        rw [if_neg (by omega), if_neg (by omega)]
      refine ⟨fun k' a' b' t => ?_, fun a ha => ?_, fun a ha hl' => ?_, fun a ha => ⟨?_, fun k' b' t => ?_⟩, fun e he => ?_, g6, ?_⟩
      · have tk := Ts_k t
        by_cases q : k' = 5
        · subst q
          have : a' = 0 ∧ b' = 0 := by unfold Ts at t; omega
          obtain ⟨rfl, rfl⟩ := this
          exact uI_s _ _ _ _ _
        · rw [keep _ _ _ q (by omega) (by omega) (by omega), vk _ _ _ q (by omega) (by omega) (by omega)]
          exact g1 k' a' b' t
      · show m1.2.2.1 9 2 a = _
        rw [f1]
        exact g2 a ha
      · have hl2 : nI a < nI (n + 1) := hl'
        have wa := wev a ha
        have wk := wev k hk
        have wn' := wev n hv.2
        rw [uI_r _ _ _ _ _ _ _ _ (by omega), uI_r _ _ _ _ _ _ _ _ (by omega), f2, f2]
        by_cases q : a = n
        · subst q
          have gk := g3 k hk hl
          rw [if_pos (by omega), if_pos (by omega)]
          refine ⟨?_, ?_, fun b hb => ?_⟩
          · rw [gk.1]; unfold cpV; rw [if_neg (by omega), if_pos (by omega)]
          · rw [gk.2.1]; unfold cpV; rw [if_neg (by omega), if_pos (by omega)]
          · rw [uI_r _ _ _ _ _ _ _ _ (by omega), f2, if_neg (by omega), if_pos (by omega), gk.2.2 b hb]; unfold cpV; rw [if_neg (by omega), if_pos (by omega)]
        · have inj : w a ≠ w n := fun z => q (g6.2 a n ha hv.2 z)
          have ga := g3 a ha (by rw [h5]; grind [nI_T])
          rw [if_neg (by omega), if_neg (by omega), if_neg (by omega), if_neg (by omega)]
          refine ⟨?_, ?_, fun b hb => ?_⟩
          · rw [ga.1]; unfold cpV; rw [if_neg (by omega), if_neg (by omega)]
          · rw [ga.2.1]; unfold cpV; rw [if_neg (by omega), if_neg (by omega)]
          · rw [uI_r _ _ _ _ _ _ _ _ (by omega), f2, if_neg (by omega), if_neg (by omega), ga.2.2 b hb]; unfold cpV; rw [if_neg (by omega), if_neg (by omega)]
      · show m1.2.2.1 39 _ _ = _
        rw [f1]
        exact (g4 a ha).1
      · have tk : k' ≠ 5 ∧ k' ≠ 11 ∧ k' ≠ 12 ∧ k' ≠ 13 := by unfold TS at t; omega
        rw [keep _ _ _ tk.1 tk.2.1 tk.2.2.1 tk.2.2.2, vk _ _ _ tk.1 tk.2.1 tk.2.2.1 tk.2.2.2]
        exact (g4 a ha).2 k' b' t
      · rw [keep _ _ _ (by omega) (by omega) (by omega) (by omega)]
        exact g5 e he
      · show Wok (cpV V k n) W m1.2.2.2.1.length
        rw [f1]
        exact g7
    have fm : FM m (ab_uI m1 5 0 0 (nI (n + 1))) := by
      intro r hr
      funext a b
      rw [uI_r _ _ _ _ _ _ _ _ (by omega), f2, if_neg (by omega), if_neg (by omega)]
    have g : RM (ab_uI (ab_uI m1 5 0 0 (nI (n + 1))) 84 98 0 0) V := RM_sm (RM_FM h2 fm) (by unfold Sm; omega)
    have k118 : (ab_uI (ab_uI m1 5 0 0 (nI (n + 1))) 84 98 0 0).1 118 98 0 = nI n := by rw [g.2.1.1, h5]
    have k5 : m1.1 5 0 0 = nI n := by rw [f2, if_neg (by omega), if_neg (by omega), c5 h1 rfl, h5]
    generalize hM : ab_uI (ab_uI m1 5 0 0 (nI (n + 1))) 84 98 0 0 = M at *
    obtain ⟨m2, e2, p1, p2, p3⟩ := cp_loop (m0 := M) hkn hv.2 42 0 49999 M (by omega) (by omega) k118 rfl (fun _ _ _ _ => rfl) (by
      intro p t
      rw [if_neg (by omega)])
    refine ⟨(1, ab_uI m1 5 0 0 (nI (n + 1))), ?_, (1, ab_uI m2 118 98 0 (nI (n + 1))), ?_, rfl, cpV V k n, w, W, ?_, ?_, ?_⟩
    · rw [r_X_copy_eq, b_X_copy_0_eq, s_isUnderWay, c5 h1 rfl, h5]
      simp only [if_pos hv1, c5 h1 (p := 0) rfl, h5, if_pos (show nI n < 16 by grind [nI_T]), ab_ix_nI hv.2 (show 16 < 2 ^ 31 by decide), ab_ix_nI hk (show 16 < 2 ^ 31 by decide), cw h1 hv.2 (p := 0 + 2) rfl, cw h1 hk (p := 0 + 2) rfl, e1, k5, nI_1, bo_0, bo_1, ob_s, lt_eq, rI_ite, rI_some, rV_ite, rV_some, ib_if]
    · rw [r_M_copy_eq, b_M_copy_0_eq]
      simp only [lt_eq]
      rw [hM]
      simp only [ob_s, ib_if, t_flies, g.2.1.1, h5, if_pos hv1, if_neg (show ¬ nI n = 16 by grind [nI_T])]
      exact congrArg ab_rI e2
    · have fc : FC M (ab_uI m2 118 98 0 (nI (n + 1))) := ⟨fun r hr => by
        funext a b
        rw [uI_r _ _ _ _ _ _ _ _ (by omega), p2 r a b (by omega)], p1⟩
      refine RC_FC ?_ fc
      rw [← hM]
      exact RC_FC rc (FC_uI (by omega))
    · obtain ⟨g1, g2, g3, g4, g5⟩ := g
      have vk : ∀ r a b, r ≠ 5 → r ≠ 11 → r ≠ 12 → r ≠ 13 → cpV V k n r a b = V r a b := by
        intro r a b q1 q2 q3 q4
        unfold cpV
        rw [if_neg (by omega), if_neg (by omega)]
      have kp : ∀ r a b, r ≠ 118 → r ≠ 166 → (ab_uI m2 118 98 0 (nI (n + 1))).1 r a b = M.1 r a b := by
        intro r a b q1 q2
        rw [uI_r _ _ _ _ _ _ _ _ q1, p2 r a b q2]
      refine ⟨fun k' a' b' t z => ?_, ⟨uI_s _ _ _ _ _, ?_, ?_⟩, fun e he => ?_, fun a ha hl' => ?_, fun a ha => ?_⟩
      · have tk := Ts_k t
        have mk := mr_in k' tk.1
        have q5 : k' ≠ 5 := by rintro rfl; exact z rfl
        rw [kp _ _ _ (by omega) (by omega), vk _ _ _ q5 (by omega) (by omega) (by omega)]
        exact g1 k' a' b' t z
      · rw [kp _ _ _ (by omega) (by omega)]; exact g2.2.1
      · rw [kp _ _ _ (by omega) (by omega)]; exact g2.2.2
      · rw [kp _ _ _ (by omega) (by omega), kp _ _ _ (by omega) (by omega), kp _ _ _ (by omega) (by omega), kp _ _ _ (by omega) (by omega)]
        exact g3 e he
      · have hl2 : nI a < nI (n + 1) := hl'
        have key : ∀ b, b < 42 → (ab_uI m2 118 98 0 (nI (n + 1))).1 166 132 (42 * a + b) = M.1 166 132 (42 * (if a = n then k else a) + b) := by
          intro b hb
          rw [uI_r _ _ _ _ _ _ _ _ (by omega), p3]
          by_cases q : a = n
          · subst q
            rw [if_pos (by omega), if_pos rfl, show 42 * a + b - 42 * a = b by omega]
          · rw [if_neg (by omega), if_neg q]
        have hs : nI (if a = n then k else a) < V 5 0 0 := by
          rw [h5]
          split
          · grind [nI_T]
          · grind [nI_T]
        have hlt : (if a = n then k else a) < 16 := by split <;> omega
        have gg := g4 _ hlt hs
        have vr : ∀ r b, (r = 11 ∨ r = 12 ∨ r = 13) → cpV V k n r a b = V r (if a = n then k else a) b := by
          intro r b q
          unfold cpV
          rw [if_neg (by omega)]
          by_cases q2 : a = n
          · rw [if_pos ⟨q, q2⟩, if_pos q2]
          · rw [if_neg (fun y => q2 y.2), if_neg q2]
        rw [vr 11 0 (by omega), vr 12 0 (by omega)]
        refine ⟨?_, ?_, fun b hb hc => ?_⟩
        · have := key 0 (by omega)
          simp only [Nat.add_zero] at this
          exact this.trans gg.1
        · exact (key 1 (by omega)).trans gg.2.1
        · have := key (2 + b) (by omega)
          simp only [← Nat.add_assoc] at this
          rw [vr 13 b (by omega)]
          exact this.trans (gg.2.2 b hb hc)
      · rw [kp _ _ _ (by omega) (by omega), kp _ _ _ (by omega) (by omega), kp _ _ _ (by omega) (by omega)]
        refine ⟨(g5 a ha).1, (g5 a ha).2.1, (g5 a ha).2.2.1, fun s hs => ?_⟩
        rw [kp _ _ _ (by omega) (by omega)]
        exact (g5 a ha).2.2.2 s hs
    · obtain ⟨i1, i2, i3, i4, i5, i6⟩ := h3
      refine Iv_more (c := c) ⟨i1, i2, i3, ?_, fun a ha hl' => ?_, i6⟩ (by omega) (by omega)
      · unfold IX at *
        refine ⟨?_, i4.2⟩
        show 0 ≤ nI (n + 1) ∧ nI (n + 1) ≤ 16
        grind [nI_T]
      · have hl2 : nI a < nI (n + 1) := hl'
        by_cases q : a = n
        · subst q
          have := i5 k hk hl
          unfold IR at *
          unfold cpV
          simp only [if_true, if_false, true_and, and_true]
          simp
          exact this
        · have := i5 a ha (by rw [h5]; grind [nI_T])
          unfold IR at *
          unfold cpV
          simp [q]
          exact this
  · have h2' : RM (ab_uI m 84 98 0 0) V := RM_sm h2 (by unfold Sm; omega)
    have f5 := h2'.2.1.1
    refine ⟨(0, m), ?_, (0, ab_uI m 84 98 0 0), ?_, rfl, St_more (St_84 h) (by omega) (by omega)⟩
    · rw [r_X_copy_eq, b_X_copy_0_eq, s_isUnderWay]
      by_cases hv1 : 0 ≤ v ∧ v < V 5 0 0
      · simp only [c5 h1 (p := 0) rfl, if_pos hv1, bo_0, bo_1, ob_s, lt_eq, rI_ite, rI_some, rV_ite, rV_some, ib_if]
        rw [if_neg (by rw [h5]; grind [nI_T])]
      · simp only [c5 h1 (p := 0) rfl, if_neg hv1, bo_0, bo_1, ob_s, lt_eq, rI_ite, rI_some, rV_ite, rV_some, ib_if]
    · rw [r_M_copy_eq, b_M_copy_0_eq]
      by_cases hv1 : 0 ≤ v ∧ v < V 5 0 0
      · simp only [t_flies, f5, if_pos hv1, bo_0, bo_1, ob_s, lt_eq, rI_ite, rI_some, rV_ite, rV_some, ib_if]
        rw [if_pos (by rw [h5]; grind [nI_T])]
      · simp only [t_flies, f5, if_neg hv1, bo_0, bo_1, ob_s, lt_eq, rI_ite, rI_some, rV_ite, rV_some, ib_if]
end
