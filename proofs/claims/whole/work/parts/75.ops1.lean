section
/-! The small calls. -/
theorem IO_k {V : Vt} {k a1 b1 a : Nat} {x : Int32} (hk : k ≠ 59 ∧ k ≠ 60 ∧ k ≠ 61 ∧ k ≠ 62 ∧ k ≠ 64 ∧ k ≠ 66 ∧ k ≠ 67) (h : IO V a) : IO (uV V k a1 b1 x) a := by
  have u : ∀ k' a' b', k' ≠ k → uV V k a1 b1 x k' a' b' = V k' a' b' := fun k' a' b' q => uV_k V k a1 b1 x q
  unfold IO at *
  simp only [u 59 _ _ (by omega), u 60 _ _ (by omega), u 61 _ _ (by omega), u 62 _ _ (by omega), u 64 _ _ (by omega), u 66 _ _ (by omega), u 67 _ _ (by omega)]
  exact h
theorem IN_k {V : Vt} {k a1 b1 a : Nat} {x : Int32} (hk : k ≠ 47 ∧ k ≠ 48 ∧ k ≠ 49 ∧ k ≠ 50 ∧ k ≠ 51 ∧ k ≠ 52 ∧ k ≠ 53) (h : IN V a) : IN (uV V k a1 b1 x) a := by
  have u : ∀ k' a' b', k' ≠ k → uV V k a1 b1 x k' a' b' = V k' a' b' := fun k' a' b' q => uV_k V k a1 b1 x q
  unfold IN at *
  simp only [u 47 _ _ (by omega), u 48 _ _ (by omega), u 49 _ _ (by omega), u 50 _ _ (by omega), u 51 _ _ (by omega), u 52 _ _ (by omega), u 53 _ _ (by omega)]
  exact h
theorem IE_k {V : Vt} {k a1 b1 c e : Nat} {x : Int32} (hk : k ≠ 21 ∧ k ≠ 22 ∧ k ≠ 23 ∧ k ≠ 24 ∧ k ≠ 25 ∧ k ≠ 26 ∧ k ≠ 30 ∧ k ≠ 31 ∧ k ≠ 41 ∧ k ≠ 42 ∧ k ≠ 43 ∧ k ≠ 44 ∧ k ≠ 55 ∧ k ≠ 7 ∧ k ≠ 8 ∧ k ≠ 28) (h : IE c V e) : IE c (uV V k a1 b1 x) e := by
  have u : ∀ k' a' b', k' ≠ k → uV V k a1 b1 x k' a' b' = V k' a' b' := fun k' a' b' q => uV_k V k a1 b1 x q
  unfold IE hb at *
  simp only [u 21 _ _ (by omega), u 22 _ _ (by omega), u 23 _ _ (by omega), u 24 _ _ (by omega), u 25 _ _ (by omega), u 26 _ _ (by omega), u 30 _ _ (by omega), u 31 _ _ (by omega), u 41 _ _ (by omega), u 42 _ _ (by omega), u 43 _ _ (by omega), u 44 _ _ (by omega), u 55 _ _ (by omega), u 7 _ _ (by omega), u 8 _ _ (by omega), u 28 _ _ (by omega)]
  exact h
theorem IX_k {V : Vt} {k a1 b1 c : Nat} {x : Int32} (hk : k ≠ 5 ∧ k ≠ 6 ∧ k ≠ 7 ∧ k ≠ 14) (h : IX c V) : IX c (uV V k a1 b1 x) := by
  have u : ∀ k' a' b', k' ≠ k → uV V k a1 b1 x k' a' b' = V k' a' b' := fun k' a' b' q => uV_k V k a1 b1 x q
  unfold IX at *
  simp only [u 5 _ _ (by omega), u 6 _ _ (by omega), u 7 _ _ (by omega), u 14 _ _ (by omega)]
  exact h
theorem IR_k {V : Vt} {k a1 b1 a : Nat} {x : Int32} (hk : k ≠ 11 ∧ k ≠ 12 ∧ k ≠ 13) (h : IR V a) : IR (uV V k a1 b1 x) a := by
  have u : ∀ k' a' b', k' ≠ k → uV V k a1 b1 x k' a' b' = V k' a' b' := fun k' a' b' q => uV_k V k a1 b1 x q
  unfold IR at *
  simp only [u 11 _ _ (by omega), u 12 _ _ (by omega), u 13 _ _ (by omega)]
  exact h
theorem IS_k {V : Vt} {k a1 b1 a : Nat} {x : Int32} (hk : k ≠ 60 ∧ k ≠ 62 ∧ k ≠ 68 ∧ k ≠ 69 ∧ k ≠ 70 ∧ k ≠ 76 ∧ k ≠ 77 ∧ k ≠ 78 ∧ k ≠ 79 ∧ k ≠ 80) (h : IS V a) : IS (uV V k a1 b1 x) a := by
  have u : ∀ k' a' b', k' ≠ k → uV V k a1 b1 x k' a' b' = V k' a' b' := fun k' a' b' q => uV_k V k a1 b1 x q
  unfold IS at *
  simp only [u 60 _ _ (by omega), u 62 _ _ (by omega), u 68 _ _ (by omega), u 69 _ _ (by omega), u 70 _ _ (by omega), u 76 _ _ (by omega), u 77 _ _ (by omega), u 78 _ _ (by omega), u 79 _ _ (by omega), u 80 _ _ (by omega)]
  exact h
theorem Iv_k {c : Nat} {V : Vt} {k a1 b1 : Nat} {x : Int32} (h : Iv c V) (hk : k ≠ 5 ∧ k ≠ 21) (h1 : ∀ a, a < 8 → IO (uV V k a1 b1 x) a) (h2 : ∀ a, a < 8 → IN (uV V k a1 b1 x) a) (h3 : ∀ e, e < 2 → IE c (uV V k a1 b1 x) e) (h4 : IX c (uV V k a1 b1 x)) (h5 : ∀ a, a < 16 → nI a < V 5 0 0 → IR (uV V k a1 b1 x) a) (h6 : ∀ a, Sa V a → IS (uV V k a1 b1 x) a) : Iv c (uV V k a1 b1 x) := by
  refine ⟨h1, h2, h3, h4, fun a ha hl => ?_, fun a ha => h6 a ((Sa_uV hk.2 a).mp ha)⟩
  rw [uV_k _ _ _ _ _ (by omega)] at hl
  exact h5 a ha hl
theorem Iv_free {c : Nat} {V : Vt} {k a1 b1 : Nat} {x : Int32} (h : Iv c V) (hk : k = 27 ∨ k = 63 ∨ k = 65) : Iv c (uV V k a1 b1 x) :=
  Iv_k h (by omega) (fun a ha => IO_k (by omega) (h.1 a ha)) (fun a ha => IN_k (by omega) (h.2.1 a ha)) (fun e he => IE_k (by omega) (h.2.2.1 e he)) (IX_k (by omega) h.2.2.2.1) (fun a ha hl => IR_k (by omega) (h.2.2.2.2.1 a ha hl)) (fun a ha => IS_k (by omega) (h.2.2.2.2.2 a ha))
theorem Iv_shut {c : Nat} {V : Vt} {e : Nat} {x y : Int32} (h : Iv c V) (hx : 0 ≤ x) (hx2 : x < 1073741824) : Iv c (uV (uV V 22 e 0 x) 28 e 0 y) := by
  have u : ∀ k' a' b', k' ≠ 22 → k' ≠ 28 → uV (uV V 22 e 0 x) 28 e 0 y k' a' b' = V k' a' b' := fun k' a' b' q q' => (uV_k _ 28 e 0 y q').trans (uV_k V 22 e 0 x q)
  have sa : ∀ a, Sa (uV (uV V 22 e 0 x) 28 e 0 y) a ↔ Sa V a := fun a => (Sa_uV (by omega) a).trans (Sa_uV (by omega) a)
  refine ⟨fun a ha => IO_k (by omega) (IO_k (by omega) (h.1 a ha)), fun a ha => IN_k (by omega) (IN_k (by omega) (h.2.1 a ha)), fun e' he => ?_, IX_k (by omega) (IX_k (by omega) h.2.2.2.1), fun a ha hl => IR_k (by omega) (IR_k (by omega) (h.2.2.2.2.1 a ha (by rw [u 5 _ _ (by omega) (by omega)] at hl; exact hl))), fun a ha => IS_k (by omega) (IS_k (by omega) (h.2.2.2.2.2 a ((sa a).mp ha)))⟩
  have g := h.2.2.1 e' he
  unfold IE hb at *
  simp only [u 21 _ _ (by omega) (by omega), u 23 _ _ (by omega) (by omega), u 24 _ _ (by omega) (by omega), u 25 _ _ (by omega) (by omega), u 26 _ _ (by omega) (by omega), u 30 _ _ (by omega) (by omega), u 31 _ _ (by omega) (by omega), u 41 _ _ (by omega) (by omega), u 42 _ _ (by omega) (by omega), u 43 _ _ (by omega) (by omega), u 44 _ _ (by omega) (by omega), u 55 _ _ (by omega) (by omega), u 7 _ _ (by omega) (by omega), u 8 _ _ (by omega) (by omega)]
  obtain ⟨g1, g2, g3, g4, g5, g6, g7, g8, g9, g10, g11, g12, g13, g14, g15, g16⟩ := g
  refine ⟨g1, ?_, g3, g4, g5, g6, g7, g8, g9, g10, g11, g12, g13, g14, g15, ?_⟩
  · unfold uV
    grind
  · unfold uV
    grind
theorem Iv_62 {c : Nat} {V : Vt} {a0 : Nat} (h3 : Iv c V) : Iv c (uV V 62 a0 0 1) := by
  have u : ∀ k' a' b', k' ≠ 62 → uV V 62 a0 0 1 k' a' b' = V k' a' b' := fun k' a' b' q => uV_k V 62 a0 0 1 q
  have u2 : ∀ a, V 62 a 0 ≠ 0 → uV V 62 a0 0 1 62 a 0 ≠ 0 := by
    intro a q
    unfold uV
    split
    · decide
    · exact q
  refine Iv_k h3 (by omega) (fun a ha => ?_) (fun a ha => IN_k (by omega) (h3.2.1 a ha)) (fun e he => IE_k (by omega) (h3.2.2.1 e he)) (IX_k (by omega) h3.2.2.2.1) (fun a ha hl => IR_k (by omega) (h3.2.2.2.2.1 a ha hl)) (fun a ha => ?_)
  · have g := h3.1 a ha
    unfold IO at *
    simp only [u 59 _ _ (by omega), u 60 _ _ (by omega), u 61 _ _ (by omega), u 64 _ _ (by omega), u 66 _ _ (by omega), u 67 _ _ (by omega)]
    exact ⟨g.1, fun q => u2 a (g.2.1 q), g.2.2⟩
  · have g := h3.2.2.2.2.2 a ha
    unfold IS at *
    simp only [u 60 _ _ (by omega), u 68 _ _ (by omega), u 69 _ _ (by omega), u 70 _ _ (by omega), u 76 _ _ (by omega), u 77 _ _ (by omega), u 78 _ _ (by omega), u 79 _ _ (by omega), u 80 _ _ (by omega)]
    refine ⟨g.1, g.2.1, g.2.2.1, fun s hs => ?_⟩
    have q := g.2.2.2 s hs
    exact ⟨q.1, q.2.1, q.2.2.1, q.2.2.2.1, fun z => u2 _ (q.2.2.2.2.1 z), q.2.2.2.2.2⟩
theorem J_packets {c : Nat} {m : Mm} (h : St c m) (hc : c < 512) : Jn c (r_X_packets 0 m) (r_M_packets 98) := by
  obtain ⟨V, w, W, h1, h2, h3⟩ := id h
  refine ⟨(V 5 0 0, m), ?_, (V 5 0 0, ab_uI m 84 98 0 0), ?_, rfl, St_more (St_84 h) (by omega) (by omega)⟩
  · rw [r_X_packets_eq, b_X_packets_0_eq, c5 h1 rfl]
    rfl
  · have h2' : RM (ab_uI m 84 98 0 0) V := RM_sm h2 (by unfold Sm; omega)
    rw [r_M_packets_eq, b_M_packets_0_eq, lt_eq, h2'.2.1.1]
    rfl
theorem J_closed {c : Nat} {m : Mm} (h : St c m) (hc : c < 512) (v : Int32) : Jn c (r_X_closed 0 v m) (r_M_closed 98 v) := by
  obtain ⟨V, w, W, h1, h2, h3⟩ := id h
  have h2' : RM (ab_uI m 84 98 0 0) V := RM_sm h2 (by unfold Sm; omega)
  by_cases hv : 0 ≤ v ∧ v < 2
  · obtain ⟨e, he, rfl⟩ := i_of (N := 2) hv.1 hv.2 (by decide)
    refine ⟨(V 22 e 0, m), ?_, (V 22 e 0, ab_uI m 84 98 0 0), ?_, rfl, St_more (St_84 h) (by omega) (by omega)⟩
    · rw [r_X_closed_eq, b_X_closed_0_eq, s_isEnd]
      simp only [if_pos hv, ab_ix_nI he (show 2 < 2 ^ 31 by decide), c22 h1 he (p := 0 + 1 + 5 + 30 * e) (by omega), bo_0, bo_1, ob_s, lt_eq, rI_ite, rI_some, rV_ite, rV_some, ib_if]
    · rw [r_M_closed_eq, b_M_closed_0_eq]
      simp only [t_in, if_pos (show (0 : Int32) ≤ nI e ∧ nI e ≤ 1 by grind [nI_T]), ab_ix_nI he (show 2 < 2 ^ 31 by decide), n22 h2' he (p := 98 + 22) rfl rfl, bo_0, bo_1, ob_s, lt_eq, rI_ite, rI_some, rV_ite, rV_some, ib_if]
  · refine ⟨(-1, m), ?_, (-1, ab_uI m 84 98 0 0), ?_, rfl, St_more (St_84 h) (by omega) (by omega)⟩
    · rw [r_X_closed_eq, b_X_closed_0_eq, s_isEnd]
      simp only [if_neg hv, bo_0, bo_1, ob_s, lt_eq, rI_ite, rI_some, rV_ite, rV_some, ib_if]
    · rw [r_M_closed_eq, b_M_closed_0_eq]
      simp only [t_in, if_neg (show ¬ ((0 : Int32) ≤ v ∧ v ≤ 1) by grind), bo_0, bo_1, ob_s, lt_eq, rI_ite, rI_some, rV_ite, rV_some, ib_if]
theorem J_finish {c : Nat} {m : Mm} (h : St c m) (hc : c < 512) (v u : Int32) : Jn c (r_X_finish 0 v u m) (r_M_finish 98 v u) := by
  obtain ⟨V, w, W, h1, h2, h3⟩ := id h
  by_cases hv : (0 ≤ v ∧ v < 2) ∧ 0 ≤ u ∧ u < 4
  · obtain ⟨e, s, he, hs, rfl, rfl⟩ := okS hv
    have i22 : -1 ≤ V 22 e 0 := (h3.2.2.1 e he).2.1
    have x : r_X_finish 0 (nI e) (nI s) m = some (ib (V 22 e 0 = -1 ∧ V 62 (4 * e + s) 0 = 0 ∧ V 63 (4 * e + s) 0 = 0), if V 22 e 0 = -1 ∧ V 62 (4 * e + s) 0 = 0 ∧ V 63 (4 * e + s) 0 = 0 then ab_uI m 62 (0 + 1 + 5 + 30 * e + 16 + 1 + 1 + 3 * s) 0 1 else m) := by
      rw [r_X_finish_eq, b_X_finish_0_eq, s_isStream]
      simp only [if_pos hv, ab_ix_nI he (show 2 < 2 ^ 31 by decide), ab_ix_nI hs (show 4 < 2 ^ 31 by decide), s_isOpen, s_isGrowing, c22 h1 he (p := 0 + 1 + 5 + 30 * e) (by omega), c62 h1 he hs (p := 0 + 1 + 5 + 30 * e + 16 + 1 + 1 + 3 * s) (by omega), c63 h1 he hs (p := 0 + 1 + 5 + 30 * e + 16 + 1 + 1 + 3 * s) (by omega), ib, bo_0, bo_1, ob_s, lt_eq, rI_ite, rI_some, rV_ite, rV_some, ib_if]
      grind
    have y : ∀ m1, RM m1 V → r_M_finish 98 (nI e) (nI s) m1 = some (ib (V 22 e 0 = -1 ∧ V 62 (4 * e + s) 0 = 0 ∧ V 63 (4 * e + s) 0 = 0), if V 22 e 0 = -1 ∧ V 62 (4 * e + s) 0 = 0 ∧ V 63 (4 * e + s) 0 = 0 then ab_uI (ab_uI m1 84 98 0 0) 140 (98 + 8) (4 * e + s) 1 else ab_uI m1 84 98 0 0) := by
      intro m1 g
      have g' : RM (ab_uI m1 84 98 0 0) V := RM_sm g (by unfold Sm; omega)
      rw [r_M_finish_eq, b_M_finish_0_eq]
      simp only [t_isStream, if_pos hv, nI_4, ab_ix_nI he (show 2 < 2 ^ 31 by decide), ab_ix_nI (show 4 * e + s < 8 by omega) (show 8 < 2 ^ 31 by decide), n22 g' he (p := 98 + 22) rfl rfl, n62 g' (a := 4 * e + s) (by omega) (p := 98 + 8) rfl rfl, n63 g' (a := 4 * e + s) (by omega) (p := 98 + 9) rfl rfl, ib, bo_0, bo_1, ob_s, lt_eq, rI_ite, rI_some, rV_ite, rV_some, ib_if]
      grind
    by_cases hh : V 22 e 0 = -1 ∧ V 62 (4 * e + s) 0 = 0 ∧ V 63 (4 * e + s) 0 = 0
    · rw [if_pos hh] at x
      refine ⟨_, x, ?_⟩
      have g : RM (ab_uI m 62 (0 + 1 + 5 + 30 * e + 16 + 1 + 1 + 3 * s) 0 1) V := RM_FM h2 (FM_uI (by omega))
      have y := y _ g
      rw [if_pos hh] at y
      refine ⟨_, y, rfl, uV V 62 (4 * e + s) 0 1, w, W, RC_FC (cu62 h1 he hs (by omega) 1) (FC_tr (FC_uI (by omega)) (FC_uI (by omega))), nu62 (RM_sm g (by unfold Sm; omega)) (by omega) rfl rfl 1, ?_⟩
      exact Iv_more (Iv_62 h3) (by omega) (by omega)
    · rw [if_neg hh] at x
      refine ⟨_, x, ?_⟩
      have y := y _ h2
      rw [if_neg hh] at y
      exact ⟨_, y, rfl, St_more (St_84 h) (by omega) (by omega)⟩
  · refine ⟨(0, m), ?_, (0, ab_uI m 84 98 0 0), ?_, rfl, St_more (St_84 h) (by omega) (by omega)⟩
    · rw [r_X_finish_eq, b_X_finish_0_eq, s_isStream]
      simp only [if_neg hv, bo_0, bo_1, ob_s, lt_eq, rI_ite, rI_some, rV_ite, rV_some, ib_if]
    · rw [r_M_finish_eq, b_M_finish_0_eq]
      simp only [t_isStream, if_neg hv, bo_0, bo_1, ob_s, lt_eq, rI_ite, rI_some, rV_ite, rV_some, ib_if]
theorem J_reset {c : Nat} {m : Mm} (h : St c m) (hc : c < 512) (v u : Int32) : Jn c (r_X_reset 0 v u m) (r_M_reset 98 v u) := by
  obtain ⟨V, w, W, h1, h2, h3⟩ := id h
  by_cases hv : (0 ≤ v ∧ v < 2) ∧ 0 ≤ u ∧ u < 4
  · obtain ⟨e, s, he, hs, rfl, rfl⟩ := okS hv
    have i22 : -1 ≤ V 22 e 0 := (h3.2.2.1 e he).2.1
    have x : r_X_reset 0 (nI e) (nI s) m = some (ib (V 22 e 0 = -1 ∧ V 63 (4 * e + s) 0 = 0), if V 22 e 0 = -1 ∧ V 63 (4 * e + s) 0 = 0 then ab_uI m 63 (0 + 1 + 5 + 30 * e + 16 + 1 + 1 + 3 * s) 0 1 else m) := by
      rw [r_X_reset_eq, b_X_reset_0_eq, s_isStream]
      simp only [if_pos hv, ab_ix_nI he (show 2 < 2 ^ 31 by decide), ab_ix_nI hs (show 4 < 2 ^ 31 by decide), s_isOpen, c22 h1 he (p := 0 + 1 + 5 + 30 * e) (by omega), c63 h1 he hs (p := 0 + 1 + 5 + 30 * e + 16 + 1 + 1 + 3 * s) (by omega), ib, bo_0, bo_1, ob_s, lt_eq, rI_ite, rI_some, rV_ite, rV_some, ib_if]
      grind
    have y : ∀ m1, RM m1 V → r_M_reset 98 (nI e) (nI s) m1 = some (ib (V 22 e 0 = -1 ∧ V 63 (4 * e + s) 0 = 0), if V 22 e 0 = -1 ∧ V 63 (4 * e + s) 0 = 0 then ab_uI (ab_uI m1 84 98 0 0) 141 (98 + 9) (4 * e + s) 1 else ab_uI m1 84 98 0 0) := by
      intro m1 g
      have g' : RM (ab_uI m1 84 98 0 0) V := RM_sm g (by unfold Sm; omega)
      rw [r_M_reset_eq, b_M_reset_0_eq]
      simp only [t_isStream, if_pos hv, nI_4, ab_ix_nI he (show 2 < 2 ^ 31 by decide), ab_ix_nI (show 4 * e + s < 8 by omega) (show 8 < 2 ^ 31 by decide), n22 g' he (p := 98 + 22) rfl rfl, n63 g' (a := 4 * e + s) (by omega) (p := 98 + 9) rfl rfl, ib, bo_0, bo_1, ob_s, lt_eq, rI_ite, rI_some, rV_ite, rV_some, ib_if]
      grind
    by_cases hh : V 22 e 0 = -1 ∧ V 63 (4 * e + s) 0 = 0
    · rw [if_pos hh] at x
      refine ⟨_, x, ?_⟩
      have g : RM (ab_uI m 63 (0 + 1 + 5 + 30 * e + 16 + 1 + 1 + 3 * s) 0 1) V := RM_FM h2 (FM_uI (by omega))
      have y := y _ g
      rw [if_pos hh] at y
      exact ⟨_, y, rfl, uV V 63 (4 * e + s) 0 1, w, W, RC_FC (cu63 h1 he hs (by omega) 1) (FC_tr (FC_uI (by omega)) (FC_uI (by omega))), nu63 (RM_sm g (by unfold Sm; omega)) (by omega) rfl rfl 1, Iv_more (Iv_free h3 (by omega)) (by omega) (by omega)⟩
    · rw [if_neg hh] at x
      refine ⟨_, x, ?_⟩
      have y := y _ h2
      rw [if_neg hh] at y
      exact ⟨_, y, rfl, St_more (St_84 h) (by omega) (by omega)⟩
  · refine ⟨(0, m), ?_, (0, ab_uI m 84 98 0 0), ?_, rfl, St_more (St_84 h) (by omega) (by omega)⟩
    · rw [r_X_reset_eq, b_X_reset_0_eq, s_isStream]
      simp only [if_neg hv, bo_0, bo_1, ob_s, lt_eq, rI_ite, rI_some, rV_ite, rV_some, ib_if]
    · rw [r_M_reset_eq, b_M_reset_0_eq]
      simp only [t_isStream, if_neg hv, bo_0, bo_1, ob_s, lt_eq, rI_ite, rI_some, rV_ite, rV_some, ib_if]
theorem J_close {c : Nat} {m : Mm} (h : St c m) (hc : c < 512) (v u : Int32) : Jn c (r_X_close 0 v u m) (r_M_close 98 v u) := by
  obtain ⟨V, w, W, h1, h2, h3⟩ := id h
  by_cases hv : 0 ≤ v ∧ v < 2
  · obtain ⟨e, he, rfl⟩ := i_of (N := 2) hv.1 hv.2 (by decide)
    have i22 : -1 ≤ V 22 e 0 := (h3.2.2.1 e he).2.1
    have x : r_X_close 0 (nI e) u m = some (ib (V 22 e 0 = -1 ∧ 0 ≤ u ∧ u ≤ 63), if V 22 e 0 = -1 ∧ 0 ≤ u ∧ u ≤ 63 then ab_uI (ab_uI m 22 (0 + 1 + 5 + 30 * e) 0 u) 28 (0 + 1 + 5 + 30 * e) 0 1 else m) := by
      rw [r_X_close_eq, b_X_close_0_eq, s_isEnd]
      simp only [if_pos hv, ab_ix_nI he (show 2 < 2 ^ 31 by decide), s_isOpen, c22 h1 he (p := 0 + 1 + 5 + 30 * e) (by omega), s_shut _ _ _ (.inr rfl), ib, bo_0, bo_1, ob_s, lt_eq, rI_ite, rI_some, rV_ite, rV_some, ib_if]
      grind
    have y : ∀ m1, RM m1 V → r_M_close 98 (nI e) u m1 = some (ib (V 22 e 0 = -1 ∧ 0 ≤ u ∧ u ≤ 63), if V 22 e 0 = -1 ∧ 0 ≤ u ∧ u ≤ 63 then ab_uI (ab_uI (ab_uI m1 84 98 0 0) 154 (98 + 22) e u) 159 (98 + 27) e 1 else ab_uI m1 84 98 0 0) := by
      intro m1 g
      have g' : RM (ab_uI m1 84 98 0 0) V := RM_sm g (by unfold Sm; omega)
      rw [r_M_close_eq, b_M_close_0_eq]
      simp only [t_in, if_pos (show (0 : Int32) ≤ nI e ∧ nI e ≤ 1 by grind [nI_T]), ab_ix_nI he (show 2 < 2 ^ 31 by decide), n22 g' he (p := 98 + 22) rfl rfl, ib, bo_0, bo_1, ob_s, lt_eq, rI_ite, rI_some, rV_ite, rV_some, ib_if]
      grind
    by_cases hh : V 22 e 0 = -1 ∧ 0 ≤ u ∧ u ≤ 63
    · rw [if_pos hh] at x
      refine ⟨_, x, ?_⟩
      have g : RM (ab_uI (ab_uI m 22 (0 + 1 + 5 + 30 * e) 0 u) 28 (0 + 1 + 5 + 30 * e) 0 1) V := RM_FM h2 (FM_tr (FM_uI (by omega)) (FM_uI (by omega)))
      have y := y _ g
      rw [if_pos hh] at y
      exact ⟨_, y, rfl, uV (uV V 22 e 0 u) 28 e 0 1, w, W, RC_FC (cu28 (cu22 h1 he (by omega) u) he (by omega) 1) (FC_tr (FC_tr (FC_uI (by omega)) (FC_uI (by omega))) (FC_uI (by omega))), nu28 (nu22 (RM_sm g (by unfold Sm; omega)) he rfl rfl u (by grind)) he rfl rfl 1, Iv_more (Iv_shut h3 hh.2.1 (by have := hh.2.2; clear h1 h2 h3 h x y g; grind)) (by omega) (by omega)⟩
    · rw [if_neg hh] at x
      refine ⟨_, x, ?_⟩
      have y := y _ h2
      rw [if_neg hh] at y
      exact ⟨_, y, rfl, St_more (St_84 h) (by omega) (by omega)⟩
  · refine ⟨(0, m), ?_, (0, ab_uI m 84 98 0 0), ?_, rfl, St_more (St_84 h) (by omega) (by omega)⟩
    · rw [r_X_close_eq, b_X_close_0_eq, s_isEnd]
      simp only [if_neg hv, bo_0, bo_1, ob_s, lt_eq, rI_ite, rI_some, rV_ite, rV_some, ib_if]
    · rw [r_M_close_eq, b_M_close_0_eq]
      simp only [t_in, if_neg (show ¬ ((0 : Int32) ≤ v ∧ v ≤ 1) by grind), bo_0, bo_1, ob_s, lt_eq, rI_ite, rI_some, rV_ite, rV_some, ib_if]
end
