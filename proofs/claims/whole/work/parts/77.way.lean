section
/-! The packets under way. -/
theorem cw {m : Mm} {V : Vt} {w W : Nat → Nat} (h : RC m V w W) {a p : Nat} (ha : a < 16) (hp : p = 2) : m.2.2.1 9 p a = some (w a) := by
  rw [hp]
  exact h.2.1 a ha
theorem c11 {m : Mm} {V : Vt} {w W : Nat → Nat} (h : RC m V w W) {a : Nat} (ha : a < 16) (hl : nI a < V 5 0 0) : m.1 11 (w a) 0 = V 11 a 0 := (h.2.2.1 a ha hl).1
theorem c12 {m : Mm} {V : Vt} {w W : Nat → Nat} (h : RC m V w W) {a : Nat} (ha : a < 16) (hl : nI a < V 5 0 0) : m.1 12 (w a) 0 = V 12 a 0 := (h.2.2.1 a ha hl).2.1
theorem c13 {m : Mm} {V : Vt} {w W : Nat → Nat} (h : RC m V w W) {a b : Nat} (ha : a < 16) (hl : nI a < V 5 0 0) (hb : b < 40) : m.1 13 (w a + 1) b = V 13 a b := (h.2.2.1 a ha hl).2.2 b hb
theorem n12 {m : Mm} {V : Vt} (h : RM m V) {a p j : Nat} (ha : a < 16) (hl : nI a < V 5 0 0) (hp : p = 132) (hj : j = 42 * a) : m.1 166 p j = V 12 a 0 := by
  rw [hp, hj]
  exact (h.2.2.2.1 a ha hl).1
theorem n11 {m : Mm} {V : Vt} (h : RM m V) {a p j : Nat} (ha : a < 16) (hl : nI a < V 5 0 0) (hp : p = 132) (hj : j = 42 * a + 1) : m.1 166 p j = V 11 a 0 := by
  rw [hp, hj]
  exact (h.2.2.2.1 a ha hl).2.1
theorem n13 {m : Mm} {V : Vt} (h : RM m V) {a b p j : Nat} (ha : a < 16) (hl : nI a < V 5 0 0) (hb : b < 40) (hs : nI b < V 11 a 0) (hp : p = 132) (hj : j = 42 * a + 2 + b) : m.1 166 p j = V 13 a b := by
  rw [hp, hj]
  exact (h.2.2.2.1 a ha hl).2.2 b hb hs
theorem okK {V : Vt} {k : Int32} (h3 : 0 ≤ V 5 0 0 ∧ V 5 0 0 ≤ 16) (h : 0 ≤ k ∧ k < V 5 0 0) : ∃ a : Nat, a < 16 ∧ k = nI a ∧ nI a < V 5 0 0 := by
  obtain ⟨a, ha, rfl⟩ := i_of (N := 16) h.1 (by grind [nI_T]) (by decide)
  exact ⟨a, ha, rfl, h.2⟩
theorem nI_42a (a : Nat) : (42 : Int32) * nI a = nI (42 * a) := by
  unfold nI
  rw [← show Int32.ofNat 42 = 42 from rfl, ← Int32.ofNat_mul]
theorem J_packet {c : Nat} {m : Mm} (h : St c m) (hc : c < 512) (v u : Int32) : Jn c (r_X_packet 0 v u m) (r_M_packet 98 v u) := by
  obtain ⟨V, w, W, h1, h2, h3⟩ := id h
  have h2' : RM (ab_uI m 84 98 0 0) V := RM_sm h2 (by unfold Sm; omega)
  have f5 := h2'.2.1.1
  by_cases hv : 0 ≤ v ∧ v < V 5 0 0
  · obtain ⟨a, ha, rfl, hl⟩ := okK h3.2.2.2.1.1 hv
    have ir := h3.2.2.2.2.1 a ha hl
    unfold IR at ir
    by_cases hu : 0 ≤ u ∧ u < V 11 a 0
    · obtain ⟨b, hb, rfl⟩ := i_of (N := 40) hu.1 (by grind [nI_T]) (by decide)
      refine ⟨(V 13 a b, m), ?_, (V 13 a b, ab_uI m 84 98 0 0), ?_, rfl, St_more (St_84 h) (by omega) (by omega)⟩
      · rw [r_X_packet_eq, b_X_packet_0_eq, s_isUnderWay, c5 h1 rfl]
        simp only [if_pos hv, ab_ix_nI ha (show 16 < 2 ^ 31 by decide), ab_ix_nI hb (show 40 < 2 ^ 31 by decide), cw h1 ha (p := 0 + 2) rfl, c11 h1 ha hl, c12 h1 ha hl, c13 h1 ha hl hb, bo_0, bo_1, ob_s, lt_eq, rI_ite, rI_some, rV_ite, rV_some, ib_if]
        grind [nI_T]
      · rw [r_M_packet_eq, b_M_packet_0_eq]
        simp only [t_flies, f5, if_pos hv, nI_42a, show nI (42 * a) + 1 = nI (42 * a + 1) from nI_1 _, show nI (42 * a) + 2 = nI (42 * a + 2) from nI_add _ 2, nI_add, ab_ix_nI (show 42 * a + 1 < 672 by omega) (show 672 < 2 ^ 31 by decide), ab_ix_nI (show 42 * a < 672 by omega) (show 672 < 2 ^ 31 by decide), ab_ix_nI (show 42 * a + 2 + b < 672 by omega) (show 672 < 2 ^ 31 by decide), n11 h2' ha hl (p := 98 + 34) rfl rfl, n13 h2' ha hl hb hu.2 (p := 98 + 34) rfl rfl, bo_0, bo_1, ob_s, lt_eq, rI_ite, rI_some, rV_ite, rV_some, ib_if]
        grind [nI_T]
    · refine ⟨(if u = -1 then V 11 a 0 else if u = -2 then V 12 a 0 else -1, m), ?_, (if u = -1 then V 11 a 0 else if u = -2 then V 12 a 0 else -1, ab_uI m 84 98 0 0), ?_, rfl, St_more (St_84 h) (by omega) (by omega)⟩
      · rw [r_X_packet_eq, b_X_packet_0_eq, s_isUnderWay, c5 h1 rfl]
        simp only [if_pos hv, ab_ix_nI ha (show 16 < 2 ^ 31 by decide), cw h1 ha (p := 0 + 2) rfl, c11 h1 ha hl, c12 h1 ha hl, bo_0, bo_1, ob_s, lt_eq, rI_ite, rI_some, rV_ite, rV_some, ib_if]
        grind
      · rw [r_M_packet_eq, b_M_packet_0_eq]
        by_cases hm : u = -1
        · subst hm
          simp only [t_flies, f5, if_pos hv, nI_42a, show nI (42 * a) + 1 = nI (42 * a + 1) from nI_1 _, show nI (42 * a) + 2 + (-1) = nI (42 * a + 1) by grind [nI_T], ab_ix_nI (show 42 * a + 1 < 672 by omega) (show 672 < 2 ^ 31 by decide), n11 h2' ha hl (p := 98 + 34) rfl rfl, bo_0, bo_1, ob_s, lt_eq, rI_ite, rI_some, rV_ite, rV_some, ib_if]
          grind
        · simp only [t_flies, f5, if_pos hv, nI_42a, show nI (42 * a) + 1 = nI (42 * a + 1) from nI_1 _, ab_ix_nI (show 42 * a + 1 < 672 by omega) (show 672 < 2 ^ 31 by decide), ab_ix_nI (show 42 * a < 672 by omega) (show 672 < 2 ^ 31 by decide), n11 h2' ha hl (p := 98 + 34) rfl rfl, n12 h2' ha hl (p := 98 + 34) rfl rfl, bo_0, bo_1, ob_s, lt_eq, rI_ite, rI_some, rV_ite, rV_some, ib_if]
          grind
  · refine ⟨(-1, m), ?_, (-1, ab_uI m 84 98 0 0), ?_, rfl, St_more (St_84 h) (by omega) (by omega)⟩
    · rw [r_X_packet_eq, b_X_packet_0_eq, s_isUnderWay, c5 h1 rfl]
      simp only [if_neg hv, bo_0, bo_1, ob_s, lt_eq, rI_ite, rI_some, rV_ite, rV_some, ib_if]
    · rw [r_M_packet_eq, b_M_packet_0_eq]
      simp only [t_flies, f5, if_neg hv, bo_0, bo_1, ob_s, lt_eq, rI_ite, rI_some, rV_ite, rV_some, ib_if]
/-- a row of the way is written -/
theorem RC_row {m : Mm} {V : Vt} {w W : Nat → Nat} (h : RC m V w W) {k a b p : Nat} {x : Int32} (hk : ((k = 11 ∨ k = 12) ∧ p = w a ∧ b = 0) ∨ (k = 13 ∧ p = w a + 1 ∧ b < 40)) (ha : a < 16) : RC (ab_uI m k p b x) (uV V k a b x) w W := by
  obtain ⟨h1, h2, h3, h4, h5, h6, h7⟩ := h
  have wa := h6.1 a ha
  have k2 : k ≠ 21 := by omega
  refine ⟨fun k' a' b' t => ?_, h2, fun a' ha' hl' => ?_, fun a' ha' => ?_, fun e he => ?_, h6, Wok_uV k2 h7⟩
  · have := Ts_k t
    rw [uI_r _ _ _ _ _ _ _ _ (by omega), uV_k _ _ _ _ _ (by omega)]; exact h1 k' a' b' t
  · rw [uV_k _ _ _ _ _ (by omega)] at hl'
    have wa' := h6.1 a' ha'
    have inj : w a' = w a → a' = a := h6.2 a' a ha' ha
    have g := h3 a' ha' hl'
    rw [uI_1, uI_1]
    unfold uV
    refine ⟨?_, ?_, fun b' hb => ?_⟩
    · by_cases e : a' = a
      · subst e
        split
        · rw [if_pos (by omega)]
        · rw [if_neg (by omega)]; exact g.1
      · rw [if_neg (fun z => e (inj (by omega))), if_neg (by omega)]; exact g.1
    · by_cases e : a' = a
      · subst e
        split
        · rw [if_pos (by omega)]
        · rw [if_neg (by omega)]; exact g.2.1
      · rw [if_neg (fun z => e (inj (by omega))), if_neg (by omega)]; exact g.2.1
    · rw [uI_1]
      by_cases e : a' = a
      · subst e
        split
        · rw [if_pos (by omega)]
        · rw [if_neg (by omega)]; exact g.2.2 b' hb
      · rw [if_neg (fun z => e (inj (by omega))), if_neg (by omega)]; exact g.2.2 b' hb
  · have ha := (Sa_uV k2 a').mp ha'
    refine ⟨(h4 a' ha).1, fun k' b' t' => ?_⟩
    have : k' ≠ k := by unfold TS at t'; omega
    rw [uI_r _ _ _ _ _ _ _ _ this, uV_k _ _ _ _ _ this]; exact (h4 a' ha).2 k' b' t'
  · rw [uI_r _ _ _ _ _ _ _ _ (by omega)]; exact h5 e he
/-- a byte of a row of the model is written -/
theorem RM_row {m : Mm} {V : Vt} (h : RM m V) {a b p j : Nat} {x : Int32} (ha : a < 16) (hb : b < 40) (hp : p = 132) (hj : j = 42 * a + 2 + b) : RM (ab_uI m 166 p j x) (uV V 13 a b x) := by
  subst hp hj
  obtain ⟨h1, h2, h3, h4, h5⟩ := h
  refine ⟨fun k' a' b' t' z' => ?_, ?_, fun e he => ?_, fun a' ha' hl => ?_, fun a' ha' => ?_⟩
  · have := mr_in k' (Ts_k t').1
    have := Ts_k t'
    rw [uI_r _ _ _ _ _ _ _ _ (by omega), uV_k _ _ _ _ _ (by omega)]; exact h1 k' a' b' t' z'
  · exact h2
  · exact h3 e he
  · have g := h4 a' ha' hl
    rw [uI_1, if_neg (by omega), uI_1, if_neg (by omega)]
    refine ⟨g.1, g.2.1, fun b' hb' hc => ?_⟩
    rw [uI_1]
    unfold uV
    by_cases e : a' = a ∧ b' = b
    · rw [if_pos (by omega), if_pos (by omega)]
    · rw [if_neg (by omega), if_neg (by omega)]
      exact g.2.2 b' hb' hc
  · exact h5 a' ((Sa_uV (by omega) a').mp ha')
theorem J_spoil {c : Nat} {m : Mm} (h : St c m) (hc : c < 512) (v u t : Int32) : Jn c (r_X_spoil 0 v u t m) (r_M_spoil 98 v u t) := by
  obtain ⟨V, w, W, h1, h2, h3⟩ := id h
  have h2' : RM (ab_uI m 84 98 0 0) V := RM_sm h2 (by unfold Sm; omega)
  have f5 := h2'.2.1.1
  by_cases hv : 0 ≤ v ∧ v < V 5 0 0
  · obtain ⟨a, ha, rfl, hl⟩ := okK h3.2.2.2.1.1 hv
    have ir := h3.2.2.2.2.1 a ha hl
    unfold IR at ir
    by_cases hu : (0 ≤ u ∧ u < V 11 a 0) ∧ 1 ≤ t ∧ t ≤ 255
    · obtain ⟨b, hb, rfl⟩ := i_of (N := 40) hu.1.1 (by grind [nI_T]) (by decide)
      have hbb := ir.2.2 b hb hu.1.2
      refine ⟨(1, ab_uI m 13 (w a + 1) b (V 13 a b ^^^ t)), ?_, (1, ab_uI (ab_uI (ab_uI m 13 (w a + 1) b (V 13 a b ^^^ t)) 84 98 0 0) 166 (98 + 34) (42 * a + 2 + b) (V 13 a b ^^^ t)), ?_, rfl, ?_⟩
      · rw [r_X_spoil_eq, b_X_spoil_0_eq, s_isUnderWay, c5 h1 rfl]
        simp only [if_pos hv, ab_ix_nI ha (show 16 < 2 ^ 31 by decide), ab_ix_nI hb (show 40 < 2 ^ 31 by decide), cw h1 ha (p := 0 + 2) rfl, c11 h1 ha hl, c13 h1 ha hl hb, bo_0, bo_1, ob_s, lt_eq, rI_ite, rI_some, rV_ite, rV_some, ib_if]
        grind [nI_T]
      · have g0 : RM (ab_uI m 13 (w a + 1) b (V 13 a b ^^^ t)) V := RM_FM h2 (FM_uI (by omega))
        have g : RM (ab_uI (ab_uI m 13 (w a + 1) b (V 13 a b ^^^ t)) 84 98 0 0) V := RM_sm g0 (by unfold Sm; omega)
        have f5 := g.2.1.1
        rw [r_M_spoil_eq, b_M_spoil_0_eq]
        simp only [t_flies, f5, if_pos hv, nI_42a, show nI (42 * a) + 1 = nI (42 * a + 1) from nI_1 _, show nI (42 * a) + 2 = nI (42 * a + 2) from nI_add _ 2, nI_add, ab_ix_nI (show 42 * a + 1 < 672 by omega) (show 672 < 2 ^ 31 by decide), ab_ix_nI (show 42 * a + 2 + b < 672 by omega) (show 672 < 2 ^ 31 by decide), t_in, n11 g ha hl (p := 98 + 34) rfl rfl, n13 g ha hl hb hu.1.2 (p := 98 + 34) rfl rfl, bo_0, bo_1, ob_s, lt_eq, rI_ite, rI_some, rV_ite, rV_some, ib_if]
        grind [nI_T]
      · have g0 : RM (ab_uI m 13 (w a + 1) b (V 13 a b ^^^ t)) V := RM_FM h2 (FM_uI (by omega))
        have g : RM (ab_uI (ab_uI m 13 (w a + 1) b (V 13 a b ^^^ t)) 84 98 0 0) V := RM_sm g0 (by unfold Sm; omega)
        refine ⟨uV V 13 a b (V 13 a b ^^^ t), w, W, RC_FC (RC_row h1 (.inr ⟨rfl, rfl, hb⟩) ha) (FC_tr (FC_uI (by omega)) (FC_uI (by omega))), RM_row g ha hb rfl rfl, ?_⟩
        refine Iv_more (Iv_k h3 (by omega) (fun a ha => IO_k (by omega) (h3.1 a ha)) (fun a ha => IN_k (by omega) (h3.2.1 a ha)) (fun e he => IE_k (by omega) (h3.2.2.1 e he)) (IX_k (by omega) h3.2.2.2.1) (fun a' ha' hl' => ?_) (fun a ha => IS_k (by omega) (h3.2.2.2.2.2 a ha))) (by omega) (by omega)
        have ir' := h3.2.2.2.2.1 a' ha' hl'
        unfold IR at *
        rw [uV_k _ _ _ _ _ (by omega), uV_k _ _ _ _ _ (by omega)]
        refine ⟨ir'.1, ir'.2.1, fun b' hb' hc' => ?_⟩
        unfold uV
        split
        · exact xor_byte hbb hu.2
        · exact ir'.2.2 b' hb' hc'
    · refine ⟨(0, m), ?_, (0, ab_uI m 84 98 0 0), ?_, rfl, St_more (St_84 h) (by omega) (by omega)⟩
      · rw [r_X_spoil_eq, b_X_spoil_0_eq, s_isUnderWay, c5 h1 rfl]
        simp only [if_pos hv, ab_ix_nI ha (show 16 < 2 ^ 31 by decide), cw h1 ha (p := 0 + 2) rfl, c11 h1 ha hl, bo_0, bo_1, ob_s, lt_eq, rI_ite, rI_some, rV_ite, rV_some, ib_if]
        grind
      · rw [r_M_spoil_eq, b_M_spoil_0_eq]
        simp only [t_flies, f5, if_pos hv, nI_42a, show nI (42 * a) + 1 = nI (42 * a + 1) from nI_1 _, ab_ix_nI (show 42 * a + 1 < 672 by omega) (show 672 < 2 ^ 31 by decide), t_in, n11 h2' ha hl (p := 98 + 34) rfl rfl, bo_0, bo_1, ob_s, lt_eq, rI_ite, rI_some, rV_ite, rV_some, ib_if]
        grind
  · refine ⟨(0, m), ?_, (0, ab_uI m 84 98 0 0), ?_, rfl, St_more (St_84 h) (by omega) (by omega)⟩
    · rw [r_X_spoil_eq, b_X_spoil_0_eq, s_isUnderWay, c5 h1 rfl]
      simp only [if_neg hv, bo_0, bo_1, ob_s, lt_eq, rI_ite, rI_some, rV_ite, rV_some, ib_if]
    · rw [r_M_spoil_eq, b_M_spoil_0_eq]
      simp only [t_flies, f5, if_neg hv, bo_0, bo_1, ob_s, lt_eq, rI_ite, rI_some, rV_ite, rV_some, ib_if]
end
