section
/-! craft, both sides. -/
theorem Iv_6 {c : Nat} {V : Vt} (h3 : Iv c V) : Iv c (uV V 6 0 0 0) := by
  refine ⟨fun a ha => IO_k (by omega) (h3.1 a ha), fun a ha => IN_k (by omega) (h3.2.1 a ha), fun e he => IE_k (by omega) (h3.2.2.1 e he), ?_, fun a ha hl => IR_k (by omega) (h3.2.2.2.2.1 a ha hl), fun a ha => IS_k (by omega) (h3.2.2.2.2.2 a ha)⟩
  have ix := h3.2.2.2.1
  unfold IX at *
  rw [uV_s, uV_k _ _ _ _ _ (by omega), uV_k _ _ _ _ _ (by omega)]
  refine ⟨ix.1, ⟨by decide, by decide⟩, ix.2.2.1, fun b hb => ?_⟩
  rw [uV_k _ _ _ _ _ (by omega)]
  exact ix.2.2.2 b hb
theorem s_cr {m : Mm} {V : Vt} {w W : Nat → Nat} (h1 : RC m V w W) {e n r : Nat} {B : Nat → Nat} {c0 : Int32} (he : e < 2) (hn : n ≤ 9999) (h6 : V 6 0 0 = nI r) (hr : r ≤ 37) (hB : ∀ j, B j < 256) (h14 : ∀ j, j < r → V 14 0 j = nI (B (j + 1))) (b0 : B 0 = n % 16) (hc : 40503 + nI (1 - e) = c0) (b1 : B (r + 1) = sl (hs B c0 (r + 1)) n / 256) (b2 : B (r + 2) = sl (hs B c0 (r + 1)) n % 256) :
    ∃ m', r_X_craft 0 (nI e) (nI n) m = r_End_receive (6 + 30 * e) 3 m' ∧ RC m' (uV V 6 0 0 0) w W ∧ Wr m' 3 (nI (1 - e)) B (r + 3) ∧ FM m m' := by
  have hf : Fr V w 3 := by
    intro a ha _
    have := h1.2.2.2.2.2.1.1 a ha
    omega
  obtain ⟨m1, a1, a2, a3, a4⟩ := s_rbegin h1 (n := n) (x := nI (1 - e)) (B := B) hf (by omega) b0
  obtain ⟨m2, d1, d2, d3, d4⟩ := s_craft (v1 := nI e) (v2 := nI n) h6 hr hB h14 hf r 0 (49998 - r) m1 (by omega) a2 a3
  have u2 := cu6 d2 (p := 0) rfl 0
  have w2 : Wr (ab_uI m2 6 0 0 0) 3 (nI (1 - e)) B (r + 1) := Wr_FS (S := fun r => r = 6) d3 (FS_uI rfl) (by omega) (by omega) (by omega)
  obtain ⟨m3, g1, g2, g3, g4⟩ := s_rseal u2 (q := 3) (s := r + 1) (n := n) (x := nI (1 - e)) (c0 := c0) (B := B) hf w2 (by omega) hc b1 b2
  refine ⟨m3, ?_, g2, g3, FM_tr (FM_tr (FM_tr (FS_FM a4 (fun r hr => by unfold rw3 at hr; omega)) (FS_FM d4 (fun r hr => by unfold rw3 at hr; omega))) (FM_uI (by omega))) (FS_FM g4 (fun r hr => by unfold rw3 at hr; omega))⟩
  obtain ⟨g, hg⟩ : ∃ g, 49998 - r = g + 1 := ⟨49998 - r - 1, by omega⟩
  rw [show 49998 - r + r = 49998 by omega, hg, show nI 0 = (0 : Int32) from rfl, b_X_craft_39_eq g, c6 d2 rfl, h6, if_pos (Int32.le_refl _)] at d1
  simp only [lt_eq] at d1
  rw [show (0 : Nat) + 3 = 3 from rfl, g1, ab_ix_nI he (by decide)] at d1
  simp only [ob_s] at d1
  rw [r_X_craft_eq, b_X_craft_0_eq, s_isEnd]
  simp only [ob_s, ib_if]
  rw [if_pos (by clear h1 a1 a2 a3 a4 d1 d2 d3 d4 u2 w2 g1 g2 g3 g4 hf h14; grind [nI_T]), if_neg (by clear h1 a1 a2 a3 a4 d1 d2 d3 d4 u2 w2 g1 g2 g3 g4 hf h14; grind [nI_T]), if_pos (by clear h1 a1 a2 a3 a4 d1 d2 d3 d4 u2 w2 g1 g2 g3 g4 hf h14; grind [nI_T]), b_X_craft_33_eq, b_X_craft_33_eq]
  have go : ∀ y : Int32, y = nI (1 - e) → ab_rI ((r_Row_begin (0 + 3) y (nI n) m).bind fun m1 => b_X_craft_39 49998 0 (nI e) (nI n) 0 m1) = r_End_receive (6 + 30 * e) 3 m3 := by
    intro y hy
    rw [hy, show (0 : Nat) + 3 = 3 from rfl, a1, ob_s, d1]
    exact rI_bd _
  by_cases y : nI e = 0
  · rw [if_pos y]
    refine go _ ?_
    clear h1 a1 a2 a3 a4 d1 d2 d3 d4 u2 w2 g1 g2 g3 g4 hf h14 go
    grind [nI_T]
  · rw [if_neg y]
    refine go _ ?_
    clear h1 a1 a2 a3 a4 d1 d2 d3 d4 u2 w2 g1 g2 g3 g4 hf h14 go
    grind [nI_T]
theorem t_cr {m : Mm} {V : Vt} (h1 : RM m V) {e n r : Nat} {B : Nat → Nat} {c0 : Int32} (he : e < 2) (hn : n ≤ 9999) (h6 : V 6 0 0 = nI r) (hr : r ≤ 37) (h14 : ∀ j, j < r → V 14 0 j = nI (B (j + 1))) (b0 : B 0 = n % 16) (hc : 40503 + nI (1 - e) = c0) (b1 : B (r + 1) = sl (hs B c0 (r + 1)) n / 256) (b2 : B (r + 2) = sl (hs B c0 (r + 1)) n % 256) :
    ∃ mm, r_M_craft 98 (nI e) (nI n) m = r_M_receive 98 (nI e) mm ∧ RM mm (uV V 6 0 0 0) ∧ FC m mm ∧ mm.1 123 98 0 = nI (r + 3) ∧ ∀ t, t < r + 3 → mm.1 167 133 t = nI (B t) := by
  have e2 : nI n - nI n / 16 * 16 = nI (n % 16) := nI_rem (k := 16) (by omega) (by decide) (by decide)
  have oe : (1 : Int32) - nI e = nI (1 - e) := by
    clear h1 h14
    grind [nI_T]
  have g1 : RM (ab_uI (ab_uI m 84 98 0 0) 168 134 0 (nI (n % 16))) V := RM_sm (RM_sm h1 (by unfold Sm; omega)) (by unfold Sm; omega)
  have w1 : Wm (ab_uI (ab_uI m 84 98 0 0) 168 134 0 (nI (n % 16))) B 1 := Wm_1 (s := 0) (fun j hj => by omega) (by rw [b0])
  obtain ⟨m2, d1, d2, d3, d4⟩ := t_cr39 (v1 := nI e) (v2 := nI n) h6 hr h14 r 0 (49999 - r) _ (by omega) g1 w1
  have g2 : RM (ab_uI m2 123 98 0 (nI (r + 3))) V := RM_sm d2 (by unfold Sm; omega)
  have w2 : Wm (ab_uI m2 123 98 0 (nI (r + 3))) B (r + 1) := fun j hj => by rw [uI_r _ _ _ _ _ _ _ _ (by omega)]; exact d3 j hj
  obtain ⟨m3, p1, p2, p3, p4⟩ := t_seal g2 (s := r + 1) (n := n) (x := nI (1 - e)) (c0 := c0) w2 (by omega) hc b1 b2
  obtain ⟨m4, q1, q2, q3, q4, q5⟩ := t_cr91 (V := V) (z := r + 3) (v1 := nI e) (B := B) (by omega) (r + 3) 0 (49998 - r - (r + 3)) m3 (by omega) (by rw [FS_g p4 _ _ _ (by omega), uI_s]) p3 (fun t ht => by omega) p2
  refine ⟨ab_uI m4 126 98 0 0, ?_, RM_x q2, FC_tr (FC_tr (FC_tr (FC_tr (FC_tr (FC_tr (FC_uI (by omega)) (FC_uI (by omega))) d4) (FC_uI (by omega))) (FS_FC p4 (fun r hr => by omega))) q3) (FC_uI (by omega)), by rw [uI_r _ _ _ _ _ _ _ _ (by omega)]; exact q4, fun t ht => by rw [uI_r _ _ _ _ _ _ _ _ (by omega)]; exact q5 t ht⟩
  obtain ⟨g, hg⟩ : ∃ g, 49999 - r = g + 1 := ⟨49999 - r - 1, by omega⟩
  have hg2 : 49998 - r - (r + 3) + (r + 3) = g := by omega
  obtain ⟨g', hg'⟩ : ∃ g', 49998 - r - (r + 3) = g' + 1 := ⟨49998 - r - (r + 3) - 1, by omega⟩
  have k6 : m2.1 126 98 0 = nI r := by rw [d2.2.1.2.1, h6]
  have r3 : nI r + 3 = nI (r + 3) := nI_add r 3
  rw [hg2, hg', show nI 0 = (0 : Int32) from rfl, b_M_craft_91_eq g', q4, if_pos (Int32.le_refl _)] at q1
  simp only [lt_eq] at q1
  rw [show 49999 - r + r = 49999 by omega, hg, show nI 0 = (0 : Int32) from rfl, b_M_craft_39_eq g, k6, if_pos (Int32.le_refl _), r3] at d1
  simp only [lt_eq] at d1
  rw [uI_s, oe, show r + 3 = r + 1 + 2 by omega, p1, ob_s, q1] at d1
  rw [r_M_craft_eq, b_M_craft_0_eq]
  simp only [lt_eq, t_in, ob_s, ib_if]
  rw [if_pos (by clear h1 g1 w1 d1 d2 d3 d4 g2 w2 p1 p2 p3 p4 q1 q2 q3 q4 q5 h14; grind [nI_T]), if_pos (by clear h1 g1 w1 d1 d2 d3 d4 g2 w2 p1 p2 p3 p4 q1 q2 q3 q4 q5 h14; grind [nI_T]), if_neg (by decide), i_ix (x := 0) (k := 0) (n := 48) rfl (by omega) (by decide), e2]
  simp only [ob_s]
  rw [d1]
  exact rI_bd _
theorem J_craft {c : Nat} {m : Mm} (h : St c m) (hc : c < 512) (v v2 : Int32) : Jn c (r_X_craft 0 v v2 m) (r_M_craft 98 v v2) := by
  obtain ⟨V, w, W, h1, h2, h3⟩ := id h
  by_cases hv : (0 ≤ v ∧ v < 2) ∧ (0 ≤ v2 ∧ v2 ≤ 9999)
  · obtain ⟨e, he, rfl⟩ := i_of (x := v) (N := 2) hv.1.1 hv.1.2 (by decide)
    obtain ⟨n, hn, rfl⟩ := i_ofc (x := v2) (N := 9999) hv.2.1 hv.2.2 (by decide)
    have ix := h3.2.2.2.1
    obtain ⟨r, hr, h6⟩ := i_ofc (x := V 6 0 0) (N := 37) ix.2.1.1 ix.2.1.2 (by decide)
    have : ∀ j, ∃ b, b < 256 ∧ (j < 37 → V 14 0 j = nI b) := by
      intro j
      by_cases y : j < 37
      · have g := ix.2.2.2 j y
        obtain ⟨b, hb, e⟩ := i_ofc (x := V 14 0 j) (N := 255) g.1 g.2 (by decide)
        exact ⟨b, by omega, fun _ => e⟩
      · exact ⟨0, by omega, fun q => (y q).elim⟩
    obtain ⟨R, hR⟩ := Classical.axiomOfChoice this
    obtain ⟨B, hB, b0, h14, b1, b2⟩ : ∃ B : Nat → Nat, (∀ j, B j < 256) ∧ B 0 = n % 16 ∧ (∀ j, j < r → V 14 0 j = nI (B (j + 1))) ∧ B (r + 1) = sl (hs B (40504 - nI e) (r + 1)) n / 256 ∧ B (r + 2) = sl (hs B (40504 - nI e) (r + 1)) n % 256 := by
      let B0 : Nat → Nat := fun j => if j = 0 then n % 16 else R (j - 1)
      let S := sl (hs B0 (40504 - nI e) (r + 1)) n
      have lt : S < 65536 := sl_lt _ _
      let B : Nat → Nat := fun j => if j < r + 1 then B0 j else if j = r + 1 then S / 256 else S % 256
      have same : ∀ j, j < r + 1 → B j = B0 j := fun j hj => if_pos hj
      have hsame : hs B (40504 - nI e) (r + 1) = hs B0 (40504 - nI e) (r + 1) := hs_c same
      refine ⟨B, fun j => ?_, ?_, fun j hj => ?_, ?_, ?_⟩
      · show (if j < r + 1 then (if j = 0 then n % 16 else R (j - 1)) else if j = r + 1 then S / 256 else S % 256) < 256
        have := (hR (j - 1)).1
        split
        · split <;> omega
        · split <;> omega
      · rw [same 0 (by omega)]
        rfl
      · rw [same _ (by omega)]
        show V 14 0 j = nI (if j + 1 = 0 then n % 16 else R (j + 1 - 1))
        rw [if_neg (by omega), Nat.add_sub_cancel]
        exact (hR j).2 (by omega)
      · rw [hsame]
        show (if r + 1 < r + 1 then B0 (r + 1) else if r + 1 = r + 1 then S / 256 else S % 256) = S / 256
        rw [if_neg (by omega), if_pos rfl]
      · rw [hsame]
        show (if r + 2 < r + 1 then B0 (r + 2) else if r + 2 = r + 1 then S / 256 else S % 256) = S % 256
        rw [if_neg (by omega), if_neg (by omega)]
    have sd : (40503 : Int32) + nI (1 - e) = 40504 - nI e := by
      clear h1 h2 h3 h ix hv h14 b1 b2 h6 hR
      have : e = 0 ∨ e = 1 := by omega
      rcases this with rfl | rfl <;> decide
    obtain ⟨m1, s1, s2, s3, s4⟩ := s_cr h1 he hn h6 hr hB h14 b0 sd b1 b2
    have both : ∀ M, RM M V → ∃ r m' mm' V' mm, r_X_craft 0 (nI e) (nI n) m = some (r, m') ∧ r_M_craft 98 (nI e) (nI n) M = some (r, mm') ∧ RC m' V' w W ∧ RM mm' V' ∧ Iv (c + 1) V' ∧ FM m1 m' ∧ FC M mm ∧ FC mm mm' := by
      intro M hM
      obtain ⟨mm, a1, a2, a3, a4, a5⟩ := t_cr hM he hn h6 hr h14 b0 sd b1 b2
      obtain ⟨r', m', mm', V', b1, b2, b3, b4, b5, b6, b7⟩ := rcv (c := c) (e := e) (q := 3) (z := r + 3) (B := B) he rfl s2 a2 (Iv_6 h3) hc (by omega) (by omega) hB s3.1 s3.2.2 (by rw [s3.2.1]; exact sd) a4 a5
      exact ⟨r', m', mm', V', mm, by rw [s1]; exact b1, by rw [a1]; exact b2, b3, b4, b5, b6, a3, b7⟩
    obtain ⟨r, m', _, _, _, x1, _, _, _, _, x6, _⟩ := both m h2
    obtain ⟨r', m'', mm', V', mm, y1, y2, y3, y4, y5, y6, y7, y8⟩ := both m' (RM_FM h2 (FM_tr s4 x6))
    have : (r', m'') = (r, m') := Option.some.inj (y1.symm.trans x1)
    cases this
    exact ⟨(r, m'), x1, (r, mm'), y2, rfl, V', _, W, RC_FC (RC_FC y3 y7) y8, y4, y5⟩
  · refine ⟨(-1, m), ?_, (-1, ab_uI m 84 98 0 0), ?_, rfl, St_more (St_84 h) (by omega) (by omega)⟩
    · rw [r_X_craft_eq, b_X_craft_0_eq, s_isEnd]
      simp only [ob_s, ib_if]
      by_cases a : 0 ≤ v ∧ v < 2
      · rw [if_pos a]
        by_cases b : v2 < 0
        · rw [if_pos b, rI_some]
        · rw [if_neg b, if_neg (fun y => hv ⟨a, Int32.not_lt.mp b, y⟩), rI_some]
      · rw [if_neg a, rI_some]
    · rw [r_M_craft_eq, b_M_craft_0_eq]
      simp only [lt_eq, t_in, ob_s, ib_if]
      by_cases a : 0 ≤ v ∧ v ≤ 1
      · rw [if_pos a, if_neg (fun y => hv ⟨⟨a.1, by have := a.2; clear h1 h2 h3 h hv; grind⟩, y⟩), rI_some]
      · rw [if_neg a, rI_some]
end
