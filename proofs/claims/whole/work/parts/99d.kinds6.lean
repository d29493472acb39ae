section
theorem nums_3L {B : Nat → Nat} {s p p3 : Nat} {L : List Nat} (hB : ∀ j, B j < 256) (h : nums B s 3 p = some (L, p3)) : ∃ l f r p1 p2, L = [l, f, r] ∧ num B p s = some (l, p1) ∧ num B p1 s = some (f, p2) ∧ num B p2 s = some (r, p3) := by
  rw [nums_s] at h
  cases h1 : num B p s with
  | none => rw [h1] at h; cases h
  | some z =>
    obtain ⟨l, p1⟩ := z
    rw [h1] at h
    simp only at h
    rw [nums_2] at h
    cases h2 : num B p1 s with
    | none => rw [h2] at h; cases h
    | some z2 =>
      obtain ⟨f, p2⟩ := z2
      rw [h2] at h
      simp only at h
      cases h3 : num B p2 s with
      | none => rw [h3] at h; cases h
      | some z3 =>
        obtain ⟨r, p4⟩ := z3
        rw [h3] at h
        cases h
        exact ⟨l, f, r, p1, p2, rfl, rfl, h2, h3⟩
theorem F_1 {c e E R q s p N : Nat} {B : Nat → Nat} {m mm : Mm} {V : Vt} {w W : Nat → Nat} {x0 : Int32} (h : HY c e E R q s p N B m mm V w W x0) (hk : B p = 1) : FR c e E R q s p B m mm V w W x0 := by
  obtain ⟨h1, h2, h3, h4, h5, h6, h7, h8, h9, h10, h11, he, hE, hR, hp, hs, hB⟩ := h
  subst hR
  obtain ⟨a2, a1⟩ := s_stepAck (kd_Rd (b := B p) h2) hB hs (show p + 1 ≤ s by omega)
  obtain ⟨b2, b1⟩ := t_ackNo (e := e) hs (show p + 1 ≤ s by omega) hB h4 h5
  have mf : ∀ z, r_M_ack 98 (nI e) mm = some z → r_M_frame 98 (nI e) (nI (B p)) mm = some z := by
    intro z hz
    rw [r_M_frame_eq, b_M_frame_0_eq, hk, if_pos (by decide), if_neg (by decide), if_pos (by decide), hz]
    rfl
  have st : ∀ z : Int32 × Mm, z.1 = 0 ∨ z.1 = 1 → r_Rdr_stepAck (E + 3) (kd m (E + 3) p (B p)) = some z → r_Rdr_step (E + 3) m = some z := by
    intro z hz0 hz
    rw [r_Rdr_step_eq, s_step h2 hs hp, if_neg (show ¬ nI (B p) = (0 : Int32) by rw [hk]; decide), if_pos (show nI (B p) = (1 : Int32) by rw [hk]; rfl), hz]
    try simp only [ob_s, lt_eq]
    rcases hz0 with y | y
    · rw [y, bo_0]
      try simp only [ob_s, lt_eq]
      rw [rI_some, ← y]
    · rw [y, bo_1]
      try simp only [ob_s, lt_eq]
      rw [rI_some, ← y]
  have g1 := RC_sRd h1 (kd_FS (R := E + 3) (p := p) (b := B p))
  have fk : FM m (kd m (E + 3) p (B p)) := FS_FM kd_FS (fun r hr => by unfold sRd at hr; omega)
  have IvU := Iv_26 (e := e) (x := x0) h6 h9 (fun _ => h8)
  have bad : ∀ m' mm', r_Rdr_stepAck (E + 3) (kd m (E + 3) p (B p)) = some (0, m') → FS sRd (kd m (E + 3) p (B p)) m' → r_M_ack 98 (nI e) mm = some (1, mm') → FS s170 mm mm' → FR c e E (E + 3) q s p B m mm V w W x0 := by
    intro m' mm' y1 y2 y3 y4
    exact ⟨1, m', mm', V, cf_1 (st (0, m') (.inl rfl) y1), mf _ y3, RC_sRd g1 y2, RM_170 h3 y4, h6, FM_tr fk (FS_FM y2 (fun r hr => by unfold sRd at hr; omega)), FS_s170C y4, rfl, .inr (.inr ⟨by decide, h7⟩)⟩
  cases hn : nums B s 3 (p + 1) with
  | none =>
    obtain ⟨m', c1, c2⟩ := a2 hn
    obtain ⟨mm', d1, d2⟩ := b2 hn
    exact bad m' mm' c1 c2 d1 d2
  | some z =>
    obtain ⟨L, p3⟩ := z
    obtain ⟨l, f, r, p1, p2, rfl, n1, n2, n3⟩ := nums_3L hB hn
    have l1 := num_lt hB n1
    have l2 := num_lt hB n2
    have l3 := num_lt hB n3
    obtain ⟨a3, a4, a5⟩ := a1 l f r p3 hn
    obtain ⟨b3, b4⟩ := b1 l f r p3 hn
    by_cases z : 2 < r
    · obtain ⟨m', c1, c2⟩ := a3 z
      obtain ⟨mm', d1, d2⟩ := b3 z
      exact bad m' mm' c1 c2 d1 d2
    · have hr : r ≤ 2 := by omega
      cases hn2 : nums B s (2 * r) p3 with
      | none =>
        obtain ⟨m', c1, c2⟩ := a4 hr hn2
        obtain ⟨mm', d1, d2⟩ := b4 hr hn2
        exact bad m' mm' c1 c2 d1 d2
      | some z2 =>
        obtain ⟨L2, p'⟩ := z2
        have lq := nums_le hB hn2 l3.2.2
        obtain ⟨F, f1, f2, f3, f4⟩ := nums_pairs hB r p3 L2 p' hn2 l3.2.2
        subst f4
        obtain ⟨m', c1, c2, c3, k33, an⟩ := a5 hr F p' f1 hn2
        rw [kd_33, hk] at k33
        have g2 := RC_sRd g1 c2
        have tf : cf E (E + 3) m = ab_rI ((r_End_takeAck E (E + 3 + 1) m').bind fun z14 => some (.inl (some (.inl z14.1), z14.2))) := by
          rw [cf_t (st (1, m') (.inr rfl) c1), r_End_takeFrame_eq, b_End_takeFrame_0_eq, k33, if_pos (by decide)]
        obtain ⟨t1, t2⟩ := s_takeAck g2 h6 he hE h10 h11 l1.1 l2.1 f3 an
        have hU : uV V 26 e 0 x0 21 e 0 = nI N := by rw [uV_k _ _ _ _ _ (by omega)]; exact h10
        obtain ⟨u1, u2⟩ := t_ack h3 IvU he hU h11 hs (show p + 1 ≤ s by omega) hB h4 h5 l f r p1 p2 p3 n1 n2 n3 hr F p' f1 f2 f3
        have fm0 : FM m m' := FM_tr fk (FS_FM c2 (fun r hr => by unfold sRd at hr; omega))
        by_cases y : l < N ∧ nd f F ≤ l
        · obtain ⟨m2, e1, e2, e3, e4⟩ := t2 y
          obtain ⟨mm2, w1, w2, w3, w4⟩ := u1 y
          refine ⟨0, m2, mm2, akA e l f F V, by rw [tf, e1]; rfl, mf _ w1, e2, by rw [← akA_26]; exact w2, e3, FM_tr fm0 (FS_FM e4 (fun r hr => by unfold sTa sAk sLs at hr; omega)), FS_FC w4 (fun r hr => by unfold sMa sMl s170 at hr; omega), akA_o (by omega) _ _, .inl ⟨rfl, by rw [akA_o (by omega)]; exact h7, by rw [akA_o (by omega), if_pos hk], by omega, p', by omega, lq.2.2.1, ?_, w3⟩⟩
          exact Rd_FSo c3 e4 (by unfold sTa sAk sLs; omega) (by unfold sTa sAk sLs; omega) (by unfold sTa sAk sLs; omega)
        · obtain ⟨mm2, w1, w2, w3⟩ := u2 y
          exact ⟨5, m', mm2, V, by rw [tf, t1 y]; rfl, mf _ w1, g2, w2, h6, fm0, FS_FC w3 (fun r hr => by unfold sMa sMl s170 at hr; omega), rfl, .inr (.inr ⟨by decide, h7⟩)⟩
/-- every frame -/
theorem F_all {c e E R q s p N : Nat} {B : Nat → Nat} {m mm : Mm} {V : Vt} {w W : Nat → Nat} {x0 : Int32} (h : HY c e E R q s p N B m mm V w W x0) : FR c e E R q s p B m mm V w W x0 := by
  have : B p = 0 ∨ B p = 1 ∨ B p = 2 ∨ B p = 3 ∨ B p = 4 ∨ B p = 5 ∨ B p = 6 ∨ 6 < B p := by omega
  rcases this with z | z | z | z | z | z | z | z
  · exact F_0 h z
  · exact F_1 h z
  · exact F_2 h z
  · exact F_3 h z
  · exact F_4 h z
  · exact F_5 h z
  · exact F_6 h z
  · exact F_7 h z
end
