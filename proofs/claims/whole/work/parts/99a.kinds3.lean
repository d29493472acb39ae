section
theorem lkV_o {V : Vt} {e k : Nat} (hk : k ≠ 44) (a b : Nat) : lkV V e k a b = V k a b := uV_k _ _ _ _ _ hk
theorem rsV_o {V : Vt} {e s v k : Nat} (hk : k ≠ 44 ∧ k ≠ 48 ∧ k ≠ 49 ∧ k ≠ 51) (a b : Nat) : rsV V e s v k a b = V k a b := by
  unfold rsV
  rw [lkV_o (by omega), uV_k _ _ _ _ _ (by omega), uV_k _ _ _ _ _ (by omega), uV_k _ _ _ _ _ (by omega)]
theorem sgV_o {V : Vt} {e s o n k : Nat} {u : Int32} {D : Nat → Int32} (hk : k ≠ 48 ∧ k ≠ 49 ∧ k ≠ 53) (a b : Nat) : sgV V e s o n u D k a b = V k a b := by
  unfold sgV
  split
  · rw [uV_k _ _ _ _ _ (by omega), kpV_o (by omega)]
  · rw [uV_k _ _ _ _ _ (by omega), uV_k _ _ _ _ _ (by omega), kpV_o (by omega)]
theorem ff_in {V : Vt} {e s t : Nat} {u : Int32} (h : ff V e s t u ≠ 0) : 0 < ff V e s t u ∧ ff V e s t u < 100 := by
  unfold ff at *
  by_cases z : V 50 (4 * e + s) 0 < nI t ∨ V 43 e 0 < nI (oth V e s + max (nn (V 48 (4 * e + s) 0)) t)
  · rw [if_pos z]; decide
  · rw [if_neg z] at *
    by_cases z2 : (u ≠ 0 ∧ nI t < V 48 (4 * e + s) 0) ∨ (V 49 (4 * e + s) 0 ≠ -1 ∧ (if u = 0 then V 49 (4 * e + s) 0 < nI t else nI t ≠ V 49 (4 * e + s) 0))
    · rw [if_pos z2]; decide
    · rw [if_neg z2] at h
      exact (h rfl).elim
theorem F_5 {c e E R q s p N : Nat} {B : Nat → Nat} {m mm : Mm} {V : Vt} {w W : Nat → Nat} {x0 : Int32} (h : HY c e E R q s p N B m mm V w W x0) (hk : B p = 5) : FR c e E R q s p B m mm V w W x0 := by
  obtain ⟨h1, h2, h3, h4, h5, h6, h7, h8, h9, h10, h11, he, hE, hR, hp, hs, hB⟩ := h
  subst hR
  obtain ⟨a2, a1⟩ := sK (ct := 2) h2 hB hs hp hk (by omega)
  obtain ⟨b2, b1⟩ := t_two hB hs (show p + 1 ≤ s by omega) h4
  have mf := t_frm (e := e) (k := 5) (mm := mm) (by omega)
  simp only [if_neg (show ¬ (5 : Nat) = 2 by omega), if_true] at mf
  cases hn : nums B s 2 (p + 1) with
  | none =>
    obtain ⟨m', c1, c2⟩ := a2 hn
    obtain ⟨x, y, m1, m2, p2, d1, d2, d3, d4, d5, d6⟩ := b2 hn
    refine ⟨1, m', m2, V, cf_1 c1, ?_, RC_sRd h1 c2, RM_170 h3 d6, h6, FS_FM c2 (fun r hr => by unfold sRd at hr; omega), FS_s170C d6, rfl, .inr (.inr ⟨by decide, h7⟩)⟩
    rw [hk, mf, d1]
    try simp only [ob_s, lt_eq]
    rw [d2]
    try simp only [ob_s, lt_eq]
    rw [d5, if_neg (by decide), rI_some]
  | some z =>
    obtain ⟨L, p1⟩ := z
    obtain ⟨a, v, rfl⟩ := nums_2L hn
    obtain ⟨m', c1, c2, c3, k33, c6⟩ := a1 [a, v] p1 hn
    obtain ⟨m1, d1, d2, d3, d4, d5, d6⟩ := b1 a v p1 hn
    have k0 : m'.1 38 (E + 3 + 1) 0 = nI a := c6 0 (by simp)
    have k1 : m'.1 38 (E + 3 + 1) 1 = nI v := c6 1 (by simp)
    have g2 := RC_sRd h1 c2
    have g3 := cu26 g2 he hE 1
    have M1 : RM (ab_uI mm 124 98 0 (nI p1)) (uV V 26 e 0 x0) := RM_sm h3 (by unfold Sm; omega)
    have k127 : (ab_uI mm 124 98 0 (nI p1)).1 127 98 0 = 0 := by rw [uI_r _ _ _ _ _ _ _ _ (by omega)]; exact h5
    have C1 : Cu (ab_uI mm 124 98 0 (nI p1)) B p1 s := Cu_124 h4
    have tf : cf E (E + 3) m = ab_rI ((r_Int_takeReset (E + 6) (nI a) (nI v) (ab_uI m' 26 E 0 1)).bind fun z8 => some (.inl (some (.inl z8.1), z8.2))) := by
      rw [cf_t c1, r_End_takeFrame_eq, s_tf k33 (by omega) (by omega) (by omega), if_neg (by omega), if_neg (by omega), if_neg (by omega), if_pos rfl, k0, k1]
    have fm0 : FM m (ab_uI m' 26 E 0 1) := FM_tr (FS_FM c2 (fun r hr => by unfold sRd at hr; omega)) (FM_uI (by omega))
    have Iv1 := Iv_26 (e := e) h6 (.inr rfl) (fun _ => h8)
    have IvU := Iv_26 (e := e) (x := x0) h6 h9 (fun _ => h8)
    obtain ⟨t1, t2, t3⟩ := s_takeReset (I := E + 6) (a := a) (v := v) g3 Iv1.2.1 he (by omega) (by omega) (by omega)
    have mf2 : a < 4 → r_M_frame 98 (nI e) (nI (B p)) mm = ab_rI ((r_M_resetBy 98 (nI e) (nI (4 * e + a)) (nI v) (ab_uI mm 124 98 0 (nI p1))).bind fun z6 => some (.inl (some (.inl z6.1), z6.2))) := by
      intro z
      rw [hk, mf, d1]
      try simp only [ob_s, lt_eq]
      rw [d2]
      try simp only [ob_s, lt_eq]
      rw [k127, if_pos rfl, if_pos (by clear a1 a2 b1 b2 mf tf h1 h2 h3 h4 h6 g2 g3 M1 C1 c6 hB Iv1 IvU t1 t2 t3; grind [nI_T]), nI_4]
    by_cases z : a < 4
    · have ffV : ff (uV V 26 e 0 1) e a v 1 = ff V e a v 1 := ff_26
      have ffU : ff (uV V 26 e 0 x0) e a v 1 = ff V e a v 1 := ff_26
      obtain ⟨u1, u2⟩ := t_resetBy (a := a) (v := v) M1 IvU.2.1 (IvU.2.2.1 e he).2.2.2.2.2.2.2.2.2.2.2.1.1 (IvU.2.2.1 e he).2.2.2.2.2.2.2.2.2.2.2.2.1 he z d4
      rw [ffV] at t2 t3
      rw [ffU] at u1 u2
      by_cases y : ff V e a v 1 = 0
      · obtain ⟨m2, e1, e2, e3⟩ := t3 z y
        obtain ⟨mm2, f1, f2, f3⟩ := u2 y
        refine ⟨0, m2, mm2, rsV (uV V 26 e 0 1) e a v, by rw [tf, e1]; rfl, by rw [mf2 z, f1]; rfl, e2, ?_, Iv_rs Iv1 he z (by omega) (by rw [ffV]; exact y), FM_tr fm0 (FS_FM e3 (fun r hr => by unfold sRs at hr; omega)), FC_tr (FC_uI (by omega)) (FS_FC f3 (fun r hr => by omega)), ?_, .inl ⟨rfl, ?_, ?_, by omega, p1, by omega, by omega, ?_, ?_⟩⟩
        · rw [rsV_26, uV_uV, ← rsV_26]
          exact f2
        · rw [rsV_o (by omega), uV_k _ _ _ _ _ (by omega)]
        · rw [rsV_o (by omega), uV_k _ _ _ _ _ (by omega)]; exact h7
        · rw [rsV_o (by omega), uV_s, if_neg (by omega)]
        · exact Rd_FSo (Rd_26 c3) e3 (by unfold sRs; omega) (by unfold sRs; omega) (by unfold sRs; omega)
        · exact Cu_FS C1 f3 (by omega) (by omega) (by omega)
      · exact ⟨ff V e a v 1, _, _, uV V 26 e 0 1, by rw [tf, t2 z y]; rfl, by rw [mf2 z, u1 y]; rfl, g3, by rw [uV_uV]; exact M1, Iv1, fm0, FC_uI (by omega), uV_k _ _ _ _ _ (by omega), .inr (.inr ⟨ff_in y, by rw [uV_k _ _ _ _ _ (by omega)]; exact h7⟩)⟩
    · refine ⟨2, _, ab_uI mm 124 98 0 (nI p1), uV V 26 e 0 1, by rw [tf, t1 (by omega)]; rfl, ?_, g3, by rw [uV_uV]; exact M1, Iv1, fm0, FC_uI (by omega), uV_k _ _ _ _ _ (by omega), .inr (.inr ⟨by decide, by rw [uV_k _ _ _ _ _ (by omega)]; exact h7⟩)⟩
      rw [hk, mf, d1]
      try simp only [ob_s, lt_eq]
      rw [d2]
      try simp only [ob_s, lt_eq]
      rw [k127, if_pos rfl, if_neg (by clear a1 a2 b1 b2 mf tf h1 h2 h3 h4 h6 g2 g3 M1 C1 c6 hB Iv1 IvU t1 t2 t3 mf2; grind [nI_T]), rI_some]
theorem F_6 {c e E R q s p N : Nat} {B : Nat → Nat} {m mm : Mm} {V : Vt} {w W : Nat → Nat} {x0 : Int32} (h : HY c e E R q s p N B m mm V w W x0) (hk : B p = 6) : FR c e E R q s p B m mm V w W x0 := by
  obtain ⟨h1, h2, h3, h4, h5, h6, h7, h8, h9, h10, h11, he, hE, hR, hp, hs, hB⟩ := h
  subst hR
  obtain ⟨a2, a1⟩ := sK (ct := 1) h2 hB hs hp hk (by omega)
  obtain ⟨b1, b2⟩ := t_numberAt h4 hB hs (show p + 1 ≤ s by omega)
  have mf : r_M_frame 98 (nI e) (nI (B p)) mm = ab_rI ((r_M_numberAt 98 mm).bind fun z1 => if z1.2.1 127 98 0 = 0 then b_M_frame_50 49999 98 (ab_uI z1.2 154 (98 + 22) e z1.1) else b_M_frame_50 49999 98 z1.2) := by
    rw [r_M_frame_eq, b_M_frame_0_eq, hk, if_pos (by decide), if_neg (by decide), if_neg (by decide), ab_ix_nI he (by decide)]
    simp only [ob_s, lt_eq, if_pos (show nI 6 = (6 : Int32) by decide)]
  cases hn : num B (p + 1) s with
  | none =>
    obtain ⟨m', c1, c2⟩ := a2 (by rw [nums_1, hn])
    refine ⟨1, m', ab_uI mm 127 98 0 1, V, cf_1 c1, ?_, RC_sRd h1 c2, RM_sm h3 (by unfold Sm; omega), h6, FS_FM c2 (fun r hr => by unfold sRd at hr; omega), FC_uI (by omega), rfl, .inr (.inr ⟨by decide, h7⟩)⟩
    rw [mf, b2 hn]
    try simp only [ob_s, lt_eq]
    rw [uI_s, if_neg (by decide), b_M_frame_50_eq, uI_s, if_neg (by decide), rI_some]
  | some z =>
    obtain ⟨v, p1⟩ := z
    have hv := num_lt hB hn
    obtain ⟨m', c1, c2, c3, k33, c6⟩ := a1 [v] p1 (by rw [nums_1, hn])
    have k0 : m'.1 38 (E + 3 + 1) 0 = nI v := c6 0 (by simp)
    have g2 := RC_sRd h1 c2
    have tf : cf E (E + 3) m = some (0, ab_uI (ab_uI m' 22 E 0 (nI v)) 28 E 0 0) := by
      rw [cf_t c1, r_End_takeFrame_eq, b_End_takeFrame_0_eq, k33, if_neg (by decide), if_pos (by decide), i_ix (x := 0) (k := 0) (n := 7) rfl (by omega) (by decide)]
      try simp only [ob_s, lt_eq]
      rw [k0, s_shut _ _ _ (.inl rfl)]
      rfl
    have M1 : RM (ab_uI mm 124 98 0 (nI p1)) (uV V 26 e 0 x0) := RM_sm h3 (by unfold Sm; omega)
    have k127 : (ab_uI mm 124 98 0 (nI p1)).1 127 98 0 = 0 := by rw [uI_r _ _ _ _ _ _ _ _ (by omega)]; exact h5
    have v0 : 0 ≤ nI v := by
      clear a1 a2 b1 b2 mf tf h1 h2 h3 h4 h6 g2 M1 c6 hB
      grind [nI_T]
    have vn : nI v ≠ -1 := by
      clear a1 a2 b1 b2 mf tf h1 h2 h3 h4 h6 g2 M1 c6 hB
      grind
    have i28 : V 28 e 0 = 0 := (h6.2.2.1 e he).2.2.2.2.2.2.2.2.2.2.2.2.2.2.2.1 h7
    refine ⟨0, _, ab_uI (ab_uI mm 124 98 0 (nI p1)) 154 (98 + 22) e (nI v), uV (uV V 22 e 0 (nI v)) 28 e 0 0, tf, ?_, cu28 (cu22 g2 he hE (nI v)) he hE 0, ?_, Iv_shut h6 v0 (by clear a1 a2 b1 b2 mf tf h1 h2 h3 h4 h6 g2 M1 c6 hB; grind [nI_T]), ?_, FC_tr (FC_uI (by omega)) (FC_uI (by omega)), ?_, .inr (.inl ⟨rfl, ?_⟩)⟩
    · rw [mf, b1 v p1 hn]
      try simp only [ob_s, lt_eq]
      rw [k127, if_pos rfl, b_M_frame_50_eq, uI_r _ _ _ _ _ _ _ _ (by omega), k127, if_pos rfl, rI_some]
    · have := nu22 M1 he (p := 98 + 22) (j := e) rfl rfl (nI v) vn
      have ev : uV (uV (uV V 22 e 0 (nI v)) 28 e 0 0) 26 e 0 x0 = uV (uV V 26 e 0 x0) 22 e 0 (nI v) := by
        have e1 : uV (uV V 22 e 0 (nI v)) 28 e 0 0 = uV V 22 e 0 (nI v) := by
          have := uV_self (V := uV V 22 e 0 (nI v)) (k := 28) (a := e) (b := 0)
          rw [uV_k V 22 e 0 (nI v) (show (28 : Nat) ≠ 22 by omega), i28] at this
          exact this
        rw [e1, uV_comm (k := 22) (k' := 26) (by omega)]
      rw [ev]
      exact this
    · exact FM_tr (FS_FM c2 (fun r hr => by unfold sRd at hr; omega)) (FM_tr (FM_uI (by omega)) (FM_uI (by omega)))
    · rw [uV_k _ _ _ _ _ (by omega), uV_k _ _ _ _ _ (by omega)]
    · rw [uV_k _ _ _ _ _ (by omega), uV_s]; exact v0
end
