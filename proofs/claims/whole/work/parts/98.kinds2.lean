section
theorem t_nx {B : Nat → Nat} {s p : Nat} {m : Mm} (hB : ∀ j, B j < 256) (hs : s ≤ 38) (hp : p ≤ s) (hc : Cu m B p s) (hm : m.1 127 98 0 = 1) : ∃ x m1 p1, r_M_numberAt 98 m = some (x, m1) ∧ p1 ≤ s ∧ Cu m1 B p1 s ∧ m1.1 127 98 0 = 1 ∧ FS s170 m m1 := by
  obtain ⟨a1, a2⟩ := t_numberAt hc hB hs hp
  cases hn : num B p s with
  | none =>
    refine ⟨_, _, p, a2 hn, hp, ?_, uI_s _ _ _ _ _, FS_uI (by unfold s170; omega)⟩
    refine ⟨?_, ?_, fun t ht ht' => ?_⟩
    · rw [uI_r _ _ _ _ _ _ _ _ (by omega)]; exact hc.1
    · rw [uI_r _ _ _ _ _ _ _ _ (by omega)]; exact hc.2.1
    · rw [uI_r _ _ _ _ _ _ _ _ (by omega)]; exact hc.2.2 t ht ht'
  | some z =>
    obtain ⟨v, p1⟩ := z
    have := num_lt hB hn
    exact ⟨_, _, p1, a1 v p1 hn, this.2.2, Cu_124 hc, by rw [uI_r _ _ _ _ _ _ _ _ (by omega)]; exact hm, FS_uI (by unfold s170; omega)⟩
theorem t_n0 {B : Nat → Nat} {s p : Nat} {m : Mm} (hB : ∀ j, B j < 256) (hs : s ≤ 38) (hp : p ≤ s) (hc : Cu m B p s) (hn : num B p s = none) : ∃ m1, r_M_numberAt 98 m = some (0, m1) ∧ Cu m1 B p s ∧ m1.1 127 98 0 = 1 ∧ FS s170 m m1 := by
  obtain ⟨a1, a2⟩ := t_numberAt hc hB hs hp
  refine ⟨_, a2 hn, ?_, uI_s _ _ _ _ _, FS_uI (by unfold s170; omega)⟩
  refine ⟨?_, ?_, fun t ht ht' => ?_⟩
  · rw [uI_r _ _ _ _ _ _ _ _ (by omega)]; exact hc.1
  · rw [uI_r _ _ _ _ _ _ _ _ (by omega)]; exact hc.2.1
  · rw [uI_r _ _ _ _ _ _ _ _ (by omega)]; exact hc.2.2 t ht ht'
/-- two numbers, as the model reads them -/
theorem t_two {B : Nat → Nat} {s p : Nat} {m : Mm} (hB : ∀ j, B j < 256) (hs : s ≤ 38) (hp : p ≤ s) (hc : Cu m B p s) :
    (nums B s 2 p = none → ∃ x y m1 m2 p2, r_M_numberAt 98 m = some (x, m1) ∧ r_M_numberAt 98 m1 = some (y, m2) ∧ p2 ≤ s ∧ Cu m2 B p2 s ∧ m2.1 127 98 0 = 1 ∧ FS s170 m m2) ∧
    (∀ a v p2, nums B s 2 p = some ([a, v], p2) → ∃ m1, r_M_numberAt 98 m = some (nI a, m1) ∧ r_M_numberAt 98 m1 = some (nI v, ab_uI m 124 98 0 (nI p2)) ∧ a < 1073741824 ∧ v < 1073741824 ∧ p < p2 ∧ p2 ≤ s) := by
  obtain ⟨a1, a2⟩ := t_numberAt hc hB hs hp
  rw [nums_2]
  cases hn : num B p s with
  | none =>
    refine ⟨fun _ => ?_, fun a v p2 h => (by cases h)⟩
    obtain ⟨m1, b1, b2, b3, b4⟩ := t_n0 hB hs hp hc hn
    obtain ⟨y, m2, p2, c1, c2, c3, c4, c5⟩ := t_nx hB hs hp b2 b3
    exact ⟨0, y, m1, m2, p2, b1, c1, c2, c3, c4, FS_tr b4 c5⟩
  | some z =>
    obtain ⟨v1, p1⟩ := z
    have h1 := num_lt hB hn
    have r1 := a1 v1 p1 hn
    have c1 : Cu (ab_uI m 124 98 0 (nI p1)) B p1 s := Cu_124 hc
    simp only
    cases hn2 : num B p1 s with
    | none =>
      refine ⟨fun _ => ?_, fun a v p2 h => (by cases h)⟩
      obtain ⟨m2, b1, b2, b3, b4⟩ := t_n0 hB hs h1.2.2 c1 hn2
      exact ⟨_, 0, _, m2, p1, r1, b1, h1.2.2, b2, b3, FS_tr (FS_uI (by unfold s170; omega)) b4⟩
    | some z2 =>
      obtain ⟨v2, p2⟩ := z2
      have h2 := num_lt hB hn2
      refine ⟨fun h => (by cases h), fun a v p3 h => ?_⟩
      cases h
      have r2 := (t_numberAt c1 hB hs h1.2.2).1 v2 p2 hn2
      rw [uI_uI] at r2
      exact ⟨_, r1, r2, h1.1, h2.1, by omega, h2.2.2⟩
theorem t_segMiss {B : Nat → Nat} {e s p : Nat} {a o : Int32} {m : Mm} (hB : ∀ j, B j < 256) (hs : s ≤ 38) (hp : p ≤ s) (hc : Cu m B p s) (hm : m.1 127 98 0 = 1) : ∃ m', r_M_segment 98 (nI e) a o m = some (1, m') ∧ FS s170 m m' := by
  obtain ⟨x, m1, p1, b1, b2, b3, b4, b5⟩ := t_nx hB hs hp hc hm
  refine ⟨m1, ?_, b5⟩
  rw [r_M_segment_eq, b_M_segment_0_eq, b1]
  try simp only [ob_s, lt_eq]
  have q : ∀ u v, b_M_segment_25 49999 98 (nI e) a o u v m1 = some (.inl (some (.inl 1), m1)) := by
    intro u v
    rw [b_M_segment_25_eq, b4, if_neg (by decide)]
  rw [if_neg (by decide), if_neg (by decide), q, q]
  by_cases z : x - x / 2 * 2 = 1
  · rw [if_pos z]
    rfl
  · rw [if_neg z]
    rfl
theorem FS_s170C {m m' : Mm} (h : FS s170 m m') : FC m m' := FS_FC h (fun r hr => by unfold s170 at hr; omega)
theorem cf_1 {E R : Nat} {m m' : Mm} (h : r_Rdr_step R m = some (0, m')) : cf E R m = some (1, m') := by
  unfold cf
  rw [h]
  try simp only [ob_s, lt_eq]
  exact if_pos trivial
theorem cf_t {E R : Nat} {m m' : Mm} (h : r_Rdr_step R m = some (1, m')) : cf E R m = r_End_takeFrame E m' := by
  unfold cf
  rw [h]
  try simp only [ob_s, lt_eq]
  rw [if_neg (by decide)]
/-- the model's frames of two numbers -/
theorem t_frm {e k : Nat} {mm : Mm} (hk : k = 2 ∨ k = 4 ∨ k = 5) : r_M_frame 98 (nI e) (nI k) mm = ab_rI ((r_M_numberAt 98 mm).bind fun z1 => (r_M_numberAt 98 z1.2).bind fun z2 => if k = 2 then (r_M_segment 98 (nI e) z1.1 z2.1 z2.2).bind fun z7 => some (.inl (some (.inl z7.1), z7.2)) else if z2.2.1 127 98 0 = 0 then (if z1.1 ≤ 3 then (if k = 5 then (r_M_resetBy 98 (nI e) (4 * nI e + z1.1) z2.1 z2.2).bind fun z6 => some (.inl (some (.inl z6.1), z6.2)) else (ab_ix (4 * nI e + z1.1) 8).bind fun i4 => if z2.1 ≤ z2.2.1 139 (98 + 7) i4 then (ab_ix (4 * nI e + z1.1) 8).bind fun i5 => b_M_frame_202 49999 (98 + 7) (4 * nI e + z1.1) (z2.2.1 139 (98 + 7) i5) z2.2 else b_M_frame_202 49999 (98 + 7) (4 * nI e + z1.1) z2.1 z2.2) else some (.inl (some (.inl 2), z2.2))) else some (.inl (some (.inl 1), z2.2))) := by
  rcases hk with rfl | rfl | rfl
  · rw [r_M_frame_eq, b_M_frame_0_eq, if_pos (by decide), if_neg (by decide), if_neg (by decide)]
    simp only [ob_s, lt_eq, if_neg (show ¬ nI 2 = (6 : Int32) by decide), if_neg (show ¬ nI 2 = (3 : Int32) by decide), if_pos (show nI 2 = (2 : Int32) by decide), if_true]
  · rw [r_M_frame_eq, b_M_frame_0_eq, if_pos (by decide), if_neg (by decide), if_neg (by decide)]
    simp only [ob_s, lt_eq, if_neg (show ¬ nI 4 = (6 : Int32) by decide), if_neg (show ¬ nI 4 = (3 : Int32) by decide), if_neg (show ¬ nI 4 = (2 : Int32) by decide), if_neg (show ¬ nI 4 = (5 : Int32) by decide), if_neg (show ¬ (4 : Nat) = 2 by omega), if_neg (show ¬ (4 : Nat) = 5 by omega)]
  · rw [r_M_frame_eq, b_M_frame_0_eq, if_pos (by decide), if_neg (by decide), if_neg (by decide)]
    simp only [ob_s, lt_eq, if_neg (show ¬ nI 5 = (6 : Int32) by decide), if_neg (show ¬ nI 5 = (3 : Int32) by decide), if_neg (show ¬ nI 5 = (2 : Int32) by decide), if_pos (show nI 5 = (5 : Int32) by decide), if_neg (show ¬ (5 : Nat) = 2 by omega), if_true]
theorem nums_2L {B : Nat → Nat} {s p p' : Nat} {L : List Nat} (h : nums B s 2 p = some (L, p')) : ∃ a v, L = [a, v] := by
  rw [nums_2] at h
  split at h
  · cases h
  · split at h
    · cases h
    · cases h
      exact ⟨_, _, rfl⟩
theorem F_4 {c e E R q s p N : Nat} {B : Nat → Nat} {m mm : Mm} {V : Vt} {w W : Nat → Nat} {x0 : Int32} (h : HY c e E R q s p N B m mm V w W x0) (hk : B p = 4) : FR c e E R q s p B m mm V w W x0 := by
  obtain ⟨h1, h2, h3, h4, h5, h6, h7, h8, h9, h10, h11, he, hE, hR, hp, hs, hB⟩ := h
  subst hR
  obtain ⟨a2, a1⟩ := sK (ct := 2) h2 hB hs hp hk (by omega)
  obtain ⟨b2, b1⟩ := t_two hB hs (show p + 1 ≤ s by omega) h4
  have mf := t_frm (e := e) (k := 4) (mm := mm) (by omega)
  simp only [if_neg (show ¬ (4 : Nat) = 2 by omega), if_neg (show ¬ (4 : Nat) = 5 by omega)] at mf
  cases hn : nums B s 2 (p + 1) with
  | none =>
    obtain ⟨m', c1, c2⟩ := a2 hn
    obtain ⟨x, y, m1, m2, p2, d1, d2, d3, d4, d5, d6⟩ := b2 hn
    refine ⟨1, m', m2, V, cf_1 c1, ?_, RC_sRd h1 c2, RM_170 h3 d6, h6, FS_FM c2 (fun r hr => by unfold sRd at hr; omega), FS_s170C d6, rfl, .inr (.inr ⟨by decide, h7⟩)⟩
    rw [hk, mf, d1]
    try simp only [ob_s, lt_eq]
    rw [d2]
    try simp only [ob_s, lt_eq]
    rw [d5, if_neg (by decide), rI_some]
  | some z =>
    obtain ⟨L, p1⟩ := z
    obtain ⟨a, v, rfl⟩ := nums_2L hn
    obtain ⟨m', c1, c2, c3, k33, c6⟩ := a1 [a, v] p1 hn
    obtain ⟨m1, d1, d2, d3, d4, d5, d6⟩ := b1 a v p1 hn
    have k0 : m'.1 38 (E + 3 + 1) 0 = nI a := c6 0 (by simp)
    have k1 : m'.1 38 (E + 3 + 1) 1 = nI v := c6 1 (by simp)
    have g2 := RC_sRd h1 c2
    have g3 := cu26 g2 he hE 1
    have M1 : RM (ab_uI mm 124 98 0 (nI p1)) (uV V 26 e 0 x0) := RM_sm h3 (by unfold Sm; omega)
    have k127 : (ab_uI mm 124 98 0 (nI p1)).1 127 98 0 = 0 := by rw [uI_r _ _ _ _ _ _ _ _ (by omega)]; exact h5
    have C1 : Cu (ab_uI mm 124 98 0 (nI p1)) B p1 s := Cu_124 h4
    have tf : cf E (E + 3) m = ab_rI ((r_Otf_raiseOne (E + 16) (nI a) (nI v) (ab_uI m' 26 E 0 1)).bind fun z8 => some (.inl (some (.inl z8.1), z8.2))) := by
      rw [cf_t c1, r_End_takeFrame_eq, s_tf k33 (by omega) (by omega) (by omega), if_neg (by omega), if_neg (by omega), if_pos rfl, k0, k1]
    have fm0 : FM m (ab_uI m' 26 E 0 1) := FM_tr (FS_FM c2 (fun r hr => by unfold sRd at hr; omega)) (FM_uI (by omega))
    have Iv1 := Iv_26 (e := e) h6 (.inr rfl) (fun _ => h8)
    by_cases z : a < 4
    · have hx : 4 * e + a < 8 := by omega
      have k61 := c61 g3 he z (p := E + 16 + 1 + 1 + 3 * a) (by omega)
      rw [uV_k _ _ _ _ _ (by omega)] at k61
      have n61' := n61 M1 hx (p := 98 + 7) (j := 4 * e + a) rfl rfl
      rw [uV_k _ _ _ _ _ (by omega)] at n61'
      have i61 : 0 ≤ V 61 (4 * e + a) 0 ∧ V 61 (4 * e + a) 0 < 1073741824 := by
        have := h6.1 (4 * e + a) hx
        unfold IO at this
        exact this.2.2.2.1
      have ro : r_Otf_raiseOne (E + 16) (nI a) (nI v) (ab_uI m' 26 E 0 1) = some (0, ab_uI (ab_uI m' 26 E 0 1) 61 (E + 16 + 1 + 1 + 3 * a) 0 (if V 61 (4 * e + a) 0 < nI v then nI v else V 61 (4 * e + a) 0)) := by
        rw [r_Otf_raiseOne_eq, b_Otf_raiseOne_0_eq, if_neg (by clear a1 a2 b1 b2 mf tf h1 h2 h3 h4 h6 g2 g3 M1 C1 c6 hB Iv1; grind [nI_T]), if_pos (by clear a1 a2 b1 b2 mf tf h1 h2 h3 h4 h6 g2 g3 M1 C1 c6 hB Iv1; grind [nI_T]), ab_ix_nI z (by decide)]
        try simp only [ob_s, lt_eq]
        rw [k61, s_max]
        rfl
      have f1 : FS (fun r => r = 26 ∨ r = 61) m' (ab_uI (ab_uI m' 26 E 0 1) 61 (E + 16 + 1 + 1 + 3 * a) 0 (if V 61 (4 * e + a) 0 < nI v then nI v else V 61 (4 * e + a) 0)) := FS_tr (FS_uI (.inl rfl)) (FS_uI (.inr rfl))
      refine ⟨0, _, ab_uI (ab_uI mm 124 98 0 (nI p1)) 139 (98 + 7) (4 * e + a) (if V 61 (4 * e + a) 0 < nI v then nI v else V 61 (4 * e + a) 0), uV (uV V 26 e 0 1) 61 (4 * e + a) 0 (if V 61 (4 * e + a) 0 < nI v then nI v else V 61 (4 * e + a) 0), by rw [tf, ro]; rfl, ?_, cu61 g3 he z (by omega) _, ?_, Iv_61 Iv1 ?_, FM_tr fm0 (FM_uI (by omega)), FC_tr (FC_uI (by omega)) (FC_uI (by omega)), ?_, .inl ⟨rfl, ?_, ?_, by omega, p1, by omega, by omega, Rd_FSo c3 f1 (by omega) (by omega) (by omega), ?_⟩⟩
      · have q202 : ∀ (f : Nat) (u : Int32), b_M_frame_202 (f + 1) (98 + 7) (nI (4 * e + a)) u (ab_uI mm 124 98 0 (nI p1)) = some (.inl (some (.inl 0), ab_uI (ab_uI mm 124 98 0 (nI p1)) 139 (98 + 7) (4 * e + a) u)) := by
          intro f u
          rw [b_M_frame_202_eq, ab_ix_nI hx (by decide)]
          try simp only [ob_s, lt_eq]
        rw [hk, mf, d1]
        try simp only [ob_s, lt_eq]
        rw [d2]
        try simp only [ob_s, lt_eq]
        rw [k127, if_pos rfl, if_pos (by clear a1 a2 b1 b2 mf tf h1 h2 h3 h4 h6 g2 g3 M1 C1 c6 hB Iv1 q202 ro; grind [nI_T]), nI_4, ab_ix_nI hx (by decide)]
        try simp only [ob_s, lt_eq]
        rw [n61', q202, q202]
        by_cases y : nI v ≤ V 61 (4 * e + a) 0
        · rw [if_pos y, rI_some, if_neg (by clear a1 a2 b1 b2 mf tf h1 h2 h3 h4 h6 g2 g3 M1 C1 c6 hB Iv1 q202 ro; grind)]
        · rw [if_neg y, rI_some, if_pos (by clear a1 a2 b1 b2 mf tf h1 h2 h3 h4 h6 g2 g3 M1 C1 c6 hB Iv1 q202 ro; grind)]
      · have := nu61 M1 hx (p := 98 + 7) (j := 4 * e + a) rfl rfl (if V 61 (4 * e + a) 0 < nI v then nI v else V 61 (4 * e + a) 0)
        rw [uV_comm (k := 26) (k' := 61) (by omega), uV_uV]
        rw [uV_comm (k := 26) (k' := 61) (by omega)] at this
        exact this
      · clear a1 a2 b1 b2 mf tf h1 h2 h3 h4 h6 g2 g3 M1 C1 c6 hB Iv1 ro
        by_cases y : V 61 (4 * e + a) 0 < nI v
        · rw [if_pos y]
          grind [nI_T]
        · rw [if_neg y]
          exact i61
      · rw [uV_k _ _ _ _ _ (by omega), uV_k _ _ _ _ _ (by omega)]
      · rw [uV_k _ _ _ _ _ (by omega), uV_k _ _ _ _ _ (by omega)]; exact h7
      · rw [uV_k _ _ _ _ _ (by omega), uV_s, if_neg (by omega)]
      · exact Cu_FS (S := fun r => r = 139) C1 (FS_uI rfl) (by omega) (by omega) (by omega)
    · have ro : r_Otf_raiseOne (E + 16) (nI a) (nI v) (ab_uI m' 26 E 0 1) = some (2, ab_uI m' 26 E 0 1) := by
        rw [r_Otf_raiseOne_eq, b_Otf_raiseOne_0_eq, if_neg (by clear a1 a2 b1 b2 mf tf h1 h2 h3 h4 h6 g2 g3 M1 C1 c6 hB Iv1; grind [nI_T]), if_neg (by clear a1 a2 b1 b2 mf tf h1 h2 h3 h4 h6 g2 g3 M1 C1 c6 hB Iv1; grind [nI_T])]
        rfl
      refine ⟨2, _, ab_uI mm 124 98 0 (nI p1), uV V 26 e 0 1, by rw [tf, ro]; rfl, ?_, g3, by rw [uV_uV]; exact M1, Iv1, fm0, FC_uI (by omega), uV_k _ _ _ _ _ (by omega), .inr (.inr ⟨by decide, by rw [uV_k _ _ _ _ _ (by omega)]; exact h7⟩)⟩
      rw [hk, mf, d1]
      try simp only [ob_s, lt_eq]
      rw [d2]
      try simp only [ob_s, lt_eq]
      rw [k127, if_pos rfl, if_neg (by clear a1 a2 b1 b2 mf tf h1 h2 h3 h4 h6 g2 g3 M1 C1 c6 hB Iv1 ro; grind [nI_T]), rI_some]
end
