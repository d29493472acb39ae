section
def HY (c e E R q s p N : Nat) (B : Nat → Nat) (m mm : Mm) (V : Vt) (w W : Nat → Nat) (x0 : Int32) : Prop := RC m V w W ∧ Rd m R q B p s ∧ RM mm (uV V 26 e 0 x0) ∧ Cu mm B (p + 1) s ∧ mm.1 127 98 0 = 0 ∧ Iv c V ∧ V 22 e 0 = -1 ∧ 0 ≤ V 30 e 0 ∧ (x0 = 0 ∨ x0 = 1) ∧ V 21 e 0 = nI N ∧ N ≤ 512 ∧ e < 2 ∧ E = 6 + 30 * e ∧ R = E + 3 ∧ p < s ∧ s ≤ 38 ∧ (∀ j, B j < 256)
theorem Rd_26 {m : Mm} {R q p s E : Nat} {B : Nat → Nat} {x : Int32} (h : Rd m R q B p s) : Rd (ab_uI m 26 E 0 x) R q B p s := by
  obtain ⟨h1, h2, h3, h4⟩ := h
  refine ⟨h1, ?_, ?_, fun j hj hj' => ?_⟩
  · rw [uI_r _ _ _ _ _ _ _ _ (by omega)]; exact h2
  · rw [uI_r _ _ _ _ _ _ _ _ (by omega)]; exact h3
  · rw [uI_r _ _ _ _ _ _ _ _ (by omega)]; exact h4 j hj hj'
theorem Rd_FSo {S : Nat → Prop} {m m' : Mm} {R q p s : Nat} {B : Nat → Nat} (h : Rd m R q B p s) (hF : FS S m m') (h1 : ¬ S 36) (h2 : ¬ S 37) (h3 : ¬ S 13) : Rd m' R q B p s := by
  obtain ⟨a1, a2, a3, a4⟩ := h
  refine ⟨by rw [hF.2]; exact a1, ?_, ?_, fun j hj hj' => ?_⟩
  · rw [FS_g hF _ _ _ h1]; exact a2
  · rw [FS_g hF _ _ _ h2]; exact a3
  · rw [FS_g hF _ _ _ h3]; exact a4 j hj hj'
theorem F_0 {c e E R q s p N : Nat} {B : Nat → Nat} {m mm : Mm} {V : Vt} {w W : Nat → Nat} {x0 : Int32} (h : HY c e E R q s p N B m mm V w W x0) (hk : B p = 0) : FR c e E R q s p B m mm V w W x0 := by
  obtain ⟨h1, h2, h3, h4, h5, h6, h7, h8, h9, h10, h11, he, hE, hR, hp, hs, hB⟩ := h
  subst hR
  have g1 := RC_sRd h1 (kd_FS (R := E + 3) (p := p) (b := B p))
  have c1 : cf E (E + 3) m = some (0, ab_uI (kd m (E + 3) p (B p)) 26 E 0 1) := by
    unfold cf
    rw [r_Rdr_step_eq, s_step h2 hs hp, hk, if_pos (by decide), rI_some]
    try simp only [ob_s, lt_eq]
    rw [if_neg (by decide), r_End_takeFrame_eq, s_tf (k := 0) kd_33 (by omega) (by omega) (by omega), if_neg (by omega), if_neg (by omega), if_neg (by omega), if_neg (by omega), rI_some]
  refine ⟨0, _, mm, uV V 26 e 0 1, c1, ?_, cu26 g1 he hE 1, by rw [uV_uV]; exact h3, Iv_26 h6 (.inr rfl) (fun _ => h8), ?_, FC_rfl _, uV_k _ _ _ _ _ (by omega), .inl ⟨rfl, ?_, ?_, by omega, p + 1, by omega, by omega, Rd_26 (kd_Rd h2), h4⟩⟩
  · rw [r_M_frame_eq, b_M_frame_0_eq, hk, if_pos (by decide), if_pos (by decide), rI_some]
  · exact FM_tr (FS_FM kd_FS (fun r hr => by unfold sRd at hr; omega)) (FM_uI (by omega))
  · rw [uV_k _ _ _ _ _ (by omega)]; exact h7
  · rw [uV_s, if_neg (by omega)]
theorem F_7 {c e E R q s p N : Nat} {B : Nat → Nat} {m mm : Mm} {V : Vt} {w W : Nat → Nat} {x0 : Int32} (h : HY c e E R q s p N B m mm V w W x0) (hk : 6 < B p) : FR c e E R q s p B m mm V w W x0 := by
  obtain ⟨h1, h2, h3, h4, h5, h6, h7, h8, h9, h10, h11, he, hE, hR, hp, hs, hB⟩ := h
  subst hR
  have g1 := RC_sRd h1 (kd_FS (R := E + 3) (p := p) (b := B p))
  have hb := hB p
  have ne : ∀ j : Nat, j ≤ 6 → ¬ nI (B p) = nI j := fun j hj => by
    clear h1 h2 h3 h4 h6 g1 hB
    grind [nI_T]
  have c1 : cf E (E + 3) m = some (1, kd m (E + 3) p (B p)) := by
    unfold cf
    rw [r_Rdr_step_eq, s_step h2 hs hp, if_neg (show ¬ nI (B p) = (0 : Int32) from ne 0 (by omega)), if_neg (show ¬ nI (B p) = (1 : Int32) from ne 1 (by omega)), if_neg (show ¬ nI (B p) = (2 : Int32) from ne 2 (by omega)), if_neg (show ¬ nI (B p) = (3 : Int32) from ne 3 (by omega)), if_neg (show ¬ nI (B p) = (4 : Int32) from ne 4 (by omega)), if_neg (show ¬ nI (B p) = (5 : Int32) from ne 5 (by omega)), if_neg (show ¬ nI (B p) = (6 : Int32) from ne 6 (by omega)), rI_some]
    try simp only [ob_s, lt_eq]
    exact if_pos trivial
  refine ⟨1, _, mm, V, c1, ?_, g1, h3, h6, FS_FM kd_FS (fun r hr => by unfold sRd at hr; omega), FC_rfl _, rfl, .inr (.inr ⟨by decide, h7⟩)⟩
  rw [r_M_frame_eq, b_M_frame_0_eq, if_neg (by clear h1 h2 h3 h4 h6 g1 hB ne c1; grind [nI_T]), rI_some]
theorem ne_k {b j : Nat} (hb : b < 256) (hj : j < 256) (h : b ≠ j) : ¬ nI b = nI j := by
  grind [nI_T]
theorem nums_1 {B : Nat → Nat} {s p : Nat} : nums B s 1 p = (match num B p s with | none => none | some (v, q) => some ([v], q)) := by
  unfold nums
  cases num B p s with
  | none => rfl
  | some z => rfl
theorem nums_2 {B : Nat → Nat} {s p : Nat} : nums B s 2 p = (match num B p s with | none => none | some (v, q) => (match num B q s with | none => none | some (u, q') => some ([v, u], q'))) := by
  unfold nums
  cases num B p s with
  | none => rfl
  | some z =>
    simp only
    rw [nums_1]
    cases num B z.2 s with
    | none => rfl
    | some y => rfl
/-- the class steps over a frame of numbers alone -/
theorem sK {R q s p k ct : Nat} {B : Nat → Nat} {m : Mm} (h : Rd m R q B p s) (hB : ∀ j, B j < 256) (hs : s ≤ 38) (hp : p < s) (hk : B p = k) (hc : (k = 3 ∨ k = 6) ∧ ct = 1 ∨ (k = 4 ∨ k = 5) ∧ ct = 2) :
    (nums B s ct (p + 1) = none → ∃ m', r_Rdr_step R m = some (0, m') ∧ FS sRd m m') ∧
    (∀ L p', nums B s ct (p + 1) = some (L, p') → ∃ m', r_Rdr_step R m = some (1, m') ∧ FS sRd m m' ∧ Rd m' R q B p' s ∧ m'.1 33 R 0 = nI k ∧ ∀ j (hj : j < L.length), m'.1 38 (R + 1) j = nI L[j]) := by
  obtain ⟨a1, a2⟩ := s_stepN (fr := 0) (ct := ct) hB hs (by omega) (show p + 1 ≤ s by omega) (kd_Rd (b := B p) h)
  have st : ∀ z, r_Rdr_stepNumbers R (nI 0) (nI ct) (kd m R p (B p)) = some z → r_Rdr_step R m = ab_rI ((ab_bo z.1).bind fun y5 => some (.inl (some (.inl y5), z.2))) := by
    intro z hz
    have ne : ∀ j : Nat, j < 256 → j ≠ k → ¬ nI (B p) = nI j := fun j hj hjk => by
      rw [hk]
      exact ne_k (by omega) hj (Ne.symm hjk)
    rw [r_Rdr_step_eq, s_step h hs hp, if_neg (show ¬ nI (B p) = (0 : Int32) from ne 0 (by omega) (by omega)), if_neg (show ¬ nI (B p) = (1 : Int32) from ne 1 (by omega) (by omega)), if_neg (show ¬ nI (B p) = (2 : Int32) from ne 2 (by omega) (by omega))]
    rcases hc with ⟨rfl | rfl, rfl⟩ | ⟨rfl | rfl, rfl⟩
    · rw [show nI 0 = (0 : Int32) from rfl, show nI 1 = (1 : Int32) from rfl] at hz
      rw [if_pos (show nI (B p) = (3 : Int32) by rw [hk]; rfl), hz]
      try simp only [ob_s, lt_eq]
    · rw [show nI 0 = (0 : Int32) from rfl, show nI 1 = (1 : Int32) from rfl] at hz
      rw [if_neg (show ¬ nI (B p) = (3 : Int32) from ne 3 (by omega) (by omega)), if_neg (show ¬ nI (B p) = (4 : Int32) from ne 4 (by omega) (by omega)), if_neg (show ¬ nI (B p) = (5 : Int32) from ne 5 (by omega) (by omega)), if_pos (show nI (B p) = (6 : Int32) by rw [hk]; rfl), hz]
      try simp only [ob_s, lt_eq]
    · rw [show nI 0 = (0 : Int32) from rfl, show nI 2 = (2 : Int32) from rfl] at hz
      rw [if_neg (show ¬ nI (B p) = (3 : Int32) from ne 3 (by omega) (by omega)), if_pos (show nI (B p) = (4 : Int32) by rw [hk]; rfl), hz]
      try simp only [ob_s, lt_eq]
    · rw [show nI 0 = (0 : Int32) from rfl, show nI 2 = (2 : Int32) from rfl] at hz
      rw [if_neg (show ¬ nI (B p) = (3 : Int32) from ne 3 (by omega) (by omega)), if_neg (show ¬ nI (B p) = (4 : Int32) from ne 4 (by omega) (by omega)), if_pos (show nI (B p) = (5 : Int32) by rw [hk]; rfl), hz]
      try simp only [ob_s, lt_eq]
  constructor
  · intro hn
    obtain ⟨m', c1, c2, c3⟩ := a2 hn
    refine ⟨m', ?_, FS_tr kd_FS c2⟩
    rw [st _ c1, bo_0]
    rfl
  · intro L p' hn
    obtain ⟨m', c1, c2, c3, c4, c5, c6⟩ := a1 L p' hn
    refine ⟨m', ?_, FS_tr kd_FS c2, c3, by rw [c4, kd_33, hk], fun j hj => ?_⟩
    · rw [st _ c1, bo_1]
      rfl
    · have := c6 j hj
      rw [Nat.zero_add] at this
      exact this
theorem F_3 {c e E R q s p N : Nat} {B : Nat → Nat} {m mm : Mm} {V : Vt} {w W : Nat → Nat} {x0 : Int32} (h : HY c e E R q s p N B m mm V w W x0) (hk : B p = 3) : FR c e E R q s p B m mm V w W x0 := by
  obtain ⟨h1, h2, h3, h4, h5, h6, h7, h8, h9, h10, h11, he, hE, hR, hp, hs, hB⟩ := h
  subst hR
  obtain ⟨a2, a1⟩ := sK (ct := 1) h2 hB hs hp hk (by omega)
  obtain ⟨b1, b2⟩ := t_numberAt h4 hB hs (by omega)
  have n55 := n55 h3 he (p := 98 + 17) (j := e) rfl rfl
  rw [uV_k _ _ _ _ _ (by omega)] at n55
  have i55 := (h6.2.2.1 e he).2.2.2.2.2.2.2.2.2.2.2.2.2.1
  have mf : r_M_frame 98 (nI e) (nI (B p)) mm = ab_rI ((r_M_numberAt 98 mm).bind fun z1 => if z1.2.1 127 98 0 = 0 then (if z1.1 ≤ z1.2.1 149 (98 + 17) e then b_M_frame_94 49999 98 (nI e) (98 + 17) (nI e) z1.2 else b_M_frame_100 49999 98 (98 + 17) (nI e) z1.1 z1.2) else b_M_frame_94 49999 98 (nI e) (98 + 17) (nI e) z1.2) := by
    rw [r_M_frame_eq, b_M_frame_0_eq, hk, if_pos (by decide), if_neg (by decide), if_neg (by decide), ab_ix_nI he (by decide)]
    simp only [ob_s, lt_eq, if_neg (show ¬ nI 3 = (6 : Int32) by decide), if_pos (show nI 3 = (3 : Int32) by decide)]
  have q100 : ∀ (f : Nat) (u : Int32) (M : Mm), M.1 127 98 0 = 0 ∨ M.1 127 98 0 = 1 → b_M_frame_100 (f + 1) 98 (98 + 17) (nI e) u M = some (.inl (some (.inl (M.1 127 98 0)), ab_uI M 149 (98 + 17) e u)) := by
    intro f u M hM
    rw [b_M_frame_100_eq, ab_ix_nI he (by decide)]
    try simp only [ob_s, lt_eq]
    rw [uI_r _ _ _ _ _ _ _ _ (by omega)]
    rcases hM with z | z
    · rw [if_pos z, z]
    · rw [if_neg (by rw [z]; decide), z]
  have q94 : ∀ (f : Nat) (M : Mm), M.1 127 98 0 = 0 ∨ M.1 127 98 0 = 1 → b_M_frame_94 (f + 2) 98 (nI e) (98 + 17) (nI e) M = some (.inl (some (.inl (M.1 127 98 0)), ab_uI M 149 (98 + 17) e (M.1 149 (98 + 17) e))) := by
    intro f M hM
    rw [b_M_frame_94_eq, ab_ix_nI he (by decide)]
    try simp only [ob_s, lt_eq]
    rw [q100 _ _ _ hM]
  cases hn : num B (p + 1) s with
  | none =>
    obtain ⟨m', c1, c2⟩ := a2 (by rw [nums_1, hn])
    have cc : cf E (E + 3) m = some (1, m') := by
      unfold cf
      rw [c1]
      try simp only [ob_s, lt_eq]
      exact if_pos trivial
    have r := b2 hn
    have M1 : RM (ab_uI mm 127 98 0 1) (uV V 26 e 0 x0) := RM_sm h3 (by unfold Sm; omega)
    have k127 : (ab_uI mm 127 98 0 1).1 127 98 0 = 1 := uI_s _ _ _ _ _
    have k149 : (ab_uI mm 127 98 0 1).1 149 (98 + 17) e = V 55 e 0 := by rw [uI_r _ _ _ _ _ _ _ _ (by omega)]; exact n55
    refine ⟨1, m', ab_uI (ab_uI mm 127 98 0 1) 149 (98 + 17) e (V 55 e 0), V, cc, ?_, RC_sRd h1 c2, ?_, h6, FS_FM c2 (fun r hr => by unfold sRd at hr; omega), FC_tr (FC_uI (by omega)) (FC_uI (by omega)), rfl, .inr (.inr ⟨by decide, h7⟩)⟩
    · rw [mf, r]
      try simp only [ob_s, lt_eq]
      rw [k127, if_neg (by decide), q94 _ _ (.inr k127), k127, k149, rI_some]
    · have := nu55 M1 he (p := 98 + 17) (j := e) rfl rfl (V 55 e 0)
      have ev : uV (uV V 26 e 0 x0) 55 e 0 (V 55 e 0) = uV V 26 e 0 x0 := by
        have := uV_self (V := uV V 26 e 0 x0) (k := 55) (a := e) (b := 0)
        rw [uV_k V 26 e 0 x0 (show (55 : Nat) ≠ 26 by omega)] at this
        exact this
      rw [ev] at this
      exact this
  | some z =>
    obtain ⟨v, p1⟩ := z
    have hv := num_lt hB hn
    obtain ⟨m', c1, c2, c3, k33, c6⟩ := a1 [v] p1 (by rw [nums_1, hn])
    have k38 : m'.1 38 (E + 3 + 1) 0 = nI v := c6 0 (by simp)
    have g2 := RC_sRd h1 c2
    have k55 := c55 g2 he (p := E + 16) (by omega)
    have ra : r_Otf_raiseAll (E + 16) (nI v) (ab_uI m' 26 E 0 1) = some (ab_uI (ab_uI m' 26 E 0 1) 55 (E + 16) 0 (if V 55 e 0 < nI v then nI v else V 55 e 0)) := by
      rw [r_Otf_raiseAll_eq, b_Otf_raiseAll_0_eq, uI_r _ _ _ _ _ _ _ _ (by omega), k55, s_max]
      rfl
    have cc : cf E (E + 3) m = some (0, ab_uI (ab_uI m' 26 E 0 1) 55 (E + 16) 0 (if V 55 e 0 < nI v then nI v else V 55 e 0)) := by
      unfold cf
      rw [c1]
      try simp only [ob_s, lt_eq]
      rw [if_neg (by decide), r_End_takeFrame_eq, s_tf k33 (by omega) (by omega) (by omega), if_neg (by omega), if_pos rfl, k38, ra]
      rfl
    have r := b1 v p1 hn
    have M1 : RM (ab_uI mm 124 98 0 (nI p1)) (uV V 26 e 0 x0) := RM_sm h3 (by unfold Sm; omega)
    have k127 : (ab_uI mm 124 98 0 (nI p1)).1 127 98 0 = 0 := by rw [uI_r _ _ _ _ _ _ _ _ (by omega)]; exact h5
    have k149 : (ab_uI mm 124 98 0 (nI p1)).1 149 (98 + 17) e = V 55 e 0 := by rw [uI_r _ _ _ _ _ _ _ _ (by omega)]; exact n55
    have f1 : FS (fun r => r = 26 ∨ r = 55) m' (ab_uI (ab_uI m' 26 E 0 1) 55 (E + 16) 0 (if V 55 e 0 < nI v then nI v else V 55 e 0)) := FS_tr (FS_uI (.inl rfl)) (FS_uI (.inr rfl))
    refine ⟨0, _, ab_uI (ab_uI mm 124 98 0 (nI p1)) 149 (98 + 17) e (if V 55 e 0 < nI v then nI v else V 55 e 0), uV (uV V 26 e 0 1) 55 e 0 (if V 55 e 0 < nI v then nI v else V 55 e 0), cc, ?_, cu55 (cu26 g2 he hE 1) he (by omega) _, ?_, Iv_55 (Iv_26 h6 (.inr rfl) (fun _ => h8)) ?_, ?_, FC_tr (FC_uI (by omega)) (FC_uI (by omega)), ?_, .inl ⟨rfl, ?_, ?_, by omega, p1, by omega, by omega, Rd_FSo c3 f1 (by omega) (by omega) (by omega), ?_⟩⟩
    · rw [mf, r]
      try simp only [ob_s, lt_eq]
      rw [k127, if_pos rfl, k149]
      by_cases y : nI v ≤ V 55 e 0
      · rw [if_pos y, q94 _ _ (.inl k127), k127, k149, rI_some, if_neg (by clear h1 h2 h3 h4 h6 g2 hB mf q100 q94 a1 a2 b1 b2; grind)]
      · rw [if_neg y, q100 _ _ _ (.inl k127), k127, rI_some, if_pos (by clear h1 h2 h3 h4 h6 g2 hB mf q100 q94 a1 a2 b1 b2; grind)]
    · have := nu55 M1 he (p := 98 + 17) (j := e) rfl rfl (if V 55 e 0 < nI v then nI v else V 55 e 0)
      rw [uV_comm (k := 26) (k' := 55) (by omega), uV_uV]
      rw [uV_comm (k := 26) (k' := 55) (by omega)] at this
      exact this
    · have hv2 := hv.1
      clear h1 h2 h3 h4 h6 g2 hB mf q100 q94 a1 a2 b1 b2 c6
      by_cases y : V 55 e 0 < nI v
      · rw [if_pos y]
        grind [nI_T]
      · rw [if_neg y]
        exact i55
    · exact FM_tr (FS_FM c2 (fun r hr => by unfold sRd at hr; omega)) (FS_FM f1 (fun r hr => by omega))
    · rw [uV_k _ _ _ _ _ (by omega), uV_k _ _ _ _ _ (by omega)]
    · rw [uV_k _ _ _ _ _ (by omega), uV_k _ _ _ _ _ (by omega)]; exact h7
    · rw [uV_k _ _ _ _ _ (by omega), uV_s, if_neg (by omega)]
    · refine ⟨?_, ?_, fun t ht ht' => ?_⟩
      · rw [uI_r _ _ _ _ _ _ _ _ (by omega), uI_s]
      · rw [uI_r _ _ _ _ _ _ _ _ (by omega), uI_r _ _ _ _ _ _ _ _ (by omega)]; exact h4.2.1
      · rw [uI_r _ _ _ _ _ _ _ _ (by omega), uI_r _ _ _ _ _ _ _ _ (by omega)]; exact h4.2.2 t ht ht'
end
