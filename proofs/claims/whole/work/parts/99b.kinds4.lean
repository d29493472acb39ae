section
theorem kpV_ext {V : Vt} {a o n : Nat} {D D' : Nat → Int32} (h : ∀ t, t < n → D t = D' t) : kpV V a o n D = kpV V a o n D' := by
  funext k a' b
  unfold kpV
  by_cases z : k = 53 ∧ a' = a ∧ o ≤ b ∧ b < o + n ∧ V 53 a b = -1 ∧ V 51 a 0 = 0
  · rw [if_pos z, if_pos z, h _ (by omega)]
  · rw [if_neg z, if_neg z]
theorem sgV_ext {V : Vt} {e s o n : Nat} {u : Int32} {D D' : Nat → Int32} (h : ∀ t, t < n → D t = D' t) : sgV V e s o n u D = sgV V e s o n u D' := by
  unfold sgV
  rw [kpV_ext h]
theorem nums_s {B : Nat → Nat} {s k p : Nat} : nums B s (k + 1) p = (match num B p s with | none => none | some (v, q) => (match nums B s k q with | none => none | some (L, q') => some (v :: L, q'))) := rfl
theorem nums_23 {B : Nat → Nat} {s p : Nat} : nums B s 3 p = (match nums B s 2 p with | none => none | some (L, q) => (match num B q s with | none => none | some (v, q') => some (L ++ [v], q'))) := by
  rw [nums_s, nums_2]
  cases num B p s with
  | none => rfl
  | some z =>
    simp only
    rw [nums_2]
    cases num B z.2 s with
    | none => rfl
    | some y =>
      simp only
      cases num B y.2 s with
      | none => rfl
      | some x => rfl
theorem s_stepStream {R q s p : Nat} {B : Nat → Nat} {m : Mm} (h : Rd m R q B p s) (hB : ∀ j, B j < 256) (hs : s ≤ 38) (hp : p ≤ s) :
    (nums B s 3 p = none → ∃ m', r_Rdr_stepStream R m = some (0, m') ∧ FS sRd m m') ∧
    (∀ a o k p1, nums B s 3 p = some ([a, o, k], p1) → (s < p1 + k / 2 → ∃ m', r_Rdr_stepStream R m = some (0, m') ∧ FS sRd m m') ∧
      (p1 + k / 2 ≤ s → ∃ m', r_Rdr_stepStream R m = some (1, m') ∧ FS sRd m m' ∧ Rd m' R q B (p1 + k / 2) s ∧ m'.1 33 R 0 = m.1 33 R 0 ∧ m'.1 35 R 0 = nI p1 ∧ m'.1 38 (R + 1) 0 = nI a ∧ m'.1 38 (R + 1) 1 = nI o ∧ m'.1 38 (R + 1) 2 = nI k)) := by
  obtain ⟨a1, a2⟩ := s_stepN (fr := 0) (ct := 3) hB hs (by omega) hp h
  constructor
  · intro hn
    obtain ⟨m', c1, c2, c3⟩ := a2 hn
    rw [show nI 0 = (0 : Int32) from rfl, show nI 3 = (3 : Int32) from rfl] at c1
    refine ⟨m', ?_, c2⟩
    rw [r_Rdr_stepStream_eq, b_Rdr_stepStream_0_eq, c1]
    try simp only [ob_s, lt_eq]
    rw [if_pos trivial, bo_0]
    rfl
  · intro a o k p1 hn
    have hl := nums_le hB hn hp
    have hk : k < 1073741824 := hl.2.2.2 k (by simp)
    obtain ⟨m1, c1, c2, c3, c4, c5, c6⟩ := a1 _ _ hn
    rw [show nI 0 = (0 : Int32) from rfl, show nI 3 = (3 : Int32) from rfl] at c1
    have k0 : m1.1 38 (R + 1) 0 = nI a := c6 0 (by simp)
    have k1 : m1.1 38 (R + 1) 1 = nI o := c6 1 (by simp)
    have k2 : m1.1 38 (R + 1) 2 = nI k := c6 2 (by simp)
    have e2 : nI k / 2 = nI (k / 2) := nI_div (k := 2) (by omega) (by decide) (by decide)
    have d36 : (ab_uI m1 35 R 0 (nI p1)).1 36 R 0 = nI p1 := by rw [uI_r _ _ _ _ _ _ _ _ (by omega)]; exact c3.2.1
    have d37 : (ab_uI m1 35 R 0 (nI p1)).1 37 R 0 = nI s := by rw [uI_r _ _ _ _ _ _ _ _ (by omega)]; exact c3.2.2.1
    have d38 : (ab_uI m1 35 R 0 (nI p1)).1 38 (R + 1) 2 = nI k := by rw [uI_r _ _ _ _ _ _ _ _ (by omega)]; exact k2
    have sb : nI s - nI p1 = nI (s - p1) := by
      have := hl.2.2.1
      clear a1 a2 c1 c6 hl hB
      grind [nI_T]
    have st : b_Rdr_stepStream_0 50000 R m = if nI (k / 2) ≤ nI (s - p1) then some (.inl (some (.inl 1), ab_uI (ab_uI m1 35 R 0 (nI p1)) 36 R 0 (nI (p1 + k / 2)))) else some (.inl (some (.inl 0), ab_uI m1 35 R 0 (nI p1))) := by
      rw [b_Rdr_stepStream_0_eq, c1]
      try simp only [ob_s, lt_eq]
      rw [if_neg (by decide), c3.2.1, i_ix (x := 2) (k := 2) (n := 7) rfl (by omega) (by decide)]
      try simp only [ob_s, lt_eq]
      rw [if_neg (by decide), d36, d37, d38, e2, sb, nI_add, bo_1, bo_0]
      try simp only [ob_s, lt_eq]
    have f1 : FS sRd m (ab_uI m1 35 R 0 (nI p1)) := FS_tr c2 (FS_uI (by unfold sRd; omega))
    constructor
    · intro z
      refine ⟨_, ?_, f1⟩
      rw [r_Rdr_stepStream_eq, st, if_neg (by have := hl.2.2.1; clear a1 a2 c1 c6 hl hB st; grind [nI_T]), rI_some]
    · intro z
      refine ⟨ab_uI (ab_uI m1 35 R 0 (nI p1)) 36 R 0 (nI (p1 + k / 2)), ?_, FS_tr f1 (FS_uI (by unfold sRd; omega)), ?_, ?_, ?_, ?_, ?_, ?_⟩
      · rw [r_Rdr_stepStream_eq, st, if_pos (by have := hl.2.2.1; clear a1 a2 c1 c6 hl hB st; grind [nI_T]), rI_some]
      · refine Rd_36 (p := p1) ?_ _
        exact Rd_FS c3 (FS_uI (by unfold sRd; omega)) d36 (by rw [uI_r _ _ _ _ _ _ _ _ (by omega)])
      · rw [uI_r _ _ _ _ _ _ _ _ (by omega), uI_r _ _ _ _ _ _ _ _ (by omega)]; exact c4
      · rw [uI_r _ _ _ _ _ _ _ _ (by omega), uI_s]
      · rw [uI_r _ _ _ _ _ _ _ _ (by omega), uI_r _ _ _ _ _ _ _ _ (by omega)]; exact k0
      · rw [uI_r _ _ _ _ _ _ _ _ (by omega), uI_r _ _ _ _ _ _ _ _ (by omega)]; exact k1
      · rw [uI_r _ _ _ _ _ _ _ _ (by omega), uI_r _ _ _ _ _ _ _ _ (by omega)]; exact k2
theorem F_2 {c e E R q s p N : Nat} {B : Nat → Nat} {m mm : Mm} {V : Vt} {w W : Nat → Nat} {x0 : Int32} (h : HY c e E R q s p N B m mm V w W x0) (hk : B p = 2) : FR c e E R q s p B m mm V w W x0 := by
  obtain ⟨h1, h2, h3, h4, h5, h6, h7, h8, h9, h10, h11, he, hE, hR, hp, hs, hB⟩ := h
  subst hR
  obtain ⟨a2, a1⟩ := s_stepStream (kd_Rd (b := B p) h2) hB hs (show p + 1 ≤ s by omega)
  obtain ⟨b2, b1⟩ := t_two hB hs (show p + 1 ≤ s by omega) h4
  have mf := t_frm (e := e) (k := 2) (mm := mm) (by omega)
  simp only [if_true] at mf
  have st : ∀ z : Int32 × Mm, z.1 = 0 ∨ z.1 = 1 → r_Rdr_stepStream (E + 3) (kd m (E + 3) p (B p)) = some z → r_Rdr_step (E + 3) m = some z := by
    intro z hz0 hz
    rw [r_Rdr_step_eq, s_step h2 hs hp, if_neg (show ¬ nI (B p) = (0 : Int32) by rw [hk]; decide), if_neg (show ¬ nI (B p) = (1 : Int32) by rw [hk]; decide), if_pos (show nI (B p) = (2 : Int32) by rw [hk]; rfl), hz]
    try simp only [ob_s, lt_eq]
    rcases hz0 with y | y
    · rw [y, bo_0]
      try simp only [ob_s, lt_eq]
      rw [rI_some, ← y]
    · rw [y, bo_1]
      try simp only [ob_s, lt_eq]
      rw [rI_some, ← y]
  have g1 := RC_sRd h1 (kd_FS (R := E + 3) (p := p) (b := B p))
  have fk : FM m (kd m (E + 3) p (B p)) := FS_FM kd_FS (fun r hr => by unfold sRd at hr; omega)
  have IvU := Iv_26 (e := e) (x := x0) h6 h9 (fun _ => h8)
  have Iv1 := Iv_26 (e := e) h6 (.inr rfl) (fun _ => h8)
  have hg : 0 ≤ uV V 26 e 0 x0 43 e 0 := (IvU.2.2.1 e he).2.2.2.2.2.2.2.2.2.2.2.1.1
  -- where it is none
  have bad : ∀ m' mm', r_Rdr_stepStream (E + 3) (kd m (E + 3) p (B p)) = some (0, m') → FS sRd (kd m (E + 3) p (B p)) m' → r_M_frame 98 (nI e) (nI (B p)) mm = some (1, mm') → RM mm' (uV V 26 e 0 x0) → FC mm mm' → FR c e E (E + 3) q s p B m mm V w W x0 := by
    intro m' mm' y1 y2 y3 y4 y5
    exact ⟨1, m', mm', V, cf_1 (st (0, m') (.inl rfl) y1), y3, RC_sRd g1 y2, y4, h6, FM_tr fk (FS_FM y2 (fun r hr => by unfold sRd at hr; omega)), y5, rfl, .inr (.inr ⟨by decide, h7⟩)⟩
  cases hn2 : nums B s 2 (p + 1) with
  | none =>
    obtain ⟨m', c1, c2⟩ := a2 (by rw [nums_23, hn2])
    obtain ⟨x, y, m1, m2, p2, d1, d2, d3, d4, d5, d6⟩ := b2 hn2
    obtain ⟨mm', e1, e2⟩ := t_segMiss (e := e) (a := x) (o := y) hB hs d3 d4 d5
    refine bad m' mm' c1 c2 ?_ (RM_170 (RM_170 h3 d6) e2) (FC_tr (FS_s170C d6) (FS_s170C e2))
    rw [hk, mf, d1]
    try simp only [ob_s, lt_eq]
    rw [d2]
    try simp only [ob_s, lt_eq]
    rw [e1]
    rfl
  | some z =>
    obtain ⟨L, p2⟩ := z
    obtain ⟨a, o, rfl⟩ := nums_2L hn2
    obtain ⟨m1, d1, d2, d3, d4, d5, d6⟩ := b1 a o p2 hn2
    have M1 : RM (ab_uI mm 124 98 0 (nI p2)) (uV V 26 e 0 x0) := RM_sm h3 (by unfold Sm; omega)
    have k127 : (ab_uI mm 124 98 0 (nI p2)).1 127 98 0 = 0 := by rw [uI_r _ _ _ _ _ _ _ _ (by omega)]; exact h5
    have C1 : Cu (ab_uI mm 124 98 0 (nI p2)) B p2 s := Cu_124 h4
    have f1 : FC mm (ab_uI mm 124 98 0 (nI p2)) := FC_uI (by omega)
    obtain ⟨s1, s2⟩ := t_segment (a := a) (o := o) M1 IvU.2.1 hg he d3 d4 hs d6 hB C1 k127
    have mf2 : ∀ z, r_M_segment 98 (nI e) (nI a) (nI o) (ab_uI mm 124 98 0 (nI p2)) = some z → r_M_frame 98 (nI e) (nI (B p)) mm = some z := by
      intro z hz
      rw [hk, mf, d1]
      try simp only [ob_s, lt_eq]
      rw [d2]
      try simp only [ob_s, lt_eq]
      rw [hz]
      rfl
    cases hn : num B p2 s with
    | none =>
      obtain ⟨m', c1, c2⟩ := a2 (by rw [nums_23, hn2]; simp only; rw [hn])
      obtain ⟨mm', e1, e2, e3⟩ := s1 hn
      exact bad m' mm' c1 c2 (mf2 _ e1) e2 (FC_tr f1 e3)
    | some z =>
      obtain ⟨k, p1⟩ := z
      have hkl := num_lt hB hn
      have n3 : nums B s 3 (p + 1) = some ([a, o, k], p1) := by rw [nums_23, hn2]; simp only; rw [hn]; rfl
      obtain ⟨a3, a4⟩ := a1 a o k p1 n3
      obtain ⟨u1, u2, u3, u4⟩ := s2 k p1 hn
      by_cases z1 : s < p1 + k / 2
      · obtain ⟨m', c1, c2⟩ := a3 z1
        obtain ⟨mm', e1, e2, e3⟩ := u1 z1
        exact bad m' mm' c1 c2 (mf2 _ e1) e2 (FC_tr f1 e3)
      · obtain ⟨m', c1, c2, c3, k33, k35, k0, k1, k2⟩ := a4 (by omega)
        rw [kd_33, hk] at k33
        have g2 := RC_sRd g1 c2
        have g3 := cu26 g2 he hE 1
        have r26 : ∀ r pp j, r ≠ 26 → (ab_uI m' 26 E 0 1).1 r pp j = m'.1 r pp j := fun r pp j hr => uI_r _ _ _ _ _ _ _ _ hr
        have tf : cf E (E + 3) m = ab_rI ((r_Int_takeData (E + 6) (E + 3) (ab_uI m' 26 E 0 1)).bind fun z8 => some (.inl (some (.inl z8.1), z8.2))) := by
          rw [cf_t (st (1, m') (.inr rfl) c1), r_End_takeFrame_eq, s_tf k33 (by omega) (by omega) (by omega), if_pos rfl]
        have fm0 : FM m (ab_uI m' 26 E 0 1) := FM_tr fk (FM_tr (FS_FM c2 (fun r hr => by unfold sRd at hr; omega)) (FM_uI (by omega)))
        obtain ⟨t1, t2, t3⟩ := s_takeData (I := E + 6) (R := E + 3) (q := q) (a := a) (o := o) (k := k) (d := p1) g3 Iv1.2.1 he (by omega) (by omega) d4 hkl.1 (by omega) (by rw [r26 _ _ _ (by omega)]; exact k0) (by rw [r26 _ _ _ (by omega)]; exact k1) (by rw [r26 _ _ _ (by omega)]; exact k2) c3.1 (by rw [r26 _ _ _ (by omega)]; exact k35)
        by_cases z2 : a < 4
        · have ffV : ff (uV V 26 e 0 1) e a (o + k / 2) (nI (k % 2)) = ff V e a (o + k / 2) (nI (k % 2)) := ff_26
          have ffU : ff (uV V 26 e 0 x0) e a (o + k / 2) (nI (k % 2)) = ff V e a (o + k / 2) (nI (k % 2)) := ff_26
          rw [ffV] at t2 t3
          rw [ffU] at u3 u4
          by_cases y : ff V e a (o + k / 2) (nI (k % 2)) = 0
          · obtain ⟨m2, e1, e2, e3⟩ := t3 z2 y
            obtain ⟨mm2, w1, w2, w3, w4⟩ := u4 (by omega) z2 y
            have hD : ∀ t, t < k / 2 → (fun t => (ab_uI m' 26 E 0 1).1 13 (q + 1) (p1 + t)) t = (fun t => nI (B (p1 + t))) t := by
              intro t ht
              show (ab_uI m' 26 E 0 1).1 13 (q + 1) (p1 + t) = nI (B (p1 + t))
              rw [r26 _ _ _ (by omega)]
              exact c3.2.2.2 (p1 + t) (by omega) (by omega)
            rw [sgV_ext hD] at e2
            refine ⟨0, m2, mm2, sgV (uV V 26 e 0 1) e a o (k / 2) (nI (k % 2)) (fun t => nI (B (p1 + t))), by rw [tf, e1]; rfl, mf2 _ w1, e2, ?_, Iv_sg Iv1 he z2 (by omega) (by rw [ffV]; exact y) (fun t ht => ?_), FM_tr fm0 (FS_FM e3 (fun r hr => by omega)), FC_tr f1 w4, ?_, .inl ⟨rfl, ?_, ?_, by omega, p1 + k / 2, by omega, by omega, ?_, w3⟩⟩
            · rw [sgV_26, uV_uV, ← sgV_26]
              exact w2
            · have := hB (p1 + t)
              clear a1 a2 a3 a4 b1 b2 mf tf h1 h2 h3 h4 h6 g1 g2 g3 M1 C1 hB Iv1 IvU t1 t2 t3 mf2 st bad s1 s2 u1 u2 u3 u4 e2 w2 w3 hD
              grind [nI_T]
            · rw [sgV_o (by omega), uV_k _ _ _ _ _ (by omega)]
            · rw [sgV_o (by omega), uV_k _ _ _ _ _ (by omega)]; exact h7
            · rw [sgV_o (by omega), uV_s, if_neg (by omega)]
            · exact Rd_FSo (Rd_26 c3) e3 (by omega) (by omega) (by omega)
          · obtain ⟨mm2, w1, w2, w3⟩ := u3 (by omega) z2 y
            exact ⟨ff V e a (o + k / 2) (nI (k % 2)), _, mm2, uV V 26 e 0 1, by rw [tf, t2 z2 y]; rfl, mf2 _ w1, g3, by rw [uV_uV]; exact w2, Iv1, fm0, FC_tr f1 w3, uV_k _ _ _ _ _ (by omega), .inr (.inr ⟨ff_in y, by rw [uV_k _ _ _ _ _ (by omega)]; exact h7⟩)⟩
        · obtain ⟨mm2, w1, w2, w3⟩ := u2 (by omega) (by omega)
          exact ⟨2, _, mm2, uV V 26 e 0 1, by rw [tf, t1 (by omega)]; rfl, mf2 _ w1, g3, by rw [uV_uV]; exact w2, Iv1, fm0, FC_tr f1 w3, uV_k _ _ _ _ _ (by omega), .inr (.inr ⟨by decide, by rw [uV_k _ _ _ _ _ (by omega)]; exact h7⟩)⟩
end
