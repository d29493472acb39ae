section
/-! The frames of a packet, one after the other, on both sides. -/
theorem RM_158 {mm : Mm} {V : Vt} {e p j : Nat} {x0 y : Int32} (h : RM mm (uV V 26 e 0 x0)) (hp : p = 124) (hj : j = e) (hy : V 22 e 0 = -1 → y = V 26 e 0) : RM (ab_uI mm 158 p j y) V := by
  subst hp hj
  obtain ⟨h1, h2, h3, h4, h5⟩ := h
  have u : ∀ k a b, k ≠ 26 → uV V 26 j 0 x0 k a b = V k a b := fun k a b q => uV_k _ _ _ _ _ q
  refine ⟨fun k' a' b' t' z' => ?_, ?_, fun e' he' => ?_, fun a' ha hl => ?_, fun a' ha => ?_⟩
  · have := mr_in k' (Ts_k t').1
    have q : k' ≠ 26 := by rintro rfl; exact z' rfl
    rw [uI_r _ _ _ _ _ _ _ _ (by omega), h1 k' a' b' t' z', u _ _ _ q]
  · rw [u 5 _ _ (by omega), u 6 _ _ (by omega), u 7 _ _ (by omega)] at h2
    exact h2
  · have g := h3 e' he'
    rw [u 41 _ _ (by omega), u 42 _ _ (by omega), u 8 _ _ (by omega), u 25 _ _ (by omega), u 22 _ _ (by omega)] at g
    refine ⟨g.1, g.2.1, g.2.2.1, fun q => ?_⟩
    rw [uI_1]
    by_cases z : e' = j
    · subst z
      rw [if_pos ⟨rfl, rfl, rfl⟩]
      exact hy q
    · rw [if_neg (by omega), g.2.2.2 q, uV_a _ _ _ _ _ z]
  · have g := h4 a' ha (by rw [u 5 _ _ (by omega)]; exact hl)
    rw [u 11 _ _ (by omega), u 12 _ _ (by omega)] at g
    refine ⟨g.1, g.2.1, fun b hb hc => ?_⟩
    have := g.2.2 b hb hc
    rw [u 13 _ _ (by omega)] at this
    exact this
  · have g := h5 a' ((Sa_uV (by omega) a').mpr ha)
    rw [u 68 _ _ (by omega), u 69 _ _ (by omega), u 70 _ _ (by omega)] at g
    refine ⟨g.1, g.2.1, g.2.2.1, fun s hs => ?_⟩
    have := g.2.2.2 s hs
    rw [u 76 _ _ (by omega), u 77 _ _ (by omega), u 78 _ _ (by omega), u 79 _ _ (by omega), u 80 _ _ (by omega)] at this
    exact this
theorem t_319 {mm : Mm} {V : Vt} {e : Nat} {x0 v5 : Int32} (h : RM mm (uV V 26 e 0 x0)) (he : e < 2) (hx : x0 = 0 ∨ x0 = 1) (h5 : v5 = 0 ∨ v5 = 1) (hv : V 22 e 0 = -1 → V 26 e 0 = if v5 = 0 then x0 else 1) (f : Nat) : ∃ mm', b_M_receive_319 (f + 3) 98 (nI e) v5 mm = some (.inl (some (.inl 0), mm')) ∧ RM mm' V ∧ FC mm mm' := by
  have q : ∀ (g : Nat) (y : Int32), y = 0 ∨ y = 1 → b_M_receive_343 (g + 1) (98 + 26) (nI e) y mm = some (.inl (some (.inl 0), ab_uI mm 158 (98 + 26) e y)) := by
    intro g y hy
    rw [b_M_receive_343_eq, ab_ix_nI he (by decide)]
    rcases hy with rfl | rfl
    · rw [bo_0]
      try simp only [ob_s, lt_eq]
    · rw [bo_1]
      try simp only [ob_s, lt_eq]
  have k158 : V 22 e 0 = -1 → mm.1 158 (98 + 26) e = x0 := by
    intro z
    have := (h.2.2.1 e he).2.2.2 (by rw [uV_k _ _ _ _ _ (by omega)]; exact z)
    rw [uV_s] at this
    exact this
  rw [b_M_receive_319_eq, ab_ix_nI he (by decide)]
  try simp only [ob_s, lt_eq]
  rw [b_M_receive_338_eq, q _ _ (.inl rfl), q _ _ (.inr rfl)]
  by_cases z : mm.1 158 (98 + 26) e = 0
  · rw [if_pos z]
    by_cases z2 : v5 = 0
    · rw [if_pos z2]
      refine ⟨_, rfl, RM_158 h rfl rfl (fun y => ?_), FC_uI (by omega)⟩
      rw [hv y, if_pos z2, ← k158 y, z]
    · rw [if_neg z2]
      refine ⟨_, rfl, RM_158 h rfl rfl (fun y => ?_), FC_uI (by omega)⟩
      rw [hv y, if_neg z2]
  · rw [if_neg z]
    refine ⟨_, rfl, RM_158 h rfl rfl (fun y => ?_), FC_uI (by omega)⟩
    rw [hv y]
    split
    · have := k158 y
      rw [this] at z
      exact (hx.resolve_left z).symm
    · rfl
theorem cf_114 {E f : Nat} {i ft : Int32} {m m' : Mm} (h : cf E (E + 3) m = some (ft, m')) : ((r_Rdr_step (E + 3) m).bind fun z3 => if z3.1 = 0 then b_End_receive_114 f E i 1 z3.2 else (r_End_takeFrame E z3.2).bind fun z4 => b_End_receive_114 f E i z4.1 z4.2) = b_End_receive_114 f E i ft m' := by
  unfold cf at h
  cases hs : r_Rdr_step (E + 3) m with
  | none => rw [hs] at h; cases h
  | some z =>
    rw [hs] at h
    rw [ob_s] at h ⊢
    by_cases y : z.1 = 0
    · rw [if_pos y] at h ⊢
      cases h
      rfl
    · rw [if_neg y] at h ⊢
      rw [h, ob_s]
theorem rcv_loop {c e E R q s N : Nat} {B : Nat → Nat} {w W : Nat → Nat} {x0 : Int32} (he : e < 2) (hE : E = 6 + 30 * e) (hR : R = E + 3) (hs : s ≤ 38) (hB : ∀ j, B j < 256) (hx : x0 = 0 ∨ x0 = 1) (hc5 : c ≤ 512) : ∀ (k p i f g : Nat) (v5 : Int32) (V : Vt) (m mm : Mm), s - p ≤ k → p ≤ s → i < p → 4 * k + 10 < f → 6 * k + 20 < g → (v5 = 0 ∨ v5 = 1) → RC m V w W → Rd m R q B p s → RM mm (uV V 26 e 0 x0) → Cu mm B p s → Iv c V → V 22 e 0 = -1 → 0 ≤ V 30 e 0 → V 26 e 0 = (if v5 = 0 then x0 else 1) →
    ∃ m' mm' V', b_End_receive_73 f E (nI i) m = some (.inl (some (.inl 0), m')) ∧ b_M_receive_214 g 98 (nI e) v5 mm = some (.inl (some (.inl 0), mm')) ∧ RC m' V' w W ∧ RM mm' V' ∧ Iv c V' ∧ FM m m' ∧ FC mm mm' := by
  intro k
  induction k with
  | zero =>
    intro p i f g v5 V m mm hk hp hi hf hg h5 h1 h2 h3 h4 h6 h7 h8 h9
    obtain rfl : p = s := by omega
    obtain ⟨f, rfl⟩ : ∃ f', f = f' + 1 := ⟨f - 1, by omega⟩
    obtain ⟨g, rfl⟩ : ∃ g', g = g' + 4 := ⟨g - 4, by omega⟩
    obtain ⟨mm', a1, a2, a3⟩ := t_319 h3 he hx h5 (fun _ => h9) g
    refine ⟨m, mm', V, ?_, ?_, h1, a2, h6, FM_rfl _, a3⟩
    · rw [b_End_receive_73_eq, if_neg (by clear h1 h2 h3 h4 h6; grind [nI_T]), s_isOpen, c22 h1 he hE]
      try simp only [ob_s, lt_eq]
      rw [ib_if, if_pos h7, s_hasMore, ← hR, h2.2.1, h2.2.2.1]
      try simp only [ob_s, lt_eq]
      rw [ib_if, if_neg (by clear h1 h2 h3 h4 h6; grind [nI_T])]
    · rw [b_M_receive_214_eq, h4.1, h4.2.1, if_pos (by clear h1 h2 h3 h4 h6; grind [nI_T])]
      exact a1
  | succ k ih =>
    intro p i f g v5 V m mm hk hp hi hf hg h5 h1 h2 h3 h4 h6 h7 h8 h9
    by_cases ps : p = s
    · exact ih p i f g v5 V m mm (by omega) hp hi (by omega) (by omega) h5 h1 h2 h3 h4 h6 h7 h8 h9
    · have hps : p < s := by omega
      have ie := h6.2.2.1 e he
      obtain ⟨N, hN5, hN⟩ := i_ofc (x := V 21 e 0) (N := c) ie.1.1 ie.1.2 (by omega)
      -- the model's start of a frame
      have M1 : RM (ab_uI (ab_uI mm 124 98 0 (nI (p + 1))) 127 98 0 0) (uV V 26 e 0 x0) := RM_sm (RM_sm h3 (by unfold Sm; omega)) (by unfold Sm; omega)
      have C1 : Cu (ab_uI (ab_uI mm 124 98 0 (nI (p + 1))) 127 98 0 0) B (p + 1) s := Cu_FS (S := fun r => r = 127) (Cu_124 h4) (FS_uI rfl) (by omega) (by omega) (by omega)
      have z127 : (ab_uI (ab_uI mm 124 98 0 (nI (p + 1))) 127 98 0 0).1 127 98 0 = 0 := uI_s _ _ _ _ _
      have FC1 : FC mm (ab_uI (ab_uI mm 124 98 0 (nI (p + 1))) 127 98 0 0) := FC_tr (FC_uI (by omega)) (FC_uI (by omega))
      obtain ⟨ft, m1, mm1, V1, r1, r2, r3, r4, r5, r6, r7, r8, r9⟩ := F_all (c := c) (e := e) (E := E) (R := R) (q := q) (s := s) (p := p) (N := N) (B := B) (m := m) (V := V) (w := w) (W := W) (x0 := x0) ⟨h1, h2, M1, C1, z127, h6, h7, h8, hx, hN, by omega, he, hE, hR, hps, hs, hB⟩
      rw [hR] at r1
      obtain ⟨f, rfl⟩ : ∃ f', f = f' + 4 := ⟨f - 4, by omega⟩
      obtain ⟨g, rfl⟩ : ∃ g', g = g' + 5 := ⟨g - 5, by omega⟩
      have C73 : b_End_receive_73 (f + 4) E (nI i) m = b_End_receive_114 (f + 3) E (nI i) ft m1 := by
        rw [b_End_receive_73_eq, if_neg (by clear h1 h2 h3 h4 h6 ih M1 C1 r9; grind [nI_T]), s_isOpen, c22 h1 he hE]
        try simp only [ob_s, lt_eq]
        rw [ib_if, if_pos h7, s_hasMore, ← hR, h2.2.1, h2.2.2.1]
        try simp only [ob_s, lt_eq]
        rw [ib_if, if_pos (by clear h1 h2 h3 h4 h6 ih M1 C1 r9; grind [nI_T]), hR]
        exact cf_114 r1
      have q22 : mm.1 154 (98 + 22) e = -1 := by
        rw [n22 h3 he rfl rfl, uV_k _ _ _ _ _ (by omega)]; exact h7
      have C214 : b_M_receive_214 (g + 5) 98 (nI e) v5 mm = if ft ≤ 0 then b_M_receive_291 (g + 4) 98 (nI e) v5 (nI (B p)) mm1 else b_M_receive_291 (g + 4) 98 (nI e) v5 (nI (B p)) (ab_uI (ab_uI mm1 154 (98 + 22) e ft) 159 (98 + 27) e 1) := by
        rw [b_M_receive_214_eq, h4.1, h4.2.1, if_neg (by clear h1 h2 h3 h4 h6 ih M1 C1 r9; grind [nI_T]), ab_ix_nI he (by decide)]
        try simp only [ob_s, lt_eq]
        rw [q22, if_neg (by decide), ab_ix_nI (show p < 48 by omega) (by decide)]
        try simp only [ob_s, lt_eq]
        rw [show (98 : Nat) + 35 = 133 from rfl, h4.2.2 p (by omega) (by omega), nI_1, bo_0]
        try simp only [ob_s, lt_eq]
        rw [r2, bo_1]
        try simp only [ob_s, lt_eq]
      have q291 : ∀ M, ∃ g' v5', g ≤ g' ∧ (v5' = 0 ∨ v5' = 1) ∧ (v5' = if v5 = 0 ∧ (B p = 1 ∨ B p = 6) then 0 else 1) ∧ b_M_receive_291 (g + 4) 98 (nI e) v5 (nI (B p)) M = b_M_receive_214 (g' + 1) 98 (nI e) v5' M := by
        intro M
        have b256 := hB p
        have e1 : (nI (B p) = 1) = (B p = 1) := propext ⟨fun y => by by_cases z : B p = 1; exact z; exact (ne_k b256 (show 1 < 256 by omega) z y).elim, fun y => by rw [y]; rfl⟩
        have e6 : (nI (B p) = 6) = (B p = 6) := propext ⟨fun y => by by_cases z : B p = 6; exact z; exact (ne_k b256 (show 6 < 256 by omega) z y).elim, fun y => by rw [y]; rfl⟩
        rw [b_M_receive_291_eq, b_M_receive_313_eq, b_M_receive_309_eq, b_M_receive_314_eq, b_M_receive_314_eq]
        simp only [e1, e6]
        by_cases z0 : v5 = 0
        · rw [if_pos z0]
          by_cases z1 : B p = 1
          · rw [if_pos z1]
            exact ⟨g, 0, Nat.le_refl _, .inl rfl, by rw [if_pos ⟨z0, .inl z1⟩], rfl⟩
          · rw [if_neg z1]
            by_cases z6 : B p = 6
            · rw [if_pos z6]
              exact ⟨g, 0, Nat.le_refl _, .inl rfl, by rw [if_pos ⟨z0, .inr z6⟩], rfl⟩
            · rw [if_neg z6]
              exact ⟨g, 1, Nat.le_refl _, .inr rfl, by rw [if_neg (fun y => y.2.elim z1 z6)], rfl⟩
        · rw [if_neg z0]
          exact ⟨g, 1, Nat.le_refl _, .inr rfl, by rw [if_neg (fun y => z0 y.1)], rfl⟩
      -- where the end is closed afterwards
      have out : ∀ (m2 M : Mm) (V2 : Vt), RC m2 V2 w W → RM M (uV V2 26 e 0 x0) → Iv c V2 → 0 ≤ V2 22 e 0 → FM m m2 → FC mm M → b_End_receive_73 (f + 4) E (nI i) m = b_End_receive_73 (f + 1) E (nI (i + 1)) m2 → b_M_receive_214 (g + 5) 98 (nI e) v5 mm = b_M_receive_291 (g + 4) 98 (nI e) v5 (nI (B p)) M → ∃ m' mm' V', b_End_receive_73 (f + 4) E (nI i) m = some (.inl (some (.inl 0), m')) ∧ b_M_receive_214 (g + 5) 98 (nI e) v5 mm = some (.inl (some (.inl 0), mm')) ∧ RC m' V' w W ∧ RM mm' V' ∧ Iv c V' ∧ FM m m' ∧ FC mm mm' := by
        intro m2 M V2 y1 y2 y3 y4 y5 y6 y7 y8
        obtain ⟨g', v5', u1, u2, u3, u4⟩ := q291 M
        have nc : ¬ V2 22 e 0 = -1 := fun y => by rw [y] at y4; exact absurd y4 (by decide)
        obtain ⟨g', rfl⟩ : ∃ g'', g' = g'' + 3 := ⟨g' - 3, by omega⟩
        obtain ⟨mm', a1, a2, a3⟩ := t_319 y2 he hx u2 (fun y => (nc y).elim) g'
        refine ⟨m2, mm', V2, ?_, ?_, y1, a2, y3, y5, FC_tr y6 a3⟩
        · rw [y7, b_End_receive_73_eq, if_neg (by clear h1 h2 h3 h4 h6 ih M1 C1 r9 C73 C214 q291; grind [nI_T]), s_isOpen, c22 y1 he hE]
          try simp only [ob_s, lt_eq]
          rw [ib_if, if_neg nc]
        · have k22 : M.1 154 (98 + 22) e = V2 22 e 0 := by
            rw [n22 y2 he rfl rfl, uV_k _ _ _ _ _ (by omega)]
          rw [y8, u4, b_M_receive_214_eq, ab_ix_nI he (by decide)]
          try simp only [ob_s, lt_eq]
          rw [k22, if_pos y4]
          rw [a1]
          split <;> rfl
      have i1 : ∀ M, b_End_receive_128 (f + 2) E (nI i) M = b_End_receive_73 (f + 1) E (nI (i + 1)) M := by
        intro M
        rw [b_End_receive_128_eq]
        try simp only [ob_s, lt_eq]
        rw [nI_1]
      rcases r9 with ⟨rfl, o1, o2, o3, p', o4, o5, o6, o7⟩ | ⟨rfl, o1⟩ | ⟨⟨o1, o1'⟩, o2⟩
      · obtain ⟨g', v5', u1, u2, u3, u4⟩ := q291 mm1
        have e26 : V1 26 e 0 = if v5' = 0 then x0 else 1 := by
          rw [o2, u3, h9]
          clear ih out q291 C214 C73 M1 C1 h1 h2 h3 h4 h6 r3 r4 r5 o6 o7 u4 hB
          by_cases z1 : B p = 1
          · rw [if_pos z1]
            by_cases z2 : v5 = 0
            · rw [if_pos z2, if_pos (show v5 = 0 ∧ (B p = 1 ∨ B p = 6) from ⟨z2, .inl z1⟩), if_pos rfl]
            · rw [if_neg z2, if_neg (show ¬ (v5 = 0 ∧ (B p = 1 ∨ B p = 6)) from fun y => z2 y.1), if_neg (by decide)]
          · rw [if_neg z1, if_neg (show ¬ (v5 = 0 ∧ (B p = 1 ∨ B p = 6)) from fun y => y.2.elim z1 o3), if_neg (by decide)]
        obtain ⟨m', mm', V', w1, w2, w3, w4, w5, w6, w7⟩ := ih p' (i + 1) (f + 1) (g' + 1) v5' V1 m1 mm1 (by omega) o5 (by omega) (by omega) (by omega) u2 r3 o6 r4 o7 r5 o1 (by rw [r8]; exact h8) e26
        refine ⟨m', mm', V', ?_, ?_, w3, w4, w5, FM_tr r6 w6, FC_tr FC1 (FC_tr r7 w7)⟩
        · rw [C73, b_End_receive_114_eq, if_pos rfl, i1]
          exact w1
        · rw [C214, if_pos (by decide), u4]
          exact w2
      · refine out m1 mm1 V1 r3 r4 r5 o1 r6 (FC_tr FC1 r7) ?_ ?_
        · rw [C73, b_End_receive_114_eq, if_pos rfl, i1]
        · rw [C214, if_pos (by decide)]
      · have fn : ft ≠ -1 := fun y => by rw [y] at o1; exact absurd o1 (by decide)
        have f0 : ¬ ft = 0 := fun y => by rw [y] at o1; exact absurd o1 (by decide)
        have fp : 0 ≤ ft := Int32.le_of_lt o1
        refine out (ab_uI (ab_uI m1 22 E 0 ft) 28 E 0 1) (ab_uI (ab_uI mm1 154 (98 + 22) e ft) 159 (98 + 27) e 1) (uV (uV V1 22 e 0 ft) 28 e 0 1) (cu28 (cu22 r3 he hE ft) he hE 1) ?_ (Iv_shut r5 fp (by clear ih out q291 C214 C73 M1 C1 h1 h2 h3 h4 h6 r3 r4 r5 hB i1; grind)) ?_ (FM_tr r6 (FM_tr (FM_uI (by omega)) (FM_uI (by omega)))) (FC_tr FC1 (FC_tr r7 (FC_tr (FC_uI (by omega)) (FC_uI (by omega))))) ?_ ?_
        · have := nu28 (nu22 r4 he (p := 98 + 22) (j := e) rfl rfl ft fn) he (p := 98 + 27) (j := e) rfl rfl 1
          rw [uV_comm (k := 26) (k' := 22) (by omega), uV_comm (k := 26) (k' := 28) (by omega)] at this
          exact this
        · rw [uV_k _ _ _ _ _ (by omega), uV_s]; exact fp
        · rw [C73, b_End_receive_114_eq, if_neg f0, s_shut _ _ _ (.inr rfl)]
          try simp only [ob_s, lt_eq]
          rw [i1]
        · rw [C214, if_neg (fun y => by have := o1; clear ih out q291 C214 C73 M1 C1 h1 h2 h3 h4 h6 r3 r4 r5 hB i1; grind)]
end
