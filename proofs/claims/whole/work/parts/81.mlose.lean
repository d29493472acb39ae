section
/-! A packet is lost, or acked: the model. -/
theorem RM_68 {m : Mm} {V : Vt} (h : RM m V) {a p j : Nat} {x y : Int32} (hp : p = 128) (hj : j = a) (hx : y = fs x) : RM (ab_uI m 162 p j y) (uV V 68 a 0 x) := by
  subst hp hj hx
  obtain ⟨h1, h2, h3, h4, h5⟩ := h
  refine ⟨fun k' a' b' t' z' => ?_, h2, h3, h4, fun a' ha => ?_⟩
  · have := mr_in k' (Ts_k t').1
    have := Ts_k t'
    rw [uI_r _ _ _ _ _ _ _ _ (by omega), uV_k _ _ _ _ _ (by omega)]; exact h1 k' a' b' t' z'
  · have h6 := h5 a' ((Sa_uV (by omega) a').mp ha)
    refine ⟨?_, h6.2.1, h6.2.2.1, h6.2.2.2⟩
    rw [uI_1]
    unfold uV
    by_cases e : a' = j
    · subst e
      rw [if_pos ⟨rfl, rfl, rfl⟩, if_pos ⟨rfl, rfl, rfl⟩]
    · rw [if_neg (by omega), if_neg (by omega)]
      exact h6.1
def sMl (r : Nat) : Prop := r = 134 ∨ r = 137 ∨ r = 138 ∨ r = 148 ∨ r = 153 ∨ r = 156 ∨ r = 157 ∨ r = 162
/-- what a stream had in a packet, as numbers -/
theorem IS_dec {V : Vt} {p s : Nat} (h : IS V p) (hI : ∀ a, a < 8 → IO V a) (hp : p < 1120) (hs : s < 4) : ∃ f c d r l : Nat, V 77 p s = nI f ∧ V 78 p s = nI c ∧ V 79 p s = nI d ∧ V 80 p s = nI r ∧ V 76 p s + 1 = nI l ∧ f + c ≤ 64 ∧ c ≤ 12 ∧ d < 2 ∧ r < 2 ∧ l < 66 := by
  have g := IS_77 h hI hp hs
  unfold IS at h
  have q := h.2.2.2 s hs
  obtain ⟨d, hd, ed⟩ : ∃ d : Nat, d < 2 ∧ V 79 p s = nI d := by
    rcases q.2.2.2.1 with z | z
    · exact ⟨0, by omega, z⟩
    · exact ⟨1, by omega, z⟩
  obtain ⟨r, hr, er⟩ : ∃ d : Nat, d < 2 ∧ V 80 p s = nI d := by
    rcases q.2.2.2.2.2.1 with z | z
    · exact ⟨0, by omega, z⟩
    · exact ⟨1, by omega, z⟩
  obtain ⟨l, hl, el⟩ := i_ofc (x := V 76 p s + 1) (N := 65) (by grind) (by grind [nI_T]) (by decide)
  exact ⟨_, _, d, r, l, g.1.symm, g.2.1.symm, ed, er, el, g.2.2.1, g.2.2.2, hd, hr, by omega⟩
theorem nI_one (d : Nat) (hd : d < 2) : (nI d = 1) = (nI d ≠ 0) := by
  have : d = 0 ∨ d = 1 := by omega
  rcases this with rfl | rfl <;> decide
/-- the streams' part of V that a lost packet reaches, s by s -/
theorem lsV_step {V : Vt} {e p i f c : Nat} {d r : Int32} (hi : i < 4) (he : e < 2) (hf : V 77 p i = nI f) (hc : V 78 p i = nI c) (hfc : f + c ≤ 64) (hd : V 79 p i = d) (hr : V 80 p i = r) :
    (fun k a b => if a = 4 * e + i ∧ k = 52 ∧ b = 0 ∧ V 76 p i = V 50 a 0 then (1 : Int32) else if a = 4 * e + i then mk1 (lsV V e p i) f c d r 2 k a b else lsV V e p i k a b) = lsV V e p (i + 1) := by
  have d1 : (4 * e + i) / 4 = e := by omega
  have d2 : (4 * e + i) % 4 = i := by omega
  funext k a b
  by_cases ha : a = 4 * e + i
  · subst ha
    unfold lsV mk1
    rw [d1, d2, hf, hc, hd, hr, nn_nI (by omega), nn_nI (by omega)]
    simp only [Nat.lt_irrefl, and_false, if_false, Nat.lt_succ_self, and_true, if_true]
    grind
  · unfold lsV
    rw [if_neg (by omega), if_neg ha]
    have : (a / 4 = e ∧ a % 4 < i) ↔ (a / 4 = e ∧ a % 4 < i + 1) := by omega
    simp only [this]
theorem lsV_77 {V : Vt} {e p i k : Nat} (hk : 69 ≤ k) (a b : Nat) : lsV V e p i k a b = V k a b := by
  unfold lsV mk1
  rw [if_neg (by omega), if_neg (by omega)]
  split
  · rw [if_neg (by omega), if_neg (by omega), if_neg (by omega), if_neg (by omega)]
  · rfl
theorem t_loses {V : Vt} {e n : Nat} {m : Mm} (h : RM m V) (hI : ∀ a, a < 8 → IO V a) (he : e < 2) (sa : Sa V (560 * e + n)) (is : IS V (560 * e + n)) :
    ∃ m', r_M_loses 98 (nI e) (nI (560 * e + n)) m = some m' ∧ RM m' (lsV V e (560 * e + n) 4) ∧ FS sMl m m' := by
  have hp0 := sa.1
  generalize hp : 560 * e + n = p at *
  have bo : ∀ i, i < 4 → m.1 165 131 (4 * p + i) = enc (V 77 p i) (V 78 p i) (V 79 p i) (V 80 p i) (V 76 p i) := fun i hi => (h.2.2.2.2 p sa).2.2.2 i hi
  have inner : ∀ (i f0 c0 x1 : Nat) (V0 : Vt) (X : Int32), i < 4 → f0 + c0 ≤ 64 → X &&& 127 = nI f0 → (X >>> ((7 : Int32) &&& 31)) &&& 15 = nI c0 → ∀ (j t g : Nat) (m1 : Mm), t + j = f0 + c0 → f0 ≤ t → 2 * j < g → RM m1 (mk67 V0 (4 * e + i) f0 t 2) → FS sMl m m1 → ∃ m2 g2, g ≤ g2 + 2 * j ∧ b_M_loses_68 g 98 (nI e) (nI p) (nI i) (nI (4 * e + i)) X (nI (64 * (4 * e + i) + t)) m1 = b_M_loses_68 g2 98 (nI e) (nI p) (nI i) (nI (4 * e + i)) X (nI (64 * (4 * e + i) + (f0 + c0))) m2 ∧ RM m2 (mk67 V0 (4 * e + i) f0 (f0 + c0) 2) ∧ FS sMl m m2 := by
    intro i f0 c0 x1 V0 X hi hfc hXf hXc j
    induction j with
    | zero =>
      intro t g m1 ht hft hg h1 h2
      obtain rfl : t = f0 + c0 := by omega
      exact ⟨m1, g, by omega, rfl, h1, h2⟩
    | succ j ih =>
      intro t g m1 ht hft hg h1 h2
      obtain ⟨g, rfl⟩ : ∃ g', g = g' + 2 := ⟨g - 2, by omega⟩
      have k67 := n67 h1 (a := 4 * e + i) (by omega) (b := t) (by omega) (p := 98 + 2) rfl rfl
      have v67 : mk67 V0 (4 * e + i) f0 t 2 67 (4 * e + i) t = V0 67 (4 * e + i) t := if_neg (by omega)
      rw [v67] at k67
      have step : b_M_loses_68 (g + 2) 98 (nI e) (nI p) (nI i) (nI (4 * e + i)) X (nI (64 * (4 * e + i) + t)) m1 = b_M_loses_68 g 98 (nI e) (nI p) (nI i) (nI (4 * e + i)) X (nI (64 * (4 * e + i) + (t + 1))) (ab_uI m1 134 (98 + 2) (64 * (4 * e + i) + t) (if V0 67 (4 * e + i) t = 3 then 3 else 2)) := by
        rw [b_M_loses_68_eq, hXf, hXc, nI_64, nI_add, if_neg (by (try clear ih); grind [nI_T]), ab_ix_nI (show 64 * (4 * e + i) + t < 512 by omega) (by decide)]
        simp only [ob_s, lt_eq]
        rw [k67]
        have q : ∀ u2, b_M_loses_115 (g + 1) 98 (nI e) (nI p) (nI i) (nI (4 * e + i)) X (nI (64 * (4 * e + i) + t)) (98 + 2) (nI (64 * (4 * e + i) + t)) u2 m1 = b_M_loses_68 g 98 (nI e) (nI p) (nI i) (nI (4 * e + i)) X (nI (64 * (4 * e + i) + (t + 1))) (ab_uI m1 134 (98 + 2) (64 * (4 * e + i) + t) u2) := by
          intro u2
          rw [b_M_loses_115_eq, ab_ix_nI (show 64 * (4 * e + i) + t < 512 by omega) (by decide)]
          simp only [ob_s, lt_eq]
          rw [nI_1]
          rfl
        rw [q, q]
        split <;> rfl
      have ev : uV (mk67 V0 (4 * e + i) f0 t 2) 67 (4 * e + i) t (if V0 67 (4 * e + i) t = 3 then 3 else 2) = mk67 V0 (4 * e + i) f0 (t + 1) 2 := by
        funext k a b
        unfold uV mk67
        by_cases z : k = 67 ∧ a = 4 * e + i ∧ b = t
        · obtain ⟨rfl, rfl, rfl⟩ := z
          rw [if_pos ⟨rfl, rfl, rfl⟩]
          by_cases z3 : V0 67 (4 * e + i) b = 3
          · rw [if_pos z3, if_neg (fun y => y.2.2.2.2 z3), z3]
          · rw [if_neg z3, if_pos ⟨rfl, rfl, hft, by omega, z3⟩]
        · rw [if_neg z]
          by_cases z1 : k = 67 ∧ a = 4 * e + i ∧ f0 ≤ b ∧ b < t ∧ V0 67 (4 * e + i) b ≠ 3
          · rw [if_pos z1, if_pos ⟨z1.1, z1.2.1, z1.2.2.1, by omega, z1.2.2.2.2⟩]
          · rw [if_neg z1, if_neg]
            intro y
            exact z1 ⟨y.1, y.2.1, y.2.2.1, by omega, y.2.2.2.2⟩
      have h' := nu67 h1 (a := 4 * e + i) (by omega) (b := t) (by omega) (p := 98 + 2) (j := 64 * (4 * e + i) + t) rfl rfl (if V0 67 (4 * e + i) t = 3 then 3 else 2)
      rw [ev] at h'
      obtain ⟨m2, g2, e1, e2, e3, e4⟩ := ih (t + 1) g _ (by omega) (by omega) (by omega) h' (FS_tr h2 (FS_uI (by unfold sMl; omega)))
      exact ⟨m2, g2, by omega, step.trans e2, e3, e4⟩
  have loop : ∀ (j i g : Nat) (m1 : Mm), i + j = 4 → 200 * j < g → RM m1 (lsV V e p i) → FS sMl m m1 → ∃ m', b_M_loses_31 g 98 (nI e) (nI p) (nI i) m1 = some (.inl (none, m')) ∧ RM m' (lsV V e p 4) ∧ FS sMl m m' := by
    intro j
    induction j with
    | zero =>
      intro i g m1 hi hg h1 h2
      obtain ⟨g, rfl⟩ : ∃ g', g = g' + 1 := ⟨g - 1, by omega⟩
      obtain rfl : i = 4 := by omega
      rw [b_M_loses_31_eq, if_pos (show (4 : Int32) ≤ nI 4 by decide)]
      exact ⟨m1, rfl, h1, h2⟩
    | succ j ih =>
      intro i g m1 hi hg h1 h2
      obtain ⟨g, rfl⟩ : ∃ g', g = g' + 1 := ⟨g - 1, by omega⟩
      have ha : 4 * e + i < 8 := by omega
      obtain ⟨f0, c0, d0, r0, l0, ef, ec, ed, er, el, hfc, hc, hd, hr, hl⟩ := IS_dec is hI hp0 (show i < 4 by omega)
      have b1 : m1.1 165 131 (4 * p + i) = nI (f0 + 128 * c0 + 2048 * d0 + 4096 * r0 + 8192 * l0) := by
        rw [FS_g h2 _ _ _ (by unfold sMl; omega), bo i (by omega), ef, ec, ed, er, enc_n el]
      rw [b_M_loses_31_eq, if_neg (by (try clear ih); grind [nI_T]), nI_4, nI_4, ab_ix_nI (show 4 * p + i < 4480 by omega) (by decide)]
      simp only [ob_s, lt_eq]
      rw [show (98 : Nat) + 33 = 131 from rfl, b1]
      have x1 := dec_f (f := f0) (c := c0) (d := d0) (r := r0) (l := l0) (by omega)
      have x2 := dec_c (f := f0) (c := c0) (d := d0) (r := r0) (l := l0) (by omega) (by omega) hd hr (by omega)
      have x3 := dec_d (f := f0) (c := c0) (d := d0) (r := r0) (l := l0) (by omega) (by omega) hd hr (by omega)
      have x4 := dec_r (f := f0) (c := c0) (d := d0) (r := r0) (l := l0) (by omega) (by omega) hd hr (by omega)
      have x5 := dec_l (f := f0) (c := c0) (d := d0) (r := r0) (l := l0) (by omega) (by omega) hd hr (by omega)
      generalize nI (f0 + 128 * c0 + 2048 * d0 + 4096 * r0 + 8192 * l0) = X at *
      rw [x1, nI_64]
      have e0 : mk67 (lsV V e p i) (4 * e + i) f0 f0 2 = lsV V e p i := by
        funext k a b
        exact if_neg (by omega)
      obtain ⟨m2, g2, q1, q2, q3, q4⟩ := inner i f0 c0 0 (lsV V e p i) X (by omega) hfc x1 x2 c0 f0 g m1 rfl (Nat.le_refl _) (by omega) (by rw [e0]; exact h1) h2
      rw [q2]
      obtain ⟨g2, rfl⟩ : ∃ g', g2 = g' + 4 := ⟨g2 - 4, by omega⟩
      -- after the bytes
      have last : ∀ (g : Nat) (m3 : Mm) (V3 : Vt), 200 * j < g → RM m3 V3 → FS sMl m m3 → V3 50 (4 * e + i) 0 = V 50 (4 * e + i) 0 → (fun k a b => if a = 4 * e + i ∧ k = 52 ∧ b = 0 ∧ V 76 p i = V 50 a 0 then (1 : Int32) else V3 k a b) = lsV V e p (i + 1) → ∃ m', b_M_loses_182 (g + 2) 98 (nI e) (nI p) (nI i) (nI (4 * e + i)) X m3 = some (.inl (none, m')) ∧ RM m' (lsV V e p 4) ∧ FS sMl m m' := by
        intro g m3 V3 hg h3 hF hv hev
        have k50 := n50 h3 ha (p := 98 + 14) rfl rfl
        rw [hv] at k50
        rw [b_M_loses_182_eq, ab_ix_nI ha (by decide)]
        simp only [ob_s, lt_eq]
        rw [k50, x5, ← el]
        by_cases z : V 76 p i = V 50 (4 * e + i) 0
        · rw [if_pos (by rw [z]), bo_1]
          simp only [ob_s, lt_eq]
          rw [b_M_loses_207_eq]
          simp only [ob_s, lt_eq]
          rw [nI_1]
          refine ih (i + 1) g _ (by omega) hg ?_ (FS_tr hF (FS_uI (by unfold sMl; omega)))
          have := nu52 h3 ha (p := 98 + 16) (j := 4 * e + i) rfl rfl 1
          have ev : uV V3 52 (4 * e + i) 0 1 = lsV V e p (i + 1) := by
            rw [← hev]
            funext k a b
            unfold uV
            by_cases y : k = 52 ∧ a = 4 * e + i ∧ b = 0
            · rw [if_pos y, if_pos ⟨y.2.1, y.1, y.2.2, by rw [y.2.1]; exact z⟩]
            · rw [if_neg y, if_neg (fun y2 => y ⟨y2.2.1, y2.1, y2.2.2.1⟩)]
          rw [ev] at this
          exact this
        · rw [if_neg (fun y => z (by grind)), b_M_loses_207_eq]
          simp only [ob_s, lt_eq]
          rw [nI_1]
          refine ih (i + 1) g _ (by omega) hg ?_ hF
          have ev : V3 = lsV V e p (i + 1) := by
            rw [← hev]
            funext k a b
            rw [if_neg]
            intro y
            rw [y.1] at y
            exact z y.2.2.2
          rw [← ev]
          exact h3
      have v3 := lsV_step (V := V) (e := e) (p := p) (show i < 4 by omega) he ef ec hfc ed er
      have u64 : (nI d0 = 1) = (nI d0 ≠ 0) := nI_one d0 hd
      have u65 : (nI r0 = 1) = (nI r0 ≠ 0) := nI_one r0 hr
      have st152 : ∀ (m3 : Mm) (V3 : Vt), RM m3 V3 → FS sMl m m3 → V3 65 (4 * e + i) 0 = lsV V e p i 65 (4 * e + i) 0 → ∃ m4, b_M_loses_152 (g2 + 3) 98 (nI e) (nI p) (nI i) (nI (4 * e + i)) X m3 = b_M_loses_182 (g2 + 2) 98 (nI e) (nI p) (nI i) (nI (4 * e + i)) X m4 ∧ RM m4 (if nI r0 ≠ 0 ∧ lsV V e p i 65 (4 * e + i) 0 ≠ 3 then uV V3 65 (4 * e + i) 0 2 else V3) ∧ FS sMl m m4 := by
        intro m3 V3 h3 hF hv
        have k65 := n65 h3 ha (p := 98 + 6) rfl rfl
        rw [hv] at k65
        rw [b_M_loses_152_eq, x4]
        simp only [u65]
        by_cases z1 : nI r0 = 0
        · rw [if_neg (fun y => y z1), if_neg (fun y => y.1 z1)]
          exact ⟨m3, rfl, h3, hF⟩
        · rw [if_pos z1, ab_ix_nI ha (by decide)]
          simp only [ob_s, lt_eq]
          rw [k65]
          by_cases z2 : lsV V e p i 65 (4 * e + i) 0 = 3
          · rw [if_pos z2, if_neg (fun y => y.2 z2)]
            exact ⟨m3, rfl, h3, hF⟩
          · rw [if_neg z2, if_pos ⟨z1, z2⟩]
            exact ⟨_, rfl, nu65 h3 ha rfl rfl 2, FS_tr hF (FS_uI (by unfold sMl; omega))⟩
      have k64 := n64 q3 ha (p := 98 + 5) rfl rfl
      have v64 : mk67 (lsV V e p i) (4 * e + i) f0 (f0 + c0) 2 64 (4 * e + i) 0 = lsV V e p i 64 (4 * e + i) 0 := if_neg (by omega)
      have v65 : mk67 (lsV V e p i) (4 * e + i) f0 (f0 + c0) 2 65 (4 * e + i) 0 = lsV V e p i 65 (4 * e + i) 0 := if_neg (by omega)
      rw [v64] at k64
      have st68 : ∃ m3, b_M_loses_68 (g2 + 4) 98 (nI e) (nI p) (nI i) (nI (4 * e + i)) X (nI (64 * (4 * e + i) + (f0 + c0))) m2 = b_M_loses_152 (g2 + 3) 98 (nI e) (nI p) (nI i) (nI (4 * e + i)) X m3 ∧ RM m3 (if nI d0 ≠ 0 ∧ lsV V e p i 64 (4 * e + i) 0 ≠ 3 then uV (mk67 (lsV V e p i) (4 * e + i) f0 (f0 + c0) 2) 64 (4 * e + i) 0 2 else mk67 (lsV V e p i) (4 * e + i) f0 (f0 + c0) 2) ∧ FS sMl m m3 := by
        rw [b_M_loses_68_eq, x1, x2, nI_64, nI_add, show 64 * (4 * e + i) + f0 + c0 = 64 * (4 * e + i) + (f0 + c0) by omega, if_pos (Int32.le_refl _), x3]
        simp only [u64]
        by_cases z1 : nI d0 = 0
        · rw [if_neg (fun y => y z1), if_neg (fun y => y.1 z1)]
          exact ⟨m2, rfl, q3, q4⟩
        · rw [if_pos z1, ab_ix_nI ha (by decide)]
          simp only [ob_s, lt_eq]
          rw [k64]
          by_cases z2 : lsV V e p i 64 (4 * e + i) 0 = 3
          · rw [if_pos z2, if_neg (fun y => y.2 z2)]
            exact ⟨m2, rfl, q3, q4⟩
          · rw [if_neg z2, if_pos ⟨z1, z2⟩]
            exact ⟨_, rfl, nu64 q3 ha rfl rfl 2, FS_tr q4 (FS_uI (by unfold sMl; omega))⟩
      obtain ⟨m3, s1, s2, s3⟩ := st68
      obtain ⟨m4, t1, t2, t3⟩ := st152 m3 _ s2 s3 (by
        split
        · rw [uV_k _ _ _ _ _ (by omega)]; exact v65
        · exact v65)
      rw [mk1_ev (lsV V e p i) (4 * e + i) f0 c0 (nI d0) (nI r0) 2] at t2
      rw [s1, t1]
      refine last g2 m4 _ (by omega) t2 t3 ?_ v3
      show (if 4 * e + i = 4 * e + i then mk1 (lsV V e p i) f0 c0 (nI d0) (nI r0) 2 50 (4 * e + i) 0 else lsV V e p i 50 (4 * e + i) 0) = _
      rw [if_pos rfl]
      unfold mk1 lsV
      rw [if_neg (by omega), if_neg (by omega), if_neg (by omega), if_neg (by omega), if_neg (by omega), if_neg (by omega)]
  have sa1 : Sa (uV V 68 p 0 2) p := (Sa_uV (by omega) p).mpr sa
  have h1 : RM (ab_uI m 162 (98 + 30) p 2) (uV V 68 p 0 2) := RM_68 h rfl rfl rfl
  have k70 := (h1.2.2.2.2 p sa1).2.2.1
  have k43 := n43 h1 he (p := 98 + 18) rfl rfl
  rw [uV_k _ _ _ _ _ (by omega)] at k70 k43
  have start : ∃ m1 g, 49000 < g ∧ b_M_loses_0 50000 98 (nI e) (nI p) m = b_M_loses_31 g 98 (nI e) (nI p) 0 m1 ∧ RM m1 (lsV V e p 0) ∧ FS sMl m m1 := by
    rw [b_M_loses_0_eq, ab_ix_nI hp0 (by decide), ab_ix_nI he (by decide)]
    simp only [ob_s, lt_eq]
    rw [show (98 : Nat) + 32 = 130 from rfl, k70, k43]
    by_cases z : V 70 p 0 = V 43 e 0
    · rw [if_pos z, bo_1]
      simp only [ob_s, lt_eq]
      rw [b_M_loses_29_eq]
      refine ⟨_, _, by omega, rfl, ?_, FS_tr (FS_uI (by unfold sMl; omega)) (FS_uI (by unfold sMl; omega))⟩
      have := nu44 h1 he (p := 98 + 25) (j := e) rfl rfl 1
      have ev : uV (uV V 68 p 0 2) 44 e 0 1 = lsV V e p 0 := by
        funext k a b
        unfold uV lsV
        by_cases y : k = 44 ∧ a = e ∧ b = 0
        · rw [if_pos y, if_neg (by omega), if_pos ⟨y.1, y.2.1, y.2.2, z⟩]
        · rw [if_neg y]
          by_cases y2 : k = 68 ∧ a = p ∧ b = 0
          · rw [if_pos y2, if_pos y2]
          · rw [if_neg y2, if_neg y2, if_neg (fun y3 => y ⟨y3.1, y3.2.1, y3.2.2.1⟩), if_neg (by omega)]
      rw [ev] at this
      exact this
    · rw [if_neg z, b_M_loses_29_eq]
      refine ⟨_, _, by omega, rfl, ?_, FS_uI (by unfold sMl; omega)⟩
      have ev : uV V 68 p 0 2 = lsV V e p 0 := by
        funext k a b
        unfold uV lsV
        by_cases y2 : k = 68 ∧ a = p ∧ b = 0
        · rw [if_pos y2, if_pos y2]
        · rw [if_neg y2, if_neg y2, if_neg (fun y3 => z y3.2.2.2), if_neg (by omega)]
      rw [← ev]
      exact h1
  obtain ⟨m1, g, hg, s1, s2, s3⟩ := start
  obtain ⟨m', e1, e2, e3⟩ := loop 4 0 g m1 (by omega) (by omega) s2 s3
  refine ⟨m', ?_, e2, e3⟩
  rw [r_M_loses_eq, s1]
  exact congrArg ab_rV e1
end
