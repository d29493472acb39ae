section
/-! The model's plan. -/
def s3 (r : Nat) : Prop := r = 130 ∨ r = 131 ∨ r = 132
/-- the model's view is the class's, as far as a plan looks -/
def UV (V U : Vt) (e s : Nat) : Prop := (∀ k b, k ≠ 65 → U k (4 * e + s) b = V k (4 * e + s) b) ∧ (∀ j, j < 4 → U 60 (4 * e + j) 0 = V 60 (4 * e + j) 0) ∧ U 55 e 0 = V 55 e 0
theorem UV_PV {V : Vt} {e a s : Nat} (hs : s < 4) (h : V 78 a s = 0 ∧ V 79 a s = 0) : UV V (PV V e a) e s := by
  refine ⟨fun k b hk => ?_, fun j hj => PV_o (by omega), PV_o (by omega)⟩
  rw [PV_d]
  have e1 : (4 * e + s) % 4 = s := by omega
  split
  · rw [e1]
    unfold mk1
    rw [h.1, h.2, nn0, if_neg (by omega), if_neg (fun y => y.2.2.1 rfl), if_neg (fun y => hk y.1)]
  · rfl
theorem nI_m1 (k : Nat) : nI (k + 1) - 1 = nI k := by
  rw [← nI_1, Int32.add_sub_cancel]
theorem t_new {m : Mm} {V U : Vt} {c e s n : Nat} (h : RM m U) (hU : UV V U e s) (hI : Iv c V) (he : e < 2) (hs : s < 4) (hn : n ≤ 64) : r_M_mayBeNew 98 (nI e) (nI (4 * e + s)) (nI (pN V e s + n)) m = some (ib (n < pA V e s), m) := by
  have q := p_new hI he hs hn
  rw [t_mbn h he hs (n := fun j => pN V e j) (fun j hj => (hU.2.1 j hj).trans (p_n hI he hj).1.symm), hU.1 59 0 (by omega), hU.1 61 0 (by omega), hU.2.2]
  exact congrArg (fun y => some (y, m)) (ib_c q)
def pat (g : Nat → Int32) (W k : Nat) : Int32 := if flo g (W - k) k < W then nI (flo g (W - k) k) else -1
theorem t_23 {m : Mm} {V U : Vt} {c e s : Nat} (h : RM m U) (hU : UV V U e s) (hI : Iv c V) (he : e < 2) (hs : s < 4) : ∀ k f, k ≤ pW V e s → b_M_plans_23 (f + 2 * k) 98 (nI e) (nI (4 * e + s)) (pat (fun j => V 67 (4 * e + s) j) (pW V e s) k) (nI k - 1) m = b_M_plans_23 f 98 (nI e) (nI (4 * e + s)) (pat (fun j => V 67 (4 * e + s) j) (pW V e s) 0) (-1) m := by
  intro k
  have hx : 4 * e + s < 8 := by omega
  have w4 := (p_n hI he hs).2.2.2.1
  induction k with
  | zero =>
    intro f _
    rfl
  | succ k ih =>
    intro f hk
    have e2 : pW V e s - k = (pW V e s - (k + 1)) + 1 := by omega
    rw [show f + 2 * (k + 1) = f + 2 * k + 1 + 1 by omega, nI_m1, b_M_plans_23_eq, if_neg (by clear ih h hU hI; grind [nI_T]), nI_64, ab_ix_nI (show 64 * (4 * e + s) + k < 512 by omega) (by decide)]
    simp only [ob_s]
    rw [n67 h hx (b := k) (by omega) (p := 98 + 2) rfl rfl, hU.1 67 k (by omega)]
    have nx : ∀ u, b_M_plans_50 (f + 2 * k + 1) 98 (nI e) (nI (4 * e + s)) (nI k) u m = b_M_plans_23 (f + 2 * k) 98 (nI e) (nI (4 * e + s)) u (nI k - 1) m := by
      intro u
      rw [b_M_plans_50_eq]
      simp only [lt_eq]
      rw [show nI k + (-1) = nI k - 1 by rw [Int32.sub_eq_add_neg]]
    rw [nx, nx, ← ih f (by omega)]
    by_cases y : V 67 (4 * e + s) k = 2
    · have e3 : pat (fun j => V 67 (4 * e + s) j) (pW V e s) k = nI k := by
        unfold pat
        have : flo (fun j => V 67 (4 * e + s) j) (pW V e s - k) k = k := by
          rw [e2]
          exact if_pos y
        rw [this, if_pos (by omega)]
      rw [if_pos y, e3]
    · have e3 : pat (fun j => V 67 (4 * e + s) j) (pW V e s) k = pat (fun j => V 67 (4 * e + s) j) (pW V e s) (k + 1) := by
        unfold pat
        have : flo (fun j => V 67 (4 * e + s) j) (pW V e s - k) k = flo (fun j => V 67 (4 * e + s) j) (pW V e s - (k + 1)) (k + 1) := by
          rw [e2]
          exact if_neg y
        rw [this]
      rw [if_neg y, e3]
theorem t_205 {m : Mm} {V U : Vt} {c e s : Nat} {L : List Nat} (h : RM m U) (hU : UV V U e s) (hI : Iv c V) (he : e < 2) (hs : s < 4) (hL : L.length ≤ 37) : ∀ j n f, n + j = pC V e s L.length → b_M_plans_205 (f + 2 * j + 1) 98 (nI e) (nI (4 * e + s)) (nI (pfr V e s)) (if pfr V e s < pN V e s then 1 else 0) (37 - nI L.length - 3 - nI (nw (pfr V e s))) (nI n) m = b_M_plans_277 f 98 (nI (4 * e + s)) (nI (pfr V e s)) (nI (pC V e s L.length)) m := by
  have hx : 4 * e + s < 8 := by omega
  have w4 := nw_4 (pfr V e s)
  obtain ⟨n1, n2, n3, n4, _⟩ := p_n hI he hs
  have pf := p_f (V := V) (e := e) (s := s)
  have pl := (p_l hI he hs).1
  have sp : ∀ n, n < 100 → (37 - nI L.length - 3 - nI (nw (pfr V e s)) ≤ nI n ↔ 37 ≤ L.length + (3 + nw (pfr V e s)) + n) := by
    intro n hn
    clear h hU hI n1 n2 pf pl
    grind [nI_T]
  have hc : pC V e s L.length ≤ 12 ∧ pC V e s L.length ≤ pL V e s ∧ pC V e s L.length ≤ 37 - (L.length + (3 + nw (pfr V e s))) := by
    unfold pC
    omega
  have k59 : m.1 135 (98 + 3) (4 * e + s) = nI (pW V e s) := ((n59 h hx (p := 98 + 3) rfl rfl).trans (hU.1 59 0 (by omega))).trans n2.symm
  have k67 : ∀ n, pfr V e s + n < 64 → m.1 134 (98 + 2) (64 * (4 * e + s) + pfr V e s + n) = V 67 (4 * e + s) (pfr V e s + n) := fun n hn => (n67 h hx (b := pfr V e s + n) hn (p := 98 + 2) rfl (by omega)).trans (hU.1 67 _ (by omega))
  intro j
  induction j with
  | zero =>
    intro n f hj
    obtain rfl : n = pC V e s L.length := by omega
    rw [show f + 2 * 0 + 1 = f + 1 from rfl, b_M_plans_205_eq]
    by_cases y1 : 12 ≤ pC V e s L.length
    · rw [if_pos (by clear h hU hI n1 n2 k59 k67 sp; grind [nI_T])]
    · rw [if_neg (by clear h hU hI n1 n2 k59 k67 sp; grind [nI_T])]
      by_cases y2 : 37 ≤ L.length + (3 + nw (pfr V e s)) + pC V e s L.length
      · rw [if_pos ((sp _ (by omega)).mpr y2)]
      · rw [if_neg (fun q => y2 ((sp _ (by omega)).mp q)), ab_ix_nI hx (by decide)]
        simp only [ob_s]
        rw [k59, nI_add]
        have ec : pC V e s L.length = pL V e s := by
          unfold pC at *
          omega
        by_cases y3 : pW V e s ≤ pfr V e s + pC V e s L.length
        · rw [if_pos (by clear h hU hI n1 n2 k59 k67 sp; grind [nI_T])]
        · rw [if_neg (by clear h hU hI n1 n2 k59 k67 sp; grind [nI_T])]
          by_cases y4 : pfr V e s < pN V e s
          · rw [if_pos y4, if_neg (by decide), nI_64, nI_add, ab_ix_nI (show 64 * (4 * e + s) + pfr V e s + pC V e s L.length < 512 by omega) (by decide)]
            simp only [ob_s]
            rw [k67 _ (by omega)]
            have g := p_go hI he hs (n := pC V e s L.length) (by omega) (by omega) y4
            rw [if_neg (fun q => by have := g.mp q; omega)]
          · have ea : pL V e s = pA V e s := if_neg y4
            rw [if_neg y4, if_pos rfl, show pfr V e s = pN V e s by omega, t_new h hU hI he hs (by omega)]
            simp only [ob_s, ib_if]
            rw [if_neg (by omega)]
  | succ j ih =>
    intro n f hj
    rw [show f + 2 * (j + 1) + 1 = f + 2 * j + 1 + 1 + 1 by omega, b_M_plans_205_eq, if_neg (by clear h hU hI n1 n2 k59 k67 sp ih; grind [nI_T]), if_neg (fun q => by have := (sp _ (by omega)).mp q; omega), ab_ix_nI hx (by decide)]
    simp only [ob_s]
    rw [k59, nI_add, if_neg (by clear h hU hI n1 n2 k59 k67 sp ih; grind [nI_T])]
    have nx : b_M_plans_271 (f + 2 * j + 1 + 1) 98 (nI e) (nI (4 * e + s)) (nI (pfr V e s)) (if pfr V e s < pN V e s then 1 else 0) (37 - nI L.length - 3 - nI (nw (pfr V e s))) (nI n) m = b_M_plans_277 f 98 (nI (4 * e + s)) (nI (pfr V e s)) (nI (pC V e s L.length)) m := by
      rw [b_M_plans_271_eq, nI_1]
      simp only [lt_eq]
      exact ih (n + 1) f (by omega)
    by_cases y4 : pfr V e s < pN V e s
    · rw [if_pos y4] at nx ⊢
      rw [if_neg (by decide), nI_64, nI_add, ab_ix_nI (show 64 * (4 * e + s) + pfr V e s + n < 512 by omega) (by decide)]
      simp only [ob_s]
      rw [k67 _ (by omega), if_pos ((p_go hI he hs (n := n) (by omega) (by omega) y4).mpr (by omega))]
      exact nx
    · have ea : pL V e s = pA V e s := if_neg y4
      have ef : pfr V e s = pN V e s := by omega
      rw [if_neg y4] at nx ⊢
      rw [if_pos rfl]
      have tn := t_new h hU hI he hs (n := n) (by omega)
      rw [← ef] at tn
      rw [tn]
      simp only [ob_s, ib_if]
      rw [if_pos (by omega)]
      exact nx
theorem t_277 {m : Mm} {V U : Vt} {c e s l : Nat} (h : RM m U) (hU : UV V U e s) (hI : Iv c V) (he : e < 2) (hs : s < 4) (f : Nat) : ∃ m', b_M_plans_277 (f + 3) 98 (nI (4 * e + s)) (nI (pfr V e s)) (nI (pC V e s l)) m = some (.inl (some (.inl (if 1 ≤ pC V e s l then 1 else 0)), m')) ∧ FS s3 m m' ∧ m'.1 130 98 0 = nI (pfr V e s) ∧ m'.1 131 98 0 = nI (pC V e s l) ∧ m'.1 132 98 0 = pE V e s l := by
  have hx : 4 * e + s < 8 := by omega
  obtain ⟨n1, n2, n3, n4, _⟩ := p_n hI he hs
  have pf := p_f (V := V) (e := e) (s := s)
  have hc : pC V e s l ≤ 12 := by
    unfold pC
    omega
  have f2 : FS s3 m (ab_uI (ab_uI m 130 98 0 (nI (pfr V e s))) 131 98 0 (nI (pC V e s l))) := FS_tr (FS_uI (.inl rfl)) (FS_uI (.inr (.inl rfl)))
  have k59 : (ab_uI (ab_uI m 130 98 0 (nI (pfr V e s))) 131 98 0 (nI (pC V e s l))).1 135 (98 + 3) (4 * e + s) = nI (pW V e s) := by
    rw [FS_g f2 _ _ _ (by unfold s3; omega)]
    exact ((n59 h hx (p := 98 + 3) rfl rfl).trans (hU.1 59 0 (by omega))).trans n2.symm
  have k62 : (ab_uI (ab_uI m 130 98 0 (nI (pfr V e s))) 131 98 0 (nI (pC V e s l))).1 140 (98 + 8) (4 * e + s) = V 62 (4 * e + s) 0 := by
    rw [FS_g f2 _ _ _ (by unfold s3; omega)]
    exact (n62 h hx (p := 98 + 8) rfl rfl).trans (hU.1 62 0 (by omega))
  have fin : ∀ g x, (x = 0 ∨ x = 1) → x = pE V e s l → ∃ m', b_M_plans_316 (g + 1) (nI (pC V e s l)) 98 x (ab_uI (ab_uI m 130 98 0 (nI (pfr V e s))) 131 98 0 (nI (pC V e s l))) = some (.inl (some (.inl (if 1 ≤ pC V e s l then 1 else 0)), m')) ∧ FS s3 m m' ∧ m'.1 130 98 0 = nI (pfr V e s) ∧ m'.1 131 98 0 = nI (pC V e s l) ∧ m'.1 132 98 0 = pE V e s l := by
    intro g x hx01 hxe
    refine ⟨ab_uI (ab_uI (ab_uI m 130 98 0 (nI (pfr V e s))) 131 98 0 (nI (pC V e s l))) 132 98 0 x, ?_, FS_tr f2 (FS_uI (.inr (.inr rfl))), ?_, ?_, ?_⟩
    · rw [b_M_plans_316_eq, show ab_bo x = some x by rcases hx01 with q | q <;> (rw [q]; rfl), bo_0, bo_1]
      simp only [ob_s, lt_eq]
      by_cases y : 1 ≤ pC V e s l
      · rw [if_neg (by clear h hU hI n1 n2 k59 k62; grind [nI_T]), if_pos y]
      · rw [if_pos (by clear h hU hI n1 n2 k59 k62; grind [nI_T]), if_neg y]
    · rw [uI_r _ _ _ _ _ _ _ _ (by omega), uI_r _ _ _ _ _ _ _ _ (by omega), uI_s]
    · rw [uI_r _ _ _ _ _ _ _ _ (by omega), uI_s]
    · rw [uI_s, hxe]
  rw [b_M_plans_277_eq, ab_ix_nI hx (by decide)]
  simp only [ob_s, lt_eq]
  rw [k62, k59, nI_add]
  by_cases y : V 62 (4 * e + s) 0 = 0
  · rw [if_pos y, b_M_plans_315_eq]
    exact fin _ 0 (.inl rfl) (by unfold pE; rw [if_neg (fun q => q.1 y)])
  · rw [if_neg y]
    by_cases z : pfr V e s + pC V e s l = pW V e s
    · rw [if_pos (by rw [z])]
      exact fin _ 1 (.inr rfl) (by unfold pE; rw [if_pos ⟨y, z⟩])
    · rw [if_neg (by clear h hU hI n1 n2 k59 k62 fin; grind [nI_T]), b_M_plans_315_eq]
      exact fin _ 0 (.inl rfl) (by unfold pE; rw [if_neg (fun q => z q.2)])
theorem t_plans {m : Mm} {V U : Vt} {c e s : Nat} {L : List Nat} (h : RM m U) (hU : UV V U e s) (hI : Iv c V) (he : e < 2) (hs : s < 4) (hw : ML m L) (hL : L.length ≤ 37) : ∃ m' y, r_M_plans 98 (nI e) (nI (4 * e + s)) m = some (y, m') ∧ FS s3 m m' ∧ (qP V e s L.length → y = 1 ∧ m'.1 130 98 0 = nI (pfr V e s) ∧ m'.1 131 98 0 = nI (pC V e s L.length) ∧ m'.1 132 98 0 = pE V e s L.length) ∧ (¬ qP V e s L.length → y = 0) := by
  have hx : 4 * e + s < 8 := by omega
  obtain ⟨n1, n2, n3, n4, _⟩ := p_n hI he hs
  have pf := p_f (V := V) (e := e) (s := s)
  have w4 := nw_4 (pfr V e s)
  have k63 : m.1 141 (98 + 9) (4 * e + s) = V 63 (4 * e + s) 0 := (n63 h hx (p := 98 + 9) rfl rfl).trans (hU.1 63 0 (by omega))
  have k59 : m.1 135 (98 + 3) (4 * e + s) = nI (pW V e s) := ((n59 h hx (p := 98 + 3) rfl rfl).trans (hU.1 59 0 (by omega))).trans n2.symm
  have k60 : m.1 136 (98 + 4) (4 * e + s) = nI (pN V e s) := ((n60 h hx (p := 98 + 4) rfl rfl).trans (hU.1 60 0 (by omega))).trans n1.symm
  have k62 : m.1 140 (98 + 8) (4 * e + s) = V 62 (4 * e + s) 0 := (n62 h hx (p := 98 + 8) rfl rfl).trans (hU.1 62 0 (by omega))
  have k64 : m.1 137 (98 + 5) (4 * e + s) = V 64 (4 * e + s) 0 := (n64 h hx (p := 98 + 5) rfl rfl).trans (hU.1 64 0 (by omega))
  rw [r_M_plans_eq, b_M_plans_0_eq, ab_ix_nI hx (by decide)]
  simp only [ob_s]
  rw [k63, k59]
  by_cases y0 : V 63 (4 * e + s) 0 = 0
  case neg =>
    rw [if_neg y0, bo_0]
    simp only [ob_s]
    exact ⟨m, 0, rI_some _ _, FS_rfl _ _, fun q => absurd q.1 y0, fun _ => rfl⟩
  rw [if_pos y0]
  simp only [lt_eq]
  have e0 : (-1 : Int32) = pat (fun j => V 67 (4 * e + s) j) (pW V e s) (pW V e s) := by
    unfold pat
    rw [Nat.sub_self]
    exact (if_neg (Nat.lt_irrefl _)).symm
  rw [show b_M_plans_23 49999 98 (nI e) (nI (4 * e + s)) (-1) (nI (pW V e s) - 1) m = b_M_plans_23 (49999 - 2 * pW V e s) 98 (nI e) (nI (4 * e + s)) (pat (fun j => V 67 (4 * e + s) j) (pW V e s) 0) (-1) m by
    rw [← t_23 h hU hI he hs (pW V e s) (49999 - 2 * pW V e s) (Nat.le_refl _), ← e0, show 49999 - 2 * pW V e s + 2 * pW V e s = 49999 by omega]]
  obtain ⟨F, hF⟩ : ∃ F, 49999 - 2 * pW V e s = F + 31 := ⟨49968 - 2 * pW V e s, by omega⟩
  rw [hF]
  clear hF e0
  have go : ∀ G, 1 ≤ pL V e s → G = F + 29 → ∃ m' y, ab_rI (b_M_plans_95 G 98 (nI e) (nI (4 * e + s)) (nI (pfr V e s)) (if pfr V e s < pN V e s then 1 else 0) m) = some (y, m') ∧ FS s3 m m' ∧ (qP V e s L.length → y = 1 ∧ m'.1 130 98 0 = nI (pfr V e s) ∧ m'.1 131 98 0 = nI (pC V e s L.length) ∧ m'.1 132 98 0 = pE V e s L.length) ∧ (¬ qP V e s L.length → y = 0) := by
    intro G hp hG
    subst hG
    have hc : pC V e s L.length ≤ 12 := by
      unfold pC
      omega
    obtain ⟨m', r1, r2, r3, r4, r5⟩ := t_277 (l := L.length) h hU hI he hs (F + 24 - 2 * pC V e s L.length)
    refine ⟨m', if 1 ≤ pC V e s L.length then 1 else 0, ?_, r2, fun q => ⟨if_pos (q.2.resolve_right (fun z => by have := z.1; omega)), r3, r4, r5⟩, fun q => if_neg (fun z => q ⟨y0, .inl z⟩)⟩
    rw [b_M_plans_95_eq, if_pos (by clear h hU hI n1 n2 k59 k62 k60 k63 k64 r1 r2 r3 r4 r5 hw; grind [nI_T]), t_width, wd_nw (by omega)]
    simp only [ob_s, lt_eq]
    rw [hw.1, show F + 28 = (F + 24 - 2 * pC V e s L.length + 3) + 2 * pC V e s L.length + 1 by omega, show (0 : Int32) = nI 0 from rfl]
    have t := t_205 h hU hI he hs hL (pC V e s L.length) 0 (F + 24 - 2 * pC V e s L.length + 3) (by omega)
    rw [show nI 0 = (0 : Int32) from rfl] at t ⊢
    rw [t, r1, rI_some]
  rcases fl_more (g := fun j => V 67 (4 * e + s) j) n3 (fun j h1 h2 => by
    have := p_0 hI he hs j h1 h2
    show V 67 (4 * e + s) j ≠ 2
    rw [this]
    decide) with ⟨q1, q2⟩ | ⟨q1, q2⟩
  · have ep : pat (fun j => V 67 (4 * e + s) j) (pW V e s) 0 = nI (pfr V e s) := by
      unfold pat
      rw [Nat.sub_zero, q2, if_pos (by omega)]
      rfl
    have y4 : pfr V e s < pN V e s := q1
    have g := go (F + 29) (pf.2 y4).2 rfl
    rw [if_pos y4] at g
    rw [ep, b_M_plans_23_eq, if_pos (by decide), if_neg (by clear h hU hI n1 n2 k59 k62 k60 k63 k64 hw g go q1 q2; grind [nI_T]), b_M_plans_66_eq, if_neg (by decide)]
    exact g
  · have ep : pat (fun j => V 67 (4 * e + s) j) (pW V e s) 0 = -1 := by
      unfold pat
      rw [Nat.sub_zero, q2, if_neg (by omega)]
    have y4 : pfr V e s = pN V e s := q1
    have y5 : ¬ pfr V e s < pN V e s := by omega
    have ea : pL V e s = pA V e s := if_neg y5
    rw [ep, b_M_plans_23_eq, if_pos (by decide), if_pos (by decide), b_M_plans_66_eq, if_pos rfl, ab_ix_nI hx (by decide)]
    simp only [ob_s]
    have tn := t_new h hU hI he hs (n := 0) (by omega)
    rw [Nat.add_zero] at tn
    rw [k60, tn]
    simp only [ob_s, ib_if, lt_eq]
    by_cases z : 0 < pA V e s
    · have g := go (F + 29) (by omega) rfl
      rw [if_neg y5, y4] at g
      rw [if_pos z, k60]
      rw [y4]
      exact g
    · rw [if_neg z, b_M_plans_95_eq, if_neg (by decide), ab_ix_nI hx (by decide)]
      simp only [ob_s, lt_eq]
      rw [bo_1]
      simp only [ob_s]
      have pl0 : pL V e s = 0 := by omega
      have pc0 : pC V e s L.length = 0 := by
        unfold pC
        omega
      have f2 : FS s3 m (ab_uI (ab_uI (ab_uI m 130 98 0 (m.1 135 (98 + 3) (4 * e + s))) 131 98 0 0) 132 98 0 1) := FS_tr (FS_tr (FS_uI (.inl rfl)) (FS_uI (.inr (.inl rfl)))) (FS_uI (.inr (.inr rfl)))
      have j1 : (ab_uI (ab_uI (ab_uI m 130 98 0 (m.1 135 (98 + 3) (4 * e + s))) 131 98 0 0) 132 98 0 1).1 130 98 0 = nI (pW V e s) := by
        rw [uI_r _ _ _ _ _ _ _ _ (by omega), uI_r _ _ _ _ _ _ _ _ (by omega), uI_s, k59]
      have j2 : (ab_uI (ab_uI (ab_uI m 130 98 0 (m.1 135 (98 + 3) (4 * e + s))) 131 98 0 0) 132 98 0 1).1 131 98 0 = 0 := by
        rw [uI_r _ _ _ _ _ _ _ _ (by omega), uI_s]
      have j3 : (ab_uI (ab_uI (ab_uI m 130 98 0 (m.1 135 (98 + 3) (4 * e + s))) 131 98 0 0) 132 98 0 1).1 132 98 0 = 1 := uI_s _ _ _ _ _
      revert f2 j1 j2 j3
      generalize ab_uI (ab_uI (ab_uI m 130 98 0 (m.1 135 (98 + 3) (4 * e + s))) 131 98 0 0) 132 98 0 1 = M
      intro f2 j1 j2 j3
      rw [FS_g f2 140 _ _ (by unfold s3; omega), FS_g f2 136 _ _ (by unfold s3; omega), FS_g f2 135 _ _ (by unfold s3; omega), FS_g f2 137 _ _ (by unfold s3; omega), k62, k60, k59, k64, bo_0]
      simp only [ob_s]
      have no : ¬ eA V e s L.length → ∃ m' y, ab_rI (some (.inl (some (.inl 0), M))) = some (y, m') ∧ FS s3 m m' ∧ (qP V e s L.length → y = 1 ∧ m'.1 130 98 0 = nI (pfr V e s) ∧ m'.1 131 98 0 = nI (pC V e s L.length) ∧ m'.1 132 98 0 = pE V e s L.length) ∧ (¬ qP V e s L.length → y = 0) := fun q => ⟨M, 0, rI_some _ _, f2, fun z => absurd (z.2.resolve_left (by omega)) q, fun _ => rfl⟩
      by_cases a1 : V 62 (4 * e + s) 0 = 0
      · rw [if_pos a1]
        exact no (fun q => q.2.2.1 a1)
      · rw [if_neg a1]
        by_cases a2 : pN V e s = pW V e s
        · rw [if_pos (by rw [a2])]
          have fit : ∃ m' y, ab_rI (b_M_plans_162 (F + 28) 98 (nI (4 * e + s)) M) = some (y, m') ∧ FS s3 m m' ∧ ((V 64 (4 * e + s) 0 = 0 ∨ V 64 (4 * e + s) 0 = 2) → (qP V e s L.length → y = 1 ∧ m'.1 130 98 0 = nI (pfr V e s) ∧ m'.1 131 98 0 = nI (pC V e s L.length) ∧ m'.1 132 98 0 = pE V e s L.length) ∧ (¬ qP V e s L.length → y = 0)) := by
            have hw' : ML M L := ML_FS hw f2 (by unfold s3; omega) (by unfold s3; omega)
            rw [b_M_plans_162_eq, ab_ix_nI hx (by decide)]
            simp only [ob_s]
            rw [FS_g f2 135 _ _ (by unfold s3; omega), k59, t_width, wd_nw (by omega)]
            simp only [ob_s]
            rw [show (3 : Int32) + nI (nw (pW V e s)) = nI (3 + nw (pW V e s)) from nI_add 3 _, ← a2, ← y4, t_fitL hw' (by omega) (by omega)]
            simp only [ob_s, ib_if]
            by_cases a3 : L.length + (3 + nw (pfr V e s)) ≤ 37
            · rw [if_pos a3, bo_1]
              refine ⟨M, 1, rI_some _ _, f2, fun o => ⟨fun _ => ⟨rfl, ?_, ?_, ?_⟩, fun q => absurd ⟨y0, .inr ⟨pl0, a3, a1, o, a2⟩⟩ q⟩⟩
              · rw [j1, ← a2, y4]
              · rw [j2, pc0]
                rfl
              · rw [j3]
                unfold pE
                rw [if_pos ⟨a1, by omega⟩]
            · rw [if_neg a3, bo_0]
              exact ⟨M, 0, rI_some _ _, f2, fun o => ⟨fun q => absurd (q.2.resolve_left (by omega)).2.1 a3, fun _ => rfl⟩⟩
          obtain ⟨m', y, r1, r2, r3⟩ := fit
          by_cases a3 : V 64 (4 * e + s) 0 = 0
          · rw [if_pos a3]
            exact ⟨m', y, r1, r2, r3 (.inl a3)⟩
          · rw [if_neg a3]
            by_cases a4 : V 64 (4 * e + s) 0 = 2
            · rw [if_pos a4]
              exact ⟨m', y, r1, r2, r3 (.inr a4)⟩
            · rw [if_neg a4]
              exact no (fun q => q.2.2.2.1.elim a3 a4)
        · rw [if_neg (by clear h hU hI n1 n2 k59 k62 k60 k63 k64 hw go no f2 j1 j2 j3 tn; grind [nI_T])]
          exact no (fun q => a2 q.2.2.2.2)
end
