section
/-! tick. -/
theorem RC_8 {m : Mm} {V : Vt} {w W : Nat → Nat} {e : Nat} {x : Int32} (h : RC m V w W) : RC m (uV V 8 e 0 x) w W := by
  obtain ⟨h1, h2, h3, h4, h5, h6, h7⟩ := h
  refine ⟨fun k a b t => ?_, h2, fun a ha hl => ?_, fun a ha => ?_, h5, h6, Wok_uV (by omega) h7⟩
  · rw [uV_k _ _ _ _ _ (Ts_k t).2.1]; exact h1 k a b t
  · rw [uV_k _ _ _ _ _ (by omega)] at hl
    rw [uV_k _ _ _ _ _ (by omega), uV_k _ _ _ _ _ (by omega)]
    refine ⟨(h3 a ha hl).1, (h3 a ha hl).2.1, fun b hb => ?_⟩
    rw [uV_k _ _ _ _ _ (by omega)]
    exact (h3 a ha hl).2.2 b hb
  · have ha := (Sa_uV (by omega) a).mp ha
    refine ⟨(h4 a ha).1, fun k b t => ?_⟩
    rw [uV_k _ _ _ _ _ (by unfold TS at t; omega)]
    exact (h4 a ha).2 k b t
theorem RM_7 {m : Mm} {V : Vt} {x : Int32} (h : RM m V) : RM (ab_uI m 83 98 0 x) (uV V 7 0 0 x) := by
  obtain ⟨h1, h2, h3, h4, h5⟩ := h
  refine ⟨fun k' a' b' t' z' => ?_, ⟨h2.1, h2.2.1, uI_s _ _ _ _ _⟩, h3, h4, h5⟩
  have := mr_in k' (Ts_k t').1
  have q6 : k' ≠ 7 := by rintro rfl; exact z' rfl
  rw [uI_r _ _ _ _ _ _ _ _ (by omega), uV_k _ _ _ _ _ q6]; exact h1 k' a' b' t' z'
/-- the model's timer of an end -/
theorem RM_ov {m : Mm} {V : Vt} {e k p j : Nat} {x y : Int32} (h : RM m V) (he : e < 2) (hk : k = 8 ∨ k = 25) (hp : p = 121) (hj : j = e) (hx : y = uV V k e 0 x 8 e 0 - uV V k e 0 x 25 e 0) : RM (ab_uI m 155 p j y) (uV V k e 0 x) := by
  subst hp hj
  obtain ⟨h1, h2, h3, h4, h5⟩ := h
  refine ⟨fun k' a' b' t' z' => ?_, ?_, fun e' he' => ?_, fun a ha hl => ?_, fun a ha => ?_⟩
  · have := mr_in k' (Ts_k t').1
    have q6 : k' ≠ k := by
      rcases hk with rfl | rfl
      · exact (Ts_k t').2.1
      · rintro rfl; exact z' rfl
    rw [uI_r _ _ _ _ _ _ _ _ (by omega), uV_k _ _ _ _ _ q6]; exact h1 k' a' b' t' z'
  · rw [uV_k _ _ _ _ _ (by omega), uV_k _ _ _ _ _ (by omega), uV_k _ _ _ _ _ (by omega)]; exact h2
  · have g := h3 e' he'
    rw [uV_k V _ _ _ _ (k' := 41) (by omega), uV_k V _ _ _ _ (k' := 42) (by omega), uV_k V _ _ _ _ (k' := 22) (by omega), uV_k V _ _ _ _ (k' := 26) (by omega)]
    refine ⟨g.1, g.2.1, ?_, g.2.2.2⟩
    rw [uI_1]
    by_cases q : e' = j
    · subst q
      rw [if_pos ⟨rfl, rfl, rfl⟩]
      exact hx
    · rw [if_neg (by omega), uV_a _ _ _ _ _ q, uV_a _ _ _ _ _ q]
      exact g.2.2.1
  · rw [uV_k _ _ _ _ _ (by omega)] at hl
    have g := h4 a ha hl
    rw [uV_k _ _ _ _ _ (by omega), uV_k _ _ _ _ _ (by omega)]
    refine ⟨g.1, g.2.1, fun b hb hc => ?_⟩
    rw [uV_k _ _ _ _ _ (by omega)]
    exact g.2.2 b hb hc
  · have g := h5 a ((Sa_uV (by omega) a).mp ha)
    rw [uV_k _ _ _ _ _ (by omega), uV_k _ _ _ _ _ (by omega), uV_k _ _ _ _ _ (by omega)]
    refine ⟨g.1, g.2.1, g.2.2.1, fun s hs => ?_⟩
    rw [uV_k _ _ _ _ _ (by omega), uV_k _ _ _ _ _ (by omega), uV_k _ _ _ _ _ (by omega), uV_k _ _ _ _ _ (by omega), uV_k _ _ _ _ _ (by omega)]
    exact g.2.2.2 s hs
/-- the first packet that is timed, from i on -/
def ft (V : Vt) (e : Nat) : Nat → Nat → Option Nat
  | 0, _ => none
  | k + 1, i => if V 68 (560 * e + i) 0 = 1 ∧ V 69 (560 * e + i) 0 ≠ 0 then some i else ft V e k (i + 1)
theorem ft_some {V : Vt} {e : Nat} : ∀ {k i n : Nat}, ft V e k i = some n → i ≤ n ∧ n < i + k
  | 0, _, _, h => by cases h
  | k + 1, i, n, h => by
    unfold ft at h
    split at h
    · cases h
      omega
    · have := ft_some h
      omega
/-- the timer of an end goes off for packet n -/
def goV (V : Vt) (e n : Nat) (t : Int32) : Vt := uV (uV (uV (lsV V e (560 * e + n) 4) 27 e 0 1) 23 e 0 (if 3 < V 23 e 0 + 1 then 3 else V 23 e 0 + 1)) 25 e 0 t
/-- an end passes a tick -/
def tkV (V : Vt) (e N : Nat) (t : Int32) : Vt := if V 22 e 0 = -1 ∧ (6 : Int32) <<< (V 23 e 0 &&& 31) ≤ t - V 25 e 0 then (match ft V e N 0 with
  | some n => goV V e n t
  | none => V) else V
def sTk (r : Nat) : Prop := r = 23 ∨ r = 25 ∨ r = 27 ∨ r = 44 ∨ r = 52 ∨ r = 64 ∨ r = 65 ∨ r = 67 ∨ r = 68
theorem s_tickLoop {V : Vt} {w W : Nat → Nat} {c e E N : Nat} {t : Int32} {m : Mm} (he : e < 2) (hE : E = 6 + 30 * e) (hN : N ≤ 512) (hV : V 21 e 0 = nI N) (h : RC m V w W) (hI : ∀ a, a < 8 → IO V a) (hS : ∀ a, Sa V a → IS V a) : ∀ (k i f : Nat), i + k = N → k < f → ∃ m', b_End_passTick_26 f E t (nI i) m = some (.inl (none, m')) ∧ RC m' (match ft V e k i with
  | some n => goV V e n t
  | none => V) w W ∧ FS sTk m m' := by
  intro k
  induction k with
  | zero =>
    intro i f hi hf
    obtain ⟨f, rfl⟩ : ∃ g, f = g + 1 := ⟨f - 1, by omega⟩
    obtain rfl : i = N := by omega
    rw [b_End_passTick_26_eq, c21 h he hE, hV, if_pos (by (try clear ih); grind [nI_T])]
    exact ⟨m, rfl, h, FS_rfl _ _⟩
  | succ k ih =>
    intro i f hi hf
    obtain ⟨f, rfl⟩ : ∃ g, f = g + 1 := ⟨f - 1, by omega⟩
    have hx : nI i < V 21 e 0 := by rw [hV]; grind [nI_T]
    have hn5 : i < 512 := by omega
    have sa := Sa_of he hn5 hx
    rw [b_End_passTick_26_eq, c21 h he hE, hV, if_neg (by (try clear ih); grind [nI_T]), s_isTimed h he hn5 hx hE]
    simp only [bo_0, bo_1, ob_s, lt_eq, rI_ite, rI_some, rV_ite, rV_some, ib_if]
    unfold ft
    by_cases z : V 68 (560 * e + i) 0 = 1 ∧ V 69 (560 * e + i) 0 ≠ 0
    · obtain ⟨m2, e2, r2, f2⟩ := s_losePacket h hI he hE sa (hS _ sa)
      rw [if_pos z, if_pos z, ab_ix_nI hn5 (by decide)]
      simp only [ob_s, lt_eq]
      rw [cW h he hn5 hx (p := E + 5) (by omega)]
      simp only [ob_s, lt_eq]
      rw [e2]
      simp only [ob_s, lt_eq]
      have k23 : (ab_uI m2 27 E 0 1).1 23 E 0 = V 23 e 0 := by
        rw [uI_r _ _ _ _ _ _ _ _ (by omega), FS_g f2 _ _ _ (by unfold sLs; omega)]
        exact c23 h he hE
      rw [k23, s_min]
      simp only [ob_s, lt_eq]
      exact ⟨_, rfl, cu25 (cu23 (cu27 r2 he hE 1) he hE _) he hE t, FS_tr (FS_tr (FS_tr (FS_le f2 (fun r hr => by unfold sLs at hr; unfold sTk; omega)) (FS_uI (by unfold sTk; omega))) (FS_uI (by unfold sTk; omega))) (FS_uI (by unfold sTk; omega))⟩
    · rw [if_neg z, if_neg z, nI_1]
      exact ih (i + 1) f (by omega) (by omega)
theorem s_passTick {V : Vt} {w W : Nat → Nat} {e E N : Nat} {t : Int32} {m : Mm} (he : e < 2) (hE : E = 6 + 30 * e) (hN : N ≤ 512) (hV : V 21 e 0 = nI N) (h : RC m V w W) (hI : ∀ a, a < 8 → IO V a) (hS : ∀ a, Sa V a → IS V a) : ∃ m', r_End_passTick E t m = some m' ∧ RC m' (tkV V e N t) w W ∧ FS sTk m m' := by
  rw [r_End_passTick_eq, b_End_passTick_0_eq, s_isOpen, c22 h he hE]
  simp only [bo_0, bo_1, ob_s, lt_eq, rI_ite, rI_some, rV_ite, rV_some, ib_if]
  rw [c23 h he hE, c25 h he hE]
  unfold tkV
  by_cases z : V 22 e 0 = -1
  · rw [if_pos z]
    by_cases z2 : (6 : Int32) <<< (V 23 e 0 &&& 31) ≤ t - V 25 e 0
    · rw [if_pos z2, if_pos ⟨z, z2⟩]
      obtain ⟨m', e1, e2, e3⟩ := s_tickLoop (c := 0) (t := t) he hE hN hV h hI hS N 0 49999 (by omega) (by omega)
      exact ⟨m', congrArg ab_rV e1, e2, e3⟩
    · rw [if_neg z2, if_neg (fun y => z2 y.2)]
      exact ⟨m, rfl, h, FS_rfl _ _⟩
  · rw [if_neg z, if_neg (fun y => z y.1)]
    exact ⟨m, rfl, h, FS_rfl _ _⟩
theorem t_leastOpen {V : Vt} {e N : Nat} {m : Mm} (he : e < 2) (hN : N ≤ 512) (hV : V 21 e 0 = nI N) (h : RM m V) (hS : ∀ a, Sa V a → IS V a) : r_M_leastOpen 98 (nI e) m = some (match ft V e N 0 with
  | some n => nI (560 * e + n)
  | none => -1, m) := by
  have loop : ∀ (k i f : Nat), i + k = N → 2 * k < f → b_M_leastOpen_6 f 98 (nI e) (nI (560 * e + i)) m = some (.inl (some (.inl (match ft V e k i with
    | some n => nI (560 * e + n)
    | none => -1)), m)) := by
    intro k
    induction k with
    | zero =>
      intro i f hi hf
      obtain ⟨f, rfl⟩ : ∃ g, f = g + 1 := ⟨f - 1, by omega⟩
      obtain rfl : i = N := by omega
      rw [b_M_leastOpen_6_eq, ab_ix_nI he (by decide)]
      simp only [ob_s, lt_eq]
      rw [n21 h he (p := 98 + 19) rfl rfl, hV, nI_560, if_pos (Int32.le_refl _)]
      rfl
    | succ k ih =>
      intro i f hi hf
      obtain ⟨f, rfl⟩ : ∃ g, f = g + 2 := ⟨f - 2, by omega⟩
      have sa : Sa V (560 * e + i) := Sa_of he (by omega) (by rw [hV]; grind [nI_T])
      have g := h.2.2.2.2 _ sa
      have q := hS _ sa
      unfold IS at q
      have e1 := ih (i + 1) f (by omega) (by omega)
      rw [show 560 * e + (i + 1) = 560 * e + i + 1 by omega, ← nI_1 (560 * e + i)] at e1
      rw [b_M_leastOpen_6_eq, ab_ix_nI he (by decide)]
      simp only [ob_s, lt_eq]
      rw [n21 h he (p := 98 + 19) rfl rfl, hV, nI_560, if_neg (by (try clear ih); grind [nI_T]), ab_ix_nI (show 560 * e + i < 1120 by omega) (by decide)]
      simp only [ob_s, lt_eq]
      rw [show (98 : Nat) + 30 = 128 from rfl, show (98 : Nat) + 31 = 129 from rfl, g.1, g.2.1]
      unfold ft
      by_cases hc : V 68 (560 * e + i) 0 = 1 ∧ V 69 (560 * e + i) 0 ≠ 0
      · rw [if_pos hc, if_pos (fs_0.mpr hc.1), if_pos (by grind)]
      · rw [if_neg hc]
        by_cases h68 : fs (V 68 (560 * e + i) 0) = 0
        · have := fs_0.mp h68
          rw [if_pos h68, if_neg (by grind), b_M_leastOpen_43_eq]
          simp only [ob_s, lt_eq]
          exact e1
        · rw [if_neg h68, b_M_leastOpen_43_eq]
          exact e1
  have l := loop N 0 49999 (by omega) (by omega)
  rw [r_M_leastOpen_eq, b_M_leastOpen_0_eq, lt_eq, show (560 : Int32) * nI e = nI (560 * e + 0) by rw [← nI_560]; grind [show nI 0 = 0 from rfl], l]
  rfl
end
section
theorem lsV_8 {V : Vt} {e p i a0 : Nat} {x : Int32} : lsV (uV V 8 a0 0 x) e p i = uV (lsV V e p i) 8 a0 0 x := by
  have u : ∀ k' a' b', k' ≠ 8 → uV V 8 a0 0 x k' a' b' = V k' a' b' := fun k' a' b' q => uV_k V 8 a0 0 x q
  funext k a b
  unfold lsV mk1
  simp only [u 70 _ _ (by omega), u 43 _ _ (by omega), u 76 _ _ (by omega), u 50 _ _ (by omega), u 77 _ _ (by omega), u 78 _ _ (by omega), u 79 _ _ (by omega), u 80 _ _ (by omega), u 67 _ _ (by omega), u 64 _ _ (by omega), u 65 _ _ (by omega)]
  unfold uV
  grind
theorem ft_8 {V : Vt} {e a0 : Nat} {x : Int32} : ∀ k i, ft (uV V 8 a0 0 x) e k i = ft V e k i
  | 0, _ => rfl
  | k + 1, i => by
    unfold ft
    rw [uV_k _ _ _ _ _ (by omega), uV_k _ _ _ _ _ (by omega), ft_8 k (i + 1)]
theorem uV_comm {V : Vt} {k a b k' a' b' : Nat} {x y : Int32} (h : k ≠ k') : uV (uV V k a b x) k' a' b' y = uV (uV V k' a' b' y) k a b x := by
  funext k1 a1 b1
  unfold uV
  grind
theorem uV_uV {V : Vt} {k a b : Nat} {x y : Int32} : uV (uV V k a b x) k a b y = uV V k a b y := by
  funext k1 a1 b1
  unfold uV
  grind
theorem tkV_8 {V : Vt} {e N a0 : Nat} {x t : Int32} : tkV (uV V 8 a0 0 x) e N t = uV (tkV V e N t) 8 a0 0 x := by
  unfold tkV
  rw [uV_k _ _ _ _ _ (by omega), uV_k _ _ _ _ _ (by omega), uV_k _ _ _ _ _ (by omega), ft_8]
  split
  · split
    · unfold goV
      rw [lsV_8, uV_k _ _ _ _ _ (by omega), uV_comm (k := 8) (k' := 27) (by omega), uV_comm (k := 8) (k' := 23) (by omega), uV_comm (k := 8) (k' := 25) (by omega)]
    · rfl
  · rfl
theorem t_tick1 {V : Vt} {e N : Nat} {t : Int32} {m : Mm} (he : e < 2) (hN : N ≤ 512) (hV : V 21 e 0 = nI N) (h : RM m V) (hI : ∀ a, a < 8 → IO V a) (hS : ∀ a, Sa V a → IS V a) (h22 : -1 ≤ V 22 e 0) (h23 : 0 ≤ V 23 e 0 ∧ V 23 e 0 ≤ 3) (h8 : V 8 e 0 + 1 = t) (f : Nat) (hf : 10 < f) : ∃ m' g, f ≤ g + 4 ∧ b_M_tick_17 f 98 (nI e) m = b_M_tick_17 g 98 (nI (e + 1)) m' ∧ RM m' (tkV (uV V 8 e 0 t) e N t) ∧ FC m m' := by
  obtain ⟨f, rfl⟩ : ∃ g, f = g + 4 := ⟨f - 4, by omega⟩
  have o1 : m.1 155 121 e = V 8 e 0 - V 25 e 0 := (h.2.2.1 e he).2.2.1
  have h1 : RM (ab_uI m 155 (98 + 23) e (V 8 e 0 - V 25 e 0 + 1)) (uV V 8 e 0 t) := RM_ov h he (.inl rfl) rfl rfl (by rw [uV_s, uV_k _ _ _ _ _ (by omega)]; grind)
  have f1 : FC m (ab_uI m 155 (98 + 23) e (V 8 e 0 - V 25 e 0 + 1)) := FC_uI (by omega)
  have k155 : (ab_uI m 155 (98 + 23) e (V 8 e 0 - V 25 e 0 + 1)).1 155 (98 + 23) e = t - V 25 e 0 := by rw [uI_s]; grind
  have k22 := n22 h1 he (p := 98 + 22) rfl rfl
  have k23 := n23 h1 he (p := 98 + 24) rfl rfl
  rw [uV_k _ _ _ _ _ (by omega)] at k22 k23
  have hI1 : ∀ a, a < 8 → IO (uV V 8 e 0 t) a := fun a ha => IO_k (by omega) (hI a ha)
  have hS1 : ∀ a, Sa (uV V 8 e 0 t) a → IS (uV V 8 e 0 t) a := fun a ha => IS_k (by omega) (hS a ((Sa_uV (by omega) a).mp ha))
  have lo := t_leastOpen (V := uV V 8 e 0 t) he hN (by rw [uV_k _ _ _ _ _ (by omega)]; exact hV) h1 hS1
  rw [ft_8] at lo
  have q121 : ∀ (g : Nat) (m3 : Mm), b_M_tick_121 (g + 1) 98 (nI e) m3 = b_M_tick_17 g 98 (nI (e + 1)) m3 := by
    intro g m3
    rw [b_M_tick_121_eq, lt_eq, nI_1]
  rw [b_M_tick_17_eq, if_neg (by (try clear ih); grind [nI_T]), ab_ix_nI he (by decide)]
  simp only [ob_s, lt_eq]
  rw [show (98 : Nat) + 23 = 121 from rfl, o1]
  rw [show (98 : Nat) + 23 = 121 from rfl] at h1 f1 k155 k22 k23 lo
  generalize ab_uI m 155 121 e (V 8 e 0 - V 25 e 0 + 1) = m1 at *
  rw [k22]
  unfold tkV
  rw [uV_k _ _ _ _ _ (show (22 : Nat) ≠ 8 by omega), uV_k _ _ _ _ _ (show (23 : Nat) ≠ 8 by omega), uV_k _ _ _ _ _ (show (25 : Nat) ≠ 8 by omega), ft_8]
  by_cases z : V 22 e 0 = -1
  · rw [if_neg (by rw [z]; decide), lo]
    simp only [ob_s, lt_eq]
    cases hft : ft V e N 0 with
    | none =>
      simp only
      rw [b_M_tick_50_eq, if_pos (by decide), q121]
      refine ⟨m1, _, by omega, rfl, ?_, f1⟩
      split <;> exact h1
    | some n =>
      have hn := ft_some hft
      simp only
      rw [b_M_tick_50_eq, if_neg (by (try clear ih); grind [nI_T]), ab_ix_nI he (by decide)]
      simp only [ob_s, lt_eq]
      rw [show (98 : Nat) + 23 = 121 from rfl, k155, k23]
      by_cases z2 : (6 : Int32) <<< (V 23 e 0 &&& 31) ≤ t - V 25 e 0
      · have hx : nI n < V 21 e 0 := by rw [hV]; grind [nI_T]
        have sa : Sa (uV V 8 e 0 t) (560 * e + n) := (Sa_uV (by omega) _).mpr (Sa_of he (by omega) hx)
        obtain ⟨m2, e2, r2, f2⟩ := t_loses h1 hI1 he sa (hS1 _ sa)
        rw [if_neg (by grind), if_pos ⟨z, z2⟩, e2]
        simp only [ob_s, lt_eq]
        rw [bo_1]
        simp only [ob_s, lt_eq]
        have h3 := nu27 r2 he (p := 98 + 28) (j := e) rfl rfl 1
        have k23' := n23 h3 he (p := 98 + 24) rfl rfl
        rw [uV_k _ _ _ _ _ (by omega), lsV_o (by omega), uV_k _ _ _ _ _ (by omega)] at k23'
        rw [k23']
        have q113 : ∀ (g : Nat) (u : Int32) (m3 : Mm), b_M_tick_113 (g + 2) 98 (nI e) (98 + 24) (nI e) u m3 = b_M_tick_17 g 98 (nI (e + 1)) (ab_uI (ab_uI m3 156 (98 + 24) e u) 155 (98 + 23) e 0) := by
          intro g u m3
          rw [b_M_tick_113_eq, ab_ix_nI he (by decide)]
          simp only [ob_s, lt_eq]
          rw [q121]
        rw [q113, q113]
        have h4 := nu23 h3 he (p := 98 + 24) (j := e) rfl rfl (if 3 < V 23 e 0 + 1 then 3 else V 23 e 0 + 1)
        have h5 := RM_ov (k := 25) (x := t) (y := 0) (p := 98 + 23) (j := e) h4 he (.inr rfl) rfl rfl (by
          rw [uV_s, uV_k _ _ _ _ _ (show (8 : Nat) ≠ 25 by omega), uV_k _ _ _ _ _ (show (8 : Nat) ≠ 23 by omega), uV_k _ _ _ _ _ (show (8 : Nat) ≠ 27 by omega), lsV_o (by omega), uV_s]
          grind)
        have gv : goV (uV V 8 e 0 t) e n t = uV (uV (uV (lsV (uV V 8 e 0 t) e (560 * e + n) 4) 27 e 0 1) 23 e 0 (if 3 < V 23 e 0 + 1 then 3 else V 23 e 0 + 1)) 25 e 0 t := by
          unfold goV
          rw [uV_k _ _ _ _ _ (show (23 : Nat) ≠ 8 by omega)]
        refine ⟨_, f, by omega, ?_, ?_, FC_tr f1 (FC_tr (FS_FC f2 (fun r hr => by unfold sMl at hr; omega)) (FC_tr (FC_uI (k := 160) (p := 98 + 28) (b := e) (x := 1) (by omega)) (FC_tr (FC_uI (k := 156) (p := 98 + 24) (b := e) (x := if 3 < V 23 e 0 + 1 then 3 else V 23 e 0 + 1) (by omega)) (FC_uI (k := 155) (p := 98 + 23) (b := e) (x := 0) (by omega)))))⟩
        · by_cases z3 : (3 : Int32) ≤ V 23 e 0
          · rw [if_pos z3, if_pos (by grind)]
          · rw [if_neg z3, if_neg (by grind)]
        · rw [gv]
          exact h5
      · rw [if_pos (by grind), if_neg (fun y => z2 y.2), q121]
        exact ⟨m1, _, by omega, rfl, h1, f1⟩
  · rw [if_pos (by grind), if_neg (fun y => z y.1), b_M_tick_50_eq, if_pos (by decide), q121]
    exact ⟨m1, _, by omega, rfl, h1, f1⟩
theorem Iv_7 {c : Nat} {V : Vt} {t : Int32} (h0 : Iv c V) (ht : V 7 0 0 + 1 = t) (hc : c < 512) : Iv (c + 1) (uV (uV (uV V 7 0 0 t) 8 0 0 t) 8 1 0 t) := by
  have h := Iv_more h0 (show c ≤ c + 1 by omega) (by omega)
  have t7 := h0.2.2.2.1.2.2.1
  have u : ∀ k a b, k ≠ 7 → k ≠ 8 → uV (uV (uV V 7 0 0 t) 8 0 0 t) 8 1 0 t k a b = V k a b := fun k a b q q' => (uV_k _ _ _ _ _ q').trans ((uV_k _ _ _ _ _ q').trans (uV_k _ _ _ _ _ q))
  have u7 : uV (uV (uV V 7 0 0 t) 8 0 0 t) 8 1 0 t 7 0 0 = t := by rw [uV_k _ _ _ _ _ (by omega), uV_k _ _ _ _ _ (by omega), uV_s]
  have u8 : ∀ e, e < 2 → uV (uV (uV V 7 0 0 t) 8 0 0 t) 8 1 0 t 8 e 0 = t := by
    intro e he
    have : e = 0 ∨ e = 1 := by omega
    rcases this with rfl | rfl
    · rw [uV_a _ _ _ _ _ (by omega), uV_s]
    · rw [uV_s]
  have sa : ∀ a, Sa (uV (uV (uV V 7 0 0 t) 8 0 0 t) 8 1 0 t) a ↔ Sa V a := fun a => (Sa_uV (by omega) a).trans ((Sa_uV (by omega) a).trans (Sa_uV (by omega) a))
  refine ⟨fun a ha => IO_k (by omega) (IO_k (by omega) (IO_k (by omega) (h.1 a ha))), fun a ha => IN_k (by omega) (IN_k (by omega) (IN_k (by omega) (h.2.1 a ha))), fun e he => ?_, ?_, fun a ha hl => IR_k (by omega) (IR_k (by omega) (IR_k (by omega) (h.2.2.2.2.1 a ha (by rw [u 5 _ _ (by omega) (by omega)] at hl; exact hl)))), fun a ha => IS_k (by omega) (IS_k (by omega) (IS_k (by omega) (h.2.2.2.2.2 a ((sa a).mp ha))))⟩
  · have g := h.2.2.1 e he
    unfold IE hb at *
    rw [u8 e he, u7]
    simp only [u 21 _ _ (by omega) (by omega), u 22 _ _ (by omega) (by omega), u 23 _ _ (by omega) (by omega), u 24 _ _ (by omega) (by omega), u 25 _ _ (by omega) (by omega), u 26 _ _ (by omega) (by omega), u 30 _ _ (by omega) (by omega), u 31 _ _ (by omega) (by omega), u 41 _ _ (by omega) (by omega), u 42 _ _ (by omega) (by omega), u 43 _ _ (by omega) (by omega), u 44 _ _ (by omega) (by omega), u 55 _ _ (by omega) (by omega), u 28 _ _ (by omega) (by omega)]
    obtain ⟨g1, g2, g3, g4, g5, g6, g7, g8, g9, g10, g11, g12, g13, g14, g15, g16⟩ := g
    refine ⟨g1, g2, g3, g4, ⟨g5.1, ?_⟩, g6, g7, g8, g9, g10, g11, g12, g13, g14, trivial, g16⟩
    have := g5.2
    grind [nI_T]
  · have g := h.2.2.2.1
    unfold IX at *
    rw [u7]
    simp only [u 5 _ _ (by omega) (by omega), u 6 _ _ (by omega) (by omega), u 14 _ _ (by omega) (by omega)]
    refine ⟨g.1, g.2.1, ?_, g.2.2.2⟩
    grind [nI_T]
theorem Iv_go {c : Nat} {V : Vt} {e n : Nat} {t : Int32} (h : Iv c V) (he : e < 2) (sa : Sa V (560 * e + n)) (hn : n < 512) (ht : V 7 0 0 = t) : Iv c (goV V e n t) := by
  have h1 := Iv_ls h he sa hn
  have t7 := h.2.2.2.1.2.2.1
  have i23 := (h.2.2.1 e he).2.2.1
  have l23 : lsV V e (560 * e + n) 4 23 e 0 = V 23 e 0 := lsV_o (by omega) _ _
  have l7 : lsV V e (560 * e + n) 4 7 0 0 = t := by rw [lsV_o (by omega)]; exact ht
  unfold goV
  generalize lsV V e (560 * e + n) 4 = U at *
  have h2 := Iv_free (k := 27) (a1 := e) (b1 := 0) (x := 1) h1 (by omega)
  have u : ∀ (y z : Int32) k a b, k ≠ 23 → k ≠ 25 → uV (uV (uV U 27 e 0 1) 23 e 0 y) 25 e 0 z k a b = uV U 27 e 0 1 k a b := fun y z k a b q q' => (uV_k _ _ _ _ _ q').trans (uV_k _ _ _ _ _ q)
  have u7 : uV U 27 e 0 1 7 0 0 = t := by rw [uV_k _ _ _ _ _ (by omega)]; exact l7
  generalize uV U 27 e 0 1 = T at *
  generalize hy : (if 3 < V 23 e 0 + 1 then 3 else V 23 e 0 + 1) = y at *
  have hy2 : 0 ≤ y ∧ y ≤ 3 := by grind
  have sa' : ∀ a, Sa (uV (uV T 23 e 0 y) 25 e 0 t) a ↔ Sa T a := fun a => (Sa_uV (by omega) a).trans (Sa_uV (by omega) a)
  refine ⟨fun a ha => IO_k (by omega) (IO_k (by omega) (h2.1 a ha)), fun a ha => IN_k (by omega) (IN_k (by omega) (h2.2.1 a ha)), fun e' he' => ?_, IX_k (by omega) (IX_k (by omega) h2.2.2.2.1), fun a ha hl => IR_k (by omega) (IR_k (by omega) (h2.2.2.2.2.1 a ha (by rw [u y t 5 _ _ (by omega) (by omega)] at hl; exact hl))), fun a ha => IS_k (by omega) (IS_k (by omega) (h2.2.2.2.2.2 a ((sa' a).mp ha)))⟩
  have g := h2.2.2.1 e' he'
  unfold IE hb at *
  simp only [u y t 21 _ _ (by omega) (by omega), u y t 22 _ _ (by omega) (by omega), u y t 24 _ _ (by omega) (by omega), u y t 26 _ _ (by omega) (by omega), u y t 30 _ _ (by omega) (by omega), u y t 31 _ _ (by omega) (by omega), u y t 41 _ _ (by omega) (by omega), u y t 42 _ _ (by omega) (by omega), u y t 43 _ _ (by omega) (by omega), u y t 44 _ _ (by omega) (by omega), u y t 55 _ _ (by omega) (by omega), u y t 7 _ _ (by omega) (by omega), u y t 8 _ _ (by omega) (by omega), u y t 28 _ _ (by omega) (by omega)]
  obtain ⟨g1, g2, g3, g4, g5, g6⟩ := g
  refine ⟨g1, g2, ?_, g4, ?_, g6⟩
  · rw [uV_k _ _ _ _ _ (show (23 : Nat) ≠ 25 by omega)]
    unfold uV
    grind
  · rw [u7] at g5 ⊢
    unfold uV
    grind
theorem Iv_tk {c : Nat} {V : Vt} {e N : Nat} {t : Int32} (h : Iv c V) (he : e < 2) (hN : V 21 e 0 = nI N) (hN5 : N ≤ 512) (ht : V 7 0 0 = t) : Iv c (tkV V e N t) ∧ tkV V e N t 7 0 0 = t ∧ ∀ e', tkV V e N t 21 e' 0 = V 21 e' 0 := by
  unfold tkV
  by_cases z : V 22 e 0 = -1 ∧ (6 : Int32) <<< (V 23 e 0 &&& 31) ≤ t - V 25 e 0
  · rw [if_pos z]
    cases hn : ft V e N 0 with
    | none => exact ⟨h, ht, fun _ => rfl⟩
    | some n =>
      have hn' := ft_some hn
      simp only
      refine ⟨Iv_go h he (Sa_of he (by omega) (by rw [hN]; grind [nI_T])) (by omega) ht, ?_, fun e' => ?_⟩
      · unfold goV
        rw [uV_k _ _ _ _ _ (by omega), uV_k _ _ _ _ _ (by omega), uV_k _ _ _ _ _ (by omega), lsV_o (by omega)]
        exact ht
      · unfold goV
        rw [uV_k _ _ _ _ _ (by omega), uV_k _ _ _ _ _ (by omega), uV_k _ _ _ _ _ (by omega), lsV_o (by omega)]
  · rw [if_neg z]
    exact ⟨h, ht, fun _ => rfl⟩
theorem J_tick {c : Nat} {m : Mm} (h : St c m) (hc : c < 512) : Jn c (r_X_tick 0 m) (r_M_tick 98) := by
  obtain ⟨V, w, W, h1, h2, h3⟩ := id h
  have i7 := h3.2.2.2.1.2.2.1
  generalize ht : V 7 0 0 + 1 = t
  have hIa := Iv_7 h3 ht hc
  generalize hVa : uV (uV (uV V 7 0 0 t) 8 0 0 t) 8 1 0 t = Va at *
  have rc : RC (ab_uI m 7 0 0 t) Va w W := by
    rw [← hVa]
    exact RC_8 (RC_8 (cu7 h1 rfl t))
  have a7 : Va 7 0 0 = t := by rw [← hVa, uV_k _ _ _ _ _ (by omega), uV_k _ _ _ _ _ (by omega), uV_s]
  have ie0 := hIa.2.2.1 0 (by omega)
  have ie1 := hIa.2.2.1 1 (by omega)
  obtain ⟨N0, hN0, e0⟩ := i_ofc (x := Va 21 0 0) (N := c + 1) ie0.1.1 ie0.1.2 (by omega)
  obtain ⟨N1, hN1, e1⟩ := i_ofc (x := Va 21 1 0) (N := c + 1) ie1.1.1 ie1.1.2 (by omega)
  obtain ⟨m1, p1, r1, f1⟩ := s_passTick (e := 0) (E := 0 + 1 + 5 + 30 * 0) (t := t) (by omega) rfl (by omega) e0 rc hIa.1 hIa.2.2.2.2.2
  obtain ⟨k1, k2, k3⟩ := Iv_tk (e := 0) hIa (by omega) e0 (by omega) a7
  obtain ⟨m2, p2, r2, f2⟩ := s_passTick (e := 1) (N := N1) (E := 0 + 1 + 5 + 30 * 1) (t := t) (by omega) rfl (by omega) (by rw [k3]; exact e1) r1 k1.1 k1.2.2.2.2.2
  obtain ⟨j1, j2, j3⟩ := Iv_tk (e := 1) (N := N1) k1 (by omega) (by rw [k3]; exact e1) (by omega) k2
  have d7 : m1.1 7 0 0 = t := by rw [c7 r1 rfl]; exact k2
  have d7' : m2.1 7 0 0 = t := by rw [c7 r2 rfl]; exact j2
  have fm : FM m m2 := FM_tr (FM_tr (FM_uI (k := 7) (p := 0) (b := 0) (x := t) (by omega)) (FS_FM f1 (fun r hr => by unfold sTk at hr; omega))) (FS_FM f2 (fun r hr => by unfold sTk at hr; omega))
  have g0 : RM (ab_uI (ab_uI m2 84 98 0 0) 83 98 0 t) (uV V 7 0 0 t) := RM_7 (RM_sm (RM_FM h2 fm) (by unfold Sm; omega))
  have k83 : (ab_uI m2 84 98 0 0).1 83 98 0 = V 7 0 0 := (RM_sm (RM_FM h2 fm) (by unfold Sm; omega) : RM (ab_uI m2 84 98 0 0) V).2.1.2.2
  have h3' := Iv_more h3 (show c ≤ c + 1 by omega) (by omega)
  have vk : ∀ k a b, k ≠ 7 → uV V 7 0 0 t k a b = V k a b := fun k a b q => uV_k _ _ _ _ _ q
  have va : ∀ k a b, k ≠ 7 → k ≠ 8 → Va k a b = V k a b := fun k a b q q' => by rw [← hVa, uV_k _ _ _ _ _ q', uV_k _ _ _ _ _ q', uV_k _ _ _ _ _ q]
  have i80 : V 8 0 0 = V 7 0 0 := (h3.2.2.1 0 (by omega)).2.2.2.2.2.2.2.2.2.2.2.2.2.2.1
  have i81 : V 8 1 0 = V 7 0 0 := (h3.2.2.1 1 (by omega)).2.2.2.2.2.2.2.2.2.2.2.2.2.2.1
  obtain ⟨m3, g3, q1, q2, q3, q4⟩ := t_tick1 (V := uV V 7 0 0 t) (e := 0) (N := N0) (t := t) (by omega) (by omega) (by rw [vk _ _ _ (by omega), ← va 21 _ _ (by omega) (by omega)]; exact e0) g0 (fun a ha => IO_k (by omega) (h3.1 a ha)) (fun a ha => IS_k (by omega) (h3.2.2.2.2.2 a ((Sa_uV (by omega) a).mp ha))) (by rw [vk _ _ _ (by omega)]; exact (h3.2.2.1 0 (by omega)).2.1) (by rw [vk _ _ _ (by omega)]; exact (h3.2.2.1 0 (by omega)).2.2.1) (by rw [vk _ _ _ (by omega), i80]; exact ht) 49999 (by omega)
  have ev : tkV Va 0 N0 t = uV (tkV (uV (uV V 7 0 0 t) 8 0 0 t) 0 N0 t) 8 1 0 t := by rw [← hVa, tkV_8]
  have w81 : tkV (uV (uV V 7 0 0 t) 8 0 0 t) 0 N0 t 8 1 0 = V 8 1 0 := by
    unfold tkV
    have q : uV (uV V 7 0 0 t) 8 0 0 t 8 1 0 = V 8 1 0 := by rw [uV_a _ _ _ _ _ (by omega), uV_k _ _ _ _ _ (by omega)]
    generalize uV (uV V 7 0 0 t) 8 0 0 t = U at *
    by_cases z : U 22 0 0 = -1 ∧ (6 : Int32) <<< (U 23 0 0 &&& 31) ≤ t - U 25 0 0
    · rw [if_pos z]
      cases hn : ft U 0 N0 0 with
      | none => exact q
      | some n =>
        simp only
        unfold goV
        rw [uV_k _ _ _ _ _ (by omega), uV_k _ _ _ _ _ (by omega), uV_k _ _ _ _ _ (by omega), lsV_o (by omega)]
        exact q
    · rw [if_neg z]
      exact q
  generalize hV2 : tkV (uV (uV V 7 0 0 t) 8 0 0 t) 0 N0 t = V2 at *
  have bk : uV (uV V2 8 1 0 t) 8 1 0 (V2 8 1 0) = V2 := by rw [uV_uV, uV_self]
  have io2 : ∀ a, a < 8 → IO V2 a := fun a ha => by
    rw [← bk]
    refine IO_k (by omega) ?_
    rw [← ev]
    exact k1.1 a ha
  have sa2 : ∀ a, Sa V2 a → IS V2 a := fun a ha => by
    have : Sa (tkV Va 0 N0 t) a := by
      rw [ev]
      exact (Sa_uV (by omega) a).mpr ha
    rw [← bk]
    refine IS_k (by omega) ?_
    rw [← ev]
    exact k1.2.2.2.2.2 a this
  have vk2 : ∀ k a b, k ≠ 8 → V2 k a b = tkV Va 0 N0 t k a b := fun k a b q => by rw [ev, uV_k _ _ _ _ _ q]
  obtain ⟨m4, g4, q5, q6, q7, q8⟩ := t_tick1 (V := V2) (e := 1) (N := N1) (t := t) (by omega) (by omega) (by rw [vk2 _ _ _ (by omega), k3]; exact e1) q3 io2 sa2 (by rw [vk2 _ _ _ (by omega)]; exact (k1.2.2.1 1 (by omega)).2.1) (by rw [vk2 _ _ _ (by omega)]; exact (k1.2.2.1 1 (by omega)).2.2.1) (by rw [w81, i81]; exact ht) g3 (by omega)
  rw [← ev] at q7
  obtain ⟨g4, rfl⟩ : ∃ g', g4 = g' + 1 := ⟨g4 - 1, by omega⟩
  have k83' : m4.1 83 98 0 = t := by rw [q7.2.1.2.2]; exact j2
  refine ⟨(t, m2), ?_, (t, m4), ?_, rfl, tkV (tkV Va 0 N0 t) 1 N1 t, w, W, RC_FC (RC_FC (RC_FC (RC_FC r2 (FC_uI (by omega))) (FC_uI (by omega))) q4) q8, q7, j1⟩
  · rw [r_X_tick_eq, b_X_tick_0_eq, c7 h1 rfl, ht]
    simp only [ob_s, lt_eq]
    rw [b_X_tick_12_eq, if_neg (by decide), i_ix (x := 0) (k := 0) (n := 2) rfl (by omega) (by decide)]
    simp only [ob_s, lt_eq]
    rw [uI_s, p1]
    simp only [ob_s, lt_eq]
    rw [b_X_tick_12_eq, if_neg (by decide), i_ix (x := 0 + 1) (k := 1) (n := 2) (by decide) (by omega) (by decide)]
    simp only [ob_s, lt_eq]
    rw [d7, p2]
    simp only [ob_s, lt_eq]
    rw [b_X_tick_12_eq, if_pos (by decide), d7']
    rfl
  · rw [show nI 0 = (0 : Int32) from rfl] at q2
    rw [r_M_tick_eq, b_M_tick_0_eq]
    simp only [ob_s, lt_eq]
    rw [k83, ht, q2, show nI (0 + 1) = nI 1 from rfl, q6, b_M_tick_17_eq, if_pos (by decide), k83']
    rfl
end
