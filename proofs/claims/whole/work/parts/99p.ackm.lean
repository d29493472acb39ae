section
/-! ACK is written: the model. -/
def s71 (r : Nat) : Prop := r = 170 ∨ r = 171
theorem t_isSeenN {e : Nat} {m : Mm} : r_M_isSeen 98 (nI e) (-1) m = some (0, m) := by
  rw [r_M_isSeen_eq, b_M_isSeen_0_eq, if_pos (by decide), bo_0, ob_s, rI_some]
theorem t_18 {V : Vt} {e : Nat} {v2 : Int32} {m : Mm} (h : RM m V) (he : e < 2) : ∀ (u f : Nat), u < 10240 → u < f → ∃ g, f ≤ g + u + 1 ∧ b_M_putAck_18 f 98 (nI e) v2 (pd u) m = b_M_putAck_37 g 98 (nI e) v2 (oi (gbl V e u)) m := by
  intro u
  induction u with
  | zero =>
    intro f _ hf
    obtain ⟨f, rfl⟩ : ∃ g, f = g + 1 := ⟨f - 1, by omega⟩
    refine ⟨f, by omega, ?_⟩
    rw [b_M_putAck_18_eq, if_pos (by decide)]
    rfl
  | succ n ih =>
    intro f hn hf
    obtain ⟨f, rfl⟩ : ∃ g, f = g + 1 := ⟨f - 1, by omega⟩
    rw [b_M_putAck_18_eq, pd_1, if_neg (by clear ih h; grind [nI_T]), t_isSeen h he (n := n) (by omega)]
    simp only [ob_s, lt_eq, ib_if]
    unfold gbl
    by_cases y : (V 31 e (n / 32) >>> (nI (n % 32) &&& 31)) &&& 1 = 1
    · rw [if_pos y, if_pos y]
      exact ⟨f, by omega, rfl⟩
    · rw [if_neg y, if_neg y, pd_d (by omega)]
      obtain ⟨g, g1, g2⟩ := ih f (by omega) (by omega)
      exact ⟨g, by omega, g2⟩
theorem t_48 {V : Vt} {e i : Nat} {m : Mm} (h : RM m V) (he : e < 2) (hi : i < 3) : ∀ (u f : Nat), u < 10240 → u < f → ∃ g, f ≤ g + u + 1 ∧ b_M_putAck_48 f 98 (nI e) (nI i) (pd u) m = b_M_putAck_9 g 98 (nI e) (nI (i + 1)) (pd (lrg V e u)) (ab_uI m 171 137 i (nI (lrg V e u))) := by
  intro u
  induction u with
  | zero =>
    intro f _ hf
    obtain ⟨f, rfl⟩ : ∃ g, f = g + 1 := ⟨f - 1, by omega⟩
    refine ⟨f, by omega, ?_⟩
    rw [b_M_putAck_48_eq, pd_0, t_isSeenN]
    simp only [ob_s]
    rw [if_pos trivial, ab_ix_nI hi (by decide)]
    simp only [ob_s, lt_eq]
    rw [nI_1, show (-1 : Int32) + 1 = nI 0 from by decide, show lrg V e 0 = 0 from rfl, pd_0]
  | succ n ih =>
    intro f hn hf
    obtain ⟨f, rfl⟩ : ∃ g, f = g + 1 := ⟨f - 1, by omega⟩
    rw [b_M_putAck_48_eq, pd_1, t_isSeen h he (n := n) (by omega)]
    simp only [ob_s, lt_eq, ib_if]
    unfold lrg
    by_cases y : (V 31 e (n / 32) >>> (nI (n % 32) &&& 31)) &&& 1 = 1
    · rw [if_pos y, if_pos y, pd_d (by omega)]
      obtain ⟨g, g1, g2⟩ := ih f (by omega) (by omega)
      exact ⟨g, by omega, g2⟩
    · rw [if_neg y, if_neg y, ab_ix_nI hi (by decide), pd_1]
      simp only [ob_s, lt_eq]
      refine ⟨f, by omega, ?_⟩
      rw [nI_1, nI_1]
/-- the ranges that the model found -/
def Ar (V : Vt) (e : Nat) (m : Mm) : Nat → Nat → Nat → Prop
  | _, 0, _ => True
  | i, k + 1, l => ∀ t, gbl V e l = some t → m.1 170 136 i = nI t ∧ m.1 171 137 i = nI (lrg V e t) ∧ Ar V e m (i + 1) k (lrg V e t)
theorem Ar_c {V : Vt} {e : Nat} {m m' : Mm} (h1 : m'.1 170 = m.1 170) (h2 : m'.1 171 = m.1 171) : ∀ (k i l : Nat), Ar V e m i k l → Ar V e m' i k l := by
  intro k
  induction k with
  | zero => intro i l h; trivial
  | succ k ih =>
    intro i l h t ht
    have g := h t ht
    exact ⟨by rw [h1]; exact g.1, by rw [h2]; exact g.2.1, ih _ _ g.2.2⟩
def FK : Nat → Nat
  | 0 => 10
  | k + 1 => FK k + 10010
theorem t_scan {V : Vt} {e : Nat} (he : e < 2) : ∀ (k l i f : Nat) (m : Mm), l ≤ 5000 → i + k = 3 → FK k < f → RM m V → ∃ m' g, 10 ≤ g ∧ b_M_putAck_9 f 98 (nI e) (nI i) (pd l) m = b_M_putAck_78 g 98 (nI e) (nI (i + rgn V e k l)) m' ∧ RM m' V ∧ FS s71 m m' ∧ (∀ r j, j < i → m'.1 r 136 j = m.1 r 136 j ∧ m'.1 r 137 j = m.1 r 137 j) ∧ Ar V e m' i k l := by
  intro k
  induction k with
  | zero =>
    intro l i f m hl hi hf h
    rw [show FK 0 = 10 from rfl] at hf
    obtain ⟨f, rfl⟩ : ∃ g, f = g + 1 := ⟨f - 1, by omega⟩
    obtain rfl : i = 3 := by omega
    refine ⟨m, f, by omega, ?_, h, FS_rfl _ _, fun _ _ _ => ⟨rfl, rfl⟩, trivial⟩
    rw [b_M_putAck_9_eq]
    have : (3 : Int32) ≤ nI 3 := by decide
    rw [if_pos this]
    split <;> rfl
  | succ k ih =>
    intro l i f m hl hi hf h
    rw [show FK (k + 1) = FK k + 10010 from rfl] at hf
    obtain ⟨f, rfl⟩ : ∃ f', f = f' + 2 := ⟨f - 2, by omega⟩
    have hi3 : i < 3 := by omega
    cases g : gbl V e l with
    | none =>
      have done : ∀ f', b_M_putAck_9 (f' + 1) 98 (nI e) (nI i) (-1) m = b_M_putAck_78 f' 98 (nI e) (nI i) m := fun f' => by
        rw [b_M_putAck_9_eq, if_pos (by decide)]
      rw [rgn_none g, Nat.add_zero]
      have ar : Ar V e m i (k + 1) l := fun t ht => by rw [g] at ht; cases ht
      cases l with
      | zero =>
        exact ⟨m, f + 1, by omega, done _, h, FS_rfl _ _, fun _ _ _ => ⟨rfl, rfl⟩, ar⟩
      | succ l =>
        obtain ⟨g1, g2, g3⟩ := t_18 (v2 := nI i) h he (l + 1) (f + 1) (by omega) (by omega)
        rw [pd_1] at g3
        obtain ⟨g1, rfl⟩ : ∃ g', g1 = g' + 2 := ⟨g1 - 2, by omega⟩
        refine ⟨m, g1, by omega, ?_, h, FS_rfl _ _, fun _ _ _ => ⟨rfl, rfl⟩, ar⟩
        rw [b_M_putAck_9_eq, pd_1, if_neg (by clear ih h ar done g3; grind [nI_T]), if_neg (by clear ih h ar done g3; grind [nI_T]), g3, g, show oi none = -1 from rfl, b_M_putAck_37_eq, if_pos (by decide), done, Nat.add_zero]
    | some t =>
      have tl := gbl_lt g
      have lt := lrg_le V e t
      obtain ⟨l, rfl⟩ : ∃ l', l = l' + 1 := ⟨l - 1, by omega⟩
      obtain ⟨g1, g2, g3⟩ := t_18 (v2 := nI i) h he (l + 1) (f + 1) (by omega) (by omega)
      rw [pd_1] at g3
      obtain ⟨g1, rfl⟩ : ∃ g', g1 = g' + 1 := ⟨g1 - 1, by omega⟩
      have h1 : RM (ab_uI m 170 136 i (nI t)) V := RM_sm h (by unfold Sm; omega)
      obtain ⟨g4, g5, g6⟩ := t_48 h1 he hi3 (t + 1) g1 (by omega) (by omega)
      have e1 : lrg V e (t + 1) = lrg V e t := by
        show (if _ then _ else _) = _
        rw [if_pos tl.2]
      rw [e1, pd_1] at g6
      have fuel : FK k < g4 := by omega
      obtain ⟨m', g7, q1, q2, q3, q4, q5, q6⟩ := ih (lrg V e t) (i + 1) g4 (ab_uI (ab_uI m 170 136 i (nI t)) 171 137 i (nI (lrg V e t))) (by omega) (by omega) fuel (RM_sm h1 (by unfold Sm; omega))
      refine ⟨m', g7, q1, ?_, q3, FS_tr (FS_tr (FS_uI (.inl rfl)) (FS_uI (.inr rfl))) q4, fun r j hj => ?_, fun t' ht' => ?_⟩
      · rw [b_M_putAck_9_eq, pd_1, if_neg (by clear ih h h1 q6 q2 q3 q4 q5 g3 g6; grind [nI_T]), if_neg (by clear ih h h1 q6 q2 q3 q4 q5 g3 g6; grind [nI_T]), g3, g, show oi (some t) = nI t from rfl, b_M_putAck_37_eq, if_neg (by clear ih h h1 q6 q2 q3 q4 q5 g3 g6; grind [nI_T]), ab_ix_nI hi3 (by decide)]
        simp only [ob_s, lt_eq]
        rw [show (98 : Nat) + 38 = 136 from rfl, g6, q2, rgn_some g, show i + 1 + rgn V e k (lrg V e t) = i + (1 + rgn V e k (lrg V e t)) by omega]
      · have := q5 r j (by omega)
        rw [this.1, this.2, uI_1, uI_1, uI_1, uI_1, if_neg (by omega), if_neg (by omega), if_neg (by omega), if_neg (by omega)]
        exact ⟨rfl, rfl⟩
      · rw [g] at ht'
        cases ht'
        have p1 := q5 170 i (by omega)
        have p2 := q5 171 i (by omega)
        refine ⟨?_, ?_, q6⟩
        · rw [p1.1, uI_r _ _ _ _ _ _ _ _ (by omega), uI_s]
        · rw [p2.2, uI_s]
theorem t_120 {V : Vt} {e K : Nat} (he : e < 2) (hK : K ≤ 3) : ∀ (k u i f : Nat) (m : Mm) (L : List Nat), u < 10240 → 1 ≤ i → i + k ≤ 3 → i + rgn V e k (lrg V e u) = K → k < f → L.length + 4 * k ≤ 47 → RM m V → ML m L → m.1 171 137 (i - 1) = nI (lrg V e u) → Ar V e m i k (lrg V e u) → ∃ m', b_M_putAck_120 f 98 (nI e) (nI K) (nI i) m = some (.inl (none, ab_uI m' 158 124 e 0)) ∧ RM m' V ∧ ML m' (L ++ fur V e k (lrg V e u)) ∧ FS s2 m m' := by
  intro k
  induction k with
  | zero =>
    intro u i f m L hu h1i hik hi hff hL h1 h2 h3 h4
    obtain ⟨f, rfl⟩ : ∃ g, f = g + 1 := ⟨f - 1, by omega⟩
    refine ⟨m, ?_, h1, ?_, FS_rfl _ _⟩
    · have : K = i := by rw [← hi]; rfl
      rw [b_M_putAck_120_eq, this, if_pos (Int32.le_refl _), ab_ix_nI he (by decide), bo_0]
      simp only [ob_s, lt_eq]
    · rw [show fur V e 0 (lrg V e u) = [] from rfl, List.append_nil]
      exact h2
  | succ k ih =>
    intro u i f m L hu h1i hik hi hff hL h1 h2 h3 h4
    obtain ⟨f, rfl⟩ : ∃ g, f = g + 1 := ⟨f - 1, by omega⟩
    cases g : gbl V e (lrg V e u) with
    | none =>
      rw [rgn_none g] at hi
      refine ⟨m, ?_, h1, ?_, FS_rfl _ _⟩
      · have : K = i := by omega
        rw [b_M_putAck_120_eq, this, if_pos (Int32.le_refl _), ab_ix_nI he (by decide), bo_0]
        simp only [ob_s, lt_eq]
      · rw [fur_none g, List.append_nil]
        exact h2
    | some t =>
      rw [rgn_some g] at hi
      have gp := gbl_gap g
      have lu := lrg_le V e u
      have lt := lrg_le V e t
      have ar := h4 t g
      have a1 : nI (lrg V e u) - nI t - 2 = nI (lrg V e u - t - 2) := by
        clear ih h1 h2 g h3 h4 ar
        grind [nI_T]
      have a2 : nI t - nI (lrg V e t) = nI (t - lrg V e t) := by
        clear ih h1 h2 g a1 h3 h4 ar
        grind [nI_T]
      have a3 : nI i - 1 = nI (i - 1) := by
        clear ih h1 h2 g a1 a2 h3 h4 ar
        grind [nI_T]
      have w1 := nw_2 (v := lrg V e u - t - 2) (by omega)
      have w2 := nw_2 (v := t - lrg V e t) (by omega)
      obtain ⟨m1, b1, b2, b3, b4⟩ := t_numL h1 (v := lrg V e u - t - 2) h2 (by omega) (by omega)
      obtain ⟨m2, d1, d2, d3, d4⟩ := t_numL b2 (v := t - lrg V e t) b3 (by omega) (by rw [len_nb]; omega)
      have n170 : ¬ s2 170 := by unfold s2; omega
      have n171 : ¬ s2 171 := by unfold s2; omega
      have f2 := FS_tr b4 d4
      obtain ⟨m3, k1, k2, k3, k4⟩ := ih t (i + 1) f m2 _ (by omega) (by omega) (by omega) (by omega) (by omega) (by rw [len_nb, len_nb]; omega) d2 d3 (by rw [Nat.add_sub_cancel, FS_g f2 _ _ _ n171]; exact ar.2.1) (Ar_c (f2.1 170 n170) (f2.1 171 n171) _ _ _ ar.2.2)
      refine ⟨m3, ?_, k2, ?_, FS_tr f2 k4⟩
      · rw [b_M_putAck_120_eq, if_neg (by clear ih h1 h2 g a1 a2 a3 b2 b3 d2 d3 k1 k2 k3 k4 h3 h4 ar f2 b4 d4; grind [nI_T]), a3, ab_ix_nI (show i - 1 < 3 by omega) (by decide), ab_ix_nI (show i < 3 by omega) (by decide)]
        simp only [ob_s]
        rw [show (98 : Nat) + 39 = 137 from rfl, show (98 : Nat) + 38 = 136 from rfl, h3, ar.1, a1, b1]
        simp only [ob_s]
        rw [FS_g b4 _ _ _ n170, FS_g b4 _ _ _ n171, ar.1, ar.2.1, a2, d1]
        simp only [ob_s, lt_eq]
        rw [nI_1]
        exact k1
      · rw [fur_some g]
        rw [List.append_assoc, List.append_assoc] at k3
        exact k3
end
