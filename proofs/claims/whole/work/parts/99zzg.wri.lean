section
/-! write. -/
/-- the law's write and read: the class's code, the model's answer, the model's fault -/
def Jt (c : Nat) (o : Option (Int32 × Mm)) (f : Mm → Option (Int32 × Mm)) : Prop := wp o fun z => wp (f z.2) fun z' => z'.2.1 84 98 0 = z.1 ∧ (z.1 = 0 → z'.2.2.1 172 138 0 = z'.1.toInt64) ∧ St (c + 1) z'.2
theorem RC_th {m : Mm} {V : Vt} {w W : Nat → Nat} (h : RC m V w W) : RC (th_b m) V w W := h
theorem RM_th {m : Mm} {V : Vt} (h : RM m V) : RM (th_b m) V := h
theorem RC_uJ {m : Mm} {V : Vt} {w W : Nat → Nat} {r p j : Nat} {x : Int64} (h : RC m V w W) : RC (ab_uJ m r p j x) V w W := h
theorem RM_uJ {m : Mm} {V : Vt} {r p j : Nat} {x : Int64} (h : RM m V) : RM (ab_uJ m r p j x) V := h
theorem St_th {c : Nat} {m : Mm} (h : St c m) : St c (th_b m) := h
theorem uJ_s {m : Mm} {r p j : Nat} {x : Int64} : (ab_uJ m r p j x).2.1 r p j = x := by
  show (if r = r ∧ p = p ∧ j = j then x else m.2.1 r p j) = x
  exact if_pos ⟨rfl, rfl, rfl⟩
theorem xs_o {pc q : Nat} {L : List (Option AV)} {m : Mm} : xs (some (.inr (q, L, [], m))) pc = bif Nat.beq q pc then some m else none := rfl
theorem xs_l {pc : Nat} {r : Option AV} {m : Mm} : xs (some (.inl (r, m))) pc = none := rfl
theorem lw_ok {v0 v6 : Nat} {v1 v2 v3 : Int32} {v4 : Int64} {m m1 : Mm} {x : Int32} (h : r_X_write v0 v1 v2 v3 v4 m = some (x, m1)) : r_Law_write v0 v1 v2 v3 v4 v6 m = some (0, ab_uJ m1 172 v6 0 x.toInt64) := by
  rw [r_Law_write_eq, r_Law_wr_eq, b_Law_wr_0_eq, h, show ab_ix (0 : Int32) 1 = some 0 from by decide]
  simp only [ob_s, lt_eq, rI_some]
theorem lw_no {v0 v6 : Nat} {v1 v2 v3 : Int32} {v4 : Int64} {m m1 : Mm} {pc : Nat} {L : List (Option AV)} (h : b_X_write_0 50000 v0 v1 v2 v3 v4 m = some (.inr (pc, L, [], m1))) : r_Law_write v0 v1 v2 v3 v4 v6 m = (match (bif Nat.beq pc 15 then some m1 else none) with | some m1 => some (1, th_b m1) | none => (match (bif Nat.beq pc 71 then some m1 else none) with | some m1 => some (2, th_b m1) | none => none)) := by
  have e : r_X_write v0 v1 v2 v3 v4 m = none := by
    rw [r_X_write_eq, h]
    rfl
  have e2 : r_Law_wr v0 v1 v2 v3 v4 v6 m = none := by
    rw [r_Law_wr_eq, b_Law_wr_0_eq, e]
    rfl
  rw [r_Law_write_eq, e2, h, xs_o, xs_o]
  rfl
def waV (V : Vt) (a r n : Nat) (l : Int64) : Vt := fun k x b => if k = 66 ∧ x = a ∧ r ≤ b ∧ b < r + n then byt l (b - r) else V k x b
theorem waV_o {V : Vt} {a r n k x b : Nat} {l : Int64} (hk : k ≠ 66) : waV V a r n l k x b = V k x b := if_neg (by omega)
theorem waV_0 {V : Vt} {a r : Nat} {l : Int64} : waV V a r 0 l = V := by
  funext k x b
  exact if_neg (by omega)
theorem waV_step {V : Vt} {a r i : Nat} {l : Int64} : uV (waV V a r i l) 66 a (r + i) (byt l i) = waV V a r (i + 1) l := by
  funext k x b
  unfold uV waV
  by_cases z : k = 66 ∧ x = a ∧ b = r + i
  · obtain ⟨rfl, rfl, rfl⟩ := z
    rw [if_pos ⟨rfl, rfl, rfl⟩, if_pos (by omega), show r + i - r = i by omega]
  · rw [if_neg z]
    by_cases y : k = 66 ∧ x = a ∧ r ≤ b ∧ b < r + i
    · rw [if_pos y, if_pos (by omega)]
    · rw [if_neg y, if_neg (by omega)]
theorem uV_c {V : Vt} {k k' a a' b b' : Nat} {x x' : Int32} (h : k ≠ k') : uV (uV V k a b x) k' a' b' x' = uV (uV V k' a' b' x') k a b x := by
  funext i j l
  unfold uV
  by_cases z : i = k ∧ j = a ∧ l = b
  · rw [if_pos z, if_neg (by omega), if_pos z]
  · rw [if_neg z, if_neg z]
theorem uV_2 {V : Vt} {k a b : Nat} {x x' : Int32} : uV (uV V k a b x) k a b x' = uV V k a b x' := by
  funext i j l
  unfold uV
  split <;> rfl
theorem s_app {V : Vt} {w W : Nat → Nat} {e s r n p : Nat} {l : Int64} (he : e < 2) (hs : s < 4) (hp : p = 24 + 30 * e + 3 * s) (hn : n ≤ 8) (hr : r + n ≤ 64) : ∀ (j i f : Nat) (m : Mm), i + j = n → j < f → RC m (uV (waV V (4 * e + s) r i l) 59 (4 * e + s) 0 (nI (r + i))) w W → ∃ m', b_Out_append_3 f p (nI n) l (nI i) m = some (.inl (none, m')) ∧ RC m' (uV (waV V (4 * e + s) r n l) 59 (4 * e + s) 0 (nI (r + n))) w W ∧ FM m m' := by
  intro j
  induction j with
  | zero =>
    intro i f m hi hf h
    obtain ⟨f, rfl⟩ : ∃ g, f = g + 1 := ⟨f - 1, by omega⟩
    obtain rfl : i = n := by omega
    rw [b_Out_append_3_eq, if_pos (by (try clear h); grind [nI_T])]
    exact ⟨_, rfl, h, FM_rfl _⟩
  | succ j ih =>
    intro i f m hi hf h
    obtain ⟨f, rfl⟩ : ∃ g, f = g + 1 := ⟨f - 1, by omega⟩
    have k6 := c59 h he hs hp
    rw [uV_s] at k6
    rw [b_Out_append_3_eq, if_neg (by clear ih h k6; grind [nI_T]), k6, if_neg (by clear ih h k6; grind [nI_T]), s_byteOf]
    simp only [ob_s, lt_eq]
    rw [ab_ix_nI (show r + i < 64 by omega) (by decide)]
    simp only [ob_s, lt_eq]
    have h' := cu66 h he hs (b := r + i) (by omega) (p := p + 1) (by omega) (byt l i)
    rw [uV_c (by decide), waV_step] at h'
    have k7 := c59 h' he hs hp
    rw [uV_s] at k7
    rw [k7, nI_1, nI_1]
    have h2 := cu59 h' he hs hp (nI (r + i + 1))
    rw [uV_2] at h2
    obtain ⟨m', e1, e2, e3⟩ := ih (i + 1) f _ (by omega) (by omega) h2
    exact ⟨m', e1, e2, FM_tr (FM_tr (FM_uI (by omega)) (FM_uI (by omega))) e3⟩
theorem t_app {V : Vt} {a r n : Nat} {l : Int64} (ha : a < 8) (h59 : V 59 a 0 = nI r) (hn : n ≤ 8) (hr : r + n ≤ 64) : ∀ (j i f : Nat) (m : Mm), i + j = n → j < f → RM m (waV V a r i l) → ∃ m', b_M_write_88 f 98 (nI n) l (nI a) (nI i) m = some (.inl (some (.inl (nI (r + n))), m')) ∧ RM m' (uV (waV V a r n l) 59 a 0 (nI (r + n))) ∧ FS (fun r => r = 133 ∨ r = 135) m m' := by
  intro j
  induction j with
  | zero =>
    intro i f m hi hf h
    obtain ⟨f, rfl⟩ : ∃ g, f = g + 1 := ⟨f - 1, by omega⟩
    obtain rfl : i = n := by omega
    have k6 := n59 h ha (p := 98 + 3) (j := a) rfl rfl
    rw [waV_o (by omega), h59] at k6
    rw [b_M_write_88_eq, if_pos (by (try clear h); grind [nI_T]), ab_ix_nI ha (by decide)]
    simp only [ob_s, lt_eq]
    rw [k6, nI_add, uI_s]
    exact ⟨_, rfl, nu59 h ha rfl rfl _, FS_uI (.inr rfl)⟩
  | succ j ih =>
    intro i f m hi hf h
    obtain ⟨f, rfl⟩ : ∃ g, f = g + 1 := ⟨f - 1, by omega⟩
    have k6 := n59 h ha (p := 98 + 3) (j := a) rfl rfl
    rw [waV_o (by omega), h59] at k6
    rw [b_M_write_88_eq, if_neg (by clear ih h k6; grind [nI_T]), ab_ix_nI ha (by decide)]
    simp only [ob_s, lt_eq]
    rw [k6, nI_64, nI_add, ab_ix_nI (show 64 * a + r + i < 512 by omega) (by decide)]
    simp only [ob_s, lt_eq]
    rw [nI_1, byt_m l (show i < 8 by omega)]
    have h' := nu66 h ha (b := r + i) (by omega) (p := 98 + 1) (j := 64 * a + r + i) rfl (by omega) (byt l i)
    rw [waV_step] at h'
    obtain ⟨m', e1, e2, e3⟩ := ih (i + 1) f _ (by omega) (by omega) h'
    exact ⟨m', e1, e2, FS_tr (FS_uI (.inl rfl)) e3⟩
theorem Iv_wa {c : Nat} {V : Vt} {a r n : Nat} {l : Int64} (h3 : Iv c V) (h59 : V 59 a 0 = nI r) (hr : r + n ≤ 64) : Iv c (uV (waV V a r n l) 59 a 0 (nI (r + n))) := by
  have u : ∀ k x b, k ≠ 66 → k ≠ 59 → uV (waV V a r n l) 59 a 0 (nI (r + n)) k x b = V k x b := fun k x b q q' => (uV_k _ _ _ _ _ q').trans (waV_o q)
  refine ⟨fun x hx => ?_, fun a ha => IN_k (by omega) (h3.2.1 a ha), fun e he => IE_k (by omega) (h3.2.2.1 e he), IX_k (by omega) h3.2.2.2.1, fun a ha hl => IR_k (by omega) (h3.2.2.2.2.1 a ha (by rw [u 5 _ _ (by omega) (by omega)] at hl; exact hl)), fun x hx => ?_⟩
  · have g := h3.1 x hx
    unfold IO at *
    rw [u 60 _ _ (by omega) (by omega), u 61 _ _ (by omega) (by omega), u 62 _ _ (by omega) (by omega), u 64 _ _ (by omega) (by omega)]
    obtain ⟨g1, g2, g3, g4, g5⟩ := g
    refine ⟨?_, g2, fun b hb hl => ?_, g4, fun b hb => ?_⟩
    · by_cases z : x = a
      · subst z
        rw [uV_s]
        rw [h59] at g1
        clear g2 g3 g4 g5 u h3
        grind [nI_T]
      · rw [uV_a _ _ _ _ _ z, waV_o (by omega)]
        exact g1
    · rw [u 67 _ _ (by omega) (by omega)]
      exact g3 b hb hl
    · rw [uV_k _ _ _ _ _ (by omega)]
      unfold waV
      split
      · exact byt_in l _
      · exact g5 b hb
  · have hx' : Sa V x := by
      unfold Sa at *
      rw [u 21 _ _ (by omega) (by omega)] at hx
      exact hx
    have g := h3.2.2.2.2.2 x hx'
    unfold IS at *
    simp only [u 60 _ _ (by omega) (by omega), u 62 _ _ (by omega) (by omega), u 68 _ _ (by omega) (by omega), u 69 _ _ (by omega) (by omega), u 70 _ _ (by omega) (by omega), u 76 _ _ (by omega) (by omega), u 77 _ _ (by omega) (by omega), u 78 _ _ (by omega) (by omega), u 79 _ _ (by omega) (by omega), u 80 _ _ (by omega) (by omega)]
    exact g
theorem J_write {c : Nat} {m : Mm} (h : St c m) (hc : c < 512) (v u n : Int32) (l : Int64) : Jt c (r_Law_write 0 v u n l 138 m) (r_M_write 98 v u n l) := by
  obtain ⟨V, w, W, h1, h2, h3⟩ := id h
  have bad : ∀ (k : Int32) (m1 : Mm), r_Law_write 0 v u n l 138 m = some (k, th_b m) → k ≠ 0 → r_M_write 98 v u n l (th_b m) = some (0, ab_uI (ab_uI (th_b m) 84 98 0 0) 84 98 0 k) → Jt c (r_Law_write 0 v u n l 138 m) (r_M_write 98 v u n l) := by
    intro k m1 e1 hk e2
    exact ⟨_, e1, _, e2, uI_s _ _ _ _ _, fun z => absurd z hk, St_more (St_84 (St_84 (St_th h))) (by omega) (by omega)⟩
  by_cases hv : ((0 ≤ v ∧ v < 2) ∧ 0 ≤ u ∧ u < 4) ∧ 1 ≤ n ∧ n ≤ 8
  · obtain ⟨e, s, he, hs, rfl, rfl⟩ := okS hv.1
    obtain ⟨n, hn, rfl⟩ := i_ofc (x := n) (N := 8) (by grind) hv.2.2 (by decide)
    have i22 : -1 ≤ V 22 e 0 := (h3.2.2.1 e he).2.1
    have io := h3.1 (4 * e + s) (by omega)
    unfold IO at io
    obtain ⟨r, hr, h5⟩ := i_ofc (x := V 59 (4 * e + s) 0) (N := 64) (by have := io.1; grind) io.1.2.2 (by decide)
    have ha : 4 * e + s < 8 := by omega
    have k22 := c22 h1 he (p := 0 + 1 + 5 + 30 * e) (by omega)
    have k62 := c62 h1 he hs (p := 0 + 1 + 5 + 30 * e + 16 + 1 + 1 + 3 * s) (by omega)
    have k63 := c63 h1 he hs (p := 0 + 1 + 5 + 30 * e + 16 + 1 + 1 + 3 * s) (by omega)
    have k59 := c59 h1 he hs (p := 0 + 1 + 5 + 30 * e + 16 + 1 + 1 + 3 * s) (by omega)
    have g2 : ∀ M, RM M V → r_M_write 98 (nI e) (nI s) (nI n) l M = ab_rI (if (V 22 e 0 = -1 ∧ V 62 (4 * e + s) 0 = 0 ∧ V 63 (4 * e + s) 0 = 0) ∧ V 59 (4 * e + s) 0 + nI n ≤ 64 then b_M_write_88 49999 98 (nI n) l (nI (4 * e + s)) 0 (ab_uI M 84 98 0 0) else b_M_write_79 49999 98 (ab_uI M 84 98 0 0)) := by
      intro M hM
      have g' : RM (ab_uI M 84 98 0 0) V := RM_sm hM (by unfold Sm; omega)
      rw [r_M_write_eq, b_M_write_0_eq]
      simp only [t_isStream, t_in, if_pos hv.1, if_pos hv.2, nI_4, ab_ix_nI he (show 2 < 2 ^ 31 by decide), ab_ix_nI ha (show 8 < 2 ^ 31 by decide), n22 g' he (p := 98 + 22) rfl rfl, n62 g' ha (p := 98 + 8) rfl rfl, n63 g' ha (p := 98 + 9) rfl rfl, n59 g' ha (p := 98 + 3) rfl rfl, ob_s, lt_eq, ib_if]
      congr 1
      clear h h1 h2 h3 k22 k62 k63 k59 bad g' hM io
      grind
    by_cases hh : (V 22 e 0 = -1 ∧ V 62 (4 * e + s) 0 = 0 ∧ V 63 (4 * e + s) 0 = 0) ∧ V 59 (4 * e + s) 0 + nI n ≤ 64
    · have hrn : r + n ≤ 64 := by
        have := hh.2
        rw [h5] at this
        clear h h1 h2 h3 k22 k62 k63 k59 bad g2 hh io
        grind [nI_T]
      obtain ⟨m1, e1, r1, f1⟩ := s_app (V := V) (w := w) (W := W) (l := l) he hs (p := 0 + 1 + 5 + 30 * e + 16 + 1 + 1 + 3 * s) (by omega) hn hrn n 0 49999 m (by omega) (by omega) (by rw [waV_0, Nat.add_zero, ← h5, uV_self]; exact h1)
      have x : r_X_write 0 (nI e) (nI s) (nI n) l m = some (nI (r + n), m1) := by
        have ap : r_Out_append (0 + 1 + 5 + 30 * e + 16 + 1 + 1 + 3 * s) (nI n) l m = some m1 := by
          rw [r_Out_append_eq, b_Out_append_0_eq, show (0 : Int32) = nI 0 from rfl, e1]
          rfl
        have k := c59 r1 he hs (p := 0 + 1 + 5 + 30 * e + 16 + 1 + 1 + 3 * s) (by omega)
        rw [uV_s] at k
        rw [r_X_write_eq, b_X_write_0_eq, s_isStream]
        simp only [if_pos hv.1, if_pos hv.2, s_isCallBytes, ab_ix_nI he (show 2 < 2 ^ 31 by decide), ab_ix_nI hs (show 4 < 2 ^ 31 by decide), s_isOpen, s_isGrowing, k22, k62, k63, k59, if_pos hh.1.1, if_pos hh.1.2, if_pos hh.2, ob_s, lt_eq, ib_if, ap, k, rI_some]
      have x := lw_ok (v6 := 138) x
      have g : RM (ab_uJ m1 172 138 0 (nI (r + n)).toInt64) V := RM_uJ (RM_FM h2 f1)
      obtain ⟨m2, e2, r2, f2⟩ := t_app (V := V) (l := l) ha h5 hn hrn n 0 49999 (ab_uI (ab_uJ m1 172 138 0 (nI (r + n)).toInt64) 84 98 0 0) (by omega) (by omega) (by rw [waV_0]; exact RM_sm g (by unfold Sm; omega))
      have y := g2 _ g
      rw [show nI 0 = 0 from rfl] at e2
      rw [if_pos hh, e2] at y
      refine ⟨_, x, _, y, ?_, fun _ => ?_, uV (waV V (4 * e + s) r n l) 59 (4 * e + s) 0 (nI (r + n)), w, W, RC_FC (RC_FC (RC_uJ r1) (FC_uI (by omega))) (FS_FC f2 (fun r hr => by omega)), r2, Iv_more (Iv_wa h3 h5 hrn) (by omega) (by omega)⟩
      · show m2.1 84 98 0 = 0
        rw [FS_g f2 84 98 0 (by omega), uI_s]
      · show m2.2.1 172 138 0 = (nI (r + n)).toInt64
        rw [f2.2]
        exact uJ_s
    · have x : ∃ L, b_X_write_0 50000 0 (nI e) (nI s) (nI n) l m = some (.inr (71, L, [], m)) := by
        rw [b_X_write_0_eq, s_isStream]
        simp only [if_pos hv.1, if_pos hv.2, s_isCallBytes, ab_ix_nI he (show 2 < 2 ^ 31 by decide), ab_ix_nI hs (show 4 < 2 ^ 31 by decide), s_isOpen, s_isGrowing, k22, k62, k63, k59, ob_s, lt_eq, ib_if]
        by_cases z1 : V 22 e 0 = -1
        · rw [if_pos z1]
          by_cases z2 : V 62 (4 * e + s) 0 = 0 ∧ V 63 (4 * e + s) 0 = 0
          · rw [if_pos z2, if_neg (fun z => hh ⟨⟨z1, z2⟩, z⟩)]
            exact ⟨_, rfl⟩
          · rw [if_neg z2]
            exact ⟨_, rfl⟩
        · rw [if_neg z1]
          exact ⟨_, rfl⟩
      obtain ⟨L, x⟩ := x
      have x := lw_no (v6 := 138) x
      have y := g2 _ (RM_th h2)
      rw [if_neg hh, b_M_write_79_eq, t_fails] at y
      exact bad 2 m x (by decide) y
  · have x : ∃ L, b_X_write_0 50000 0 v u n l m = some (.inr (15, L, [], m)) := by
      rw [b_X_write_0_eq, s_isStream]
      simp only [s_isCallBytes, ob_s, lt_eq, ib_if]
      by_cases z1 : (0 ≤ v ∧ v < 2) ∧ 0 ≤ u ∧ u < 4
      · rw [if_pos z1, if_neg (fun z => hv ⟨z1, z⟩)]
        exact ⟨_, rfl⟩
      · rw [if_neg z1]
        exact ⟨_, rfl⟩
    obtain ⟨L, x⟩ := x
    have x := lw_no (v6 := 138) x
    refine bad 1 m x (by decide) ?_
    rw [r_M_write_eq, b_M_write_0_eq]
    simp only [t_isStream, t_in, ob_s, lt_eq, ib_if]
    by_cases z1 : (0 ≤ v ∧ v < 2) ∧ 0 ≤ u ∧ u < 4
    · rw [if_pos z1, if_neg (fun z => hv ⟨z1, z⟩), b_M_write_23_eq, t_fails]
      rfl
    · rw [if_neg z1, b_M_write_23_eq, t_fails]
      rfl
end
