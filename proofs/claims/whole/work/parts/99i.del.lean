section
/-! deliver. -/
theorem rI_bd (r : Option (Int32 × Mm)) : ab_rI (r.bind fun z => some (.inl (some (.inl z.1), z.2))) = r := by
  cases r with
  | none => rfl
  | some z => rfl
theorem bts {V : Vt} {k z : Nat} (hz : z ≤ 40) (h : ∀ b, b < 40 → nI b < nI z → 0 ≤ V 13 k b ∧ V 13 k b ≤ 255) : ∃ B : Nat → Nat, (∀ j, B j < 256) ∧ ∀ j, j < z → V 13 k j = nI (B j) := by
  have : ∀ j, ∃ b, b < 256 ∧ (j < z → V 13 k j = nI b) := by
    intro j
    by_cases y : j < z
    · have g := h j (by omega) (by clear h; grind [nI_T])
      obtain ⟨b, hb, e⟩ := i_ofc (x := V 13 k j) (N := 255) g.1 g.2 (by decide)
      exact ⟨b, by omega, fun _ => e⟩
    · exact ⟨0, by omega, fun q => (y q).elim⟩
  obtain ⟨B, hB⟩ := Classical.axiomOfChoice this
  exact ⟨B, fun j => (hB j).1, fun j => (hB j).2⟩
theorem dl_loop {V : Vt} {k z : Nat} {x : Int32} {B : Nat → Nat} (hk : k < 16) (hz4 : z ≤ 40) : ∀ (j i f : Nat) (m : Mm), i + j = z → m.1 123 98 0 = nI z → (∀ t, t < z → m.1 166 132 (42 * k + 2 + t) = nI (B t)) → (∀ t, t < i → m.1 167 133 t = nI (B t)) → RM m V →
    ∃ m', b_M_deliver_44 (f + j) 98 (nI k) x (nI i) m = b_M_deliver_44 f 98 (nI k) x (nI z) m' ∧ RM m' V ∧ FC m m' ∧ m'.1 123 98 0 = nI z ∧ ∀ t, t < z → m'.1 167 133 t = nI (B t) := by
  intro j
  induction j with
  | zero =>
    intro i f m hi e1 e2 e3 e4
    obtain rfl : i = z := by omega
    exact ⟨m, rfl, e4, FC_rfl _, e1, e3⟩
  | succ j ih =>
    intro i f m hi e1 e2 e3 e4
    have e42 : (42 : Int32) * nI k + 2 + nI i = nI (42 * k + 2 + i) := by
      unfold nI
      rw [← show Int32.ofNat 42 = 42 from rfl, ← show Int32.ofNat 2 = 2 from rfl, ← Int32.ofNat_mul, ← Int32.ofNat_add, ← Int32.ofNat_add]
    obtain ⟨m', r1, r2, r3, r4, r5⟩ := ih (i + 1) f (ab_uI m 167 133 i (nI (B i))) (by omega) (by rw [uI_r _ _ _ _ _ _ _ _ (by omega)]; exact e1) (fun t ht => by rw [uI_r _ _ _ _ _ _ _ _ (by omega)]; exact e2 t ht) (fun t ht => by
      rw [uI_1]
      by_cases y : t = i
      · subst y
        rw [if_pos ⟨rfl, rfl, rfl⟩]
      · rw [if_neg (fun q => y q.2.2)]
        exact e3 t (by omega)) (RM_sm e4 (by unfold Sm; omega))
    refine ⟨m', ?_, r2, FC_tr (FC_uI (by omega)) r3, r4, r5⟩
    rw [show f + (j + 1) = f + j + 1 by omega, b_M_deliver_44_eq, e1, if_neg (by clear ih e2 e3 e4 r1 r2 r3 r5; grind [nI_T]), e42, ab_ix_nI (show 42 * k + 2 + i < 672 by omega) (by decide), ab_ix_nI (show i < 48 by omega) (by decide)]
    try simp only [ob_s, lt_eq]
    rw [show (98 : Nat) + 35 = 133 from rfl, show (98 : Nat) + 34 = 132 from rfl, e2 i (by omega), nI_1]
    exact r1
theorem t_del {m : Mm} {V : Vt} (h : RM m V) {k n z d : Nat} {B : Nat → Nat} (hk : k < n) (hn : n ≤ 16) (h5 : V 5 0 0 = nI n) (hl : nI k < V 5 0 0) (hz4 : z ≤ 40) (hd : d < 2) (v11 : V 11 k 0 = nI z) (v12 : V 12 k 0 = nI d) (v13 : ∀ j, j < z → V 13 k j = nI (B j)) : ∃ mm, r_M_deliver 98 (nI k) m = r_M_receive 98 (nI (1 - d)) mm ∧ RM mm (offV V k n) ∧ FC m mm ∧ mm.1 123 98 0 = nI z ∧ ∀ t, t < z → mm.1 167 133 t = nI (B t) := by
  have hk16 : k < 16 := by omega
  have h2 : RM (ab_uI m 84 98 0 0) V := RM_sm h (by unfold Sm; omega)
  have h6 : RM (ab_uI (ab_uI m 84 98 0 0) 123 98 0 (nI z)) V := RM_sm h2 (by unfold Sm; omega)
  have f5 := h2.2.1.1
  have a42 : (42 : Int32) * nI k = nI (42 * k) := by
    unfold nI
    rw [← show Int32.ofNat 42 = 42 from rfl, ← Int32.ofNat_mul]
  have a43 : (42 : Int32) * nI k + 1 = nI (42 * k + 1) := by
    rw [a42, nI_1]
  have od : (1 : Int32) - nI d = nI (1 - d) := by
    clear h2 h6 h f5
    grind [nI_T]
  obtain ⟨m1, r1, r2, r3, r4, r5⟩ := dl_loop (V := V) (k := k) (z := z) (x := nI (1 - d)) (B := B) hk16 hz4 z 0 (49999 - z) _ (by omega) (uI_s _ _ _ _ _) (fun t ht => by
    rw [n13 h6 hk16 hl (b := t) (by omega) (by rw [v11]; clear h2 h6 h f5; grind [nI_T]) rfl rfl]
    exact v13 t ht) (fun t ht => by omega) h6
  obtain ⟨m2, o1, o2, o3, o4⟩ := t_outOf r2 hk hn h5
  refine ⟨m2, ?_, o2, FC_tr (FC_tr (FC_tr (FC_uI (by omega)) (FC_uI (by omega))) r3) o3, by rw [o4 123 (by omega) (by omega)]; exact r4, fun t ht => by rw [o4 167 (by omega) (by omega)]; exact r5 t ht⟩
  obtain ⟨g, hg⟩ : ∃ g, 49999 - z = g + 1 := ⟨49999 - z - 1, by omega⟩
  rw [show 49999 - z + z = 49999 by omega, hg, show nI 0 = (0 : Int32) from rfl, b_M_deliver_44_eq g, r4, if_pos (Int32.le_refl _), o1, ob_s] at r1
  rw [r_M_deliver_eq, b_M_deliver_0_eq]
  simp only [lt_eq, t_flies, ob_s, f5, ib_if]
  rw [if_pos ⟨by clear h2 h6 h f5 r1 r2 r3 r4 r5 o1 o2 o3 o4; grind [nI_T], hl⟩, a42, nI_1, ab_ix_nI (show 42 * k < 672 by omega) (by decide), ab_ix_nI (show 42 * k + 1 < 672 by omega) (by decide)]
  simp only [lt_eq, ob_s]
  rw [n12 h2 hk16 hl (p := 98 + 34) rfl rfl, n11 h2 hk16 hl (p := 98 + 34) rfl rfl, v11, v12, od, r1]
  exact rI_bd _
theorem J_deliver {c : Nat} {m : Mm} (h : St c m) (hc : c < 512) (v : Int32) : Jn c (r_X_deliver 0 v m) (r_M_deliver 98 v) := by
  obtain ⟨V, w, W, h1, h2, h3⟩ := id h
  by_cases hv : 0 ≤ v ∧ v < V 5 0 0
  · obtain ⟨n, hn, h5⟩ := i_ofc (x := V 5 0 0) (N := 16) h3.2.2.2.1.1.1 h3.2.2.2.1.1.2 (by decide)
    obtain ⟨k, hk, rfl, hl⟩ := okK h3.2.2.2.1.1 hv
    have hkn : k < n := by rw [h5] at hl; clear h1 h2 h3 h; grind [nI_T]
    have ir := h3.2.2.2.2.1 k hk hl
    obtain ⟨z, hz4, v11⟩ := i_ofc (x := V 11 k 0) (N := 40) (by have := ir.1; clear h1 h2 h3 h; grind) ir.1.2 (by decide)
    have hz3 : 3 ≤ z := by
      have := ir.1.1
      rw [v11] at this
      clear h1 h2 h3 h ir
      grind [nI_T]
    obtain ⟨d, hd, v12⟩ : ∃ d, d < 2 ∧ V 12 k 0 = nI d := by
      rcases ir.2.1 with y | y
      · exact ⟨0, by omega, y⟩
      · exact ⟨1, by omega, y⟩
    obtain ⟨B, hB, v13⟩ := bts (V := V) (k := k) hz4 (by rw [← v11]; exact ir.2.2)
    obtain ⟨m1, e1, r1, fm, rg⟩ := s_takeOffWay h1 hkn hn h5
    have i1 := Iv_off h3 hkn hn h5
    have q11 : m1.1 11 (w k) 0 = nI z := by rw [rg 11 (by omega), c11 h1 hk hl, v11]
    have q12 : m1.1 12 (w k) 0 = nI d := by rw [rg 12 (by omega), c12 h1 hk hl, v12]
    have q13 : ∀ j, j < z → m1.1 13 (w k + 1) j = nI (B j) := fun j hj => by rw [rg 13 (by omega), c13 h1 hk hl (by omega), v13 j hj]
    have sd : (40503 : Int32) + nI d = 40504 - nI (1 - d) := by
      clear h1 h2 h3 h r1 i1 q13 v13 rg e1 q11 q12
      have : d = 0 ∨ d = 1 := by omega
      rcases this with rfl | rfl <;> decide
    have C : r_X_deliver 0 (nI k) m = r_End_receive (6 + 30 * (1 - d)) (w k) m1 := by
      rw [r_X_deliver_eq, b_X_deliver_0_eq, s_isUnderWay, c5 h1 rfl]
      simp only [lt_eq, ob_s, ib_if]
      rw [if_pos hv, ab_ix_nI hk (by decide)]
      simp only [ob_s]
      rw [cw h1 hk (p := 0 + 2) rfl]
      simp only [ob_s]
      rw [e1]
      simp only [ob_s]
      rw [q12, b_X_deliver_38_eq, b_X_deliver_38_eq]
      have : d = 0 ∨ d = 1 := by omega
      rcases this with rfl | rfl
      · rw [if_pos (by decide), i_ix (x := 1) (k := 1) (n := 2) rfl (by omega) (by decide), ob_s]
        exact rI_bd _
      · rw [if_neg (by decide), i_ix (x := 0) (k := 0) (n := 2) rfl (by omega) (by decide), ob_s]
        exact rI_bd _
    have both : ∀ M, RM M V → ∃ r m' mm' V' mm, r_X_deliver 0 (nI k) m = some (r, m') ∧ r_M_deliver 98 (nI k) M = some (r, mm') ∧ RC m' V' (fun a => w (shf k n a)) W ∧ RM mm' V' ∧ Iv (c + 1) V' ∧ FM m1 m' ∧ FC M mm ∧ FC mm mm' := by
      intro M hM
      obtain ⟨mm, a1, a2, a3, a4, a5⟩ := t_del hM hkn hn h5 hl hz4 hd v11 v12 v13
      obtain ⟨r, m', mm', V', b1, b2, b3, b4, b5, b6, b7⟩ := rcv (c := c) (e := 1 - d) (q := w k) (z := z) (B := B) (by omega) rfl r1 a2 i1 hc hz3 hz4 hB q11 q13 (by rw [q12]; exact sd) a4 a5
      exact ⟨r, m', mm', V', mm, by rw [C]; exact b1, by rw [a1]; exact b2, b3, b4, b5, b6, a3, b7⟩
    obtain ⟨r, m', _, _, _, x1, _, _, _, _, x6, _⟩ := both m h2
    obtain ⟨r', m'', mm', V', mm, y1, y2, y3, y4, y5, y6, y7, y8⟩ := both m' (RM_FM h2 (FM_tr fm x6))
    have : (r', m'') = (r, m') := Option.some.inj (y1.symm.trans x1)
    cases this
    exact ⟨(r, m'), x1, (r, mm'), y2, rfl, V', _, W, RC_FC (RC_FC y3 y7) y8, y4, y5⟩
  · have h2' : RM (ab_uI m 84 98 0 0) V := RM_sm h2 (by unfold Sm; omega)
    have f5 := h2'.2.1.1
    refine ⟨(-1, m), ?_, (-1, ab_uI m 84 98 0 0), ?_, rfl, St_more (St_84 h) (by omega) (by omega)⟩
    · rw [r_X_deliver_eq, b_X_deliver_0_eq, s_isUnderWay, c5 h1 rfl]
      simp only [if_neg hv, bo_0, bo_1, ob_s, lt_eq, rI_ite, rI_some, rV_ite, rV_some, ib_if]
    · rw [r_M_deliver_eq, b_M_deliver_0_eq]
      simp only [t_flies, f5, if_neg hv, bo_0, bo_1, ob_s, lt_eq, rI_ite, rI_some, rV_ite, rV_some, ib_if]
end
