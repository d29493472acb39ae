/-! All cells get other kinds of the same classes at once. -/
section
/-- a field's change of kind -/
def rl_f (φ : Nat → Nat) (x y : Nat × Nat × Nat × Nat) : Bool := decide (x.2.1 = y.2.1) && ((decide (x.1 ≤ 1) && decide (y.1 = x.1)) || (decide (x.1 = 2) && decide (y.1 = 2) && decide (y.2.2.1 = φ x.2.2.1) && decide (y.2.2.1 ≠ 0)) || (decide (x.1 = 3) && decide (y.1 = 3) && decide (y.2.2.1 = φ x.2.2.1) && decide (y.2.2.2 = x.2.2.2) && decide (y.2.2.1 ≠ 0)) || (decide (x.1 = 2) && decide (y.1 = 3) && decide (y.2.2.1 = φ x.2.2.1) && decide (y.2.2.1 ≠ 0)))
def rl_k (KT : List KS) (cl : List vw_C) (φ : Nat → Nat) (k : Nat) : Bool := match KT[k]?, KT[φ k]? with
  | some (.inl (ci, fs)), some (.inl (ci', fs')) => decide (ci = ci') && decide (fs.length = fs'.length) && (List.range fs.length).all fun f => match fs[f]?, fs'[f]? with
    | some x, some y => rl_f φ x y
    | _, _ => false
  | some (.inr (r, len, t, k1, a, st)), some (.inr (r', len', t', k2, a', st')) => decide (r = r') && decide (len = len') && ((decide (t ≤ 2) && decide (t' = t) && decide (k1 = 0) && decide (k2 = 0)) || (decide (t = 3) && decide (t' = 3) && decide (k2 = φ k1) && decide (k2 ≠ 0) && decide (ab_ty KT cl t' k2 = ab_ty KT cl t k1)) || (decide (t = 3) && decide (t' = 4) && decide (k2 = φ k1) && decide (k2 ≠ 0) && decide (ab_ty KT cl t' k2 = ab_ty KT cl t k1)))
  | _, _ => false
/-- what the references must be -/
def rl_R (KT : List KS) (φ : Nat → Nat) (m : Mm) : Prop :=
  (∀ (q k ci ci' f r r' k1 k2 d1 d : Nat) (fs fs' : List (Nat × Nat × Nat × Nat)), m.2.2.2.1[q]? = some k → KT[k]? = some (.inl (ci, fs)) → KT[φ k]? = some (.inl (ci', fs')) → fs[f]? = some (2, r, k1, d1) → fs'[f]? = some (3, r', k2, d) → m.2.2.1 r q 0 = some (q + d)) ∧
  ∀ (q k r len k1 k2 a st a' st' r' len' j : Nat), m.2.2.2.1[q]? = some k → KT[k]? = some (.inr (r, len, 3, k1, a, st)) → KT[φ k]? = some (.inr (r', len', 4, k2, a', st')) → m.2.2.1 r q j = if j < len then some (q + a' + st' * j) else none
theorem rl_f_inv {φ : Nat → Nat} {t r k1 d1 t' r' k2 d2 : Nat} (h : rl_f φ (t, r, k1, d1) (t', r', k2, d2) = true) : r = r' ∧ ((t ≤ 1 ∧ t' = t) ∨ (t = 2 ∧ t' = 2 ∧ k2 = φ k1 ∧ k2 ≠ 0) ∨ (t = 3 ∧ t' = 3 ∧ k2 = φ k1 ∧ d2 = d1 ∧ k2 ≠ 0) ∨ (t = 2 ∧ t' = 3 ∧ k2 = φ k1 ∧ k2 ≠ 0)) := by
  simp only [rl_f, Bool.and_eq_true, Bool.or_eq_true, decide_eq_true_eq] at h
  omega
theorem rl_k_cls {KT : List KS} {cl : List vw_C} {φ : Nat → Nat} {k ci : Nat} {fs : List (Nat × Nat × Nat × Nat)} (h : rl_k KT cl φ k = true) (hk : KT[k]? = some (.inl (ci, fs))) : ∃ fs', KT[φ k]? = some (.inl (ci, fs')) ∧ fs'.length = fs.length ∧ ∀ (f t r k1 d1 t' r' k2 d2 : Nat), fs[f]? = some (t, r, k1, d1) → fs'[f]? = some (t', r', k2, d2) → rl_f φ (t, r, k1, d1) (t', r', k2, d2) = true := by
  unfold rl_k at h
  rw [hk] at h
  split at h
  · rename_i ci1 fs1 ci' fs' h1 h2
    cases h1
    simp only [Bool.and_eq_true, decide_eq_true_eq] at h
    obtain ⟨⟨rfl, hl⟩, ha⟩ := h
    refine ⟨fs', h2, hl.symm, fun f t r k1 d1 t' r' k2 d2 g1 g2 => ?_⟩
    have hf := List.all_eq_true.mp ha f (List.mem_range.mpr (List.getElem?_eq_some_iff.mp g1).1)
    rw [g1, g2] at hf
    exact hf
  · rename_i h1 h2
    cases h1
  · cases h
theorem rl_k_arr {KT : List KS} {cl : List vw_C} {φ : Nat → Nat} {k r len t k1 a st : Nat} (h : rl_k KT cl φ k = true) (hk : KT[k]? = some (.inr (r, len, t, k1, a, st))) : ∃ t' k2 a' st', KT[φ k]? = some (.inr (r, len, t', k2, a', st')) ∧ ((t ≤ 2 ∧ t' = t ∧ k1 = 0 ∧ k2 = 0) ∨ (t = 3 ∧ t' = 3 ∧ k2 = φ k1 ∧ k2 ≠ 0 ∧ ab_ty KT cl t' k2 = ab_ty KT cl t k1) ∨ (t = 3 ∧ t' = 4 ∧ k2 = φ k1 ∧ k2 ≠ 0 ∧ ab_ty KT cl t' k2 = ab_ty KT cl t k1)) := by
  unfold rl_k at h
  rw [hk] at h
  split at h
  · rename_i h1 h2
    cases h1
  · rename_i r1 len1 t1 k11 a1 st1 r' len' t' k2 a' st' h1 h2
    cases h1
    simp only [Bool.and_eq_true, Bool.or_eq_true, decide_eq_true_eq] at h
    obtain ⟨⟨rfl, rfl⟩, hc⟩ := h
    refine ⟨t', k2, a', st', h2, ?_⟩
    rcases hc with (hc | hc) | hc
    · exact Or.inl ⟨hc.1.1.1, hc.1.1.2, hc.1.2, hc.2⟩
    · exact Or.inr (Or.inl ⟨hc.1.1.1.1, hc.1.1.1.2, hc.1.1.2, hc.1.2, hc.2⟩)
    · exact Or.inr (Or.inr ⟨hc.1.1.1.1, hc.1.1.1.2, hc.1.1.2, hc.1.2, hc.2⟩)
  · cases h
theorem rl_inv {KT : List KS} {φ : Nat → Nat} {ks : List Nat} {q k' : Nat} (h : (ks.map φ)[q]? = some k') : ∃ k, ks[q]? = some k ∧ φ k = k' := by
  rw [List.getElem?_map] at h
  cases hk : ks[q]? with
  | none => rw [hk] at h; cases h
  | some k => rw [hk] at h; exact ⟨k, rfl, Option.some.inj h⟩
theorem rl_up {φ : Nat → Nat} {ks : List Nat} {q k : Nat} (h : ks[q]? = some k) : (ks.map φ)[q]? = some (φ k) := by
  rw [List.getElem?_map, h]; rfl
theorem ab_rkA {KT : List KS} {cl : List vw_C} {φ : Nat → Nat} {m : Mm} (hks : ∀ k ∈ m.2.2.2.1, rl_k KT cl φ k = true) (hnd : ab_nd KT) (hR : rl_R KT φ m) :
    (∀ ad ac, ab_w KT ad ac (ab_ks m (m.2.2.2.1.map φ)) = ab_w KT ad ac m) ∧ (∀ ac U, ab_K KT cl ac m.2.2.2.1 U → ab_K KT cl ac (m.2.2.2.1.map φ) U) ∧ (ab_ok KT m → ab_ok KT (ab_ks m (m.2.2.2.1.map φ))) ∧ (m.2.2.2.1.map φ).length = m.2.2.2.1.length ∧ ((m.2.2.2.1.map φ).map (ab_len KT)).sum = (m.2.2.2.1.map (ab_len KT)).sum := by
  have hk : ∀ q k, m.2.2.2.1[q]? = some k → rl_k KT cl φ k = true := fun q k h => hks k (List.mem_of_getElem? h)
  have hkt : ∀ k, rl_k KT cl φ k = true → (∃ ci fs, KT[k]? = some (.inl (ci, fs))) ∨ ∃ r len t k1 a st, KT[k]? = some (.inr (r, len, t, k1, a, st)) := by
    intro k h
    unfold rl_k at h
    split at h
    · rename_i ci fs _ _ h1 _; exact Or.inl ⟨ci, fs, h1⟩
    · rename_i r len t k1 a st _ _ _ _ _ _ h1 _; exact Or.inr ⟨r, len, t, k1, a, st, h1⟩
    · cases h
  refine ⟨fun ad ac => ?_, fun ac U h => ?_, fun h => ?_, List.length_map _, ?_⟩
  · apply List.ext_getElem?
    intro i
    simp only [ab_w, List.getElem?_mapIdx]
    show Option.map _ ((m.2.2.2.1.map φ)[i]?) = Option.map _ (m.2.2.2.1[i]?)
    rw [List.getElem?_map]
    cases hi : m.2.2.2.1[i]? with
    | none => rfl
    | some k =>
      have e : ab_ce KT ad ac (ab_ks m (m.2.2.2.1.map φ)) i (φ k) = ab_ce KT ad ac m i k := by
        rcases hkt k (hk i k hi) with ⟨ci, fs, h1⟩ | ⟨r, len, t, k1, a, st, h1⟩
        · obtain ⟨fs', h2, hl, hf⟩ := rl_k_cls (hk i k hi) h1
          unfold ab_ce
          rw [h1, h2]
          dsimp only
          congr 2
          apply List.ext_getElem?
          intro f
          rw [List.getElem?_map, List.getElem?_map]
          cases g1 : fs[f]? with
          | none =>
            have : fs'[f]? = none := by
              rw [List.getElem?_eq_none_iff] at g1 ⊢
              omega
            rw [this]; rfl
          | some x =>
            have hlt := (List.getElem?_eq_some_iff.mp g1).1
            obtain ⟨t, r, k1, d1⟩ := x
            have g2 : fs'[f]? = some (fs'[f]'(by omega)) := List.getElem?_eq_getElem _
            generalize fs'[f]'(by omega) = y at g2
            obtain ⟨t', r', k2, d2⟩ := y
            rw [g2]
            obtain ⟨rfl, hc⟩ := rl_f_inv (hf f t r k1 d1 t' r' k2 d2 g1 g2)
            show some _ = some _
            congr 1
            rcases hc with ⟨h3, rfl⟩ | ⟨rfl, rfl, -, -⟩ | ⟨rfl, rfl, -, rfl, -⟩ | ⟨rfl, rfl, -, -⟩
            · match t', h3 with
              | 0, _ => rfl
              | 1, _ => rfl
            · rfl
            · rfl
            · show Value.ref (ad (i + d2)) = va_rf ((m.2.2.1 r i 0).map ad)
              rw [hR.1 i k ci ci f r r k1 k2 d1 d2 fs fs' hi h1 h2 g1 g2]
              rfl
        · obtain ⟨t', k2, a', st', h2, hc⟩ := rl_k_arr (hk i k hi) h1
          unfold ab_ce
          rw [h1, h2]
          dsimp only
          congr 3
          rcases hc with ⟨h3, rfl, -, -⟩ | ⟨rfl, rfl, -, -⟩ | ⟨rfl, rfl, -, -⟩
          · match t', h3 with
            | 0, _ => rfl
            | 1, _ => rfl
            | 2, _ => rfl
          · rfl
          · show Sum.inr (Sum.inr (Sum.inr (Sum.inr _))) = Sum.inr (Sum.inr (Sum.inr (Sum.inr _)))
            congr 4
            funext j
            rw [hR.2 i k r len k1 k2 a st a' st' r len j hi h1 h2]
            split <;> rfl
      simp [e]
  · intro q k' r len t k2 a st g1 g2
    obtain ⟨k, h1, rfl⟩ := rl_inv (KT := KT) g1
    rcases hkt k (hk q k h1) with ⟨ci, fs, h2⟩ | ⟨r1, len1, t1, k11, a1, st1, h2⟩
    · obtain ⟨fs', h3, -⟩ := rl_k_cls (hk q k h1) h2
      rw [g2] at h3; cases h3
    · obtain ⟨t', k2', a', st', h3, hc⟩ := rl_k_arr (hk q k h1) h2
      rw [g2] at h3
      cases h3
      have h4 := h q k r len t1 k11 a1 st1 h1 h2
      have e : ab_ty KT cl t k2 = ab_ty KT cl t1 k11 := by
        rcases hc with ⟨-, rfl, rfl, rfl⟩ | ⟨-, -, -, -, he⟩ | ⟨-, -, -, -, he⟩
        · rfl
        · exact he
        · exact he
      rw [e]
      exact h4
  · refine ⟨?_, ?_, ?_, ?_, ?_⟩
    · intro q k' ci f r k2 d fs' g1 g2 g3
      obtain ⟨k, h1, rfl⟩ := rl_inv (KT := KT) g1
      rcases hkt k (hk q k h1) with ⟨ci1, fs, h2⟩ | ⟨r1, len1, t1, k11, a1, st1, h2⟩
      · obtain ⟨fs1, h3, hl, hf⟩ := rl_k_cls (hk q k h1) h2
        rw [g2] at h3
        cases h3
        have hlt := (List.getElem?_eq_some_iff.mp g3).1
        have g4 : fs[f]? = some (fs[f]'(by omega)) := List.getElem?_eq_getElem _
        generalize fs[f]'(by omega) = y at g4
        obtain ⟨t, r', k1, d1⟩ := y
        obtain ⟨rfl, hc⟩ := rl_f_inv (hf f t r' k1 d1 3 r k2 d g4 g3)
        rcases hc with ⟨h5, h6⟩ | ⟨-, h6, -⟩ | ⟨rfl, -, rfl, rfl, hz⟩ | ⟨rfl, -, rfl, hz⟩
        · omega
        · omega
        · exact ⟨hz, rl_up (h.1 q k ci f r' k1 d fs h1 h2 g4).2⟩
        · refine ⟨hz, rl_up (h.2.2.1 q k ci f r' k1 d1 (q + d) fs h1 h2 g4 ?_).2⟩
          exact hR.1 q k ci ci f r' r' k1 (φ k1) d1 d fs fs' h1 h2 g2 g4 g3
      · obtain ⟨t', k2', a', st', h3, hc⟩ := rl_k_arr (hk q k h1) h2
        rw [g2] at h3; cases h3
    · intro q k' r len k2 a' st' j g1 g2 hj
      obtain ⟨k, h1, rfl⟩ := rl_inv (KT := KT) g1
      rcases hkt k (hk q k h1) with ⟨ci1, fs, h2⟩ | ⟨r1, len1, t1, k11, a1, st1, h2⟩
      · obtain ⟨fs1, h3, hl, hf⟩ := rl_k_cls (hk q k h1) h2
        rw [g2] at h3; cases h3
      · obtain ⟨t', k2', a1', st1', h3, hc⟩ := rl_k_arr (hk q k h1) h2
        rw [g2] at h3
        cases h3
        rcases hc with ⟨h4, rfl, -, -⟩ | ⟨-, h4, -⟩ | ⟨rfl, -, rfl, hz, -⟩
        · omega
        · omega
        · refine ⟨hz, rl_up (h.2.2.2.1 q k r len k11 a1 st1 j (q + a' + st' * j) h1 h2 ?_).2⟩
          rw [hR.2 q k r len k11 (φ k11) a1 st1 a' st' r len j h1 h2 g2, if_pos hj]
    · intro q k' ci f r k2 d q' fs' g1 g2 g3 g5
      obtain ⟨k, h1, rfl⟩ := rl_inv (KT := KT) g1
      rcases hkt k (hk q k h1) with ⟨ci1, fs, h2⟩ | ⟨r1, len1, t1, k11, a1, st1, h2⟩
      · obtain ⟨fs1, h3, hl, hf⟩ := rl_k_cls (hk q k h1) h2
        rw [g2] at h3
        cases h3
        have hlt := (List.getElem?_eq_some_iff.mp g3).1
        have g4 : fs[f]? = some (fs[f]'(by omega)) := List.getElem?_eq_getElem _
        generalize fs[f]'(by omega) = y at g4
        obtain ⟨t, r', k1, d1⟩ := y
        obtain ⟨rfl, hc⟩ := rl_f_inv (hf f t r' k1 d1 2 r k2 d g4 g3)
        rcases hc with ⟨h5, h6⟩ | ⟨rfl, -, rfl, hz⟩ | ⟨-, h6, -⟩ | ⟨-, h6, -⟩
        · omega
        · exact ⟨hz, rl_up (h.2.2.1 q k ci f r' k1 d1 q' fs h1 h2 g4 g5).2⟩
        · omega
        · omega
      · obtain ⟨t', k2', a', st', h3, hc⟩ := rl_k_arr (hk q k h1) h2
        rw [g2] at h3; cases h3
    · intro q k' r len k2 a' st' j q' g1 g2 g5
      obtain ⟨k, h1, rfl⟩ := rl_inv (KT := KT) g1
      rcases hkt k (hk q k h1) with ⟨ci1, fs, h2⟩ | ⟨r1, len1, t1, k11, a1, st1, h2⟩
      · obtain ⟨fs1, h3, hl, hf⟩ := rl_k_cls (hk q k h1) h2
        rw [g2] at h3; cases h3
      · obtain ⟨t', k2', a1', st1', h3, hc⟩ := rl_k_arr (hk q k h1) h2
        rw [g2] at h3
        cases h3
        rcases hc with ⟨h4, rfl, -, -⟩ | ⟨rfl, -, rfl, hz, -⟩ | ⟨-, h4, -⟩
        · omega
        · exact ⟨hz, rl_up (h.2.2.2.1 q k r len k11 a1 st1 j q' h1 h2 g5).2⟩
        · omega
    · intro r q j hl
      refine h.2.2.2.2 r q j ?_
      have hl' : (m.2.2.2.1.map φ).length ≤ q := hl
      rw [List.length_map] at hl'
      exact hl'
  · rw [List.map_map]
    congr 1
    apply List.map_congr_left
    intro k hkm
    show ab_len KT (φ k) = ab_len KT k
    rcases hkt k (hks k hkm) with ⟨ci1, fs, h2⟩ | ⟨r1, len1, t1, k11, a1, st1, h2⟩
    · obtain ⟨fs1, h3, hl, hf⟩ := rl_k_cls (hks k hkm) h2
      simp [ab_len, h2, h3, hl]
    · obtain ⟨t', k2', a1', st1', h3, hc⟩ := rl_k_arr (hks k hkm) h2
      simp [ab_len, h2, h3]
end
