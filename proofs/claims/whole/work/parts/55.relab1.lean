/-! One cell gets another kind of the same class. -/
section
def ab_not (KT : List KS) (kc : Nat) : Bool := KT.all fun z => match z with
  | .inl (_, fs) => fs.all (fun f => decide (f.2.2.1 ≠ kc))
  | .inr (_, _, _, k', _, _) => decide (k' ≠ kc)
theorem ab_not_f {KT : List KS} {kc k ci f t r k' d : Nat} {fs : List (Nat × Nat × Nat × Nat)} (h : ab_not KT kc = true) (h1 : KT[k]? = some (.inl (ci, fs))) (h2 : fs[f]? = some (t, r, k', d)) : k' ≠ kc := by
  have h3 := List.all_eq_true.mp h _ (List.mem_of_getElem? h1)
  exact of_decide_eq_true (List.all_eq_true.mp h3 _ (List.mem_of_getElem? h2))
theorem ab_not_a {KT : List KS} {kc k r len t k' a st : Nat} (h : ab_not KT kc = true) (h1 : KT[k]? = some (.inr (r, len, t, k', a, st))) : k' ≠ kc :=
  of_decide_eq_true (List.all_eq_true.mp h _ (List.mem_of_getElem? h1))
theorem ab_sum_set {l : List Nat} {n kc kf : Nat} {g : Nat → Nat} (hn : l[n]? = some kc) (hg : g kf = g kc) : ((l.set n kf).map g).sum = (l.map g).sum := by
  congr 1
  apply List.ext_getElem?
  intro i
  rw [List.getElem?_map, List.getElem?_map]
  by_cases hi : i = n
  · subst hi
    rw [List.getElem?_set_self (List.getElem?_eq_some_iff.mp hn).1, hn]
    simp [hg]
  · rw [List.getElem?_set_ne (Ne.symm hi)]
theorem ab_rk1 {cl : List vw_C} {m : Mm} {n kc kf ci : Nat} {fsC fsF : List (Nat × Nat × Nat × Nat)} (hn : m.2.2.2.1[n]? = some kc) (hC : KT[kc]? = some (.inl (ci, fsC))) (hF : KT[kf]? = some (.inl (ci, fsF)))
    (hcell : ∀ ad, fsF.map (ab_fv ad m n) = fsC.map (ab_fv ad m n)) (hnot : ab_not KT kc = true) (h3 : ∀ (f r k' d : Nat), fsF[f]? = some (3, r, k', d) → k' ≠ 0 ∧ d ≠ 0 ∧ m.2.2.2.1[n + d]? = some k') (h2 : ∀ (f r k' d : Nat), fsF[f]? ≠ some (2, r, k', d)) (hlen : fsF.length = fsC.length) :
    (∀ ad ac, ab_w KT ad ac (ab_ks m (m.2.2.2.1.set n kf)) = ab_w KT ad ac m) ∧ (∀ ac U, ab_K KT cl ac m.2.2.2.1 U → ab_K KT cl ac (m.2.2.2.1.set n kf) U) ∧ (ab_ok KT m → ab_ok KT (ab_ks m (m.2.2.2.1.set n kf))) ∧ (m.2.2.2.1.set n kf).length = m.2.2.2.1.length ∧ ((m.2.2.2.1.set n kf).map (ab_len KT)).sum = (m.2.2.2.1.map (ab_len KT)).sum := by
  have hln : n < m.2.2.2.1.length := (List.getElem?_eq_some_iff.mp hn).1
  have up : ∀ (i k : Nat), k ≠ kc → m.2.2.2.1[i]? = some k → (m.2.2.2.1.set n kf)[i]? = some k := by
    intro i k hk h
    have hi : i ≠ n := fun z => by subst z; rw [hn] at h; exact hk (Option.some.inj h).symm
    rw [List.getElem?_set_ne (Ne.symm hi)]
    exact h
  have dn : ∀ (i k : Nat), (m.2.2.2.1.set n kf)[i]? = some k → (i = n ∧ k = kf) ∨ (i ≠ n ∧ m.2.2.2.1[i]? = some k) := by
    intro i k h
    by_cases hi : i = n
    · subst hi
      rw [List.getElem?_set_self hln] at h
      exact Or.inl ⟨rfl, (Option.some.inj h).symm⟩
    · rw [List.getElem?_set_ne (Ne.symm hi)] at h
      exact Or.inr ⟨hi, h⟩
  refine ⟨fun ad ac => ?_, fun ac U h => ?_, fun h => ?_, List.length_set, ab_sum_set hn (by simp [ab_len, hC, hF, hlen])⟩
  · apply List.ext_getElem?
    intro i
    simp only [ab_w, List.getElem?_mapIdx]
    show Option.map _ ((m.2.2.2.1.set n kf)[i]?) = Option.map _ (m.2.2.2.1[i]?)
    by_cases hi : i = n
    · subst hi
      rw [List.getElem?_set_self hln, hn]
      have e : ab_ce KT ad ac (ab_ks m (m.2.2.2.1.set i kf)) i kf = ab_ce KT ad ac m i kc := by
        unfold ab_ce
        rw [hC, hF]
        dsimp only
        congr 2
        exact hcell ad
      simp [e]
    · rw [List.getElem?_set_ne (Ne.symm hi)]
      rfl
  · intro q k r len t k' a st h1 h2'
    rcases dn q k h1 with ⟨-, rfl⟩ | ⟨-, h1⟩
    · rw [hF] at h2'; cases h2'
    · exact h q k r len t k' a st h1 h2'
  · refine ⟨?_, ?_, ?_, ?_, ?_⟩
    · intro q k ci' f r k' d fs g1 g2 g3
      rcases dn q k g1 with ⟨rfl, rfl⟩ | ⟨-, g1⟩
      · rw [hF] at g2
        simp only [Option.some.injEq, Sum.inl.injEq, Prod.mk.injEq] at g2
        obtain ⟨-, rfl⟩ := g2
        obtain ⟨z1, z2, z3⟩ := h3 f r k' d g3
        refine ⟨z1, ?_⟩
        show (m.2.2.2.1.set q k)[q + d]? = some k'
        rw [List.getElem?_set_ne (by omega)]
        exact z3
      · have z := h.1 q k ci' f r k' d fs g1 g2 g3
        exact ⟨z.1, up _ _ (ab_not_f hnot g2 g3) z.2⟩
    · intro q k r len k' a st j g1 g2 g3
      rcases dn q k g1 with ⟨rfl, rfl⟩ | ⟨-, g1⟩
      · rw [hF] at g2; cases g2
      · have z := h.2.1 q k r len k' a st j g1 g2 g3
        exact ⟨z.1, up _ _ (ab_not_a hnot g2) z.2⟩
    · intro q k ci' f r k' d q' fs g1 g2 g3 g4
      rcases dn q k g1 with ⟨rfl, rfl⟩ | ⟨-, g1⟩
      · rw [hF] at g2
        simp only [Option.some.injEq, Sum.inl.injEq, Prod.mk.injEq] at g2
        obtain ⟨-, rfl⟩ := g2
        exact absurd g3 (h2 f r k' d)
      · have z := h.2.2.1 q k ci' f r k' d q' fs g1 g2 g3 g4
        exact ⟨z.1, up _ _ (ab_not_f hnot g2 g3) z.2⟩
    · intro q k r len k' a st j q' g1 g2 g4
      rcases dn q k g1 with ⟨rfl, rfl⟩ | ⟨-, g1⟩
      · rw [hF] at g2; cases g2
      · have z := h.2.2.2.1 q k r len k' a st j q' g1 g2 g4
        exact ⟨z.1, up _ _ (ab_not_a hnot g2) z.2⟩
    · intro r q j hl
      refine h.2.2.2.2 r q j ?_
      have hl' : (m.2.2.2.1.set n kf).length ≤ q := hl
      rw [List.length_set] at hl'
      exact hl'
end
