section
/-! The first memory, relabelled. -/
def Hn (r p N : Nat) (c : M2) : Prop := ∀ j, N ≤ j → c.2.1 r p j = none
theorem Hn_uR {r p N r' p' j' : Nat} {x : Option Nat} {c : M2} (h : Hn r p N c) (hd : (Nat.beq r r' && (Nat.beq p p' && Nat.ble N j')) = false) : Hn r p N (uR2 r' p' j' x c) := by
  intro j hj
  show (if r = r' ∧ p = p' ∧ j = j' then x else c.2.1 r p j) = none
  rw [if_neg]
  · exact h j hj
  · rintro ⟨rfl, rfl, rfl⟩
    rw [Bool.eq_false_iff] at hd
    apply hd
    simp only [Bool.and_eq_true, Nat.beq_eq, Nat.ble_eq]
    exact ⟨trivial, trivial, hj⟩
theorem Hn_ap {r p N k : Nat} {c : M2} (h : Hn r p N c) : Hn r p N (ap2 k c) := h
theorem Hn_a2 {r p N q : Nat} : ∀ {l : List (Nat × Nat)} {n : Nat} {c : M2}, Hn r p N c → (l.all fun z => !Nat.beq r z.2) = true → Hn r p N (a2 q l n c)
  | [], _, _, h, _ => h
  | (k, r1) :: l, n, c, h, hd => by
    rw [List.all_cons, Bool.and_eq_true] at hd
    have e : Nat.beq r r1 = false := by simpa using hd.1
    exact Hn_a2 (l := l) (Hn_uR (Hn_ap h) (by rw [e]; rfl)) hd.2
theorem Hn_w2 {r p N q : Nat} (h9 : r ≠ 9) (h10 : r ≠ 10) : ∀ {k i n : Nat} {c : M2}, Hn r p N c → Hn r p N (w2 q k i n c)
  | 0, _, _, _, h => h
  | k + 1, i, n, c, h => by
    have e1 : Nat.beq r 9 = false := by rw [Bool.eq_false_iff]; intro z; exact h9 (Nat.eq_of_beq_eq_true z)
    have e2 : Nat.beq r 10 = false := by rw [Bool.eq_false_iff]; intro z; exact h10 (Nat.eq_of_beq_eq_true z)
    exact Hn_w2 h9 h10 (k := k) (Hn_uR (Hn_uR (Hn_ap (Hn_ap h)) (by rw [e2]; rfl)) (by rw [e1]; rfl))
set_option maxRecDepth 100000 in
theorem lm0_n8 : Hn 8 1 2 (lm 0 0).2 := by
  simp only [lm, mm, m_m, xm, x_m, x_e, x_0, end_m, otf_m, otf_s, out_m, int_m, int_s, inc_m, rdr_m, num_m, row_m, ap2_eq, uR2_eq, uI2_eq, fl2_eq, m_h2, a2_eq, w2_eq, (m_g_keep _ _ _).1]
  repeat first
    | exact (fun _ _ => rfl)
    | refine Hn_ap ?_
    | refine Hn_uR ?_ (by decide)
    | refine Hn_a2 ?_ (by decide +kernel)
    | refine Hn_w2 (by decide) (by decide) ?_
set_option maxRecDepth 100000 in
theorem lm0_n45 : Hn 45 13 4 (lm 0 0).2 := by
  simp only [lm, mm, m_m, xm, x_m, x_e, x_0, end_m, otf_m, otf_s, out_m, int_m, int_s, inc_m, rdr_m, num_m, row_m, ap2_eq, uR2_eq, uI2_eq, fl2_eq, m_h2, a2_eq, w2_eq, (m_g_keep _ _ _).1]
  repeat first
    | exact (fun _ _ => rfl)
    | refine Hn_ap ?_
    | refine Hn_uR ?_ (by decide)
    | refine Hn_a2 ?_ (by decide +kernel)
    | refine Hn_w2 (by decide) (by decide) ?_
set_option maxRecDepth 100000 in
theorem lm0_n45' : Hn 45 43 4 (lm 0 0).2 := by
  simp only [lm, mm, m_m, xm, x_m, x_e, x_0, end_m, otf_m, otf_s, out_m, int_m, int_s, inc_m, rdr_m, num_m, row_m, ap2_eq, uR2_eq, uI2_eq, fl2_eq, m_h2, a2_eq, w2_eq, (m_g_keep _ _ _).1]
  repeat first
    | exact (fun _ _ => rfl)
    | refine Hn_ap ?_
    | refine Hn_uR ?_ (by decide)
    | refine Hn_a2 ?_ (by decide +kernel)
    | refine Hn_w2 (by decide) (by decide) ?_
set_option maxRecDepth 100000 in
theorem lm0_n56 : Hn 56 23 4 (lm 0 0).2 := by
  simp only [lm, mm, m_m, xm, x_m, x_e, x_0, end_m, otf_m, otf_s, out_m, int_m, int_s, inc_m, rdr_m, num_m, row_m, ap2_eq, uR2_eq, uI2_eq, fl2_eq, m_h2, a2_eq, w2_eq, (m_g_keep _ _ _).1]
  repeat first
    | exact (fun _ _ => rfl)
    | refine Hn_ap ?_
    | refine Hn_uR ?_ (by decide)
    | refine Hn_a2 ?_ (by decide +kernel)
    | refine Hn_w2 (by decide) (by decide) ?_
set_option maxRecDepth 100000 in
theorem lm0_n56' : Hn 56 53 4 (lm 0 0).2 := by
  simp only [lm, mm, m_m, xm, x_m, x_e, x_0, end_m, otf_m, otf_s, out_m, int_m, int_s, inc_m, rdr_m, num_m, row_m, ap2_eq, uR2_eq, uI2_eq, fl2_eq, m_h2, a2_eq, w2_eq, (m_g_keep _ _ _).1]
  repeat first
    | exact (fun _ _ => rfl)
    | refine Hn_ap ?_
    | refine Hn_uR ?_ (by decide)
    | refine Hn_a2 ?_ (by decide +kernel)
    | refine Hn_w2 (by decide) (by decide) ?_
theorem lm0_at34 : ((List.range 139).all fun q => match (lm 0 0).2.2.2.1[q]? with
    | some 70 => decide (q = 1)
    | some 77 => decide (q = 13 ∨ q = 43)
    | some 80 => decide (q = 23 ∨ q = 53)
    | some k => match KT[k]?, KT[phi k]? with
      | some (.inr (_, _, 3, _, _, _)), some (.inr (_, _, 4, _, _, _)) => false
      | _, _ => true
    | none => true) = true := by decide +kernel
theorem lm0_R : rl_R KT phi (lm 0 0) := by
  have hlt : ∀ {q k : Nat}, (lm 0 0).2.2.2.1[q]? = some k → q < 139 := fun h => by
    have := (List.getElem?_eq_some_iff.mp h).1
    rw [lm0_len] at this
    exact this
  constructor
  · intro q k ci ci' f r r' k1 k2 d1 d fs fs' h1 h2 h3 h4 h5
    have hb := List.all_eq_true.mp lm0_b1 q (List.mem_range.mpr (hlt h1))
    rw [h1] at hb
    simp only [rl_b1, h2, h3] at hb
    have hf := List.all_eq_true.mp hb f (List.mem_range.mpr (List.getElem?_eq_some_iff.mp h4).1)
    simp only [h4, h5] at hf
    exact of_decide_eq_true hf
  · intro q k r len k1 k2 a st a' st' r' len' j h1 h2 h3
    have hq := hlt h1
    by_cases hj : j < len
    · have hb := List.all_eq_true.mp lm0_b1 q (List.mem_range.mpr hq)
      rw [h1] at hb
      simp only [rl_b1, h2, h3] at hb
      have hf := List.all_eq_true.mp hb j (List.mem_range.mpr hj)
      rw [if_pos hj]
      exact of_decide_eq_true hf
    · rw [if_neg hj]
      have hb := List.all_eq_true.mp lm0_at34 q (List.mem_range.mpr hq)
      rw [h1] at hb
      split at hb
      · rename_i e
        cases e
        cases h2
        have := of_decide_eq_true hb
        subst this
        obtain ⟨j, rfl⟩ : ∃ i, j = i + 2 := ⟨j - 2, by omega⟩
        exact lm0_n8 _ (by omega)
      · rename_i e
        cases e
        cases h2
        obtain ⟨j, rfl⟩ : ∃ i, j = i + 4 := ⟨j - 4, by omega⟩
        rcases of_decide_eq_true hb with rfl | rfl
        · exact lm0_n45 _ (by omega)
        · exact lm0_n45' _ (by omega)
      · rename_i e
        cases e
        cases h2
        obtain ⟨j, rfl⟩ : ∃ i, j = i + 4 := ⟨j - 4, by omega⟩
        rcases of_decide_eq_true hb with rfl | rfl
        · exact lm0_n56 _ (by omega)
        · exact lm0_n56' _ (by omega)
      · rename_i e
        cases e
        simp [h2, h3] at hb
      · rename_i e
        cases e
theorem rl_R_of {m m' : Mm} (h : m.2 = m'.2) (hR : rl_R KT phi m') : rl_R KT phi m := by
  obtain ⟨i, c⟩ := m
  obtain ⟨i', c'⟩ := m'
  cases h
  exact hR
theorem lm_rk (a b : Int32) : (∀ ad ac, ab_w KT ad ac (ab_ks (lm a b) fks) = ab_w KT ad ac (lm a b)) ∧ (∀ ac U, ab_K KT CL ac (lm a b).2.2.2.1 U → ab_K KT CL ac fks U) ∧ (ab_ok KT (lm a b) → ab_ok KT (ab_ks (lm a b) fks)) ∧ fks.length = (lm a b).2.2.2.1.length ∧ (fks.map (ab_len KT)).sum = ((lm a b).2.2.2.1.map (ab_len KT)).sum := by
  have h := ab_rkA (KT := KT) (cl := CL) (φ := phi) (m := lm a b) (by
    intro k hk
    rw [lm_ks] at hk
    exact List.all_eq_true.mp lm0_rl k hk) KT_nd (rl_R_of (lm_2 a b) lm0_R)
  rw [lm_ks a b, lm0_ks] at h
  rw [lm_ks a b]
  exact h
end
