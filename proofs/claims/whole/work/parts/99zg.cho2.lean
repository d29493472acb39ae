section
/-! A stream's part is chosen and written: the class, whole. -/
theorem s_choose {m : Mm} {V : Vt} {w W : Nat → Nat} {c e s O S a l : Nat} {r : Int32} (h : RC m V w W) (hI : Iv c V) (he : e < 2) (hs : s < 4) (hO : O = 22 + 30 * e) (hP : Pk m S V a) (hS : ∀ a', Sa V a' → W a' ≠ S) (ha : ¬ Sa V a) (hl : l ≤ 37) (hr : r = 38 - nI (l + 1)) (h63 : V 63 (4 * e + s) 0 = 0) : ∃ m' y, r_Otf_choosePart O r S (nI s) m = some (y, m') ∧ ((qP V e s l ∧ y = 1 ∧ RC m' (stV V e a s l) w W ∧ Pk m' S (stV V e a s l) a ∧ FS s60 m m') ∨ (¬ qP V e s l ∧ y = 0 ∧ m' = m)) := by
  obtain ⟨n1, n2, n3, n4, _⟩ := p_n hI he hs
  have pf := p_f (V := V) (e := e) (s := s)
  have w4 := nw_4 (pfr V e s)
  have pl := (p_l hI he hs).1
  have ho : O + 1 + 1 + 3 * s = 24 + 30 * e + 3 * s := by omega
  have k60 : m.1 60 (O + 1 + 1 + 3 * s) 0 = nI (pN V e s) := (c60 h he hs ho).trans n1.symm
  have k67 : ∀ j, j < 64 → m.1 67 (O + 1 + 1 + 3 * s + 2) j = V 67 (4 * e + s) j := fun j hj => c67 h he hs hj (by omega)
  obtain ⟨v, v1, v2⟩ := s_firstLost k60 (by omega)
  have v3 : (v = -1 ∧ pfr V e s = pN V e s) ∨ (v = nI (pfr V e s) ∧ pfr V e s < pN V e s ∧ V 67 (4 * e + s) (pfr V e s) = 2) := FL_fl (FL_ext (h := fun j => V 67 (4 * e + s) j) (fun j hj => k67 j (by omega)) v2)
  have j55 : b_Otf_choosePart_0 50000 O r S (nI s) m = b_Otf_choosePart_55 49998 r S (nI s) (O + 1 + 1 + 3 * s) (nI (pfr V e s)) (nI (pL V e s)) m := by
    rw [b_Otf_choosePart_0_eq, ab_ix_nI hs (by decide)]
    simp only [ob_s]
    rw [v1]
    simp only [ob_s]
    rcases v3 with ⟨y1, y2⟩ | ⟨y1, y2, y3⟩
    · obtain ⟨y, hy, ey⟩ := s_cal h (n := fun j => pN V e j) he hs hO ho (fun j hj => (p_n hI he hj).1.symm)
      have e1 := p_cal hI he hs hy
      have ea : pL V e s = pA V e s := if_neg (by omega)
      rw [if_pos y1, b_Otf_choosePart_31_eq, if_pos y1, ey]
      simp only [ob_s]
      rw [e1, k60, y2, ea]
    · have ea : pL V e s = rn 2 (fun j => V 67 (4 * e + s) j) (pN V e s - pfr V e s) (pfr V e s) := if_pos y2
      have ne : ¬ v = -1 := by
        rw [y1]
        clear h hI hP hS ha k60 k67 v1 v2 n1 n2 y1 y3
        grind [nI_T]
      rw [if_neg ne, b_Otf_choosePart_31_eq, if_neg ne, y1, s_countLostFrom k60 (by omega) (by omega)]
      simp only [ob_s]
      rw [rn_ext (h := fun j => V 67 (4 * e + s) j) (fun j hj => k67 j (by omega)), ← ea]
  rw [r_Otf_choosePart_eq, j55, b_Otf_choosePart_55_eq, s_sizeOf, wd_nw (by omega)]
  simp only [ob_s, lt_eq]
  rw [s_min]
  simp only [ob_s]
  rw [s_min]
  simp only [ob_s]
  have p64 : pL V e s ≤ 64 := by omega
  have x2 : r - (2 + nI (nw (pfr V e s)) + 1) < 0 ↔ 37 < l + (3 + nw (pfr V e s)) := by
    subst hr
    clear h hI hP hS ha k60 k67 v1 v2 v3 n1 n2 j55
    grind [nI_T]
  have cz1 : l + (3 + nw (pfr V e s)) ≤ 37 → (if r - (2 + nI (nw (pfr V e s)) + 1) < (if (12 : Int32) < nI (pL V e s) then 12 else nI (pL V e s)) then r - (2 + nI (nw (pfr V e s)) + 1) else (if (12 : Int32) < nI (pL V e s) then 12 else nI (pL V e s))) = nI (pC V e s l) := by
    intro hR
    have er : r - (2 + nI (nw (pfr V e s)) + 1) = nI (37 - (l + (3 + nw (pfr V e s)))) := by
      subst hr
      clear h hI hP hS ha k60 k67 v1 v2 v3 n1 n2 j55 x2
      grind [nI_T]
    have e12 : (if (12 : Int32) < nI (pL V e s) then 12 else nI (pL V e s)) = nI (min (pL V e s) 12) := by
      by_cases z : 12 < pL V e s
      · rw [if_pos (by clear h hI hP hS ha k60 k67 v1 v2 v3 n1 n2 j55 x2 er; grind [nI_T]), Nat.min_eq_right (by omega)]
        rfl
      · rw [if_neg (by clear h hI hP hS ha k60 k67 v1 v2 v3 n1 n2 j55 x2 er; grind [nI_T]), Nat.min_eq_left (by omega)]
    rw [er, e12]
    unfold pC
    by_cases z : 37 - (l + (3 + nw (pfr V e s))) < min (pL V e s) 12
    · rw [if_pos (by clear h hI hP hS ha k60 k67 v1 v2 v3 n1 n2 j55 x2 er e12; grind [nI_T]), show min (min (pL V e s) 12) (37 - (l + (3 + nw (pfr V e s)))) = 37 - (l + (3 + nw (pfr V e s))) by omega]
    · rw [if_neg (by clear h hI hP hS ha k60 k67 v1 v2 v3 n1 n2 j55 x2 er e12; grind [nI_T]), show min (min (pL V e s) 12) (37 - (l + (3 + nw (pfr V e s)))) = min (pL V e s) 12 by omega]
  have cz2 : 37 < l + (3 + nw (pfr V e s)) → ¬ (1 : Int32) ≤ (if r - (2 + nI (nw (pfr V e s)) + 1) < (if (12 : Int32) < nI (pL V e s) then 12 else nI (pL V e s)) then r - (2 + nI (nw (pfr V e s)) + 1) else (if (12 : Int32) < nI (pL V e s) then 12 else nI (pL V e s))) := by
    intro hR
    have q := x2.mpr hR
    have q2 : (0 : Int32) ≤ (if (12 : Int32) < nI (pL V e s) then 12 else nI (pL V e s)) := by
      split
      · decide
      · clear h hI hP hS ha k60 k67 v1 v2 v3 n1 n2 j55 x2
        grind [nI_T]
    rw [if_pos (Int32.lt_of_lt_of_le q q2)]
    clear h hI hP hS ha k60 k67 v1 v2 v3 n1 n2 j55 x2 cz1 q2
    grind
  revert cz1 cz2
  generalize (if r - (2 + nI (nw (pfr V e s)) + 1) < (if (12 : Int32) < nI (pL V e s) then 12 else nI (pL V e s)) then r - (2 + nI (nw (pfr V e s)) + 1) else (if (12 : Int32) < nI (pL V e s) then 12 else nI (pL V e s))) = cz
  intro cz1 cz2
  have hc0 : pC V e s l ≤ 37 - (l + (3 + nw (pfr V e s))) ∧ pC V e s l ≤ pL V e s ∧ pC V e s l ≤ 12 := by
    unfold pC
    omega
  have go : ∀ g, l + (3 + nw (pfr V e s)) ≤ 37 → qP V e s l → ∃ m' y, ab_rI (b_Otf_choosePart_122 (g + 3) S (nI s) (O + 1 + 1 + 3 * s) (nI (pfr V e s)) cz m) = some (y, m') ∧ ((qP V e s l ∧ y = 1 ∧ RC m' (stV V e a s l) w W ∧ Pk m' S (stV V e a s l) a ∧ FS s60 m m') ∨ (¬ qP V e s l ∧ y = 0 ∧ m' = m)) := by
    intro g hR hq
    obtain ⟨m', r1, r2, r3, r4⟩ := s_122 (l := l) h hI he hs ho hP hS ha g
    refine ⟨m', 1, ?_, .inl ⟨hq, rfl, r2, r3, r4⟩⟩
    rw [cz1 hR, r1, rI_some]
  have no : ∀ g, (1 ≤ pC V e s l ∨ ¬ eA V e s l) → ∃ m' y, ab_rI (b_Otf_choosePart_106 (g + 5) S (nI s) (O + 1 + 1 + 3 * s) (nI (pfr V e s)) cz m) = some (y, m') ∧ ((qP V e s l ∧ y = 1 ∧ RC m' (stV V e a s l) w W ∧ Pk m' S (stV V e a s l) a ∧ FS s60 m m') ∨ (¬ qP V e s l ∧ y = 0 ∧ m' = m)) := by
    intro g hq
    rw [b_Otf_choosePart_106_eq, b_Otf_choosePart_107_eq]
    by_cases z : 1 ≤ pC V e s l
    · have hR : l + (3 + nw (pfr V e s)) ≤ 37 := by omega
      rw [if_pos (by rw [cz1 hR]; clear h hI hP hS ha k60 k67 v1 v2 v3 n1 n2 j55 x2 cz1 cz2 go; grind [nI_T])]
      exact go _ hR ⟨h63, .inl z⟩
    · have nz : ¬ (1 : Int32) ≤ cz := by
        by_cases hR : l + (3 + nw (pfr V e s)) ≤ 37
        · rw [cz1 hR]
          clear h hI hP hS ha k60 k67 v1 v2 v3 n1 n2 j55 x2 cz1 cz2 go
          grind [nI_T]
        · exact cz2 (by omega)
      rw [if_neg nz, if_pos rfl, bo_0]
      simp only [ob_s]
      exact ⟨m, 0, rI_some _ _, .inr ⟨fun q => q.2.elim z (hq.resolve_left z), rfl, rfl⟩⟩
  by_cases y : pL V e s = 0
  · rw [if_pos (by rw [y]; rfl)]
    have pc0 : pC V e s l = 0 := by omega
    by_cases hR : l + (3 + nw (pfr V e s)) ≤ 37
    · rw [if_neg (fun q => by have := x2.mp q; omega)]
      obtain ⟨v', f1, f2⟩ := s_owesEndAlone k60 (by omega)
      have ev : v' = -1 := by
        rw [FL_uniq f1 v2]
        rcases v3 with q | q
        · exact q.1
        · have := (pf.2 q.2.1).2
          omega
      rw [f2, c62 h he hs ho, c64 h he hs ho, c59 h he hs ho, ← n2]
      simp only [ob_s, ib_if]
      by_cases z : eA V e s l
      · rw [if_pos ⟨z.2.2.1, z.2.2.2.1, by rw [z.2.2.2.2], ev⟩, b_Otf_choosePart_107_eq, if_neg (by rw [cz1 hR, pc0]; decide), if_neg (by decide)]
        exact go _ hR ⟨h63, .inr z⟩
      · rw [if_neg (fun q => z ⟨y, hR, q.1, q.2.1, by
          have := q.2.2.1
          clear h hI hP hS ha k60 k67 v1 v2 v3 n1 n2 j55 x2 cz1 cz2 go no f1 f2 q z
          grind [nI_T]⟩)]
        exact no _ (.inr z)
    · rw [if_pos (x2.mpr (by omega))]
      exact no _ (.inr (fun q => hR q.2.1))
  · rw [if_neg (by clear h hI hP hS ha k60 k67 v1 v2 v3 n1 n2 j55 x2 cz1 cz2 go no; grind [nI_T])]
    exact no _ (.inr (fun q => y q.1))
theorem s_59 {V T : Vt} {w W : Nat → Nat} {c e s O q f0 ct : Nat} {x : Int32} {L : List Nat} (hI : Iv c V) (he : e < 2) (hs : s < 4) (hO : O = 22 + 30 * e) (hT : ∀ b, T 66 (4 * e + s) b = V 66 (4 * e + s) b) (hf : Fr T w q) (h64 : f0 + ct ≤ 64) (hL : L.length + ct ≤ 40) : ∀ (j i f : Nat) (m : Mm), i + j = ct → RC m T w W → WC m q x (L ++ bt V (4 * e + s) f0 i) → ∃ m', b_Otf_putPart_59 (f + j + 1) O q (nI s) (nI f0) (nI ct) (nI (f0 + i)) m = some (.inl (none, m')) ∧ RC m' T w W ∧ WC m' q x (L ++ bt V (4 * e + s) f0 ct) ∧ FS rw3 m m' := by
  intro j
  induction j with
  | zero =>
    intro i f m hj h hw
    obtain rfl : i = ct := by omega
    refine ⟨m, ?_, h, hw, FS_rfl _ _⟩
    rw [b_Otf_putPart_59_eq, nI_add, if_pos (Int32.le_refl _)]
  | succ j ih =>
    intro i f m hj h hw
    have hb := (hI.1 _ (show 4 * e + s < 8 by omega)).2.2.2.2 (f0 + i) (by omega)
    have e1 := nI_nn hb.1
    have l1 : nn (V 66 (4 * e + s) (f0 + i)) < 256 := by
      have := nn_le (N := 255) hb.1 hb.2 (by decide)
      omega
    have k66 : m.1 66 (O + 1 + 1 + 3 * s + 1) (f0 + i) = nI (nn (V 66 (4 * e + s) (f0 + i))) := by
      rw [c66 h he hs (b := f0 + i) (by omega) (p := O + 1 + 1 + 3 * s + 1) (by omega), hT, e1]
    obtain ⟨m1, a1, a2, a3, a4⟩ := s_putL h (v := nI (nn (V 66 (4 * e + s) (f0 + i)))) (b := nn (V 66 (4 * e + s) (f0 + i))) hf hw (by rw [List.length_append, bt_l]; omega) (m255 l1)
    rw [List.append_assoc] at a3
    obtain ⟨m', r1, r2, r3, r4⟩ := ih (i + 1) f m1 (by omega) a2 a3
    refine ⟨m', ?_, r2, r3, FS_tr a4 r4⟩
    rw [show f + (j + 1) + 1 = f + j + 1 + 1 by omega, b_Otf_putPart_59_eq, nI_add, if_neg (by clear ih h hw a1 a2 a3 a4 r1 r2 r3 r4 hI hb e1 k66 hT hf; grind [nI_T]), if_neg (by clear ih h hw a1 a2 a3 a4 r1 r2 r3 r4 hI hb e1 k66 hT hf; grind [nI_T]), ab_ix_nI hs (by decide), ab_ix_nI (show f0 + i < 64 by omega) (by decide)]
    simp only [ob_s]
    rw [k66, a1]
    simp only [ob_s, lt_eq]
    rw [nI_1]
    exact r1
theorem nI_2m (k : Nat) : (2 : Int32) * nI k = nI (2 * k) := by
  unfold nI
  rw [← show Int32.ofNat 2 = 2 from rfl, ← Int32.ofNat_mul]
theorem s_part {m : Mm} {V T : Vt} {w W : Nat → Nat} {c e s O q S d : Nat} {x : Int32} {L : List Nat} (h : RC m T w W) (hI : Iv c V) (he : e < 2) (hs : s < 4) (hO : O = 22 + 30 * e) (hT : ∀ b, T 66 (4 * e + s) b = V 66 (4 * e + s) b) (hf : Fr T w q) (hw : WC m q x (d :: L)) (h77 : m.1 77 (S + 2) s = nI (pfr V e s)) (h78 : m.1 78 (S + 3) s = nI (pC V e s L.length)) (h79 : m.1 79 (S + 4) s = pE V e s L.length) (hR : L.length + (3 + nw (pfr V e s)) + pC V e s L.length ≤ 37) : ∃ m', r_Otf_putPart O q S (nI s) m = some m' ∧ RC m' T w W ∧ WC m' q x (d :: stL V e s L) ∧ FS rw3 m m' := by
  obtain ⟨n1, n2, n3, n4, _⟩ := p_n hI he hs
  have pf := p_f (V := V) (e := e) (s := s)
  have w4 := nw_4 (pfr V e s)
  have pl := (p_l hI he hs).1
  have hc0 : pC V e s L.length ≤ pL V e s ∧ pC V e s L.length ≤ 12 := by
    unfold pC
    omega
  have pe2 : nn (pE V e s L.length) < 2 := by
    rcases pE_01 V e s L.length with z | z <;> (rw [z]; decide)
  have ll : (d :: L).length = L.length + 1 := rfl
  obtain ⟨m1, b1, b2, b3, b4⟩ := s_putL h (v := 2) (b := 2) hf hw (by omega) (by decide)
  have l1 : (d :: L ++ [2]).length = L.length + 2 := by rw [List.length_append]; rfl
  obtain ⟨m2, d1, d2, d3, d4⟩ := s_numL b2 (v := s) hf b3 (by omega) (by rw [l1, nw_1 (show s < 64 by omega)]; omega)
  have l2 : (d :: L ++ [2] ++ nb s).length = L.length + 3 := by rw [List.length_append, l1, nb_s (show s < 64 by omega)]; rfl
  obtain ⟨m3, g1, g2, g3, g4⟩ := s_numL d2 (v := pfr V e s) hf d3 (by omega) (by rw [l2]; omega)
  have l3 : (d :: L ++ [2] ++ nb s ++ nb (pfr V e s)).length = L.length + 3 + nw (pfr V e s) := by rw [List.length_append, l2, nb_l]
  obtain ⟨m4, i1, i2, i3, i4⟩ := s_numL g2 (v := 2 * pC V e s L.length + nn (pE V e s L.length)) hf g3 (by omega) (by rw [l3, nw_1 (show 2 * pC V e s L.length + nn (pE V e s L.length) < 64 by omega)]; omega)
  have el : d :: L ++ [2] ++ nb s ++ nb (pfr V e s) ++ nb (2 * pC V e s L.length + nn (pE V e s L.length)) = d :: stH V e s L := by
    unfold stH
    rw [nb_s (show s < 64 by omega), nb_s (show 2 * pC V e s L.length + nn (pE V e s L.length) < 64 by omega)]
    simp only [List.cons_append, List.append_assoc]
  rw [el] at i3
  have hl0 : (d :: stH V e s L).length = L.length + (3 + nw (pfr V e s)) + 1 := by
    rw [List.length_cons, stH_l]
  obtain ⟨m5, r1, r2, r3, r4⟩ := s_59 (V := V) (T := T) (x := x) (L := d :: stH V e s L) (f0 := pfr V e s) (ct := pC V e s L.length) hI he hs hO hT hf (by omega) (by rw [hl0]; omega) (pC V e s L.length) 0 (49997 - pC V e s L.length) m4 (by omega) i2 (by unfold bt; rw [List.append_nil]; exact i3)
  have f3 := FS_tr (FS_tr b4 d4) g4
  refine ⟨m5, ?_, r2, ?_, FS_tr (FS_tr f3 i4) r4⟩
  · rw [r_Otf_putPart_eq, b_Otf_putPart_0_eq, ab_ix_nI hs (by decide)]
    simp only [ob_s, lt_eq]
    rw [h77, h78, b1]
    simp only [ob_s]
    rw [d1]
    simp only [ob_s]
    rw [g1]
    simp only [ob_s]
    rw [FS_g f3 79 _ _ (by unfold rw3; omega), h79]
    have fin : ∀ y : Int32, (2 : Int32) * nI (pC V e s L.length) + y = nI (2 * pC V e s L.length + nn (pE V e s L.length)) → ab_rV (b_Otf_putPart_51 49999 O q (nI s) (nI (pfr V e s)) (nI (pC V e s L.length)) q ((2 : Int32) * nI (pC V e s L.length)) y m3) = some m5 := by
      intro y hy
      rw [b_Otf_putPart_51_eq, hy, i1]
      simp only [ob_s]
      rw [show 49997 - pC V e s L.length + pC V e s L.length + 1 = 49998 by omega, Nat.add_zero] at r1
      rw [r1, rV_some]
    rcases pE_01 V e s L.length with z | z
    · rw [if_pos z]
      exact fin 0 (by rw [z, nn0, nI_2m, Int32.add_zero]; rfl)
    · rw [if_neg (by rw [z]; decide)]
      exact fin 1 (by rw [z, show nn 1 = 1 from by decide, nI_2m, nI_1])
  · unfold stL
    exact r3
end
