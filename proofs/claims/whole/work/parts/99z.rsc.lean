section
/-! RESET is written: one stream, the class. -/
theorem s_rs1 {m : Mm} {V : Vt} {w W : Nat → Nat} {e s O q S a d N : Nat} {L : List Nat} {x : Int32} (h : RC m V w W) (he : e < 2) (hs : s < 4) (hO : O = 22 + 30 * e) (hw : WC m q x (d :: L)) (hP : Pk m S V a) (hf : Fr V w q) (hS : ∀ a', Sa V a' → W a' ≠ S) (ha : ¬ Sa V a) (hN : V 60 (4 * e + s) 0 = nI N) (hN2 : N ≤ 64) (hL : L.length ≤ 37) (f : Nat) : ∃ m', b_Otf_putResets_2 (f + 2) O q S (nI s) m = b_Otf_putResets_2 f O q S (nI (s + 1)) m' ∧ FS s81 m m' ∧ ((rcd V e s N L ∧ RC m' (uV V 80 a s 1) w W ∧ WC m' q x (d :: rsL s N L) ∧ Pk m' S (uV V 80 a s 1) a) ∨ (¬ rcd V e s N L ∧ m' = m)) := by
  have hn : O + 1 + 1 + 3 * s = 24 + 30 * e + 3 * s := by omega
  have nx : ∀ M, b_Otf_putResets_66 (f + 1) O q S (nI s) M = b_Otf_putResets_2 f O q S (nI (s + 1)) M := by
    intro M
    rw [b_Otf_putResets_66_eq]
    simp only [lt_eq]
    rw [nI_1]
  have ll : (d :: L).length = L.length + 1 := rfl
  have k60 : m.1 60 (O + 1 + 1 + 3 * s) 0 = nI N := (c60 h he hs hn).trans hN
  rw [b_Otf_putResets_2_eq, if_neg (by clear h hw hP hf hS ha nx k60; grind [nI_T]), ab_ix_nI hs (by decide)]
  simp only [ob_s]
  rw [s_owesReset, c63 h he hs hn, c65 h he hs hn]
  simp only [ob_s, ib_if]
  by_cases y : V 63 (4 * e + s) 0 ≠ 0 ∧ (V 65 (4 * e + s) 0 = 0 ∨ V 65 (4 * e + s) 0 = 2)
  · have w4 := nw_4 N
    rw [if_pos y, k60, s_sizeOf, wd_nw (by omega)]
    simp only [ob_s]
    rw [show (2 : Int32) + nI (nw N) = nI (2 + nw N) from nI_add 2 _, s_room hw (by omega) (by omega)]
    simp only [ob_s, ib_if]
    by_cases z : L.length + (2 + nw N) ≤ 37
    · rw [if_pos (by omega)]
      obtain ⟨m1, b1, b2, b3, b4⟩ := s_putL h (v := 5) (b := 5) hf hw (by omega) (by decide)
      have l1 : (d :: L ++ [5]).length = L.length + 2 := by rw [List.length_append]; rfl
      obtain ⟨m2, d1, d2, d3, d4⟩ := s_numL b2 (v := s) hf b3 (by omega) (by rw [l1, nw_1 (show s < 64 by omega)]; omega)
      obtain ⟨m3, g1, g2, g3, g4⟩ := s_numL d2 (v := N) hf d3 (by omega) (by rw [len_nb, l1, nw_1 (show s < 64 by omega)]; omega)
      have f2 := FS_tr (FS_tr b4 d4) g4
      have p2 := Pk_FS hP f2 (fun r hr => by unfold rw3 at hr; omega)
      have q1 := RC_pk g2 (k := 80) (a := a) (b := s) (S := S) (p := S + 5) (x := 1) (TS80 hs) rfl ha hS
      have q2 := Pk_pk (x := 1) p2 (TS80 hs) (show S + 5 = S + ofk 80 from rfl)
      refine ⟨ab_uI m3 80 (S + 5) s 1, ?_, FS_tr (FS_le f2 rw81) (FS_uI (by unfold s81; omega)), .inl ⟨⟨y.1, y.2, z⟩, q1, ?_, q2⟩⟩
      · rw [b1]
        simp only [ob_s]
        rw [d1]
        simp only [ob_s]
        rw [FS_g (FS_tr b4 d4) 60 _ _ (by unfold rw3; omega), k60, g1, bo_1]
        simp only [ob_s, lt_eq]
        exact nx _
      · have g := Wr_FS (S := fun r => r = 80) (m' := ab_uI m3 80 (S + 5) s 1) g3 (FS_uI rfl) (by omega) (by omega) (by omega)
        unfold rsL
        rw [List.append_assoc, List.append_assoc, nb_s (show s < 64 by omega)] at g
        exact g
    · rw [if_neg (by omega), nx]
      exact ⟨m, rfl, FS_rfl _ _, .inr ⟨fun q => z q.2.2, rfl⟩⟩
  · rw [if_neg y, nx]
    exact ⟨m, rfl, FS_rfl _ _, .inr ⟨fun q => y ⟨q.1, q.2.1⟩, rfl⟩⟩
end
