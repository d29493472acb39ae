section
/-! ACK is written: the model's whole. -/
def s4 (r : Nat) : Prop := s2 r ∨ s71 r ∨ r = 158
theorem t_putAck {m : Mm} {V : Vt} (h : RM m V) {e t : Nat} {L : List Nat} (he : e < 2) (ht : t < 4990) (h30 : V 30 e 0 = nI t) (hbt : hb V e t) (hr : ML m L) (hL : L.length ≤ 20) : ∃ m', r_M_putAck 98 (nI e) m = some m' ∧ RM m' (uV V 26 e 0 0) ∧ ML m' (L ++ ackL V e t) ∧ FS s4 m m' := by
  have gt : gbl V e (t + 1) = some t := by
    show (if _ then _ else _) = _
    exact if_pos hbt
  have lt := lrg_le V e t
  have cl := rgn_le V e 2 (lrg V e t)
  have f3 : FK 3 = 30040 := rfl
  obtain ⟨m0, g, q1, q2, q3, q4, q5, q6⟩ := t_scan he 3 (t + 1) 0 49999 m (by omega) (by omega) (by omega) h
  have ar := q6 t gt
  rw [rgn_some gt, pd_1, show nI 0 = (0 : Int32) from rfl, show 0 + (1 + rgn V e 2 (lrg V e t)) = 1 + rgn V e 2 (lrg V e t) by omega] at q2
  have hr0 : ML m0 L := ML_FS hr q4 (by unfold s71; omega) (by unfold s71; omega)
  have a2 : nI t - nI (lrg V e t) = nI (t - lrg V e t) := by
    clear h h30 q2 q3 q4 q5 q6 ar hr hr0 gt hbt
    grind [nI_T]
  have a3 : nI (1 + rgn V e 2 (lrg V e t)) - 1 = nI (rgn V e 2 (lrg V e t)) := by
    clear h h30 q2 q3 q4 q5 q6 ar hr hr0 gt hbt a2
    grind [nI_T]
  have w1 := nw_2 (v := t) (by omega)
  have w2 := nw_2 (v := t - lrg V e t) (by omega)
  have w3 := nw_1 (v := rgn V e 2 (lrg V e t)) (by omega)
  obtain ⟨m1, b1, b2, b3, b4⟩ := t_putL q3 (b := 1) hr0 (by omega)
  have l1 : (L ++ [1]).length = L.length + 1 := by rw [List.length_append]; rfl
  obtain ⟨m2, d1, d2, d3, d4⟩ := t_numL b2 (v := t) b3 (by omega) (by omega)
  obtain ⟨m3, g1, g2, g3, g4⟩ := t_numL d2 (v := t - lrg V e t) d3 (by omega) (by rw [len_nb]; omega)
  obtain ⟨m4, k1, k2, k3, k4⟩ := t_numL g2 (v := rgn V e 2 (lrg V e t)) g3 (by omega) (by rw [len_nb, len_nb]; omega)
  have n170 : ¬ s2 170 := by unfold s2; omega
  have n171 : ¬ s2 171 := by unfold s2; omega
  have f2 := FS_tr b4 d4
  have f4 := FS_tr (FS_tr f2 g4) k4
  obtain ⟨g, rfl⟩ : ∃ g', g = g' + 1 := ⟨g - 1, by omega⟩
  obtain ⟨m5, r1, r2, r3, r4⟩ := t_120 (K := 1 + rgn V e 2 (lrg V e t)) he (by omega) 2 t 1 g m4 _ (by omega) (by omega) (by omega) rfl (by omega) (by rw [len_nb, len_nb, len_nb]; omega) k2 k3 (by rw [FS_g f4 _ _ _ n171]; exact ar.2.1) (Ar_c (f4.1 170 n170) (f4.1 171 n171) _ _ _ ar.2.2)
  refine ⟨ab_uI m5 158 124 e 0, ?_, ?_, ?_, ?_⟩
  · rw [r_M_putAck_eq, b_M_putAck_0_eq, ab_ix_nI he (by decide)]
    simp only [ob_s]
    rw [n30 h he (p := 98 + 20) rfl rfl, h30]
    simp only [lt_eq]
    rw [q2, b_M_putAck_78_eq, show (1 : Int32) = nI 1 from rfl, b1]
    simp only [ob_s]
    rw [i_ix (x := 0) (k := 0) (n := 3) rfl (by omega) (by decide)]
    simp only [ob_s]
    rw [show (98 : Nat) + 38 = 136 from rfl, show (98 : Nat) + 39 = 137 from rfl, FS_g b4 _ _ _ n170, ar.1, d1]
    simp only [ob_s]
    rw [FS_g f2 _ _ _ n170, FS_g f2 _ _ _ n171, ar.1, ar.2.1, a2, g1]
    simp only [ob_s]
    rw [show nI 1 = (1 : Int32) from rfl, a3, k1]
    simp only [ob_s]
    exact congrArg ab_rV r1
  · refine RM_158 (x0 := V 26 e 0) (e := e) ?_ rfl rfl (fun _ => (uV_s _ _ _ _ _).symm)
    rw [uV_uV, uV_self]
    exact r2
  · have := ML_FS (S := fun r => r = 158) (m' := ab_uI m5 158 124 e 0) r3 (FS_uI rfl) (by omega) (by omega)
    unfold ackL
    rw [List.append_assoc, List.append_assoc, List.append_assoc, List.append_assoc] at this
    exact this
  · exact FS_tr (FS_tr (FS_tr (FS_le q4 (fun r hr => .inr (.inl hr))) (FS_le f4 (fun r hr => .inl hr))) (FS_le r4 (fun r hr => .inl hr))) (FS_uI (.inr (.inr rfl)))
end
