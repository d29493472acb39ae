section
/-! What holds while limits are written. -/
theorem Iv_pk {c : Nat} {V : Vt} {k a b : Nat} {x : Int32} (h : Iv c V) (t : TS k b) (ha : ¬ Sa V a) : Iv c (uV V k a b x) := by
  have tk := TS_k t
  refine Iv_k h (by omega) (fun a ha => IO_k (by omega) (h.1 a ha)) (fun a ha => IN_k (by omega) (h.2.1 a ha)) (fun e' he => IE_k (by omega) (h.2.2.1 e' he)) (IX_k (by omega) h.2.2.2.1) (fun a ha hl => IR_k (by omega) (h.2.2.2.2.1 a ha hl)) (fun a' ha' => ?_)
  have na : a' ≠ a := fun y => ha (y ▸ ha')
  have g := h.2.2.2.2.2 a' ha'
  have u : ∀ k' b', uV V k a b x k' a' b' = V k' a' b' := fun k' b' => uV_a _ _ _ _ _ na
  have u6 : ∀ k' a' b', k' < 68 → uV V k a b x k' a' b' = V k' a' b' := fun k' a' b' q => uV_k _ _ _ _ _ (by omega)
  unfold IS at *
  simp only [u, u6 60 _ _ (by omega), u6 62 _ _ (by omega)]
  exact g
theorem Iv_43 {c : Nat} {V : Vt} {e : Nat} {x : Int32} (h : Iv c V) (hx : 0 ≤ x ∧ x ≤ 256) : Iv c (uV V 43 e 0 x) := by
  refine Iv_k h (by omega) (fun a ha => IO_k (by omega) (h.1 a ha)) (fun a ha => IN_k (by omega) (h.2.1 a ha)) (fun e' he => ?_) (IX_k (by omega) h.2.2.2.1) (fun a ha hl => IR_k (by omega) (h.2.2.2.2.1 a ha hl)) (fun a ha => IS_k (by omega) (h.2.2.2.2.2 a ha))
  have u : ∀ k' a' b', k' ≠ 43 → uV V 43 e 0 x k' a' b' = V k' a' b' := fun k' a' b' q => uV_k V 43 e 0 x q
  have g := h.2.2.1 e' he
  unfold IE hb at *
  simp only [u 21 _ _ (by omega), u 22 _ _ (by omega), u 23 _ _ (by omega), u 24 _ _ (by omega), u 25 _ _ (by omega), u 26 _ _ (by omega), u 30 _ _ (by omega), u 31 _ _ (by omega), u 41 _ _ (by omega), u 42 _ _ (by omega), u 44 _ _ (by omega), u 55 _ _ (by omega), u 7 _ _ (by omega), u 8 _ _ (by omega), u 28 _ _ (by omega)]
  obtain ⟨g1, g2, g3, g4, g5, g6, g7, g8, g9, g10, g11, g12, g13⟩ := g
  refine ⟨g1, g2, g3, g4, g5, g6, g7, g8, g9, g10, g11, ?_, g13⟩
  unfold uV
  split
  · exact hx
  · exact g12
theorem Iv_50 {c : Nat} {V : Vt} {a0 : Nat} {x : Int32} (h : Iv c V) (hx : x ≤ 64) : Iv c (uV V 50 a0 0 x) := by
  refine Iv_k h (by omega) (fun a ha => IO_k (by omega) (h.1 a ha)) (fun a ha => ?_) (fun e' he => IE_k (by omega) (h.2.2.1 e' he)) (IX_k (by omega) h.2.2.2.1) (fun a ha hl => IR_k (by omega) (h.2.2.2.2.1 a ha hl)) (fun a ha => IS_k (by omega) (h.2.2.2.2.2 a ha))
  have u : ∀ k' a' b', k' ≠ 50 → uV V 50 a0 0 x k' a' b' = V k' a' b' := fun k' a' b' q => uV_k V 50 a0 0 x q
  have g := h.2.1 a ha
  unfold IN at *
  simp only [u 47 _ _ (by omega), u 48 _ _ (by omega), u 49 _ _ (by omega), u 51 _ _ (by omega), u 52 _ _ (by omega), u 53 _ _ (by omega)]
  refine ⟨g.1, ⟨g.2.1.1, g.2.1.2.1, ?_⟩, g.2.2⟩
  unfold uV
  split
  · exact hx
  · exact g.2.1.2.2
theorem Iv_52 {c : Nat} {V : Vt} {a0 : Nat} {x : Int32} (h : Iv c V) (hx : x = 0 ∨ x = 1) : Iv c (uV V 52 a0 0 x) := by
  refine Iv_k h (by omega) (fun a ha => IO_k (by omega) (h.1 a ha)) (fun a ha => ?_) (fun e' he => IE_k (by omega) (h.2.2.1 e' he)) (IX_k (by omega) h.2.2.2.1) (fun a ha hl => IR_k (by omega) (h.2.2.2.2.1 a ha hl)) (fun a ha => IS_k (by omega) (h.2.2.2.2.2 a ha))
  have u : ∀ k' a' b', k' ≠ 52 → uV V 52 a0 0 x k' a' b' = V k' a' b' := fun k' a' b' q => uV_k V 52 a0 0 x q
  have g := h.2.1 a ha
  unfold IN at *
  simp only [u 47 _ _ (by omega), u 48 _ _ (by omega), u 49 _ _ (by omega), u 50 _ _ (by omega), u 51 _ _ (by omega), u 53 _ _ (by omega)]
  refine ⟨g.1, g.2.1, g.2.2.1, ?_, g.2.2.2.2⟩
  unfold uV
  split
  · exact hx
  · exact g.2.2.2.1
theorem Iv_26z {c : Nat} {V : Vt} {e : Nat} (h : Iv c V) : Iv c (uV V 26 e 0 0) := by
  refine Iv_k h (by omega) (fun a ha => IO_k (by omega) (h.1 a ha)) (fun a ha => IN_k (by omega) (h.2.1 a ha)) (fun e' he => ?_) (IX_k (by omega) h.2.2.2.1) (fun a ha hl => IR_k (by omega) (h.2.2.2.2.1 a ha hl)) (fun a ha => IS_k (by omega) (h.2.2.2.2.2 a ha))
  have u : ∀ k' a' b', k' ≠ 26 → uV V 26 e 0 0 k' a' b' = V k' a' b' := fun k' a' b' q => uV_k V 26 e 0 0 q
  have g := h.2.2.1 e' he
  unfold IE hb at *
  simp only [u 21 _ _ (by omega), u 22 _ _ (by omega), u 23 _ _ (by omega), u 24 _ _ (by omega), u 25 _ _ (by omega), u 43 _ _ (by omega), u 30 _ _ (by omega), u 31 _ _ (by omega), u 41 _ _ (by omega), u 42 _ _ (by omega), u 44 _ _ (by omega), u 55 _ _ (by omega), u 7 _ _ (by omega), u 8 _ _ (by omega), u 28 _ _ (by omega)]
  obtain ⟨g1, g2, g3, g4, g5, g6, g7, g8⟩ := g
  refine ⟨g1, g2, g3, g4, g5, ?_, ?_, g8⟩
  · unfold uV
    split
    · exact .inl rfl
    · exact g6
  · unfold uV
    split
    · intro y
      exact absurd y (by decide)
    · exact g7
theorem sp_n {V : Vt} {a : Nat} (h : IN V a) : ∃ p, p ≤ 64 ∧ sp V a = nI p := by
  unfold IN at h
  unfold sp
  by_cases y : V 51 a 0 = 0
  · rw [if_pos y]
    exact i_ofc (N := 64) h.1.1 h.1.2 (by decide)
  · rw [if_neg y]
    exact i_ofc (N := 64) (h.2.2.2.2.2 y) h.2.2.1.2 (by decide)
theorem allT_n {c : Nat} {V : Vt} {e : Nat} (h : Iv c V) (he : e < 2) : ∃ T, T ≤ 256 ∧ allT V e = nI T := by
  obtain ⟨p0, l0, e0⟩ := sp_n (h.2.1 (4 * e) (by omega))
  obtain ⟨p1, l1, e1⟩ := sp_n (h.2.1 (4 * e + 1) (by omega))
  obtain ⟨p2, l2, e2⟩ := sp_n (h.2.1 (4 * e + 2) (by omega))
  obtain ⟨p3, l3, e3⟩ := sp_n (h.2.1 (4 * e + 3) (by omega))
  have g := h.2.2.1 e he
  have g42 := g.2.2.2.2.2.2.2.2.2.2.1
  obtain ⟨d, ld, ed⟩ := i_ofc (x := V 42 e 0) (N := 39) (Int32.le_trans (by decide) g42.1) g42.2 (by decide)
  unfold allT allS
  rw [e0, e1, e2, e3, ed, nI_add, nI_add, nI_add, nI_add]
  by_cases y : 256 < d + p0 + p1 + p2 + p3
  · exact ⟨256, by omega, by rw [if_pos (by clear h g g42; grind [nI_T])]; rfl⟩
  · exact ⟨d + p0 + p1 + p2 + p3, by omega, by rw [if_neg (by clear h g g42; grind [nI_T])]⟩
theorem strT_n {c : Nat} {V : Vt} {e s : Nat} (h : Iv c V) (he : e < 2) (hs : s < 4) : ∃ T, T ≤ 64 ∧ strT V e s = nI T := by
  have i1 := h.2.1 (4 * e + s) (by omega)
  unfold IN at i1
  obtain ⟨p, lp, ep⟩ := i_ofc (x := V 47 (4 * e + s) 0) (N := 64) i1.1.1 i1.1.2 (by decide)
  have g := h.2.2.1 e he
  have g41 := g.2.2.2.2.2.2.2.2.2.1
  obtain ⟨d, ld, ed⟩ := i_ofc (x := V 41 e 0) (N := 19) (Int32.le_trans (by decide) g41.1) g41.2 (by decide)
  unfold strT
  rw [ep, ed, nI_add]
  by_cases y : 64 < p + d
  · exact ⟨64, by omega, by rw [if_pos (by clear h g g41 i1; grind [nI_T])]; rfl⟩
  · exact ⟨p + d, by omega, by rw [if_neg (by clear h g g41 i1; grind [nI_T])]⟩
end
