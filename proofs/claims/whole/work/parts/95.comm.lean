section
/-! What a frame does has no eye for ackDue; what it keeps. -/
theorem lsV_26 {V : Vt} {e p i a0 : Nat} {x : Int32} : lsV (uV V 26 a0 0 x) e p i = uV (lsV V e p i) 26 a0 0 x := by
  have u : ∀ k' a' b', k' ≠ 26 → uV V 26 a0 0 x k' a' b' = V k' a' b' := fun k' a' b' q => uV_k V 26 a0 0 x q
  funext k a b
  unfold lsV mk1
  simp only [u 70 _ _ (by omega), u 43 _ _ (by omega), u 76 _ _ (by omega), u 50 _ _ (by omega), u 77 _ _ (by omega), u 78 _ _ (by omega), u 79 _ _ (by omega), u 80 _ _ (by omega), u 67 _ _ (by omega), u 64 _ _ (by omega), u 65 _ _ (by omega)]
  unfold uV
  grind
theorem akV_26 {V : Vt} {e n p i a0 : Nat} {x : Int32} : akV (uV V 26 a0 0 x) e n p i = uV (akV V e n p i) 26 a0 0 x := by
  have u : ∀ k' a' b', k' ≠ 26 → uV V 26 a0 0 x k' a' b' = V k' a' b' := fun k' a' b' q => uV_k V 26 a0 0 x q
  funext k a b
  unfold akV mk1
  simp only [u 24 _ _ (by omega), u 77 _ _ (by omega), u 78 _ _ (by omega), u 79 _ _ (by omega), u 80 _ _ (by omega), u 67 _ _ (by omega), u 64 _ _ (by omega), u 65 _ _ (by omega)]
  unfold uV
  grind
theorem ark_26 {e a0 : Nat} {x : Int32} : ∀ (k n : Nat) (V : Vt), ark e n k (uV V 26 a0 0 x) = uV (ark e n k V) 26 a0 0 x
  | 0, _, _ => rfl
  | k + 1, n, V => by
    unfold ark
    rw [uV_k _ _ _ _ _ (show (68 : Nat) ≠ 26 by omega)]
    by_cases z : V 68 (560 * e + n) 0 = 1
    · rw [if_pos z, if_pos z, akV_26, ark_26]
    · rw [if_neg z, if_neg z, ark_26]
theorem lrk_26 {e a0 : Nat} {x : Int32} : ∀ (k n : Nat) (V : Vt), lrk e n k (uV V 26 a0 0 x) = uV (lrk e n k V) 26 a0 0 x
  | 0, _, _ => rfl
  | k + 1, n, V => by
    unfold lrk
    rw [uV_k _ _ _ _ _ (show (68 : Nat) ≠ 26 by omega)]
    by_cases z : V 68 (560 * e + n) 0 = 1
    · rw [if_pos z, if_pos z, lsV_26, lrk_26]
    · rw [if_neg z, if_neg z, lrk_26]
theorem arL_26 {e a0 : Nat} {x : Int32} : ∀ (R : List (Nat × Nat)) (V : Vt), arL e R (uV V 26 a0 0 x) = uV (arL e R V) 26 a0 0 x
  | [], _ => rfl
  | (l, h) :: R, V => by
    unfold arL
    rw [ark_26, arL_26 R]
theorem ovV_26 {e a0 : Nat} {x : Int32} {V : Vt} : ovV e (uV V 26 a0 0 x) = uV (ovV e V) 26 a0 0 x := by
  unfold ovV
  rw [uV_k _ _ _ _ _ (show (24 : Nat) ≠ 26 by omega), lrk_26]
theorem akA_26 {e l f a0 : Nat} {x : Int32} {F : List (Nat × Nat)} {V : Vt} : akA e l f F (uV V 26 a0 0 x) = uV (akA e l f F V) 26 a0 0 x := by
  unfold akA
  rw [arL_26, ovV_26]
theorem lrk_o {e : Nat} : ∀ (k n : Nat) (V : Vt) (q a b : Nat), (q ≠ 44 ∧ q ≠ 52 ∧ q ≠ 64 ∧ q ≠ 65 ∧ q ≠ 67 ∧ q ≠ 68) → lrk e n k V q a b = V q a b
  | 0, _, _, _, _, _, _ => rfl
  | k + 1, n, V, q, a, b, hq => by
    unfold lrk
    rw [lrk_o k (n + 1) _ q a b hq]
    split
    · rw [lsV_o hq]
    · rfl
theorem arL_o {e : Nat} : ∀ (R : List (Nat × Nat)) (V : Vt) (q a b : Nat), (q ≠ 23 ∧ q ≠ 24 ∧ q ≠ 64 ∧ q ≠ 65 ∧ q ≠ 67 ∧ q ≠ 68) → arL e R V q a b = V q a b
  | [], _, _, _, _, _ => rfl
  | (l, h) :: R, V, q, a, b, hq => by
    unfold arL
    rw [arL_o R _ q a b hq, ark_o _ _ _ _ _ _ hq]
theorem akA_o {e l f q : Nat} {F : List (Nat × Nat)} {V : Vt} (hq : q ≠ 23 ∧ q ≠ 24 ∧ q ≠ 44 ∧ q ≠ 52 ∧ q ≠ 64 ∧ q ≠ 65 ∧ q ≠ 67 ∧ q ≠ 68) (a b : Nat) : akA e l f F V q a b = V q a b := by
  unfold akA ovV
  rw [lrk_o _ _ _ _ _ _ (by omega), arL_o _ _ _ _ _ (by omega)]
theorem ff_26 {V : Vt} {e a t a0 : Nat} {u x : Int32} : ff (uV V 26 a0 0 x) e a t u = ff V e a t u := by
  have q : ∀ k' a' b', k' ≠ 26 → uV V 26 a0 0 x k' a' b' = V k' a' b' := fun k' a' b' z => uV_k V 26 a0 0 x z
  unfold ff oth
  simp only [q 50 _ _ (by omega), q 43 _ _ (by omega), q 48 _ _ (by omega), q 49 _ _ (by omega)]
theorem kpV_26 {V : Vt} {a o n a0 : Nat} {D : Nat → Int32} {x : Int32} : kpV (uV V 26 a0 0 x) a o n D = uV (kpV V a o n D) 26 a0 0 x := by
  funext k a' b
  unfold kpV
  rw [uV_k _ _ _ _ _ (show (53 : Nat) ≠ 26 by omega), uV_k _ _ _ _ _ (show (51 : Nat) ≠ 26 by omega)]
  by_cases z : k = 53 ∧ a' = a ∧ o ≤ b ∧ b < o + n ∧ V 53 a b = -1 ∧ V 51 a 0 = 0
  · rw [if_pos z, uV_k _ _ _ _ _ (by omega), if_pos z]
  · rw [if_neg z]
    unfold uV
    by_cases y : k = 26 ∧ a' = a0 ∧ b = 0
    · rw [if_pos y, if_pos y]
    · rw [if_neg y, if_neg y]
      exact (if_neg z).symm
theorem sgV_26 {V : Vt} {e s o n a0 : Nat} {u x : Int32} {D : Nat → Int32} : sgV (uV V 26 a0 0 x) e s o n u D = uV (sgV V e s o n u D) 26 a0 0 x := by
  unfold sgV
  rw [kpV_26, uV_k _ _ _ _ _ (show (48 : Nat) ≠ 26 by omega)]
  by_cases z : u = 0
  · rw [if_pos z, if_pos z, uV_comm (k := 26) (k' := 48) (by omega)]
  · rw [if_neg z, if_neg z, uV_comm (k := 26) (k' := 48) (by omega), uV_comm (k := 26) (k' := 49) (by omega)]
theorem lkV_26 {V : Vt} {e a0 : Nat} {x : Int32} : lkV (uV V 26 a0 0 x) e = uV (lkV V e) 26 a0 0 x := by
  have q : ∀ k' a' b', k' ≠ 26 → uV V 26 a0 0 x k' a' b' = V k' a' b' := fun k' a' b' z => uV_k V 26 a0 0 x z
  have t : allT (uV V 26 a0 0 x) e = allT V e := by
    unfold allT allS sp
    simp only [q 42 _ _ (by omega), q 51 _ _ (by omega), q 47 _ _ (by omega), q 49 _ _ (by omega)]
  unfold lkV
  rw [t, q 43 _ _ (by omega), q 42 _ _ (by omega), q 44 _ _ (by omega), uV_comm (k := 26) (k' := 44) (by omega)]
theorem rsV_26 {V : Vt} {e a v a0 : Nat} {x : Int32} : rsV (uV V 26 a0 0 x) e a v = uV (rsV V e a v) 26 a0 0 x := by
  unfold rsV
  rw [uV_comm (k := 26) (k' := 48) (by omega), uV_comm (k := 26) (k' := 49) (by omega), uV_comm (k := 26) (k' := 51) (by omega), lkV_26]
theorem Iv_26 {c : Nat} {V : Vt} {e : Nat} {x : Int32} (h : Iv c V) (hx : x = 0 ∨ x = 1) (h30 : x = 1 → 0 ≤ V 30 e 0) : Iv c (uV V 26 e 0 x) := by
  refine Iv_k h (by omega) (fun a ha => IO_k (by omega) (h.1 a ha)) (fun a ha => IN_k (by omega) (h.2.1 a ha)) (fun e' he => ?_) (IX_k (by omega) h.2.2.2.1) (fun a ha hl => IR_k (by omega) (h.2.2.2.2.1 a ha hl)) (fun a ha => IS_k (by omega) (h.2.2.2.2.2 a ha))
  have u : ∀ k' a' b', k' ≠ 26 → uV V 26 e 0 x k' a' b' = V k' a' b' := fun k' a' b' q => uV_k V 26 e 0 x q
  have g := h.2.2.1 e' he
  unfold IE hb at *
  simp only [u 21 _ _ (by omega), u 22 _ _ (by omega), u 23 _ _ (by omega), u 24 _ _ (by omega), u 25 _ _ (by omega), u 30 _ _ (by omega), u 31 _ _ (by omega), u 41 _ _ (by omega), u 42 _ _ (by omega), u 43 _ _ (by omega), u 44 _ _ (by omega), u 55 _ _ (by omega), u 7 _ _ (by omega), u 8 _ _ (by omega), u 28 _ _ (by omega)]
  obtain ⟨g1, g2, g3, g4, g5, g6, g7, g8⟩ := g
  refine ⟨g1, g2, g3, g4, g5, ?_, ?_, g8⟩
  · unfold uV
    split
    · exact hx
    · exact g6
  · unfold uV
    split
    · rename_i z
      rw [z.2.1]
      exact h30
    · exact g7
theorem Iv_61 {c : Nat} {V : Vt} {a : Nat} {x : Int32} (h : Iv c V) (hx : 0 ≤ x ∧ x < 1073741824) : Iv c (uV V 61 a 0 x) := by
  refine Iv_k h (by omega) (fun a' ha => ?_) (fun a ha => IN_k (by omega) (h.2.1 a ha)) (fun e he => IE_k (by omega) (h.2.2.1 e he)) (IX_k (by omega) h.2.2.2.1) (fun a ha hl => IR_k (by omega) (h.2.2.2.2.1 a ha hl)) (fun a ha => IS_k (by omega) (h.2.2.2.2.2 a ha))
  have u : ∀ k' a' b', k' ≠ 61 → uV V 61 a 0 x k' a' b' = V k' a' b' := fun k' a' b' q => uV_k V 61 a 0 x q
  have g := h.1 a' ha
  unfold IO at *
  simp only [u 59 _ _ (by omega), u 60 _ _ (by omega), u 62 _ _ (by omega), u 64 _ _ (by omega), u 66 _ _ (by omega), u 67 _ _ (by omega)]
  refine ⟨g.1, g.2.1, g.2.2.1, ?_, g.2.2.2.2⟩
  unfold uV
  split
  · exact hx
  · exact g.2.2.2.1
theorem Iv_55 {c : Nat} {V : Vt} {e : Nat} {x : Int32} (h : Iv c V) (hx : 0 ≤ x ∧ x < 1073741824) : Iv c (uV V 55 e 0 x) := by
  refine Iv_k h (by omega) (fun a ha => IO_k (by omega) (h.1 a ha)) (fun a ha => IN_k (by omega) (h.2.1 a ha)) (fun e' he => ?_) (IX_k (by omega) h.2.2.2.1) (fun a ha hl => IR_k (by omega) (h.2.2.2.2.1 a ha hl)) (fun a ha => IS_k (by omega) (h.2.2.2.2.2 a ha))
  have u : ∀ k' a' b', k' ≠ 55 → uV V 55 e 0 x k' a' b' = V k' a' b' := fun k' a' b' q => uV_k V 55 e 0 x q
  have g := h.2.2.1 e' he
  unfold IE hb at *
  simp only [u 21 _ _ (by omega), u 22 _ _ (by omega), u 23 _ _ (by omega), u 24 _ _ (by omega), u 25 _ _ (by omega), u 26 _ _ (by omega), u 30 _ _ (by omega), u 31 _ _ (by omega), u 41 _ _ (by omega), u 42 _ _ (by omega), u 43 _ _ (by omega), u 44 _ _ (by omega), u 7 _ _ (by omega), u 8 _ _ (by omega), u 28 _ _ (by omega)]
  obtain ⟨g1, g2, g3, g4, g5, g6, g7, g8, g9, g10, g11, g12, g13, g14, g15⟩ := g
  refine ⟨g1, g2, g3, g4, g5, g6, g7, g8, g9, g10, g11, g12, g13, ?_, g15⟩
  unfold uV
  split
  · exact hx
  · exact g14
theorem Iv_44 {c : Nat} {V : Vt} {e : Nat} {x : Int32} (h : Iv c V) (hx : x = 0 ∨ x = 1) : Iv c (uV V 44 e 0 x) := by
  refine Iv_k h (by omega) (fun a ha => IO_k (by omega) (h.1 a ha)) (fun a ha => IN_k (by omega) (h.2.1 a ha)) (fun e' he => ?_) (IX_k (by omega) h.2.2.2.1) (fun a ha hl => IR_k (by omega) (h.2.2.2.2.1 a ha hl)) (fun a ha => IS_k (by omega) (h.2.2.2.2.2 a ha))
  have u : ∀ k' a' b', k' ≠ 44 → uV V 44 e 0 x k' a' b' = V k' a' b' := fun k' a' b' q => uV_k V 44 e 0 x q
  have g := h.2.2.1 e' he
  unfold IE hb at *
  simp only [u 21 _ _ (by omega), u 22 _ _ (by omega), u 23 _ _ (by omega), u 24 _ _ (by omega), u 25 _ _ (by omega), u 26 _ _ (by omega), u 30 _ _ (by omega), u 31 _ _ (by omega), u 41 _ _ (by omega), u 42 _ _ (by omega), u 43 _ _ (by omega), u 55 _ _ (by omega), u 7 _ _ (by omega), u 8 _ _ (by omega), u 28 _ _ (by omega)]
  obtain ⟨g1, g2, g3, g4, g5, g6, g7, g8, g9, g10, g11, g12, g13, g14⟩ := g
  refine ⟨g1, g2, g3, g4, g5, g6, g7, g8, g9, g10, g11, g12, ?_, g14⟩
  unfold uV
  split
  · exact hx
  · exact g13
theorem Iv_lk {c : Nat} {V : Vt} {e : Nat} (h : Iv c V) (he : e < 2) : Iv c (lkV V e) := by
  have g := (h.2.2.1 e he).2.2.2.2.2.2.2.2.2.2.2.2.1
  unfold lkV
  refine Iv_44 h ?_
  split
  · exact .inr rfl
  · exact g
/-- the fields of a stream that is read -/
theorem Iv_IN {c : Nat} {V V' : Vt} {a0 : Nat} (h : Iv c V) (ho : ∀ k a b, ¬ ((k = 48 ∨ k = 49 ∨ k = 51 ∨ k = 53) ∧ a = a0) → V' k a b = V k a b) (hn : IN V' a0) : Iv c V' := by
  have o : ∀ k a b, k ≠ 48 → k ≠ 49 → k ≠ 51 → k ≠ 53 → V' k a b = V k a b := fun k a b h1 h2 h3 h4 => ho k a b (by omega)
  obtain ⟨h1, h2, h3, h4, h5, h6⟩ := h
  refine ⟨fun a ha => ?_, fun a ha => ?_, fun e he => ?_, ?_, fun a ha hl => ?_, fun a ha => ?_⟩
  · have g := h1 a ha
    unfold IO at *
    simp only [o 59 _ _ (by omega) (by omega) (by omega) (by omega), o 60 _ _ (by omega) (by omega) (by omega) (by omega), o 61 _ _ (by omega) (by omega) (by omega) (by omega), o 62 _ _ (by omega) (by omega) (by omega) (by omega), o 64 _ _ (by omega) (by omega) (by omega) (by omega), o 66 _ _ (by omega) (by omega) (by omega) (by omega), o 67 _ _ (by omega) (by omega) (by omega) (by omega)]
    exact g
  · by_cases z : a = a0
    · rw [z]; exact hn
    · have g := h2 a ha
      have q : ∀ k b, V' k a b = V k a b := fun k b => ho k a b (fun y => z y.2)
      unfold IN at *
      simp only [q]
      exact g
  · have g := h3 e he
    unfold IE hb at *
    simp only [o 21 _ _ (by omega) (by omega) (by omega) (by omega), o 22 _ _ (by omega) (by omega) (by omega) (by omega), o 23 _ _ (by omega) (by omega) (by omega) (by omega), o 24 _ _ (by omega) (by omega) (by omega) (by omega), o 25 _ _ (by omega) (by omega) (by omega) (by omega), o 26 _ _ (by omega) (by omega) (by omega) (by omega), o 30 _ _ (by omega) (by omega) (by omega) (by omega), o 31 _ _ (by omega) (by omega) (by omega) (by omega), o 41 _ _ (by omega) (by omega) (by omega) (by omega), o 42 _ _ (by omega) (by omega) (by omega) (by omega), o 43 _ _ (by omega) (by omega) (by omega) (by omega), o 44 _ _ (by omega) (by omega) (by omega) (by omega), o 55 _ _ (by omega) (by omega) (by omega) (by omega), o 7 _ _ (by omega) (by omega) (by omega) (by omega), o 8 _ _ (by omega) (by omega) (by omega) (by omega), o 28 _ _ (by omega) (by omega) (by omega) (by omega)]
    exact g
  · unfold IX at *
    simp only [o 5 _ _ (by omega) (by omega) (by omega) (by omega), o 6 _ _ (by omega) (by omega) (by omega) (by omega), o 7 _ _ (by omega) (by omega) (by omega) (by omega), o 14 _ _ (by omega) (by omega) (by omega) (by omega)]
    exact h4
  · rw [o 5 _ _ (by omega) (by omega) (by omega) (by omega)] at hl
    have g := h5 a ha hl
    unfold IR at *
    simp only [o 11 _ _ (by omega) (by omega) (by omega) (by omega), o 12 _ _ (by omega) (by omega) (by omega) (by omega), o 13 _ _ (by omega) (by omega) (by omega) (by omega)]
    exact g
  · have ha' : Sa V a := by
      unfold Sa at *
      rw [o 21 _ _ (by omega) (by omega) (by omega) (by omega)] at ha
      exact ha
    have g := h6 a ha'
    unfold IS at *
    simp only [o 60 _ _ (by omega) (by omega) (by omega) (by omega), o 62 _ _ (by omega) (by omega) (by omega) (by omega), o 68 _ _ (by omega) (by omega) (by omega) (by omega), o 69 _ _ (by omega) (by omega) (by omega) (by omega), o 70 _ _ (by omega) (by omega) (by omega) (by omega), o 76 _ _ (by omega) (by omega) (by omega) (by omega), o 77 _ _ (by omega) (by omega) (by omega) (by omega), o 78 _ _ (by omega) (by omega) (by omega) (by omega), o 79 _ _ (by omega) (by omega) (by omega) (by omega), o 80 _ _ (by omega) (by omega) (by omega) (by omega)]
    exact g
theorem ff_50 {V : Vt} {e a t : Nat} {u : Int32} (h : ff V e a t u = 0) : nI t ≤ V 50 (4 * e + a) 0 := by
  unfold ff at h
  by_cases z : V 50 (4 * e + a) 0 < nI t ∨ V 43 e 0 < nI (oth V e a + max (nn (V 48 (4 * e + a) 0)) t)
  · rw [if_pos z] at h
    exact absurd h (by decide)
  · have : ¬ V 50 (4 * e + a) 0 < nI t := fun q => z (.inl q)
    clear h z
    grind
theorem Iv_sg {c : Nat} {V : Vt} {e s o n : Nat} {u : Int32} {D : Nat → Int32} (h : Iv c V) (he : e < 2) (hs : s < 4) (ht : o + n < 2 ^ 31) (hf : ff V e s (o + n) u = 0) (hD : ∀ t, t < n → 0 ≤ D t ∧ D t ≤ 255) : Iv c (sgV V e s o n u D) := by
  have t64 := ff_le h.2.1 he hs ht hf
  have t50 := ff_50 hf
  have g := h.2.1 (4 * e + s) (by omega)
  have k53 : ∀ b, b < 64 → -1 ≤ kpV V (4 * e + s) o n D 53 (4 * e + s) b ∧ kpV V (4 * e + s) o n D 53 (4 * e + s) b ≤ 255 := by
    intro b hb
    unfold IN at g
    unfold kpV
    split
    · rename_i z
      have := hD (b - o) (by omega)
      refine ⟨Int32.le_trans (by decide) this.1, this.2⟩
    · exact g.2.2.2.2.1 b hb
  have far : 0 ≤ (if V 48 (4 * e + s) 0 < nI (o + n) then nI (o + n) else V 48 (4 * e + s) 0) ∧ (if V 48 (4 * e + s) 0 < nI (o + n) then nI (o + n) else V 48 (4 * e + s) 0) ≤ 64 := by
    unfold IN at g
    have g1 := g.2.1
    clear k53 g hf h hD
    generalize o + n = t at *
    by_cases z : V 48 (4 * e + s) 0 < nI t
    · rw [if_pos z]
      exact ⟨by clear z; grind [nI_T], Int32.le_trans t50 g1.2.2⟩
    · rw [if_neg z]
      exact ⟨g1.1, g1.2.1⟩
  have tn : 0 ≤ nI (o + n) ∧ nI (o + n) ≤ 64 := by
    clear k53 g hf h hD far t50
    grind [nI_T]
  unfold sgV
  generalize (if V 48 (4 * e + s) 0 < nI (o + n) then nI (o + n) else V 48 (4 * e + s) 0) = y at *
  have base : Iv c (uV (kpV V (4 * e + s) o n D) 48 (4 * e + s) 0 y) := by
    refine Iv_IN (a0 := 4 * e + s) h (fun k a b z => ?_) ?_
    · unfold uV kpV
      rw [if_neg (by omega), if_neg (by omega)]
    · unfold IN at *
      simp only [uV_s, uV_k _ 48 _ _ _ (show (47 : Nat) ≠ 48 by omega), uV_k _ 48 _ _ _ (show (49 : Nat) ≠ 48 by omega), uV_k _ 48 _ _ _ (show (50 : Nat) ≠ 48 by omega), uV_k _ 48 _ _ _ (show (51 : Nat) ≠ 48 by omega), uV_k _ 48 _ _ _ (show (52 : Nat) ≠ 48 by omega), uV_k _ 48 _ _ _ (show (53 : Nat) ≠ 48 by omega), kpV_o (show (47 : Nat) ≠ 53 by omega), kpV_o (show (49 : Nat) ≠ 53 by omega), kpV_o (show (50 : Nat) ≠ 53 by omega), kpV_o (show (51 : Nat) ≠ 53 by omega), kpV_o (show (52 : Nat) ≠ 53 by omega)]
      exact ⟨g.1, ⟨far.1, far.2, g.2.1.2.2⟩, g.2.2.1, g.2.2.2.1, k53, g.2.2.2.2.2⟩
  by_cases z : u = 0
  · rw [if_pos z]
    exact base
  · rw [if_neg z]
    have gb := base.2.1 (4 * e + s) (by omega)
    refine Iv_IN (a0 := 4 * e + s) base (fun k a b z => ?_) ?_
    · exact if_neg (by omega)
    · generalize uV (kpV V (4 * e + s) o n D) 48 (4 * e + s) 0 y = T at *
      unfold IN at gb ⊢
      simp only [uV_s, uV_k _ 49 _ _ _ (show (47 : Nat) ≠ 49 by omega), uV_k _ 49 _ _ _ (show (48 : Nat) ≠ 49 by omega), uV_k _ 49 _ _ _ (show (50 : Nat) ≠ 49 by omega), uV_k _ 49 _ _ _ (show (51 : Nat) ≠ 49 by omega), uV_k _ 49 _ _ _ (show (52 : Nat) ≠ 49 by omega), uV_k _ 49 _ _ _ (show (53 : Nat) ≠ 49 by omega)]
      exact ⟨gb.1, gb.2.1, ⟨Int32.le_trans (by decide) tn.1, tn.2⟩, gb.2.2.2.1, gb.2.2.2.2.1, fun _ => tn.1⟩
theorem Iv_rs {c : Nat} {V : Vt} {e s v : Nat} (h : Iv c V) (he : e < 2) (hs : s < 4) (ht : v < 2 ^ 31) (hf : ff V e s v 1 = 0) : Iv c (rsV V e s v) := by
  have t64 := ff_le h.2.1 he hs ht hf
  have t50 := ff_50 hf
  have g := h.2.1 (4 * e + s) (by omega)
  have tn : 0 ≤ nI v ∧ nI v ≤ 64 := by
    clear g hf h t50
    grind [nI_T]
  unfold rsV
  refine Iv_lk ?_ he
  refine Iv_IN (a0 := 4 * e + s) h (fun k a b z => ?_) ?_
  · unfold uV
    rw [if_neg (by omega), if_neg (by omega), if_neg (by omega)]
  · unfold IN at *
    simp only [uV_s, uV_k _ 51 _ _ _ (show (47 : Nat) ≠ 51 by omega), uV_k _ 51 _ _ _ (show (48 : Nat) ≠ 51 by omega), uV_k _ 51 _ _ _ (show (49 : Nat) ≠ 51 by omega), uV_k _ 51 _ _ _ (show (50 : Nat) ≠ 51 by omega), uV_k _ 51 _ _ _ (show (52 : Nat) ≠ 51 by omega), uV_k _ 51 _ _ _ (show (53 : Nat) ≠ 51 by omega), uV_k _ 49 _ _ _ (show (47 : Nat) ≠ 49 by omega), uV_k _ 49 _ _ _ (show (48 : Nat) ≠ 49 by omega), uV_k _ 49 _ _ _ (show (50 : Nat) ≠ 49 by omega), uV_k _ 49 _ _ _ (show (52 : Nat) ≠ 49 by omega), uV_k _ 49 _ _ _ (show (53 : Nat) ≠ 49 by omega), uV_k _ 48 _ _ _ (show (47 : Nat) ≠ 48 by omega), uV_k _ 48 _ _ _ (show (50 : Nat) ≠ 48 by omega), uV_k _ 48 _ _ _ (show (52 : Nat) ≠ 48 by omega), uV_k _ 48 _ _ _ (show (53 : Nat) ≠ 48 by omega)]
    exact ⟨g.1, ⟨tn.1, tn.2, g.2.1.2.2⟩, ⟨Int32.le_trans (by decide) tn.1, tn.2⟩, g.2.2.2.1, g.2.2.2.2.1, fun _ => tn.1⟩
end
