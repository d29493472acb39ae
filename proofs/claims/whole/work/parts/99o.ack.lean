section
/-! ACK is written. -/
def rgn (V : Vt) (e : Nat) : Nat → Nat → Nat
  | 0, _ => 0
  | k + 1, l => match gbl V e l with
    | none => 0
    | some t => 1 + rgn V e k (lrg V e t)
def fur (V : Vt) (e : Nat) : Nat → Nat → List Nat
  | 0, _ => []
  | k + 1, l => match gbl V e l with
    | none => []
    | some t => nb (l - t - 2) ++ (nb (t - lrg V e t) ++ fur V e k (lrg V e t))
def ackL (V : Vt) (e t : Nat) : List Nat := [1] ++ (nb t ++ (nb (t - lrg V e t) ++ (nb (rgn V e 2 (lrg V e t)) ++ fur V e 2 (lrg V e t))))
theorem rgn_none {V : Vt} {e k l : Nat} (h : gbl V e l = none) : rgn V e k l = 0 := by
  cases k with
  | zero => rfl
  | succ k =>
    unfold rgn
    rw [h]
theorem rgn_some {V : Vt} {e k l t : Nat} (h : gbl V e l = some t) : rgn V e (k + 1) l = 1 + rgn V e k (lrg V e t) := by
  rw [rgn, h]
theorem fur_none {V : Vt} {e k l : Nat} (h : gbl V e l = none) : fur V e k l = [] := by
  cases k with
  | zero => rfl
  | succ k =>
    unfold fur
    rw [h]
theorem fur_some {V : Vt} {e k l t : Nat} (h : gbl V e l = some t) : fur V e (k + 1) l = nb (l - t - 2) ++ (nb (t - lrg V e t) ++ fur V e k (lrg V e t)) := by
  rw [fur, h]
theorem cnt_rgn (V : Vt) (e l : Nat) : cnt V e l = rgn V e 2 l := by
  unfold cnt
  cases g : gbl V e l with
  | none => rw [rgn_none g]
  | some t =>
    rw [rgn_some g]
    show (match gbl V e (lrg V e t) with | none => 1 | some _ => 2) = _
    cases g2 : gbl V e (lrg V e t) with
    | none => rw [rgn_none g2]
    | some t2 =>
      rw [rgn_some g2]
      rfl
theorem rgn_le (V : Vt) (e : Nat) : ∀ k l, rgn V e k l ≤ k := by
  intro k
  induction k with
  | zero => intro l; exact Nat.le_refl _
  | succ k ih =>
    intro l
    cases g : gbl V e l with
    | none =>
      rw [rgn_none g]
      omega
    | some t =>
      rw [rgn_some g]
      have := ih (lrg V e t)
      omega
theorem nw_2 {v : Nat} (h : v < 16384) : nw v ≤ 2 := by
  unfold nw
  split
  · omega
  · omega
theorem nw_1 {v : Nat} (h : v < 64) : nw v = 1 := if_pos h
theorem len_nb (L : List Nat) (v : Nat) : (L ++ nb v).length = L.length + nw v := by
  rw [List.length_append, nb_l]
theorem s_54 {V : Vt} {w W : Nat → Nat} {e E q : Nat} {x : Int32} {K : Nat} (he : e < 2) (hE : E = 6 + 30 * e) (hf : Fr V w q) (hK : K ≤ 2) : ∀ (k u i f : Nat) (m : Mm) (L : List Nat), u < 10240 → i + rgn V e k (lrg V e u) = K → k < f → L.length + 4 * k ≤ 40 → RC m V w W → WC m q x L → ∃ m', b_End_putAck_54 f E q (nI (lrg V e u)) (nI K) (nI i) m = some (.inl (none, m')) ∧ RC m' V w W ∧ WC m' q x (L ++ fur V e k (lrg V e u)) ∧ FS rw3 m m' := by
  intro k
  induction k with
  | zero =>
    intro u i f m L hu hi hff hL h1 h2
    obtain ⟨f, rfl⟩ : ∃ g, f = g + 1 := ⟨f - 1, by omega⟩
    refine ⟨m, ?_, h1, ?_, FS_rfl _ _⟩
    · have : K = i := by rw [← hi]; rfl
      rw [b_End_putAck_54_eq, this, if_pos (Int32.le_refl _)]
    · rw [show fur V e 0 (lrg V e u) = [] from rfl, List.append_nil]
      exact h2
  | succ k ih =>
    intro u i f m L hu hi hff hL h1 h2
    obtain ⟨f, rfl⟩ : ∃ g, f = g + 1 := ⟨f - 1, by omega⟩
    cases g : gbl V e (lrg V e u) with
    | none =>
      rw [rgn_none g] at hi
      refine ⟨m, ?_, h1, ?_, FS_rfl _ _⟩
      · have : K = i := by omega
        rw [b_End_putAck_54_eq, this, if_pos (Int32.le_refl _)]
      · rw [fur_none g, List.append_nil]
        exact h2
    | some t =>
      rw [rgn_some g] at hi
      have gp := gbl_gap g
      have lu := lrg_le V e u
      have lt := lrg_le V e t
      have a1 : nI (lrg V e u) - nI t - 2 = nI (lrg V e u - t - 2) := by
        clear ih h1 h2 g
        grind [nI_T]
      have a2 : nI t - nI (lrg V e t) = nI (t - lrg V e t) := by
        clear ih h1 h2 g a1
        grind [nI_T]
      have w1 := nw_2 (v := lrg V e u - t - 2) (by omega)
      have w2 := nw_2 (v := t - lrg V e t) (by omega)
      obtain ⟨m1, b1, b2, b3, b4⟩ := s_numL h1 (v := lrg V e u - t - 2) hf h2 (by omega) (by omega)
      obtain ⟨m2, d1, d2, d3, d4⟩ := s_numL b2 (v := t - lrg V e t) hf b3 (by omega) (by rw [len_nb]; omega)
      obtain ⟨m3, k1, k2, k3, k4⟩ := ih t (i + 1) f m2 _ (by omega) (by omega) (by omega) (by rw [len_nb, len_nb]; omega) d2 d3
      refine ⟨m3, ?_, k2, ?_, FS_tr (FS_tr b4 d4) k4⟩
      · rw [b_End_putAck_54_eq, if_neg (by clear ih h1 h2 g a1 a2 b2 b3 d2 d3 k1 k2 k3 k4; grind [nI_T]), s_gbl h1 he (P := E + 1) (by omega) (by omega), g, show oi (some t) = nI t from rfl]
        simp only [ob_s]
        rw [a1, b1]
        simp only [ob_s]
        rw [s_lrg b2 he (P := E + 1) (by omega) (by omega)]
        simp only [ob_s]
        rw [a2, d1]
        simp only [ob_s, lt_eq]
        rw [nI_1]
        exact k1
      · rw [fur_some g]
        rw [List.append_assoc, List.append_assoc] at k3
        exact k3
theorem s_putAck {m : Mm} {V : Vt} {w W : Nat → Nat} (h : RC m V w W) {e E q t : Nat} {x : Int32} {L : List Nat} (he : e < 2) (hE : E = 6 + 30 * e) (hf : Fr V w q) (hr : WC m q x L) (hL : L.length ≤ 20) (ht : t < 10240) (h30 : V 30 e 0 = nI t) : ∃ m', r_End_putAck E q m = some m' ∧ RC m' V w W ∧ WC m' q x (L ++ ackL V e t) ∧ FS rw3 m m' := by
  have lt := lrg_le V e t
  have cl := rgn_le V e 2 (lrg V e t)
  have a2 : nI t - nI (lrg V e t) = nI (t - lrg V e t) := by
    clear h hr h30 cl
    grind [nI_T]
  have w1 := nw_2 (v := t) (by omega)
  have w2 := nw_2 (v := t - lrg V e t) (by omega)
  have w3 := nw_1 (v := rgn V e 2 (lrg V e t)) (by omega)
  obtain ⟨m1, b1, b2, b3, b4⟩ := s_putL h (v := 1) (b := 1) hf hr (by omega) (by decide)
  have l1 : (L ++ [1]).length = L.length + 1 := by rw [List.length_append]; rfl
  obtain ⟨m2, d1, d2, d3, d4⟩ := s_numL b2 (v := t) hf b3 (by omega) (by omega)
  obtain ⟨m3, g1, g2, g3, g4⟩ := s_numL d2 (v := t - lrg V e t) hf d3 (by omega) (by rw [len_nb]; omega)
  obtain ⟨m4, k1, k2, k3, k4⟩ := s_numL g2 (v := rgn V e 2 (lrg V e t)) hf g3 (by omega) (by rw [len_nb, len_nb]; omega)
  obtain ⟨m5, r1, r2, r3, r4⟩ := s_54 (K := rgn V e 2 (lrg V e t)) he hE hf cl 2 t 0 49999 m4 _ ht (by omega) (by omega) (by rw [len_nb, len_nb, len_nb]; omega) k2 k3
  refine ⟨m5, ?_, r2, ?_, FS_tr (FS_tr (FS_tr (FS_tr b4 d4) g4) k4) r4⟩
  · rw [r_End_putAck_eq, b_End_putAck_0_eq, c30 h he (p := E + 1) (by omega), h30]
    simp only [lt_eq]
    rw [s_lrg h he (P := E + 1) (by omega) ht]
    simp only [ob_s]
    rw [s_cnt h he (P := E + 1) (by omega) (by omega), cnt_rgn]
    simp only [ob_s]
    rw [b1]
    simp only [ob_s]
    rw [d1]
    simp only [ob_s]
    rw [a2, g1]
    simp only [ob_s]
    rw [k1]
    simp only [ob_s]
    exact congrArg ab_rV r1
  · unfold ackL
    rw [List.append_assoc, List.append_assoc, List.append_assoc, List.append_assoc] at r3
    exact r3
end
