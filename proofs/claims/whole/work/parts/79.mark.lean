section
/-! What a packet bore gets a fate: the class. -/
/-- only the registers in S change -/
def FS (S : Nat → Prop) (m m' : Mm) : Prop := (∀ r, ¬ S r → m'.1 r = m.1 r) ∧ m'.2 = m.2
theorem FS_rfl (S : Nat → Prop) (m : Mm) : FS S m m := ⟨fun _ _ => rfl, rfl⟩
theorem FS_tr {S : Nat → Prop} {a b c : Mm} (h : FS S a b) (h' : FS S b c) : FS S a c := ⟨fun r hr => (h'.1 r hr).trans (h.1 r hr), h'.2.trans h.2⟩
theorem FS_uI {S : Nat → Prop} {m : Mm} {k p b : Nat} {x : Int32} (h : S k) : FS S m (ab_uI m k p b x) := by
  refine ⟨fun r hr => ?_, rfl⟩
  funext p' j'
  exact uI_r m k p b x r p' j' (fun e => hr (e ▸ h))
theorem FS_le {S T : Nat → Prop} {m m' : Mm} (h : FS S m m') (hs : ∀ r, S r → T r) : FS T m m' := ⟨fun r hr => h.1 r (fun q => hr (hs r q)), h.2⟩
theorem FS_FM {S : Nat → Prop} {m m' : Mm} (h : FS S m m') (hs : ∀ r, S r → r < 81) : FM m m' := fun r hr => h.1 r (fun q => by have := hs r q; omega)
theorem FS_FC {S : Nat → Prop} {m m' : Mm} (h : FS S m m') (hs : ∀ r, S r → 81 ≤ r) : FC m m' := ⟨fun r hr => h.1 r (fun q => by have := hs r q; omega), h.2⟩
theorem FS_g {S : Nat → Prop} {m m' : Mm} (h : FS S m m') (k p b : Nat) (hk : ¬ S k) : m'.1 k p b = m.1 k p b := by rw [h.1 k hk]
def mk67 (V : Vt) (a f i : Nat) (x : Int32) : Vt := fun k a' b => if k = 67 ∧ a' = a ∧ f ≤ b ∧ b < i ∧ V 67 a b ≠ 3 then x else V k a' b
def mk1 (V : Vt) (f c : Nat) (d r x : Int32) (k a b : Nat) : Int32 :=
  if k = 67 ∧ f ≤ b ∧ b < f + c ∧ V 67 a b ≠ 3 then x else if k = 64 ∧ b = 0 ∧ d ≠ 0 ∧ V 64 a 0 ≠ 3 then x else if k = 65 ∧ b = 0 ∧ r ≠ 0 ∧ V 65 a 0 ≠ 3 then x else V k a b
/-- the fates of what the first i streams had in the packet -/
def mkA (V : Vt) (e : Nat) (F C : Nat → Nat) (D R : Nat → Int32) (x : Int32) (i : Nat) : Vt := fun k a b => if a / 4 = e ∧ a % 4 < i then mk1 V (F (a % 4)) (C (a % 4)) (D (a % 4)) (R (a % 4)) x k a b else V k a b
def s67 (r : Nat) : Prop := r = 64 ∨ r = 65 ∨ r = 67
theorem mk_loop {V : Vt} {w W : Nat → Nat} {e s o q f0 c0 : Nat} {x : Int32} (he : e < 2) (hs : s < 4) (ho : o = 24 + 30 * e + 3 * s) (hf : f0 + c0 ≤ 64) : ∀ (j i f : Nat) (m : Mm), i + j = f0 + c0 → f0 ≤ i → 2 * j < f → RC m (mk67 V (4 * e + s) f0 i x) w W → ∃ m' g, f ≤ g + 2 * j + 1 ∧ b_Out_mark_23 f o q (nI s) x (nI (f0 + c0)) (nI i) m = b_Out_mark_62 g o q (nI s) x m' ∧ RC m' (mk67 V (4 * e + s) f0 (f0 + c0) x) w W ∧ FS s67 m m' := by
  intro j
  induction j with
  | zero =>
    intro i f m hi hfi hf h
    obtain ⟨f, rfl⟩ : ∃ g, f = g + 1 := ⟨f - 1, by omega⟩
    obtain rfl : i = f0 + c0 := by omega
    rw [b_Out_mark_23_eq, if_pos (by (try clear ih); grind [nI_T])]
    exact ⟨m, f, by omega, rfl, h, FS_rfl _ _⟩
  | succ j ih =>
    intro i f m hi hfi hf h
    obtain ⟨f, rfl⟩ : ∃ g, f = g + 2 := ⟨f - 2, by omega⟩
    rw [b_Out_mark_23_eq, if_neg (by (try clear ih); grind [nI_T]), if_neg (by (try clear ih); grind [nI_T]), ab_ix_nI (show i < 64 by omega) (by decide)]
    simp only [ob_s, lt_eq]
    have g := c67 h he hs (b := i) (by omega) (p := o + 2) (by omega)
    have gv : mk67 V (4 * e + s) f0 i x 67 (4 * e + s) i = V 67 (4 * e + s) i := if_neg (by omega)
    rw [g, gv]
    by_cases q3 : V 67 (4 * e + s) i = 3
    · rw [if_pos q3, b_Out_mark_56_eq]
      simp only [ob_s, lt_eq]
      rw [nI_1]
      have ev : mk67 V (4 * e + s) f0 i x = mk67 V (4 * e + s) f0 (i + 1) x := by
        funext k a b
        unfold mk67
        by_cases z : k = 67 ∧ a = 4 * e + s ∧ f0 ≤ b ∧ b < i ∧ V 67 (4 * e + s) b ≠ 3
        · rw [if_pos z, if_pos ⟨z.1, z.2.1, z.2.2.1, by omega, z.2.2.2.2⟩]
        · rw [if_neg z, if_neg]
          intro y
          by_cases z2 : b = i
          · subst z2
            exact y.2.2.2.2 q3
          · exact z ⟨y.1, y.2.1, y.2.2.1, by omega, y.2.2.2.2⟩
      rw [ev] at h
      obtain ⟨m', g, g2, g3, g4, g5⟩ := ih (i + 1) f m (by omega) (by omega) (by omega) h
      exact ⟨m', g, by omega, g3, g4, g5⟩
    · rw [if_neg q3, b_Out_mark_56_eq]
      simp only [ob_s, lt_eq]
      rw [nI_1]
      have ev : uV (mk67 V (4 * e + s) f0 i x) 67 (4 * e + s) i x = mk67 V (4 * e + s) f0 (i + 1) x := by
        funext k a b
        unfold uV mk67
        by_cases z : k = 67 ∧ a = 4 * e + s ∧ b = i
        · obtain ⟨rfl, rfl, rfl⟩ := z
          rw [if_pos ⟨rfl, rfl, rfl⟩, if_pos ⟨rfl, rfl, hfi, by omega, q3⟩]
        · rw [if_neg z]
          by_cases z1 : k = 67 ∧ a = 4 * e + s ∧ f0 ≤ b ∧ b < i ∧ V 67 (4 * e + s) b ≠ 3
          · rw [if_pos z1, if_pos ⟨z1.1, z1.2.1, z1.2.2.1, by omega, z1.2.2.2.2⟩]
          · rw [if_neg z1, if_neg]
            intro y
            exact z1 ⟨y.1, y.2.1, y.2.2.1, by omega, y.2.2.2.2⟩
      have h' := cu67 h he hs (b := i) (by omega) (p := o + 2) (by omega) x
      rw [ev] at h'
      obtain ⟨m', g, g2, g3, g4, g5⟩ := ih (i + 1) f _ (by omega) (by omega) (by omega) h'
      exact ⟨m', g, by omega, g3, g4, FS_tr (FS_uI (by unfold s67; omega)) g5⟩
theorem mk1_ev (V : Vt) (a f c : Nat) (d r x : Int32) : (if r ≠ 0 ∧ V 65 a 0 ≠ 3 then uV (if d ≠ 0 ∧ V 64 a 0 ≠ 3 then uV (mk67 V a f (f + c) x) 64 a 0 x else mk67 V a f (f + c) x) 65 a 0 x else (if d ≠ 0 ∧ V 64 a 0 ≠ 3 then uV (mk67 V a f (f + c) x) 64 a 0 x else mk67 V a f (f + c) x)) = (fun k a' b => if a' = a then mk1 V f c d r x k a' b else V k a' b) := by
  funext k a' b
  by_cases ha : a' = a
  · subst ha
    rw [if_pos rfl]
    unfold mk1
    split <;> split <;> (try unfold uV) <;> unfold mk67 <;> grind
  · rw [if_neg ha]
    split <;> split <;> (try unfold uV) <;> unfold mk67 <;> grind
theorem s_mark1 {V : Vt} {w W : Nat → Nat} {e s o q f0 c0 : Nat} {x d r : Int32} {m : Mm} (h : RC m V w W) (he : e < 2) (hs : s < 4) (ho : o = 24 + 30 * e + 3 * s) (hf : f0 + c0 ≤ 64) (h1 : m.1 77 (q + 2) s = nI f0) (h2 : m.1 78 (q + 3) s = nI c0) (h3 : m.1 79 (q + 4) s = d) (h4 : m.1 80 (q + 5) s = r) :
    ∃ m', r_Out_mark o q (nI s) x m = some m' ∧ RC m' (fun k a b => if a = 4 * e + s then mk1 V f0 c0 d r x k a b else V k a b) w W ∧ FS s67 m m' := by
  have e0 : mk67 V (4 * e + s) f0 f0 x = V := by
    funext k a b
    exact if_neg (by omega)
  obtain ⟨m1, g, g2, g3, g4, g5⟩ := mk_loop (V := V) (w := w) (W := W) (q := q) (x := x) he hs ho hf c0 f0 49999 m (by omega) (by omega) (by omega) (by rw [e0]; exact h)
  obtain ⟨g, rfl⟩ : ∃ g', g = g' + 2 := ⟨g - 2, by omega⟩
  have k3 : m1.1 79 (q + 4) s = d := by rw [FS_g g5 _ _ _ (by unfold s67; omega)]; exact h3
  have k64 := c64 g4 he hs (p := o) ho
  have v64 : mk67 V (4 * e + s) f0 (f0 + c0) x 64 (4 * e + s) 0 = V 64 (4 * e + s) 0 := if_neg (by omega)
  rw [v64] at k64
  have fin : ∀ (m2 : Mm) (V2 : Vt), RC m2 V2 w W → FS s67 m m2 → V2 65 (4 * e + s) 0 = V 65 (4 * e + s) 0 → ∃ m', b_Out_mark_84 (g + 1) o q (nI s) x m2 = some (.inl (none, m')) ∧ RC m' (if r ≠ 0 ∧ V 65 (4 * e + s) 0 ≠ 3 then uV V2 65 (4 * e + s) 0 x else V2) w W ∧ FS s67 m m' := by
    intro m2 V2 hh hF hv
    have k4 : m2.1 80 (q + 5) s = r := by rw [FS_g hF _ _ _ (by unfold s67; omega)]; exact h4
    have k65 := c65 hh he hs (p := o) ho
    rw [hv] at k65
    rw [b_Out_mark_84_eq, ab_ix_nI hs (by decide)]
    simp only [ob_s, lt_eq]
    rw [k4, k65]
    by_cases z1 : r = 0
    · rw [if_pos z1, if_neg (fun z => z.1 z1)]
      exact ⟨m2, rfl, hh, hF⟩
    · rw [if_neg z1]
      by_cases z2 : V 65 (4 * e + s) 0 = 3
      · rw [if_pos z2, if_neg (fun z => z.2 z2)]
        exact ⟨m2, rfl, hh, hF⟩
      · rw [if_neg z2, if_pos ⟨z1, z2⟩]
        exact ⟨_, rfl, cu65 hh he hs ho x, FS_tr hF (FS_uI (by unfold s67; omega))⟩
  have run : ∃ m', b_Out_mark_62 (g + 2) o q (nI s) x m1 = some (.inl (none, m')) ∧ RC m' (if r ≠ 0 ∧ V 65 (4 * e + s) 0 ≠ 3 then uV (if d ≠ 0 ∧ V 64 (4 * e + s) 0 ≠ 3 then uV (mk67 V (4 * e + s) f0 (f0 + c0) x) 64 (4 * e + s) 0 x else mk67 V (4 * e + s) f0 (f0 + c0) x) 65 (4 * e + s) 0 x else (if d ≠ 0 ∧ V 64 (4 * e + s) 0 ≠ 3 then uV (mk67 V (4 * e + s) f0 (f0 + c0) x) 64 (4 * e + s) 0 x else mk67 V (4 * e + s) f0 (f0 + c0) x)) w W ∧ FS s67 m m' := by
    rw [b_Out_mark_62_eq, ab_ix_nI hs (by decide)]
    simp only [ob_s, lt_eq]
    rw [k3, k64]
    by_cases z1 : d = 0
    · rw [if_pos z1, if_neg (show ¬ (d ≠ 0 ∧ V 64 (4 * e + s) 0 ≠ 3) from fun z => z.1 z1)]
      exact fin m1 _ g4 g5 (if_neg (by omega))
    · rw [if_neg z1]
      by_cases z2 : V 64 (4 * e + s) 0 = 3
      · rw [if_pos z2, if_neg (show ¬ (d ≠ 0 ∧ V 64 (4 * e + s) 0 ≠ 3) from fun z => z.2 z2)]
        exact fin m1 _ g4 g5 (if_neg (by omega))
      · rw [if_neg z2, if_pos (show d ≠ 0 ∧ V 64 (4 * e + s) 0 ≠ 3 from ⟨z1, z2⟩)]
        exact fin _ _ (cu64 g4 he hs ho x) (FS_tr g5 (FS_uI (by unfold s67; omega))) (by rw [uV_k _ _ _ _ _ (by omega)]; exact if_neg (by omega))
  obtain ⟨m', r1, r2, r3⟩ := run
  refine ⟨m', ?_, ?_, r3⟩
  · rw [r_Out_mark_eq, b_Out_mark_0_eq, ab_ix_nI hs (by decide)]
    simp only [ob_s, lt_eq]
    rw [h1, h2, nI_add, g3, r1]
    rfl
  · rw [mk1_ev] at r2
    exact r2
theorem s_mark {V : Vt} {w W : Nat → Nat} {e o q : Nat} {x : Int32} {m : Mm} {F C : Nat → Nat} {D R : Nat → Int32} (h : RC m V w W) (he : e < 2) (ho : o = 22 + 30 * e) (hf : ∀ s, s < 4 → F s + C s ≤ 64) (hq : ∀ s, s < 4 → m.1 77 (q + 2) s = nI (F s) ∧ m.1 78 (q + 3) s = nI (C s) ∧ m.1 79 (q + 4) s = D s ∧ m.1 80 (q + 5) s = R s) :
    ∃ m', r_Otf_mark o q x m = some m' ∧ RC m' (mkA V e F C D R x 4) w W ∧ FS s67 m m' := by
  have loop : ∀ (j i f : Nat) (m1 : Mm), i + j = 4 → j < f → RC m1 (mkA V e F C D R x i) w W → FS s67 m m1 → ∃ m', b_Otf_mark_2 f o q x (nI i) m1 = some (.inl (none, m')) ∧ RC m' (mkA V e F C D R x 4) w W ∧ FS s67 m m' := by
    intro j
    induction j with
    | zero =>
      intro i f m1 hi hf' h1 h2
      obtain ⟨f, rfl⟩ : ∃ g, f = g + 1 := ⟨f - 1, by omega⟩
      obtain rfl : i = 4 := by omega
      rw [b_Otf_mark_2_eq, if_pos (show (4 : Int32) ≤ nI 4 by decide)]
      exact ⟨m1, rfl, h1, h2⟩
    | succ j ih =>
      intro i f m1 hi hf' h1 h2
      obtain ⟨f, rfl⟩ : ∃ g, f = g + 1 := ⟨f - 1, by omega⟩
      rw [b_Otf_mark_2_eq, if_neg (by (try clear ih); grind [nI_T]), ab_ix_nI (show i < 4 by omega) (by decide)]
      simp only [ob_s, lt_eq]
      have hq' := hq i (by omega)
      obtain ⟨m2, e2, r2, f2⟩ := s_mark1 (x := x) (d := D i) (r := R i) (o := o + 1 + 1 + 3 * i) (q := q) h1 he (show i < 4 by omega) (by omega) (hf i (by omega)) (by rw [FS_g h2 _ _ _ (by unfold s67; omega)]; exact hq'.1) (by rw [FS_g h2 _ _ _ (by unfold s67; omega)]; exact hq'.2.1) (by rw [FS_g h2 _ _ _ (by unfold s67; omega)]; exact hq'.2.2.1) (by rw [FS_g h2 _ _ _ (by unfold s67; omega)]; exact hq'.2.2.2)
      rw [e2]
      simp only [ob_s, lt_eq]
      rw [nI_1]
      refine ih (i + 1) f m2 (by omega) (by omega) ?_ (FS_tr h2 f2)
      have ev : (fun k a b => if a = 4 * e + i then mk1 (mkA V e F C D R x i) (F i) (C i) (D i) (R i) x k a b else mkA V e F C D R x i k a b) = mkA V e F C D R x (i + 1) := by
        funext k a b
        by_cases ha : a = 4 * e + i
        · subst ha
          rw [if_pos rfl]
          have d1 : (4 * e + i) / 4 = e := by omega
          have d2 : (4 * e + i) % 4 = i := by omega
          unfold mk1 mkA
          rw [d1, d2]
          simp only [Nat.lt_irrefl, and_false, if_false, Nat.lt_succ_self, and_true, if_true]
          rfl
        · rw [if_neg ha]
          unfold mkA
          by_cases z : a / 4 = e ∧ a % 4 < i
          · rw [if_pos z, if_pos (by omega)]
          · rw [if_neg z, if_neg (by omega)]
      rw [ev] at r2
      exact r2
  have e0 : mkA V e F C D R x 0 = V := by
    funext k a b
    exact if_neg (by omega)
  obtain ⟨m', g1, g2, g3⟩ := loop 4 0 49999 m (by omega) (by omega) (by rw [e0]; exact h) (FS_rfl _ _)
  refine ⟨m', ?_, g2, g3⟩
  rw [r_Otf_mark_eq, b_Otf_mark_0_eq]
  exact congrArg ab_rV g1
end
