section
/-! All limits are written. -/
def SB (c a q S d : Nat) (x : Int32) (w W : Nat → Nat) (m mm : Mm) (V : Vt) (L : List Nat) : Prop :=
  (RC m V w W ∧ WC m q x (d :: L) ∧ Pk m S V a) ∧ (RM mm V ∧ ML mm L ∧ PM mm V a) ∧ Iv c V ∧ Fr V w q ∧ (∀ a', Sa V a' → W a' ≠ S) ∧ ¬ Sa V a ∧ L.length ≤ 37
def VS (P : Nat → Prop) (V V' : Vt) : Prop := ∀ k a b, ¬ P k → V' k a b = V k a b
theorem VS_rfl (P : Nat → Prop) (V : Vt) : VS P V V := fun _ _ _ _ => rfl
theorem VS_tr {P : Nat → Prop} {V V' V'' : Vt} (h : VS P V V') (h' : VS P V' V'') : VS P V V'' := fun k a b q => (h' k a b q).trans (h k a b q)
theorem VS_u {P : Nat → Prop} {V : Vt} {k a b : Nat} {x : Int32} (h : P k) : VS P V (uV V k a b x) := fun k' a' b' q => uV_k _ _ _ _ _ (fun y => q (y ▸ h))
def lP (k : Nat) : Prop := k = 43 ∨ k = 44 ∨ k = 50 ∨ k = 52 ∨ k = 70 ∨ k = 76
theorem Sa_VS {P : Nat → Prop} {V V' : Vt} (h : VS P V V') (h21 : ¬ P 21) (a : Nat) : Sa V' a ↔ Sa V a := by
  unfold Sa
  rw [h 21 _ _ h21]
theorem Fr_VS {P : Nat → Prop} {V V' : Vt} {w : Nat → Nat} {q : Nat} (h : VS P V V') (h5 : ¬ P 5) (hf : Fr V w q) : Fr V' w q := by
  intro a ha hl
  rw [h 5 _ _ h5] at hl
  exact hf a ha hl
/-- nothing but limits is in the packet yet -/
def F2 (V : Vt) (a : Nat) : Prop := ∀ s, s < 4 → V 77 a s = 0 ∧ V 78 a s = 0 ∧ V 79 a s = 0 ∧ V 80 a s = 0 ∧ (-1 ≤ V 76 a s ∧ V 76 a s ≤ 64)
theorem VS_lm {V : Vt} {e a s T : Nat} {L : List Nat} : VS lP V (lmV V e a s T L) := by
  unfold lmV
  split
  · exact VS_rfl _ _
  · exact VS_tr (VS_tr (VS_u (by unfold lP; omega)) (VS_u (by unfold lP; omega))) (VS_u (by unfold lP; omega))
theorem VS_la {V : Vt} {e a T : Nat} {L : List Nat} : VS lP V (laV V e a T L) := by
  unfold laV
  split
  · exact VS_rfl _ _
  · exact VS_tr (VS_tr (VS_u (by unfold lP; omega)) (VS_u (by unfold lP; omega))) (VS_u (by unfold lP; omega))
theorem Iv_lm {c : Nat} {V : Vt} {e a s T : Nat} {L : List Nat} (h : Iv c V) (hs : s < 4) (ha : ¬ Sa V a) (hT : T ≤ 64) : Iv c (lmV V e a s T L) := by
  unfold lmV
  split
  · exact h
  · exact Iv_52 (Iv_50 (Iv_pk h (TS76 hs) ha) (by clear h ha; grind [nI_T])) (.inl rfl)
theorem Iv_la {c : Nat} {V : Vt} {e a T : Nat} {L : List Nat} (h : Iv c V) (ha : ¬ Sa V a) (hT : T ≤ 256) : Iv c (laV V e a T L) := by
  unfold laV
  split
  · exact h
  · exact Iv_44 (Iv_43 (Iv_pk h TS70 ha) (by clear h ha; grind [nI_T])) (.inl rfl)
theorem lm_len {V : Vt} {e s T : Nat} {L : List Nat} (h : L.length ≤ 37) : (lmL V e s T L).length ≤ 37 ∧ L.length ≤ (lmL V e s T L).length := by
  unfold lmL
  split
  · exact ⟨h, Nat.le_refl _⟩
  · rename_i y
    have : L.length + (2 + nw T) ≤ 37 := Decidable.not_not.mp (fun z => y (.inr z))
    have e1 : (L ++ ([4] ++ ([s] ++ nb T))).length = L.length + (2 + nw T) := by
      rw [List.length_append, List.length_append, List.length_append, nb_l]
      show L.length + (1 + (1 + nw T)) = _
      omega
    omega
theorem la_len {V : Vt} {e T : Nat} {L : List Nat} (h : L.length ≤ 37) : (laL V e T L).length ≤ 37 ∧ L.length ≤ (laL V e T L).length := by
  unfold laL
  split
  · exact ⟨h, Nat.le_refl _⟩
  · rename_i y
    have : L.length + (1 + nw T) ≤ 37 := Decidable.not_not.mp (fun z => y (.inr z))
    have e1 : (L ++ ([3] ++ nb T)).length = L.length + (1 + nw T) := by
      rw [List.length_append, List.length_append, nb_l]
      rfl
    omega
theorem lm_76 {V : Vt} {e a s s' T : Nat} {L : List Nat} (hne : s' ≠ s) : lmV V e a s T L 76 a s' = V 76 a s' := by
  unfold lmV
  split
  · rfl
  · rw [uV_k _ _ _ _ _ (by omega), uV_k _ _ _ _ _ (by omega)]
    exact if_neg (fun g => hne g.2.2)
theorem lm_76s {V : Vt} {e a s T : Nat} {L : List Nat} (hT : T ≤ 64) (h : -1 ≤ V 76 a s ∧ V 76 a s ≤ 64) : -1 ≤ lmV V e a s T L 76 a s ∧ lmV V e a s T L 76 a s ≤ 64 := by
  unfold lmV
  split
  · exact h
  · rw [uV_k _ _ _ _ _ (by omega), uV_k _ _ _ _ _ (by omega), uV_s]
    clear h
    grind [nI_T]
/-- bytes -/
def BL (L : List Nat) : Prop := ∀ b, b ∈ L → b < 256
theorem BL_0 : BL [] := fun b hb => absurd hb (List.not_mem_nil)
theorem BL_1 {b : Nat} (h : b < 256) : BL [b] := fun c hc => by
  rw [List.mem_singleton] at hc
  omega
theorem BL_a {L M : List Nat} (h : BL L) (h' : BL M) : BL (L ++ M) := fun b hb => (List.mem_append.mp hb).elim (h b) (h' b)
theorem BL_nb {v : Nat} (h : v < 2 ^ 30) : BL (nb v) := by
  intro b hb
  unfold nb at hb
  split at hb
  · rw [List.mem_singleton] at hb
    omega
  · split at hb
    · simp only [List.mem_cons, List.not_mem_nil, or_false] at hb
      omega
    · simp only [List.mem_cons, List.not_mem_nil, or_false] at hb
      omega
theorem BL_lm {V : Vt} {e s T : Nat} {L : List Nat} (hs : s < 4) (hT : T ≤ 64) (h : BL L) : BL (lmL V e s T L) := by
  unfold lmL
  split
  · exact h
  · exact BL_a h (BL_a (BL_1 (by omega)) (BL_a (BL_1 (by omega)) (BL_nb (by omega))))
theorem BL_la {V : Vt} {e T : Nat} {L : List Nat} (hT : T ≤ 256) (h : BL L) : BL (laL V e T L) := by
  unfold laL
  split
  · exact h
  · exact BL_a h (BL_a (BL_1 (by omega)) (BL_nb (by omega)))
theorem lB_lt {L : List Nat} (h : BL L) (j : Nat) : lB L j < 256 := by
  unfold lB
  rw [List.getD_eq_getElem?_getD]
  by_cases y : j < L.length
  · rw [List.getElem?_eq_getElem y]
    exact h _ (List.getElem_mem y)
  · rw [List.getElem?_eq_none (by omega)]
    show (0 : Nat) < 256
    omega
theorem lm_70 {V : Vt} {e a s T : Nat} {L : List Nat} : lmV V e a s T L 70 a 0 = V 70 a 0 := by
  unfold lmV
  split
  · rfl
  · rw [uV_k _ _ _ _ _ (by omega), uV_k _ _ _ _ _ (by omega), uV_k _ _ _ _ _ (by omega)]
theorem la_70 {V : Vt} {e a T : Nat} {L : List Nat} (hT : T ≤ 256) (h : -1 ≤ V 70 a 0 ∧ V 70 a 0 ≤ 256) : -1 ≤ laV V e a T L 70 a 0 ∧ laV V e a T L 70 a 0 ≤ 256 := by
  unfold laV
  split
  · exact h
  · rw [uV_k _ _ _ _ _ (by omega), uV_k _ _ _ _ _ (by omega), uV_s]
    clear h
    grind [nI_T]
theorem lims_loop {c e I a q S d : Nat} {x v3 : Int32} {w W : Nat → Nat} (he : e < 2) (hI : I = 12 + 30 * e) (ha5 : a < 1120) : ∀ (j s f g : Nat) (V : Vt) (L : List Nat) (m mm : Mm), s + j = 4 → j < f → SB c a q S d x w W m mm V L → (∀ s', s ≤ s' → s' < 4 → V 76 a s' = -1) → F2 V a →
    ∃ m' mm' V' L', b_Int_putLimits_8 f I q S (nI s) m = some (.inl (none, m')) ∧ b_M_putSmall_81 (g + 2 * j) 98 (nI e) (nI a) v3 (nI (4 * e + s)) mm = b_M_putSmall_81 g 98 (nI e) (nI a) v3 (nI (4 * e + 4)) mm' ∧ SB c a q S d x w W m' mm' V' L' ∧ F2 V' a ∧ VS lP V V' ∧ FS s81 m m' ∧ FS s82 mm mm' ∧ L.length ≤ L'.length ∧ (BL L → BL L') ∧ V' 70 a 0 = V 70 a 0 := by
  intro j
  induction j with
  | zero =>
    intro s f g V L m mm hj hf h h76 hF
    obtain rfl : s = 4 := by omega
    obtain ⟨f, rfl⟩ : ∃ g, f = g + 1 := ⟨f - 1, by omega⟩
    refine ⟨m, mm, V, L, ?_, rfl, h, hF, VS_rfl _ _, FS_rfl _ _, FS_rfl _ _, Nat.le_refl _, id, rfl⟩
    rw [b_Int_putLimits_8_eq, if_pos (by decide)]
  | succ j ih =>
    intro s f g V L m mm hj hf h h76 hF
    obtain ⟨f, rfl⟩ : ∃ g, f = g + 1 := ⟨f - 1, by omega⟩
    have hs : s < 4 := by omega
    obtain ⟨⟨h1, h2, h3⟩, ⟨h4, h5, h6⟩, h7, h8, h9, h10, h11⟩ := h
    obtain ⟨T, hT, eT⟩ := strT_n h7 he hs
    have fs := hF s hs
    obtain ⟨m1, a1, a2, a3, a4, a5⟩ := s_limS h1 he hs hI h2 h3 h8 h9 h10 eT hT h11
    obtain ⟨mm1, b1, b2, b3, b4, b5⟩ := t_limS (v3 := v3) h4 he hs ha5 h5 h6 h10 ⟨fs.1, fs.2.1, fs.2.2.1, fs.2.2.2.1, h76 s (Nat.le_refl _) hs⟩ eT hT h11 (g + 2 * j)
    have vs := VS_lm (V := V) (e := e) (a := a) (s := s) (T := T) (L := L)
    have n21 : ¬ lP 21 := by unfold lP; omega
    have sa := Sa_VS vs n21
    have ln := lm_len (V := V) (e := e) (s := s) (T := T) h11
    obtain ⟨m', mm', V', L', r1, r2, r3, r4, r5, r6, r7, r8, r9, r10⟩ := ih (s + 1) f g (lmV V e a s T L) (lmL V e s T L) m1 mm1 (by omega) (by omega) ⟨⟨a2, a3, a4⟩, ⟨b2, b3, b4⟩, Iv_lm h7 hs h10 hT, Fr_VS vs (by unfold lP; omega) h8, fun a' ha' => h9 a' ((sa a').mp ha'), fun y => h10 ((sa a).mp y), ln.1⟩ (fun s' h1' h2' => by rw [lm_76 (by omega)]; exact h76 s' (by omega) h2') (fun s' hs' => by
      have g := hF s' hs'
      refine ⟨by rw [vs 77 _ _ (by unfold lP; omega)]; exact g.1, by rw [vs 78 _ _ (by unfold lP; omega)]; exact g.2.1, by rw [vs 79 _ _ (by unfold lP; omega)]; exact g.2.2.1, by rw [vs 80 _ _ (by unfold lP; omega)]; exact g.2.2.2.1, ?_⟩
      by_cases z : s' = s
      · subst z
        exact lm_76s hT g.2.2.2.2
      · rw [lm_76 z]
        exact g.2.2.2.2)
    refine ⟨m', mm', V', L', ?_, ?_, r3, r4, VS_tr vs r5, FS_tr a5 r6, FS_tr b5 r7, by omega, fun q => r9 (BL_lm hs hT q), r10.trans lm_70⟩
    · rw [b_Int_putLimits_8_eq, if_neg (by clear ih h1 h2 h3 h4 h5 h6 h7 h8 h9 h10 r1 r2 r3 r4 r5 r6 r7 r9 r10 a1 a2 a3 a4 a5 b1 b2 b3 b4 b5 vs sa hF h76 fs; grind [nI_T]), a1]
      simp only [ob_s, lt_eq]
      rw [nI_1]
      exact r1
    · rw [show g + 2 * (j + 1) = g + 2 * j + 2 by omega, b1]
      exact r2
end
