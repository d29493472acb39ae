section
/-! RESET is written: all streams. -/
/-- the bundle, once the model has marked what the class marks at the end -/
def SP (c e a q S d : Nat) (x : Int32) (w W : Nat → Nat) (m mm : Mm) (V : Vt) (L : List Nat) : Prop :=
  (RC m V w W ∧ WC m q x (d :: L) ∧ Pk m S V a) ∧ (RM mm (PV V e a) ∧ ML mm L ∧ PM mm V a) ∧ Iv c V ∧ Fr V w q ∧ (∀ a', Sa V a' → W a' ≠ S) ∧ ¬ Sa V a ∧ L.length ≤ 37
theorem SB_SP {c e a q S d : Nat} {x : Int32} {w W : Nat → Nat} {m mm : Mm} {V : Vt} {L : List Nat} (h : SB c a q S d x w W m mm V L) (hF : F2 V a) : SP c e a q S d x w W m mm V L := by
  obtain ⟨h1, h2, h3⟩ := h
  refine ⟨h1, ?_, h3⟩
  rw [PV_F2 hF]
  exact h2
/-- no data of a stream is in the packet yet -/
def F3 (V : Vt) (a : Nat) : Prop := ∀ s, s < 4 → V 77 a s = 0 ∧ V 78 a s = 0 ∧ V 79 a s = 0 ∧ (V 80 a s = 0 ∨ V 80 a s = 1) ∧ (-1 ≤ V 76 a s ∧ V 76 a s ≤ 64)
theorem rs_len {V : Vt} {e s N : Nat} {L : List Nat} (h : rcd V e s N L) : (rsL s N L).length ≤ 37 ∧ L.length < (rsL s N L).length := by
  have e1 : (rsL s N L).length = L.length + (2 + nw N) := by
    unfold rsL
    rw [List.length_append, List.length_append, List.length_append, nb_l]
    show L.length + (1 + (1 + nw N)) = _
    omega
  have := h.2.2
  omega
theorem BL_rs {s N : Nat} {L : List Nat} (hs : s < 4) (hN : N ≤ 64) (h : BL L) : BL (rsL s N L) := BL_a h (BL_a (BL_1 (by omega)) (BL_a (BL_1 (by omega)) (BL_nb (by omega))))
theorem rs_loop {c e O a q S d : Nat} {x v3 : Int32} {w W : Nat → Nat} (he : e < 2) (hO : O = 22 + 30 * e) (ha5 : a < 1120) : ∀ (j s f g : Nat) (V : Vt) (L : List Nat) (m mm : Mm), s + j = 4 → 2 * j < f → 3 * j < g → SP c e a q S d x w W m mm V L → (∀ s', s ≤ s' → s' < 4 → V 80 a s' = 0) → F3 V a →
    ∃ m' mm' V' L' g', g ≤ g' + 3 * j ∧ b_Otf_putResets_2 f O q S (nI s) m = some (.inl (none, m')) ∧ b_M_putSmall_214 g 98 (nI e) (nI a) v3 (nI (4 * e + s)) mm = b_M_putSmall_214 g' 98 (nI e) (nI a) v3 (nI (4 * e + 4)) mm' ∧ SP c e a q S d x w W m' mm' V' L' ∧ F3 V' a ∧ VS (fun k => k = 80) V V' ∧ FS s81 m m' ∧ FS s82 mm mm' ∧ L.length ≤ L'.length ∧ (L'.length = L.length → V' = V) ∧ (BL L → BL L') := by
  intro j
  induction j with
  | zero =>
    intro s f g V L m mm hj hf hg h h80 hF
    obtain rfl : s = 4 := by omega
    obtain ⟨f, rfl⟩ : ∃ g, f = g + 1 := ⟨f - 1, by omega⟩
    refine ⟨m, mm, V, L, g, by omega, ?_, rfl, h, hF, VS_rfl _ _, FS_rfl _ _, FS_rfl _ _, Nat.le_refl _, fun _ => rfl, id⟩
    rw [b_Otf_putResets_2_eq, if_pos (by decide)]
  | succ j ih =>
    intro s f g V L m mm hj hf hg h h80 hF
    obtain ⟨f, rfl⟩ : ∃ g, f = g + 2 := ⟨f - 2, by omega⟩
    obtain ⟨g, rfl⟩ : ∃ g', g = g' + 3 := ⟨g - 3, by omega⟩
    have hs : s < 4 := by omega
    have hx : 4 * e + s < 8 := by omega
    obtain ⟨⟨h1, h2, h3⟩, ⟨h4, h5, h6⟩, h7, h8, h9, h10, h11⟩ := h
    have io := h7.1 _ hx
    obtain ⟨N, hN, eN⟩ := i_ofc (x := V 60 (4 * e + s) 0) (N := 64) io.1.1 (Int32.le_trans io.1.2.1 io.1.2.2) (by decide)
    have fs := hF s hs
    have z80 := h80 s (Nat.le_refl _) hs
    obtain ⟨m1, a1, a2, a3⟩ := s_rs1 h1 he hs hO h2 h3 h8 h9 h10 eN hN h11 f
    obtain ⟨mm1, g1, b0, b1, b2, b3⟩ := t_rs1 (v3 := v3) h4 he hs ha5 h5 h6 h10 ⟨fs.1, fs.2.1, fs.2.2.1, z80⟩ fs.2.2.2.2 eN hN h11 g
    by_cases y : rcd V e s N L
    · have a4 := a3.resolve_right (fun q => q.1 y)
      have b4 := b3.resolve_right (fun q => q.1 y)
      have vs : VS (fun k => k = 80) V (uV V 80 a s 1) := VS_u rfl
      have sa := Sa_VS vs (show ¬ (21 = 80) by omega)
      have ln := rs_len y
      obtain ⟨m', mm', V', L', g', r0, r1, r2, r3, r4, r5, r6, r7, r8, r9, r10⟩ := ih (s + 1) f g1 (uV V 80 a s 1) (rsL s N L) m1 mm1 (by omega) (by omega) (by omega) ⟨a4.2, b4.2, Iv_pk h7 (TS80 hs) h10, Fr_VS vs (by omega) h8, fun a' ha' => h9 a' ((sa a').mp ha'), fun y => h10 ((sa a).mp y), ln.1⟩ (fun s' h1' h2' => by
        have : uV V 80 a s 1 80 a s' = V 80 a s' := if_neg (fun g => by omega)
        rw [this]
        exact h80 s' (by omega) h2') (fun s' hs' => by
        have g := hF s' hs'
        refine ⟨by rw [vs 77 _ _ (by omega)]; exact g.1, by rw [vs 78 _ _ (by omega)]; exact g.2.1, by rw [vs 79 _ _ (by omega)]; exact g.2.2.1, ?_, by rw [vs 76 _ _ (by omega)]; exact g.2.2.2.2⟩
        unfold uV
        split
        · exact .inr rfl
        · exact g.2.2.2.1)
      exact ⟨m', mm', V', L', g', by omega, by rw [a1]; exact r1, by rw [b1]; exact r2, r3, r4, VS_tr vs r5, FS_tr a2 r6, FS_tr b2 r7, by omega, fun q => by omega, fun q => r10 (BL_rs hs hN q)⟩
    · have a4 := (a3.resolve_left (fun q => y q.1)).2
      have b4 := (b3.resolve_left (fun q => y q.1)).2
      subst a4 b4
      obtain ⟨m', mm', V', L', g', r0, r1, r2, r3, r4, r5, r6, r7, r8, r9, r10⟩ := ih (s + 1) f g1 V L m1 mm1 (by omega) (by omega) (by omega) ⟨⟨h1, h2, h3⟩, ⟨h4, h5, h6⟩, h7, h8, h9, h10, h11⟩ (fun s' h1' h2' => h80 s' (by omega) h2') hF
      exact ⟨m', mm', V', L', g', by omega, by rw [a1]; exact r1, by rw [b1]; exact r2, r3, r4, r5, r6, r7, r8, r9, r10⟩
end
