section
/-! The limits' whole. -/
theorem la_76 {V : Vt} {e a s T : Nat} {L : List Nat} : laV V e a T L 76 a s = V 76 a s := by
  unfold laV
  split
  · rfl
  · rw [uV_k _ _ _ _ _ (by omega), uV_k _ _ _ _ _ (by omega), uV_k _ _ _ _ _ (by omega)]
theorem lims {c e I a q S d : Nat} {x : Int32} {w W : Nat → Nat} {V : Vt} {L : List Nat} {m mm : Mm} (he : e < 2) (hI : I = 12 + 30 * e) (ha5 : a < 1120) (h : SB c a q S d x w W m mm V L) (h76 : ∀ s, s < 4 → V 76 a s = -1) (hF : F2 V a) :
    ∃ m' mm' V' L', r_Int_putLimits I q S m = some m' ∧ b_M_putSmall_0 50000 98 (nI e) (nI a) mm = b_M_putSmall_214 49989 98 (nI e) (nI a) (nI L.length) (nI (4 * e)) mm' ∧ SB c a q S d x w W m' mm' V' L' ∧ F2 V' a ∧ VS lP V V' ∧ FS s81 m m' ∧ FS s82 mm mm' ∧ L.length ≤ L'.length ∧ (BL L → BL L') ∧ (-1 ≤ V 70 a 0 ∧ V 70 a 0 ≤ 256 → -1 ≤ V' 70 a 0 ∧ V' 70 a 0 ≤ 256) := by
  obtain ⟨⟨h1, h2, h3⟩, ⟨h4, h5, h6⟩, h7, h8, h9, h10, h11⟩ := h
  obtain ⟨T, hT, eT⟩ := allT_n h7 he
  obtain ⟨m1, a1, a2, a3, a4, a5⟩ := s_limAll h1 he hI h2 h3 h8 h9 h10 eT hT h11
  obtain ⟨mm1, b1, b2, b3, b4, b5⟩ := t_limAll h4 he ha5 h5 h6 h10 eT hT h11 49999
  have vs := VS_la (V := V) (e := e) (a := a) (T := T) (L := L)
  have n21 : ¬ lP 21 := by unfold lP; omega
  have sa := Sa_VS vs n21
  have ln := la_len (V := V) (e := e) (T := T) h11
  obtain ⟨m', mm', V', L', r1, r2, r3, r4, r5, r6, r7, r8, r9, r10⟩ := lims_loop (c := c) (x := x) (v3 := nI L.length) (w := w) (W := W) (q := q) (S := S) (d := d) he hI ha5 4 0 49999 49990 (laV V e a T L) (laL V e T L) m1 mm1 (by omega) (by omega) ⟨⟨a2, a3, a4⟩, ⟨b2, b3, b4⟩, Iv_la h7 h10 hT, Fr_VS vs (by unfold lP; omega) h8, fun a' ha' => h9 a' ((sa a').mp ha'), fun y => h10 ((sa a).mp y), ln.1⟩ (fun s' _ h2' => by rw [la_76]; exact h76 s' h2') (fun s' hs' => by
    have g := hF s' hs'
    refine ⟨by rw [vs 77 _ _ (by unfold lP; omega)]; exact g.1, by rw [vs 78 _ _ (by unfold lP; omega)]; exact g.2.1, by rw [vs 79 _ _ (by unfold lP; omega)]; exact g.2.2.1, by rw [vs 80 _ _ (by unfold lP; omega)]; exact g.2.2.2.1, ?_⟩
    rw [la_76]
    exact g.2.2.2.2)
  have x4 : (4 : Int32) * nI e = nI (4 * e) := nI4a (b := 0) ▸ (Int32.add_zero _).symm
  have e4 : (4 : Int32) * nI e + 4 = nI (4 * e + 4) := nI4a (b := 4)
  refine ⟨m', mm', V', L', ?_, ?_, r3, r4, VS_tr vs r5, FS_tr a5 r6, FS_tr b5 r7, by omega, fun q => r9 (BL_la hT q), fun q => by rw [r10]; exact la_70 hT q⟩
  · rw [r_Int_putLimits_eq, b_Int_putLimits_0_eq, a1, ob_s]
    exact congrArg ab_rV r1
  · rw [b1, b_M_putSmall_76_eq, x4]
    simp only [lt_eq]
    rw [show 4 * e = 4 * e + 0 from rfl, show (49998 : Nat) = 49990 + 2 * 4 from rfl, r2, b_M_putSmall_81_eq, e4, if_pos (Int32.le_refl _), x4]
    simp only [lt_eq]
    rfl
end
