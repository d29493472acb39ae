section
/-! RESET is written: one stream. -/
def rcd (V : Vt) (e s N : Nat) (L : List Nat) : Prop := V 63 (4 * e + s) 0 ≠ 0 ∧ (V 65 (4 * e + s) 0 = 0 ∨ V 65 (4 * e + s) 0 = 2) ∧ L.length + (2 + nw N) ≤ 37
def rsL (s N : Nat) (L : List Nat) : List Nat := L ++ ([5] ++ ([s] ++ nb N))
theorem TS80 {s : Nat} (hs : s < 4) : TS 80 s := .inr ⟨by omega, by omega, hs⟩
theorem enc80 : ∀ l, l < 66 → enc 0 0 0 0 (nI l - 1) ||| 4096 = enc 0 0 0 1 (nI l - 1) := by decide +kernel
theorem t_rs1 {m : Mm} {V : Vt} {e s a N : Nat} {L : List Nat} {v3 : Int32} (h : RM m (PV V e a)) (he : e < 2) (hs : s < 4) (ha5 : a < 1120) (hw : ML m L) (hP : PM m V a) (ha : ¬ Sa V a) (hF : V 77 a s = 0 ∧ V 78 a s = 0 ∧ V 79 a s = 0 ∧ V 80 a s = 0) (h76 : -1 ≤ V 76 a s ∧ V 76 a s ≤ 64) (hN : V 60 (4 * e + s) 0 = nI N) (hN2 : N ≤ 64) (hL : L.length ≤ 37) (f : Nat) : ∃ m' g, f ≤ g ∧ b_M_putSmall_214 (f + 3) 98 (nI e) (nI a) v3 (nI (4 * e + s)) m = b_M_putSmall_214 g 98 (nI e) (nI a) v3 (nI (4 * e + (s + 1))) m' ∧ FS s82 m m' ∧ ((rcd V e s N L ∧ RM m' (PV (uV V 80 a s 1) e a) ∧ ML m' (rsL s N L) ∧ PM m' (uV V 80 a s 1) a) ∨ (¬ rcd V e s N L ∧ m' = m)) := by
  have hx : 4 * e + s < 8 := by omega
  have e4 : (4 : Int32) * nI e + 4 = nI (4 * e + 4) := nI4a (b := 4)
  have nx : ∀ g M, b_M_putSmall_336 (g + 1) 98 (nI e) (nI a) v3 (nI (4 * e + s)) M = b_M_putSmall_214 g 98 (nI e) (nI a) v3 (nI (4 * e + (s + 1))) M := by
    intro g M
    rw [b_M_putSmall_336_eq]
    simp only [lt_eq]
    rw [nI_1]
    rfl
  have pv : ∀ k b, PV V e a k (4 * e + s) b = V k (4 * e + s) b := fun k b => PV_s ⟨hF.2.1, hF.2.2.1, hF.2.2.2⟩ hs
  have k63 : m.1 141 (98 + 9) (4 * e + s) = V 63 (4 * e + s) 0 := (n63 h hx rfl rfl).trans (pv 63 0)
  have k65 : m.1 138 (98 + 6) (4 * e + s) = V 65 (4 * e + s) 0 := (n65 h hx rfl rfl).trans (pv 65 0)
  have k60 : m.1 136 (98 + 4) (4 * e + s) = nI N := ((n60 h hx rfl rfl).trans (pv 60 0)).trans hN
  rw [b_M_putSmall_214_eq, e4, if_neg (by clear h hP hw ha hF nx pv k63 k65 k60 h76; grind [nI_T]), ab_ix_nI hx (by decide)]
  simp only [ob_s]
  rw [k63, k65]
  by_cases y : V 63 (4 * e + s) 0 = 0
  · rw [if_pos y, nx]
    exact ⟨m, f + 1, by omega, rfl, FS_rfl _ _, .inr ⟨fun q => q.1 y, rfl⟩⟩
  · rw [if_neg y]
    by_cases o : V 65 (4 * e + s) 0 = 0 ∨ V 65 (4 * e + s) 0 = 2
    · have j255 : (if V 65 (4 * e + s) 0 = 0 then b_M_putSmall_255 (f + 2) 98 (nI e) (nI a) v3 (nI (4 * e + s)) m else if V 65 (4 * e + s) 0 = 2 then b_M_putSmall_255 (f + 2) 98 (nI e) (nI a) v3 (nI (4 * e + s)) m else b_M_putSmall_336 (f + 2) 98 (nI e) (nI a) v3 (nI (4 * e + s)) m) = b_M_putSmall_255 (f + 2) 98 (nI e) (nI a) v3 (nI (4 * e + s)) m := by
        by_cases o1 : V 65 (4 * e + s) 0 = 0
        · rw [if_pos o1]
        · rw [if_neg o1, if_pos (o.resolve_left o1)]
      rw [j255, b_M_putSmall_255_eq, ab_ix_nI hx (by decide)]
      simp only [ob_s]
      rw [k60, t_width, wd_nw (by omega)]
      simp only [ob_s]
      have w4 := nw_4 N
      rw [show (2 : Int32) + nI (nw N) = nI (2 + nw N) from nI_add 2 _, t_fitL hw (by omega) (by omega)]
      simp only [ob_s, ib_if]
      by_cases z : L.length + (2 + nw N) ≤ 37
      · rw [if_pos z, and3 e he s hs, nI4a, ab_ix_nI (show 4 * a + s < 4480 by omega) (by decide)]
        simp only [ob_s, lt_eq]
        obtain ⟨l, hl, el⟩ := i_ofc (x := V 76 a s + 1) (N := 65) (by clear h hP hw ha hF nx pv k63 k65 k60 j255; grind) (by clear h hP hw ha hF nx pv k63 k65 k60 j255; grind [nI_T]) (by decide)
        have e76 : V 76 a s = nI l - 1 := by
          clear h hP hw ha hF nx pv k63 k65 k60 j255
          grind
        have k165 : (ab_uI m 138 (98 + 6) (4 * e + s) 1).1 165 (98 + 33) (4 * a + s) ||| 4096 = enc 0 0 0 1 (V 76 a s) := by
          rw [uI_r _ _ _ _ _ _ _ _ (by omega), show (98 : Nat) + 33 = 131 from rfl, hP.2 s hs, hF.1, hF.2.1, hF.2.2.1, hF.2.2.2, e76, enc80 l (by omega)]
        rw [k165]
        have naP : ¬ Sa (PV V e a) a := fun g => ha (by unfold Sa at *; rw [PV_o (by omega)] at g; exact g)
        have n3 : V 65 (4 * e + s) 0 ≠ 3 := by
          rcases o with o | o <;> (rw [o]; decide)
        have q1 := nu65 (RM_na h (k := 80) (a := a) (b := s) (x := 1) (TS80 hs) naP) hx (p := 98 + 6) (j := 4 * e + s) rfl rfl 1
        rw [← PV_80 hs ⟨hF.2.1, hF.2.2.1, hF.2.2.2⟩ n3] at q1
        have na1 : ¬ Sa (PV (uV V 80 a s 1) e a) a := fun g => ha (by unfold Sa at *; rw [PV_o (by omega), uV_k _ _ _ _ _ (by omega)] at g; exact g)
        have q2 := RM_pw q1 (r := 165) (p := 98 + 33) (a := a) (j := 4 * a + s) (x := enc 0 0 0 1 (V 76 a s)) (.inr ⟨rfl, by omega⟩) na1
        have l3 : ML (ab_uI (ab_uI m 138 (98 + 6) (4 * e + s) 1) 165 (98 + 33) (4 * a + s) (enc 0 0 0 1 (V 76 a s))) L := ML_FS (S := fun r => r = 138 ∨ r = 165) hw (FS_tr (FS_uI (.inl rfl)) (FS_uI (.inr rfl))) (by omega) (by omega)
        have p3 : PM (ab_uI (ab_uI m 138 (98 + 6) (4 * e + s) 1) 165 (98 + 33) (4 * a + s) (enc 0 0 0 1 (V 76 a s))) (uV V 80 a s 1) a := by
          refine ⟨?_, fun s' hs' => ?_⟩
          · rw [uI_r _ _ _ _ _ _ _ _ (by omega), uI_r _ _ _ _ _ _ _ _ (by omega), uV_k _ _ _ _ _ (by omega)]
            exact hP.1
          · rw [uI_1, uV_k _ _ _ _ _ (show (77 : Nat) ≠ 80 by omega), uV_k _ _ _ _ _ (show (78 : Nat) ≠ 80 by omega), uV_k _ _ _ _ _ (show (79 : Nat) ≠ 80 by omega), uV_k _ _ _ _ _ (show (76 : Nat) ≠ 80 by omega)]
            by_cases z2 : s' = s
            · subst z2
              rw [if_pos ⟨rfl, rfl, rfl⟩, uV_s, hF.1, hF.2.1, hF.2.2.1]
            · rw [if_neg (by omega), uI_r _ _ _ _ _ _ _ _ (by omega)]
              have : uV V 80 a s 1 80 a s' = V 80 a s' := if_neg (fun g => z2 g.2.2)
              rw [this]
              exact hP.2 s' hs'
        obtain ⟨m1, b1, b2, b3, b4⟩ := t_putL q2 (b := 5) l3 (by omega)
        have l1 : (L ++ [5]).length = L.length + 1 := by rw [List.length_append]; rfl
        obtain ⟨m2, d1, d2, d3, d4⟩ := t_putL b2 (b := s) b3 (by omega)
        obtain ⟨m3, g1, g2, g3, g4⟩ := t_numL d2 (v := N) d3 (by omega) (by rw [List.length_append, l1]; show L.length + 1 + 1 + nw N ≤ 47; omega)
        have f2 := FS_tr (FS_tr b4 d4) g4
        refine ⟨m3, f, by omega, ?_, FS_tr (FS_tr (FS_uI (by unfold s82; omega)) (FS_uI (by unfold s82; omega))) (FS_le f2 s2_82), .inl ⟨⟨y, o, z⟩, g2, ?_, PM_FS p3 f2 (by unfold s2; omega) (by unfold s2; omega)⟩⟩
        · rw [show (5 : Int32) = nI 5 from rfl, b1]
          simp only [ob_s]
          rw [d1]
          simp only [ob_s]
          rw [FS_g (FS_tr b4 d4) 136 _ _ (by unfold s2; omega), uI_r _ _ _ _ _ _ _ _ (by omega), uI_r _ _ _ _ _ _ _ _ (by omega), k60, g1]
          simp only [ob_s]
          exact nx f m3
        · unfold rsL
          rw [List.append_assoc, List.append_assoc] at g3
          exact g3
      · rw [if_neg z, nx]
        exact ⟨m, f, by omega, rfl, FS_rfl _ _, .inr ⟨fun q => z q.2.2, rfl⟩⟩
    · rw [if_neg (fun q => o (.inl q)), if_neg (fun q => o (.inr q)), nx]
      exact ⟨m, f + 1, by omega, rfl, FS_rfl _ _, .inr ⟨fun q => o q.2.1, rfl⟩⟩
end
