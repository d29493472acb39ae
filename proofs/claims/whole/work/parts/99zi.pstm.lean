section
/-! A stream's part is written: the model, whole. -/
def s5 (r : Nat) : Prop := r = 125 ∨ r = 168 ∨ r = 134
theorem s2_5 (r : Nat) (h : s2 r) : s5 r := by
  unfold s2 at h
  unfold s5
  omega
theorem t_46 {V U : Vt} {c e s a f0 ct : Nat} {L : List Nat} (hU : UV V U e s) (hI : Iv c V) (he : e < 2) (hs : s < 4) (h64 : f0 + ct ≤ 64) (h3 : ∀ n, n < ct → V 67 (4 * e + s) (f0 + n) ≠ 3) (hL : L.length + ct ≤ 47) : ∀ (j i f : Nat) (m : Mm), i + j = ct → RM m (mk67 U (4 * e + s) f0 (f0 + i) 1) → ML m (L ++ bt V (4 * e + s) f0 i) → m.1 130 98 0 = nI f0 → m.1 131 98 0 = nI ct → ∃ m', b_M_putStream_46 (f + j) 98 (nI (4 * e + s)) (nI a) (nI i) m = b_M_putStream_46 f 98 (nI (4 * e + s)) (nI a) (nI ct) m' ∧ RM m' (mk67 U (4 * e + s) f0 (f0 + ct) 1) ∧ ML m' (L ++ bt V (4 * e + s) f0 ct) ∧ FS s5 m m' := by
  have hx : 4 * e + s < 8 := by omega
  intro j
  induction j with
  | zero =>
    intro i f m hj h hw _ _
    obtain rfl : i = ct := by omega
    exact ⟨m, rfl, h, hw, FS_rfl _ _⟩
  | succ j ih =>
    intro i f m hj h hw k130 k131
    have hb := (hI.1 _ hx).2.2.2.2 (f0 + i) (by omega)
    have e1 := nI_nn hb.1
    have k66 : m.1 133 (98 + 1) (64 * (4 * e + s) + f0 + i) = nI (nn (V 66 (4 * e + s) (f0 + i))) := by
      rw [n66 h hx (b := f0 + i) (by omega) (p := 98 + 1) rfl (by omega), e1]
      exact (if_neg (fun q => absurd q.1 (by omega))).trans (hU.1 66 _ (by omega))
    obtain ⟨m1, a1, a2, a3, a4⟩ := t_putL h (b := nn (V 66 (4 * e + s) (f0 + i))) hw (by rw [List.length_append, bt_l]; omega)
    rw [List.append_assoc] at a3
    have q1 := nu67 a2 hx (b := f0 + i) (by omega) (p := 98 + 2) (j := 64 * (4 * e + s) + f0 + i) rfl (by omega) 1
    have ev : uV (mk67 U (4 * e + s) f0 (f0 + i) 1) 67 (4 * e + s) (f0 + i) 1 = mk67 U (4 * e + s) f0 (f0 + (i + 1)) 1 := by
      have n3 : U 67 (4 * e + s) (f0 + i) ≠ 3 := by
        rw [hU.1 67 _ (by omega)]
        exact h3 i (by omega)
      funext k a' b
      unfold uV mk67
      by_cases z : k = 67 ∧ a' = 4 * e + s ∧ b = f0 + i
      · obtain ⟨rfl, rfl, rfl⟩ := z
        rw [if_pos ⟨rfl, rfl, rfl⟩, if_pos ⟨rfl, rfl, by omega, by omega, n3⟩]
      · rw [if_neg z]
        by_cases z1 : k = 67 ∧ a' = 4 * e + s ∧ f0 ≤ b ∧ b < f0 + i ∧ U 67 (4 * e + s) b ≠ 3
        · rw [if_pos z1, if_pos ⟨z1.1, z1.2.1, z1.2.2.1, by omega, z1.2.2.2.2⟩]
        · rw [if_neg z1, if_neg]
          intro y
          exact z1 ⟨y.1, y.2.1, y.2.2.1, by omega, y.2.2.2.2⟩
    rw [ev] at q1
    have fx : FS (fun r => r = 134) m1 (ab_uI m1 134 (98 + 2) (64 * (4 * e + s) + f0 + i) 1) := FS_uI rfl
    have fy : FS s5 m (ab_uI m1 134 (98 + 2) (64 * (4 * e + s) + f0 + i) 1) := FS_tr (FS_le a4 s2_5) (FS_uI (by unfold s5; omega))
    obtain ⟨m', r1, r2, r3, r4⟩ := ih (i + 1) f (ab_uI m1 134 (98 + 2) (64 * (4 * e + s) + f0 + i) 1) (by omega) q1 (ML_FS a3 fx (by omega) (by omega)) (by rw [FS_g fy _ _ _ (by unfold s5; omega)]; exact k130) (by rw [FS_g fy _ _ _ (by unfold s5; omega)]; exact k131)
    refine ⟨m', ?_, r2, r3, FS_tr fy r4⟩
    rw [show f + (j + 1) = f + j + 1 from rfl, b_M_putStream_46_eq, k131, if_neg (by clear ih h hw a1 a2 a3 a4 r1 r2 r3 r4 hI hb e1 k66 q1 ev fx fy hU h3; grind [nI_T]), k130, nI_64, nI_add, ab_ix_nI (show 64 * (4 * e + s) + f0 + i < 512 by omega) (by decide)]
    simp only [ob_s]
    rw [k66, a1]
    simp only [ob_s]
    rw [FS_g a4 130 _ _ (by unfold s2; omega), k130, nI_64, nI_add, ab_ix_nI (show 64 * (4 * e + s) + f0 + i < 512 by omega) (by decide)]
    simp only [ob_s, lt_eq]
    rw [nI_1]
    exact r1
theorem t_putS {m : Mm} {V : Vt} {c e s a : Nat} {L : List Nat} (h : RM m (PV V e a)) (hI : Iv c V) (he : e < 2) (hs : s < 4) (ha5 : a < 1120) (hw : ML m L) (hP : PM m V a) (ha : ¬ Sa V a) (hF : V 77 a s = 0 ∧ V 78 a s = 0 ∧ V 79 a s = 0) (h80 : V 80 a s = 0 ∨ V 80 a s = 1) (h76 : -1 ≤ V 76 a s ∧ V 76 a s ≤ 64) (hR : L.length + (3 + nw (pfr V e s)) + pC V e s L.length ≤ 37) (k130 : m.1 130 98 0 = nI (pfr V e s)) (k131 : m.1 131 98 0 = nI (pC V e s L.length)) (k132 : m.1 132 98 0 = pE V e s L.length) : ∃ m', r_M_putStream 98 (nI e) (nI (4 * e + s)) (nI a) m = some m' ∧ RM m' (PV (stV V e a s L.length) e a) ∧ ML m' (stL V e s L) ∧ PM m' (stV V e a s L.length) a ∧ FS s82 m m' := by
  have hx : 4 * e + s < 8 := by omega
  have hU := UV_PV (e := e) hs hF.2
  obtain ⟨n1, n2, n3, n4, _⟩ := p_n hI he hs
  have pf := p_f (V := V) (e := e) (s := s)
  have w4 := nw_4 (pfr V e s)
  have pl := p_l hI he hs
  have hc0 : pC V e s L.length ≤ pL V e s ∧ pC V e s L.length ≤ 12 := by
    unfold pC
    omega
  have pe2 : nn (pE V e s L.length) < 2 := by
    rcases pE_01 V e s L.length with z | z <;> (rw [z]; decide)
  obtain ⟨m1, b1, b2, b3, b4⟩ := t_putL h (b := 2) hw (by omega)
  have l1 : (L ++ [2]).length = L.length + 1 := by rw [List.length_append]; rfl
  obtain ⟨m2, d1, d2, d3, d4⟩ := t_putL b2 (b := s) b3 (by omega)
  have l2 : (L ++ [2] ++ [s]).length = L.length + 2 := by rw [List.length_append, l1]; rfl
  obtain ⟨m3, g1, g2, g3, g4⟩ := t_numL d2 (v := pfr V e s) d3 (by omega) (by rw [l2]; omega)
  have l3 : (L ++ [2] ++ [s] ++ nb (pfr V e s)).length = L.length + 2 + nw (pfr V e s) := by rw [List.length_append, l2, nb_l]
  obtain ⟨m4, i1, i2, i3, i4⟩ := t_putL g2 (b := 2 * pC V e s L.length + nn (pE V e s L.length)) g3 (by rw [l3]; omega)
  have el : L ++ [2] ++ [s] ++ nb (pfr V e s) ++ [2 * pC V e s L.length + nn (pE V e s L.length)] = stH V e s L := by
    unfold stH
    simp only [List.append_assoc]
  rw [el] at i3
  have f3 := FS_tr (FS_tr b4 d4) g4
  have f4 := FS_tr f3 i4
  have e0 : mk67 (PV V e a) (4 * e + s) (pfr V e s) (pfr V e s + 0) 1 = PV V e a := by
    funext k a' b
    exact if_neg (by omega)
  obtain ⟨m5, r1, r2, r3, r4⟩ := t_46 (a := a) (L := stH V e s L) (f0 := pfr V e s) (ct := pC V e s L.length) hU hI he hs (by omega) (fun n hn => pl.2 n (by omega)) (by rw [stH_l]; omega) (pC V e s L.length) 0 (49998 - pC V e s L.length) m4 (by omega) (by rw [e0]; exact i2) (by unfold bt; rw [List.append_nil]; exact i3) (by rw [FS_g f4 _ _ _ (by unfold s2; omega)]; exact k130) (by rw [FS_g f4 _ _ _ (by unfold s2; omega)]; exact k131)
  have f5 : FS s5 m m5 := FS_tr (FS_le f4 s2_5) r4
  have k130' : m5.1 130 98 0 = nI (pfr V e s) := by rw [FS_g f5 _ _ _ (by unfold s5; omega)]; exact k130
  have k131' : m5.1 131 98 0 = nI (pC V e s L.length) := by rw [FS_g f5 _ _ _ (by unfold s5; omega)]; exact k131
  have k132' : m5.1 132 98 0 = pE V e s L.length := by rw [FS_g f5 _ _ _ (by unfold s5; omega)]; exact k132
  have k60 : m5.1 136 (98 + 4) (4 * e + s) = nI (pN V e s) := by
    rw [n60 r2 hx (p := 98 + 4) rfl rfl, n1]
    exact (if_neg (fun q => absurd q.1 (by omega))).trans (hU.1 60 0 (by omega))
  obtain ⟨F, hF'⟩ : ∃ F, 49998 - pC V e s L.length = F + 4 := ⟨49994 - pC V e s L.length, by omega⟩
  have Y := nu60 r2 hx (p := 98 + 4) (j := 4 * e + s) rfl rfl (nI (max (pN V e s) (pfr V e s + pC V e s L.length)))
  have fY : FS (fun r => r = 136 ∨ r = 137) m5 (ab_uI m5 136 (98 + 4) (4 * e + s) (nI (max (pN V e s) (pfr V e s + pC V e s L.length)))) := FS_uI (.inl rfl)
  revert Y fY
  generalize hM6 : ab_uI m5 136 (98 + 4) (4 * e + s) (nI (max (pN V e s) (pfr V e s + pC V e s L.length))) = M6
  intro Y fY
  have k64 : M6.1 137 (98 + 5) (4 * e + s) = V 64 (4 * e + s) 0 := by
    rw [n64 Y hx (p := 98 + 5) rfl rfl, uV_k _ _ _ _ _ (by omega)]
    exact (if_neg (fun q => absurd q.1 (by omega))).trans (hU.1 64 0 (by omega))
  have fin : ∀ (M : Mm) (X : Vt), RM M X → FS (fun r => r = 136 ∨ r = 137) m5 M → (∀ b, X 21 b 0 = V 21 b 0) → PV (stV V e a s L.length) e a = uV (uV (uV X 77 a s (nI (pfr V e s))) 78 a s (nI (pC V e s L.length))) 79 a s (pE V e s L.length) → ∃ m', b_M_putStream_166 (F + 2) 98 (nI (4 * e + s)) (nI a) M = some (.inl (none, m')) ∧ RM m' (PV (stV V e a s L.length) e a) ∧ ML m' (stL V e s L) ∧ PM m' (stV V e a s L.length) a ∧ FS s82 m m' := by
    intro M X hX hM h21 hE
    have naX : ¬ Sa X a := fun y => ha (by unfold Sa at *; rw [h21] at y; exact y)
    have na1 : ¬ Sa (uV X 77 a s (nI (pfr V e s))) a := fun y => naX ((Sa_pk (TS77 hs) a).mp y)
    have na2 : ¬ Sa (uV (uV X 77 a s (nI (pfr V e s))) 78 a s (nI (pC V e s L.length))) a := fun y => na1 ((Sa_pk (TS78 hs) a).mp y)
    have na3 : ¬ Sa (uV (uV (uV X 77 a s (nI (pfr V e s))) 78 a s (nI (pC V e s L.length))) 79 a s (pE V e s L.length)) a := fun y => na2 ((Sa_pk (TS79 hs) a).mp y)
    have q1 := RM_na (RM_na (RM_na hX (k := 77) (a := a) (b := s) (x := nI (pfr V e s)) (TS77 hs) naX) (k := 78) (a := a) (b := s) (x := nI (pC V e s L.length)) (TS78 hs) na1) (k := 79) (a := a) (b := s) (x := pE V e s L.length) (TS79 hs) na2
    have q2 := RM_pw q1 (r := 165) (p := 98 + 33) (a := a) (j := 4 * a + s) (x := enc (nI (pfr V e s)) (nI (pC V e s L.length)) (pE V e s L.length) (V 80 a s) (V 76 a s)) (.inr ⟨rfl, by omega⟩) na3
    rw [← hE] at q2
    have fM : FS s82 m5 M := FS_le hM (fun r hr => by unfold s82; omega)
    have fa : FS s82 m m5 := FS_le f5 (fun r hr => by unfold s5 at hr; unfold s82; omega)
    have k165 : M.1 165 (98 + 33) (4 * a + s) = enc 0 0 0 (V 80 a s) (V 76 a s) := by
      rw [FS_g hM _ _ _ (by omega), FS_g f5 _ _ _ (by unfold s5; omega)]
      have := hP.2 s hs
      rw [hF.1, hF.2.1, hF.2.2] at this
      exact this
    have k130'' : M.1 130 98 0 = nI (pfr V e s) := by rw [FS_g hM _ _ _ (by omega)]; exact k130'
    have k131'' : M.1 131 98 0 = nI (pC V e s L.length) := by rw [FS_g hM _ _ _ (by omega)]; exact k131'
    have k132'' : M.1 132 98 0 = pE V e s L.length := by rw [FS_g hM _ _ _ (by omega)]; exact k132'
    have eo := enc_or (f := pfr V e s) (c := pC V e s L.length) (by omega) (by omega) (pE_01 V e s L.length) h80 h76
    have fz : FS (fun r => r = 165) M (ab_uI M 165 (98 + 33) (4 * a + s) (enc (nI (pfr V e s)) (nI (pC V e s L.length)) (pE V e s L.length) (V 80 a s) (V 76 a s))) := FS_uI rfl
    refine ⟨ab_uI M 165 (98 + 33) (4 * a + s) (enc (nI (pfr V e s)) (nI (pC V e s L.length)) (pE V e s L.length) (V 80 a s) (V 76 a s)), ?_, q2, ?_, ?_, FS_tr (FS_tr fa fM) (FS_uI (by unfold s82; omega))⟩
    · rw [b_M_putStream_166_eq, and3 e he s hs, nI4a, ab_ix_nI (show 4 * a + s < 4480 by omega) (by decide)]
      simp only [ob_s]
      rw [k132'', k165, k130'', k131'']
      have go : ∀ y : Int32, y = (if pE V e s L.length = 0 then 0 else 2048) → b_M_putStream_216 (F + 1) (98 + 33) (nI (4 * a + s)) (enc 0 0 0 (V 80 a s) (V 76 a s) ||| nI (pfr V e s) ||| nI (pC V e s L.length) <<< ((7 : Int32) &&& 31)) y M = some (.inl (none, ab_uI M 165 (98 + 33) (4 * a + s) (enc (nI (pfr V e s)) (nI (pC V e s L.length)) (pE V e s L.length) (V 80 a s) (V 76 a s)))) := by
        intro y hy
        rw [b_M_putStream_216_eq, ab_ix_nI (show 4 * a + s < 4480 by omega) (by decide)]
        simp only [ob_s, lt_eq]
        rw [hy, eo]
      by_cases z : pE V e s L.length = 0
      · rw [if_pos z]
        exact go 0 (by rw [if_pos z])
      · rw [if_neg z]
        exact go 2048 (by rw [if_neg z])
    · exact ML_FS (ML_FS r3 hM (by omega) (by omega)) fz (by omega) (by omega)
    · refine ⟨?_, fun s' hs' => ?_⟩
      · rw [FS_g fz _ _ _ (by omega), FS_g hM _ _ _ (by omega), FS_g f5 _ _ _ (by unfold s5; omega), hP.1]
        unfold stV
        rw [uV_k _ _ _ _ _ (by omega), uV_k _ _ _ _ _ (by omega), uV_k _ _ _ _ _ (by omega), uV_k _ _ _ _ _ (by omega)]
      · by_cases z : s' = s
        · subst z
          rw [show ∀ x, (ab_uI M 165 (98 + 33) (4 * a + s') x).1 165 131 (4 * a + s') = x from fun x => uI_s _ _ _ _ _]
          unfold stV
          rw [uV_k _ _ _ _ _ (show (77 : Nat) ≠ 60 by omega), uV_k _ _ _ _ _ (show (77 : Nat) ≠ 79 by omega), uV_k _ _ _ _ _ (show (77 : Nat) ≠ 78 by omega), uV_s, uV_k _ _ _ _ _ (show (78 : Nat) ≠ 60 by omega), uV_k _ _ _ _ _ (show (78 : Nat) ≠ 79 by omega), uV_s, uV_k _ _ _ _ _ (show (79 : Nat) ≠ 60 by omega), uV_s, uV_k _ _ _ _ _ (show (80 : Nat) ≠ 60 by omega), uV_k _ _ _ _ _ (show (80 : Nat) ≠ 79 by omega), uV_k _ _ _ _ _ (show (80 : Nat) ≠ 78 by omega), uV_k _ _ _ _ _ (show (80 : Nat) ≠ 77 by omega), uV_k _ _ _ _ _ (show (76 : Nat) ≠ 60 by omega), uV_k _ _ _ _ _ (show (76 : Nat) ≠ 79 by omega), uV_k _ _ _ _ _ (show (76 : Nat) ≠ 78 by omega), uV_k _ _ _ _ _ (show (76 : Nat) ≠ 77 by omega)]
        · have vv : ∀ k, k ≠ 60 → stV V e a s L.length k a s' = V k a s' := by
            intro k hk
            have nz : ∀ k', ¬ (k = k' ∧ a = a ∧ s' = s) := fun k' y => z y.2.2
            unfold stV
            rw [uV_k _ _ _ _ _ hk]
            unfold uV
            rw [if_neg (nz 79), if_neg (nz 78), if_neg (nz 77)]
          rw [vv 77 (by omega), vv 78 (by omega), vv 79 (by omega), vv 80 (by omega), vv 76 (by omega), uI_1, if_neg (by omega), FS_g hM _ _ _ (by omega), FS_g f5 _ _ _ (by unfold s5; omega)]
          exact hP.2 s' hs'
  have hps := PV_st (V := V) (e := e) (a := a) (l := L.length) hs hF.2 (by omega) (by omega)
  have run : ∃ m', b_M_putStream_141 (F + 3) 98 (nI (4 * e + s)) (nI a) (98 + 4) (nI (4 * e + s)) (nI (max (pN V e s) (pfr V e s + pC V e s L.length))) m5 = some (.inl (none, m')) ∧ RM m' (PV (stV V e a s L.length) e a) ∧ ML m' (stL V e s L) ∧ PM m' (stV V e a s L.length) a ∧ FS s82 m m' := by
    have p21 : ∀ b, uV (mk67 (PV V e a) (4 * e + s) (pfr V e s) (pfr V e s + pC V e s L.length) 1) 60 (4 * e + s) 0 (nI (max (pN V e s) (pfr V e s + pC V e s L.length))) 21 b 0 = V 21 b 0 := fun b => (uV_k _ _ _ _ _ (by omega)).trans ((if_neg (fun q => absurd q.1 (by omega))).trans (PV_o (by omega)))
    rw [b_M_putStream_141_eq, ab_ix_nI hx (by decide)]
    simp only [ob_s, lt_eq]
    rw [hM6, FS_g fY 132 _ _ (by omega), k132', k64]
    by_cases z1 : pE V e s L.length = 0
    · rw [if_pos z1]
      rw [if_neg (fun q => q.1 z1)] at hps
      exact fin M6 _ Y fY p21 hps
    · rw [if_neg z1]
      by_cases z2 : V 64 (4 * e + s) 0 = 3
      · rw [if_pos z2]
        rw [if_neg (fun q => q.2 z2)] at hps
        exact fin M6 _ Y fY p21 hps
      · rw [if_neg z2]
        rw [if_pos ⟨z1, z2⟩] at hps
        exact fin _ _ (nu64 Y hx (p := 98 + 5) rfl rfl 1) (FS_tr fY (FS_uI (.inr rfl))) (fun b => (uV_k _ _ _ _ _ (by omega)).trans (p21 b)) hps
  obtain ⟨m', x1, x2⟩ := run
  refine ⟨m', ?_, x2⟩
  rw [r_M_putStream_eq, b_M_putStream_0_eq, show (2 : Int32) = nI 2 from rfl, b1]
  simp only [ob_s]
  rw [and3 e he s hs, d1]
  simp only [ob_s]
  rw [FS_g (FS_tr b4 d4) 130 _ _ (by unfold s2; omega), k130, g1]
  simp only [ob_s]
  rw [FS_g f3 132 _ _ (by unfold s2; omega), FS_g f3 131 _ _ (by unfold s2; omega), k132, k131]
  have mx : (if nI (pfr V e s + pC V e s L.length) ≤ nI (pN V e s) then b_M_putStream_141 (F + 3) 98 (nI (4 * e + s)) (nI a) (98 + 4) (nI (4 * e + s)) (nI (pN V e s)) m5 else b_M_putStream_141 (F + 3) 98 (nI (4 * e + s)) (nI a) (98 + 4) (nI (4 * e + s)) (nI (pfr V e s + pC V e s L.length)) m5) = b_M_putStream_141 (F + 3) 98 (nI (4 * e + s)) (nI a) (98 + 4) (nI (4 * e + s)) (nI (max (pN V e s) (pfr V e s + pC V e s L.length))) m5 := by
    by_cases y : pfr V e s + pC V e s L.length ≤ pN V e s
    · rw [if_pos (by clear h hI hw hP ha hF h80 h76 k130 k131 k132 hU n1 n2 b1 b2 b3 b4 d1 d2 d3 d4 g1 g2 g3 g4 i1 i2 i3 i4 f3 f4 e0 r1 r2 r3 r4 f5 k130' k131' k132' k60 hF' Y fY k64 fin hps x1 x2 hM6 el l1 l2 l3; grind [nI_T]), Nat.max_eq_left (by omega)]
    · rw [if_neg (by clear h hI hw hP ha hF h80 h76 k130 k131 k132 hU n1 n2 b1 b2 b3 b4 d1 d2 d3 d4 g1 g2 g3 g4 i1 i2 i3 i4 f3 f4 e0 r1 r2 r3 r4 f5 k130' k131' k132' k60 hF' Y fY k64 fin hps x1 x2 hM6 el l1 l2 l3; grind [nI_T]), Nat.max_eq_right (by omega)]
  have go : ∀ y : Int32, (nI 2 : Int32) * nI (pC V e s L.length) + y = nI (2 * pC V e s L.length + nn (pE V e s L.length)) → ab_rV (b_M_putStream_39 49999 98 (nI (4 * e + s)) (nI a) 98 (nI 2 * nI (pC V e s L.length)) y m3) = some m' := by
    intro y hy
    rw [b_M_putStream_39_eq, hy, i1]
    simp only [ob_s]
    rw [show 49998 - pC V e s L.length + pC V e s L.length = 49998 by omega, show nI 0 = 0 from rfl] at r1
    rw [r1, hF', b_M_putStream_46_eq, k131', if_pos (Int32.le_refl _), ab_ix_nI hx (by decide)]
    simp only [ob_s]
    rw [k130', k60, nI_add, mx, x1, rV_some]
  rcases pE_01 V e s L.length with z | z
  · rw [if_pos z]
    exact go 0 (by rw [z, nn0, show nI 2 = (2 : Int32) from rfl, nI_2m, Int32.add_zero]; rfl)
  · rw [if_neg (by rw [z]; decide)]
    exact go 1 (by rw [z, show nn 1 = 1 from by decide, show nI 2 = (2 : Int32) from rfl, nI_2m, nI_1])
end
