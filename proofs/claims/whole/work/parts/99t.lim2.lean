section
/-! LIMIT is written. -/
def lmV (V : Vt) (e a s T : Nat) (L : List Nat) : Vt := if V 52 (4 * e + s) 0 = 0 ∨ ¬ (L.length + (2 + nw T) ≤ 37) then V else uV (uV (uV V 76 a s (nI T)) 50 (4 * e + s) 0 (nI T)) 52 (4 * e + s) 0 0
def lmL (V : Vt) (e s T : Nat) (L : List Nat) : List Nat := if V 52 (4 * e + s) 0 = 0 ∨ ¬ (L.length + (2 + nw T) ≤ 37) then L else L ++ ([4] ++ ([s] ++ nb T))
theorem TS76 {s : Nat} (hs : s < 4) : TS 76 s := .inr ⟨by omega, by omega, hs⟩
theorem nb_s {s : Nat} (hs : s < 64) : nb s = [s] := if_pos hs
theorem nw_4 (T : Nat) : nw T ≤ 4 := by
  unfold nw
  split
  · omega
  · split <;> omega
theorem s_limS {m : Mm} {V : Vt} {w W : Nat → Nat} (h : RC m V w W) {e s I q S a d T : Nat} {L : List Nat} {x : Int32} (he : e < 2) (hs : s < 4) (hI : I = 12 + 30 * e) (hw : WC m q x (d :: L)) (hP : Pk m S V a) (hf : Fr V w q) (hS : ∀ a', Sa V a' → W a' ≠ S) (ha : ¬ Sa V a) (hT : strT V e s = nI T) (hT2 : T ≤ 64) (hL : L.length ≤ 37) : ∃ m', r_Int_putLimit I q S (nI s) m = some m' ∧ RC m' (lmV V e a s T L) w W ∧ WC m' q x (d :: lmL V e s T L) ∧ Pk m' S (lmV V e a s T L) a ∧ FS s81 m m' := by
  have hn : I + 1 + 1 + 2 * s = 14 + 30 * e + 2 * s := by omega
  rw [r_Int_putLimit_eq, b_Int_putLimit_0_eq, ab_ix_nI hs (by decide)]
  simp only [ob_s]
  rw [s_limitForV h he hs hI hn, hT]
  simp only [ob_s]
  rw [c52 h he hs hn]
  unfold lmV lmL
  have ll : (d :: L).length = L.length + 1 := rfl
  by_cases y : V 52 (4 * e + s) 0 = 0
  · rw [if_pos y, if_pos (.inl y), if_pos (.inl y)]
    exact ⟨m, by rw [rV_some], h, hw, hP, FS_rfl _ _⟩
  · have o1 : (2 : Int32) + nI (nw T) = nI (2 + nw T) := nI_add 2 _
    have w4 := nw_4 T
    rw [if_neg y, s_sizeOf, wd_nw (by omega)]
    simp only [ob_s]
    rw [o1, s_room hw (by omega) (by omega)]
    simp only [ob_s, ib_if]
    by_cases z : L.length + (2 + nw T) ≤ 37
    · rw [if_pos (by omega), if_neg (fun q => q.elim y (fun g => g z)), if_neg (fun q => q.elim y (fun g => g z))]
      obtain ⟨m1, b1, b2, b3, b4⟩ := s_putL h (v := 4) (b := 4) hf hw (by omega) (by decide)
      have l1 : (d :: L ++ [4]).length = L.length + 2 := by rw [List.length_append]; rfl
      obtain ⟨m2, d1, d2, d3, d4⟩ := s_numL b2 (v := s) hf b3 (by omega) (by rw [l1, nw_1 (show s < 64 by omega)]; omega)
      obtain ⟨m3, g1, g2, g3, g4⟩ := s_numL d2 (v := T) hf d3 (by omega) (by rw [len_nb, l1, nw_1 (show s < 64 by omega)]; omega)
      have f2 := FS_tr (FS_tr b4 d4) g4
      have p2 := Pk_FS hP f2 (fun r hr => by unfold rw3 at hr; omega)
      have q1 := RC_pk g2 (k := 76) (a := a) (b := s) (S := S) (p := S + 1) (x := nI T) (TS76 hs) rfl ha hS
      have q2 := Pk_pk (x := nI T) p2 (TS76 hs) (show S + 1 = S + ofk 76 from rfl)
      have q3 := cu50 q1 he hs hn (nI T)
      have q4 := cu52 q3 he hs hn 0
      refine ⟨_, ?_, q4, ?_, Pk_FS (T := fun r => r = 50 ∨ r = 52) (Pk_uV (Pk_uV q2 (by omega)) (by omega)) (FS_tr (FS_uI (.inl rfl)) (FS_uI (.inr rfl))) (fun r hr => by omega), ?_⟩
      · rw [b1]
        simp only [ob_s]
        rw [d1]
        simp only [ob_s]
        rw [g1, bo_0]
        simp only [ob_s, lt_eq]
        rw [rV_some]
      · have g := Wr_FS (S := fun r => r = 76 ∨ r = 50 ∨ r = 52) (m' := ab_uI (ab_uI (ab_uI m3 76 (S + 1) s (nI T)) 50 (I + 1 + 1 + 2 * s) 0 (nI T)) 52 (I + 1 + 1 + 2 * s) 0 0) g3 (FS_tr (FS_tr (FS_uI (.inl rfl)) (FS_uI (.inr (.inl rfl)))) (FS_uI (.inr (.inr rfl)))) (by omega) (by omega) (by omega)
        rw [List.append_assoc, List.append_assoc, nb_s (show s < 64 by omega)] at g
        exact g
      · exact FS_tr (FS_tr (FS_tr (FS_le f2 rw81) (FS_uI (by unfold s81; omega))) (FS_uI (by unfold s81; omega))) (FS_uI (by unfold s81; omega))
    · rw [if_neg (by omega), if_pos (.inr z), if_pos (.inr z)]
      exact ⟨m, by rw [rV_some], h, hw, hP, FS_rfl _ _⟩
/-- nothing of the stream is in the packet yet -/
def Fsh (V : Vt) (a s : Nat) : Prop := V 77 a s = 0 ∧ V 78 a s = 0 ∧ V 79 a s = 0 ∧ V 80 a s = 0 ∧ V 76 a s = -1
theorem nI4a {a b : Nat} : (4 : Int32) * nI a + nI b = nI (4 * a + b) := by
  unfold nI
  rw [← show Int32.ofNat 4 = 4 from rfl, ← Int32.ofNat_mul, ← Int32.ofNat_add]
theorem and3 : ∀ e, e < 2 → ∀ s, s < 4 → nI (4 * e + s) &&& 3 = nI s := by decide +kernel
theorem enc0 : enc 0 0 0 0 (-1) = 0 := by decide
theorem encT : ∀ T, T < 65 → (0 : Int32) ||| ((nI T + 1) <<< ((13 : Int32) &&& 31)) = enc 0 0 0 0 (nI T) := by decide +kernel
theorem t_limS {m : Mm} {V : Vt} (h : RM m V) {e s a T : Nat} {L : List Nat} {v3 : Int32} (he : e < 2) (hs : s < 4) (ha5 : a < 1120) (hw : ML m L) (hP : PM m V a) (ha : ¬ Sa V a) (hF : Fsh V a s) (hT : strT V e s = nI T) (hT2 : T ≤ 64) (hL : L.length ≤ 37) (f : Nat) : ∃ m', b_M_putSmall_81 (f + 2) 98 (nI e) (nI a) v3 (nI (4 * e + s)) m = b_M_putSmall_81 f 98 (nI e) (nI a) v3 (nI (4 * e + (s + 1))) m' ∧ RM m' (lmV V e a s T L) ∧ ML m' (lmL V e s T L) ∧ PM m' (lmV V e a s T L) a ∧ FS s82 m m' := by
  have hx : 4 * e + s < 8 := by omega
  have e4 : (4 : Int32) * nI e + 4 = nI (4 * e + 4) := nI4a (b := 4)
  have nx : ∀ M, b_M_putSmall_203 (f + 1) 98 (nI e) (nI a) v3 (nI (4 * e + s)) M = b_M_putSmall_81 f 98 (nI e) (nI a) v3 (nI (4 * e + (s + 1))) M := by
    intro M
    rw [b_M_putSmall_203_eq]
    simp only [lt_eq]
    rw [nI_1]
    rfl
  rw [b_M_putSmall_81_eq, e4, if_neg (by clear h hP hw ha hF nx; grind [nI_T]), ab_ix_nI hx (by decide)]
  simp only [ob_s]
  rw [n52 h hx (p := 98 + 16) rfl rfl]
  unfold lmV lmL
  by_cases y : V 52 (4 * e + s) 0 = 0
  · rw [if_pos y, if_pos (.inl y), if_pos (.inl y)]
    exact ⟨m, nx m, h, hw, hP, FS_rfl _ _⟩
  · have o1 : (2 : Int32) + nI (nw T) = nI (2 + nw T) := nI_add 2 _
    have w4 := nw_4 T
    rw [if_neg y, t_streamTarget h he hs, hT]
    simp only [ob_s, lt_eq]
    rw [t_width, wd_nw (by omega)]
    simp only [ob_s]
    rw [o1, t_fitL hw (by omega) (by omega)]
    simp only [ob_s, ib_if]
    by_cases z : L.length + (2 + nw T) ≤ 37
    · rw [if_pos z, if_neg (fun q => q.elim y (fun g => g z)), if_neg (fun q => q.elim y (fun g => g z)), t_streamTarget h he hs, hT, and3 e he s hs, nI4a, ab_ix_nI (show 4 * a + s < 4480 by omega) (by decide)]
      simp only [ob_s, lt_eq]
      have k165 : (ab_uI m 146 (98 + 14) (4 * e + s) (nI T)).1 165 (98 + 33) (4 * a + s) = 0 := by
        rw [uI_r _ _ _ _ _ _ _ _ (by omega), show (98 : Nat) + 33 = 131 from rfl, hP.2 s hs, hF.1, hF.2.1, hF.2.2.1, hF.2.2.2.1, hF.2.2.2.2, enc0]
      rw [k165, uI_s, encT T (by omega), bo_0]
      simp only [ob_s, lt_eq]
      have q1 := nu50 (RM_na h (k := 76) (a := a) (b := s) (x := nI T) (TS76 hs) ha) hx (p := 98 + 14) (j := 4 * e + s) rfl rfl (nI T)
      have na1 : ¬ Sa (uV (uV V 76 a s (nI T)) 50 (4 * e + s) 0 (nI T)) a := fun g => ha ((Sa_uV (by omega) a).mp ((Sa_uV (by omega) a).mp g))
      have q2 := RM_pw q1 (r := 165) (p := 98 + 33) (a := a) (j := 4 * a + s) (x := enc 0 0 0 0 (nI T)) (.inr ⟨rfl, by omega⟩) na1
      have q3 := nu52 q2 hx (p := 98 + 16) (j := 4 * e + s) rfl rfl 0
      have l3 : ML (ab_uI (ab_uI (ab_uI m 146 (98 + 14) (4 * e + s) (nI T)) 165 (98 + 33) (4 * a + s) (enc 0 0 0 0 (nI T))) 148 (98 + 16) (4 * e + s) 0) L := ML_FS (S := fun r => r = 146 ∨ r = 165 ∨ r = 148) hw (FS_tr (FS_tr (FS_uI (.inl rfl)) (FS_uI (.inr (.inl rfl)))) (FS_uI (.inr (.inr rfl)))) (by omega) (by omega)
      have p3 : PM (ab_uI (ab_uI (ab_uI m 146 (98 + 14) (4 * e + s) (nI T)) 165 (98 + 33) (4 * a + s) (enc 0 0 0 0 (nI T))) 148 (98 + 16) (4 * e + s) 0) (uV (uV (uV V 76 a s (nI T)) 50 (4 * e + s) 0 (nI T)) 52 (4 * e + s) 0 0) a := by
        refine PM_uV (PM_uV ⟨?_, fun s' hs' => ?_⟩ (by omega)) (by omega)
        · rw [uI_r _ _ _ _ _ _ _ _ (by omega), uI_r _ _ _ _ _ _ _ _ (by omega), uI_r _ _ _ _ _ _ _ _ (by omega), uV_k _ _ _ _ _ (by omega)]
          exact hP.1
        · rw [uI_r _ _ _ _ _ _ _ _ (by omega), uI_1, uV_k _ _ _ _ _ (show (77 : Nat) ≠ 76 by omega), uV_k _ _ _ _ _ (show (78 : Nat) ≠ 76 by omega), uV_k _ _ _ _ _ (show (79 : Nat) ≠ 76 by omega), uV_k _ _ _ _ _ (show (80 : Nat) ≠ 76 by omega)]
          by_cases z2 : s' = s
          · subst z2
            rw [if_pos ⟨rfl, rfl, rfl⟩, uV_s, hF.1, hF.2.1, hF.2.2.1, hF.2.2.2.1]
          · rw [if_neg (by omega), uI_r _ _ _ _ _ _ _ _ (by omega)]
            have : uV V 76 a s (nI T) 76 a s' = V 76 a s' := if_neg (fun g => z2 g.2.2)
            rw [this]
            exact hP.2 s' hs'
      obtain ⟨m1, b1, b2, b3, b4⟩ := t_putL q3 (b := 4) l3 (by omega)
      have l1 : (L ++ [4]).length = L.length + 1 := by rw [List.length_append]; rfl
      obtain ⟨m2, d1, d2, d3, d4⟩ := t_putL b2 (b := s) b3 (by omega)
      obtain ⟨m3, g1, g2, g3, g4⟩ := t_numL d2 (v := T) d3 (by omega) (by rw [List.length_append, l1]; show L.length + 1 + 1 + nw T ≤ 47; omega)
      have f2 := FS_tr (FS_tr b4 d4) g4
      refine ⟨m3, ?_, g2, ?_, PM_FS p3 f2 (by unfold s2; omega) (by unfold s2; omega), ?_⟩
      · rw [show (4 : Int32) = nI 4 from rfl, b1]
        simp only [ob_s]
        rw [d1]
        simp only [ob_s]
        rw [FS_g (FS_tr b4 d4) 146 _ _ (by unfold s2; omega), uI_r _ _ _ _ _ _ _ _ (by omega), uI_r _ _ _ _ _ _ _ _ (by omega), uI_s, g1]
        simp only [ob_s]
        exact nx m3
      · rw [List.append_assoc, List.append_assoc] at g3
        exact g3
      · exact FS_tr (FS_tr (FS_tr (FS_uI (by unfold s82; omega)) (FS_uI (by unfold s82; omega))) (FS_uI (by unfold s82; omega))) (FS_le f2 s2_82)
    · rw [if_neg z, if_pos (.inr z), if_pos (.inr z)]
      exact ⟨m, nx m, h, hw, hP, FS_rfl _ _⟩
end
