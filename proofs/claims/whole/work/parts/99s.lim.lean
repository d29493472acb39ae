section
/-! LIMIT_ALL is written. -/
def s81 (r : Nat) : Prop := r < 81
def s82 (r : Nat) : Prop := 81 ≤ r
def laV (V : Vt) (e a T : Nat) (L : List Nat) : Vt := if V 44 e 0 = 0 ∨ ¬ (L.length + (1 + nw T) ≤ 37) then V else uV (uV (uV V 70 a 0 (nI T)) 43 e 0 (nI T)) 44 e 0 0
def laL (V : Vt) (e T : Nat) (L : List Nat) : List Nat := if V 44 e 0 = 0 ∨ ¬ (L.length + (1 + nw T) ≤ 37) then L else L ++ ([3] ++ nb T)
theorem rw81 (r : Nat) (h : rw3 r) : s81 r := by
  unfold rw3 at h
  unfold s81
  omega
theorem s2_82 (r : Nat) (h : s2 r) : s82 r := by
  unfold s2 at h
  unfold s82
  omega
theorem TS70 : TS 70 0 := .inl ⟨.inr (.inr rfl), rfl⟩
theorem s_limAll {m : Mm} {V : Vt} {w W : Nat → Nat} (h : RC m V w W) {e I q S a d T : Nat} {L : List Nat} {x : Int32} (he : e < 2) (hI : I = 12 + 30 * e) (hw : WC m q x (d :: L)) (hP : Pk m S V a) (hf : Fr V w q) (hS : ∀ a', Sa V a' → W a' ≠ S) (ha : ¬ Sa V a) (hT : allT V e = nI T) (hT2 : T ≤ 256) (hL : L.length ≤ 37) : ∃ m', r_Int_putLimitAll I q S m = some m' ∧ RC m' (laV V e a T L) w W ∧ WC m' q x (d :: laL V e T L) ∧ Pk m' S (laV V e a T L) a ∧ FS s81 m m' := by
  rw [r_Int_putLimitAll_eq, b_Int_putLimitAll_0_eq, s_limitForAll h he hI, hT]
  simp only [ob_s]
  rw [c44 h he hI]
  unfold laV laL
  have ll : (d :: L).length = L.length + 1 := rfl
  by_cases y : V 44 e 0 = 0
  · rw [if_pos y, if_pos (.inl y), if_pos (.inl y)]
    exact ⟨m, by rw [rV_some], h, hw, hP, FS_rfl _ _⟩
  · have o1 : (1 : Int32) + nI (nw T) = nI (1 + nw T) := nI_add 1 _
    have w4 : nw T ≤ 4 := by
      unfold nw
      split
      · omega
      · split <;> omega
    rw [if_neg y, s_sizeOf, wd_nw (by omega)]
    simp only [ob_s]
    rw [o1, s_room hw (by omega) (by omega)]
    simp only [ob_s, ib_if]
    by_cases z : L.length + (1 + nw T) ≤ 37
    · rw [if_pos (by omega), if_neg (fun q => q.elim y (fun g => g z)), if_neg (fun q => q.elim y (fun g => g z))]
      obtain ⟨m1, b1, b2, b3, b4⟩ := s_putL h (v := 3) (b := 3) hf hw (by omega) (by decide)
      obtain ⟨m2, d1, d2, d3, d4⟩ := s_numL b2 (v := T) hf b3 (by omega) (by rw [List.length_append, ll]; show L.length + 1 + 1 + nw T ≤ 40; omega)
      have f2 := FS_tr b4 d4
      have p2 := Pk_FS hP f2 (fun r hr => by unfold rw3 at hr; omega)
      have q1 := RC_pk d2 (k := 70) (a := a) (b := 0) (S := S) (p := S) (x := nI T) TS70 rfl ha hS
      have q2 := Pk_pk (x := nI T) p2 TS70 (show S = S + ofk 70 from rfl)
      have q3 := cu43 q1 he hI (nI T)
      have q4 := cu44 q3 he hI 0
      refine ⟨_, ?_, q4, ?_, Pk_FS (T := fun r => r = 43 ∨ r = 44) (Pk_uV (Pk_uV q2 (by omega)) (by omega)) (FS_tr (FS_uI (.inl rfl)) (FS_uI (.inr rfl))) (fun r hr => by omega), ?_⟩
      · rw [b1]
        simp only [ob_s]
        rw [d1, bo_0]
        simp only [ob_s, lt_eq]
        rw [rV_some]
      · have g := Wr_FS (S := fun r => r = 70 ∨ r = 43 ∨ r = 44) (m' := ab_uI (ab_uI (ab_uI m2 70 S 0 (nI T)) 43 I 0 (nI T)) 44 I 0 0) d3 (FS_tr (FS_tr (FS_uI (.inl rfl)) (FS_uI (.inr (.inl rfl)))) (FS_uI (.inr (.inr rfl)))) (by omega) (by omega) (by omega)
        rw [List.append_assoc] at g
        exact g
      · exact FS_tr (FS_tr (FS_tr (FS_le f2 rw81) (FS_uI (by unfold s81; omega))) (FS_uI (by unfold s81; omega))) (FS_uI (by unfold s81; omega))
    · rw [if_neg (by omega), if_pos (.inr z), if_pos (.inr z)]
      exact ⟨m, by rw [rV_some], h, hw, hP, FS_rfl _ _⟩
theorem t_limAll {m : Mm} {V : Vt} (h : RM m V) {e a T : Nat} {L : List Nat} (he : e < 2) (ha5 : a < 1120) (hw : ML m L) (hP : PM m V a) (ha : ¬ Sa V a) (hT : allT V e = nI T) (hT2 : T ≤ 256) (hL : L.length ≤ 37) (f : Nat) : ∃ m', b_M_putSmall_0 (f + 1) 98 (nI e) (nI a) m = b_M_putSmall_76 f 98 (nI e) (nI a) (nI L.length) m' ∧ RM m' (laV V e a T L) ∧ ML m' (laL V e T L) ∧ PM m' (laV V e a T L) a ∧ FS s82 m m' := by
  rw [b_M_putSmall_0_eq, hw.1, ab_ix_nI he (by decide)]
  simp only [lt_eq, ob_s]
  rw [n44 h he (p := 98 + 25) rfl rfl]
  unfold laV laL
  by_cases y : V 44 e 0 = 0
  · rw [if_pos y, if_pos (.inl y), if_pos (.inl y)]
    exact ⟨m, rfl, h, hw, hP, FS_rfl _ _⟩
  · have o1 : (1 : Int32) + nI (nw T) = nI (1 + nw T) := nI_add 1 _
    have w4 : nw T ≤ 4 := by
      unfold nw
      split
      · omega
      · split <;> omega
    rw [if_neg y, t_allTarget h he, hT]
    simp only [ob_s, lt_eq]
    rw [t_width, wd_nw (by omega)]
    simp only [ob_s]
    rw [o1, t_fitL hw (by omega) (by omega)]
    simp only [ob_s, ib_if]
    by_cases z : L.length + (1 + nw T) ≤ 37
    · rw [if_pos z, if_neg (fun q => q.elim y (fun g => g z)), if_neg (fun q => q.elim y (fun g => g z)), t_allTarget h he, hT, ab_ix_nI ha5 (by decide)]
      simp only [ob_s, lt_eq]
      rw [uI_s, bo_0]
      simp only [ob_s, lt_eq]
      have q1 := nu43 (RM_na h (k := 70) (a := a) (b := 0) (x := nI T) TS70 ha) he (p := 98 + 18) (j := e) rfl rfl (nI T)
      have na1 : ¬ Sa (uV (uV V 70 a 0 (nI T)) 43 e 0 (nI T)) a := fun g => ha ((Sa_uV (by omega) a).mp ((Sa_uV (by omega) a).mp g))
      have q2 := RM_pw q1 (r := 164) (p := 98 + 32) (a := a) (j := a) (x := nI T) (.inl ⟨by omega, by omega, rfl⟩) na1
      have q3 := nu44 q2 he (p := 98 + 25) (j := e) rfl rfl 0
      have l3 : ML (ab_uI (ab_uI (ab_uI m 150 (98 + 18) e (nI T)) 164 (98 + 32) a (nI T)) 157 (98 + 25) e 0) L := ML_FS (S := fun r => r = 150 ∨ r = 164 ∨ r = 157) hw (FS_tr (FS_tr (FS_uI (.inl rfl)) (FS_uI (.inr (.inl rfl)))) (FS_uI (.inr (.inr rfl)))) (by omega) (by omega)
      have p3 : PM (ab_uI (ab_uI (ab_uI m 150 (98 + 18) e (nI T)) 164 (98 + 32) a (nI T)) 157 (98 + 25) e 0) (uV (uV (uV V 70 a 0 (nI T)) 43 e 0 (nI T)) 44 e 0 0) a := by
        refine PM_uV (PM_uV ⟨?_, fun s hs => ?_⟩ (by omega)) (by omega)
        · rw [uI_r _ _ _ _ _ _ _ _ (by omega), uI_s, uV_s]
        · rw [uI_r _ _ _ _ _ _ _ _ (by omega), uI_r _ _ _ _ _ _ _ _ (by omega), uI_r _ _ _ _ _ _ _ _ (by omega), uV_k _ _ _ _ _ (by omega), uV_k _ _ _ _ _ (by omega), uV_k _ _ _ _ _ (by omega), uV_k _ _ _ _ _ (by omega), uV_k _ _ _ _ _ (by omega)]
          exact hP.2 s hs
      obtain ⟨m1, b1, b2, b3, b4⟩ := t_putL q3 (b := 3) l3 (by omega)
      obtain ⟨m2, d1, d2, d3, d4⟩ := t_numL b2 (v := T) b3 (by omega) (by rw [List.length_append]; show L.length + 1 + nw T ≤ 47; omega)
      have f2 := FS_tr b4 d4
      refine ⟨m2, ?_, d2, ?_, PM_FS p3 f2 (by unfold s2; omega) (by unfold s2; omega), ?_⟩
      · rw [show (3 : Int32) = nI 3 from rfl, b1]
        simp only [ob_s]
        rw [FS_g b4 150 _ _ (by unfold s2; omega), uI_r _ _ _ _ _ _ _ _ (by omega), uI_r _ _ _ _ _ _ _ _ (by omega), uI_s, d1]
        simp only [ob_s]
      · rw [List.append_assoc] at d3
        exact d3
      · exact FS_tr (FS_tr (FS_tr (FS_tr (FS_uI (by unfold s82; omega)) (FS_uI (by unfold s82; omega))) (FS_uI (by unfold s82; omega))) (FS_le b4 s2_82)) (FS_le d4 s2_82)
    · rw [if_neg z, if_pos (.inr z), if_pos (.inr z)]
      exact ⟨m, rfl, h, hw, hP, FS_rfl _ _⟩
end
