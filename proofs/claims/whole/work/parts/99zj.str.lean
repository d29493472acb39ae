section
/-! STREAM is written: all streams. -/
theorem Iv_60 {c : Nat} {V : Vt} {a0 : Nat} {x : Int32} (h : Iv c V) (h1 : V 60 a0 0 ≤ x) (h2 : x ≤ V 59 a0 0) : Iv c (uV V 60 a0 0 x) := by
  have u : ∀ k' a' b', k' ≠ 60 → uV V 60 a0 0 x k' a' b' = V k' a' b' := fun k' a' b' q => uV_k V 60 a0 0 x q
  have mono : ∀ a, V 60 a 0 ≤ uV V 60 a0 0 x 60 a 0 := by
    intro a
    unfold uV
    split
    · rename_i y
      rw [y.2.1]
      exact h1
    · exact Int32.le_refl _
  refine Iv_k h (by omega) (fun a ha => ?_) (fun a ha => IN_k (by omega) (h.2.1 a ha)) (fun e' he => IE_k (by omega) (h.2.2.1 e' he)) (IX_k (by omega) h.2.2.2.1) (fun a ha hl => IR_k (by omega) (h.2.2.2.2.1 a ha hl)) (fun a ha => ?_)
  · have g := h.1 a ha
    unfold IO at *
    simp only [u 59 _ _ (by omega), u 61 _ _ (by omega), u 62 _ _ (by omega), u 64 _ _ (by omega), u 66 _ _ (by omega), u 67 _ _ (by omega)]
    refine ⟨⟨Int32.le_trans g.1.1 (mono a), ?_, g.1.2.2⟩, g.2.1, fun b hb y => g.2.2.1 b hb (Int32.le_trans (mono a) y), g.2.2.2⟩
    unfold uV
    split
    · rename_i y
      rw [y.2.1]
      exact h2
    · exact g.1.2.1
  · have g := h.2.2.2.2.2 a ha
    unfold IS at *
    simp only [u 62 _ _ (by omega), u 68 _ _ (by omega), u 69 _ _ (by omega), u 70 _ _ (by omega), u 76 _ _ (by omega), u 77 _ _ (by omega), u 78 _ _ (by omega), u 79 _ _ (by omega), u 80 _ _ (by omega)]
    refine ⟨g.1, g.2.1, g.2.2.1, fun s hs => ?_⟩
    have g2 := g.2.2.2 s hs
    exact ⟨g2.1, g2.2.1, Int32.le_trans g2.2.2.1 (mono _), g2.2.2.2⟩
def sP (k : Nat) : Prop := k = 60 ∨ k = 77 ∨ k = 78 ∨ k = 79
theorem VS_st {V : Vt} {e a s l : Nat} : VS sP V (stV V e a s l) := by
  unfold stV
  exact VS_tr (VS_tr (VS_tr (VS_u (by unfold sP; omega)) (VS_u (by unfold sP; omega))) (VS_u (by unfold sP; omega))) (VS_u (by unfold sP; omega))
theorem p_mx {c : Nat} {V : Vt} {e s l : Nat} (h : Iv c V) (he : e < 2) (hs : s < 4) : pN V e s ≤ max (pN V e s) (pfr V e s + pC V e s l) ∧ max (pN V e s) (pfr V e s + pC V e s l) ≤ pW V e s := by
  have pl := (p_l h he hs).1
  have n := p_n h he hs
  have hc0 : pC V e s l ≤ pL V e s := by
    unfold pC
    omega
  omega
theorem Iv_st {c : Nat} {V : Vt} {e a s l : Nat} (h : Iv c V) (he : e < 2) (hs : s < 4) (ha : ¬ Sa V a) : Iv c (stV V e a s l) := by
  have n := p_n h he hs
  have mx := p_mx (l := l) h he hs
  have na1 : ¬ Sa (uV V 77 a s (nI (pfr V e s))) a := fun y => ha ((Sa_pk (TS77 hs) a).mp y)
  have na2 : ¬ Sa (uV (uV V 77 a s (nI (pfr V e s))) 78 a s (nI (pC V e s l))) a := fun y => na1 ((Sa_pk (TS78 hs) a).mp y)
  have i3 := Iv_pk (x := pE V e s l) (Iv_pk (x := nI (pC V e s l)) (Iv_pk (x := nI (pfr V e s)) h (TS77 hs) ha) (TS78 hs) na1) (TS79 hs) na2
  unfold stV
  refine Iv_60 i3 ?_ ?_
  · rw [uV_k _ _ _ _ _ (by omega), uV_k _ _ _ _ _ (by omega), uV_k _ _ _ _ _ (by omega), ← n.1]
    have h1 := n.2.2.2.1
    clear i3 na1 na2 ha h n
    grind [nI_T]
  · rw [uV_k _ _ _ _ _ (by omega), uV_k _ _ _ _ _ (by omega), uV_k _ _ _ _ _ (by omega), ← n.2.1]
    have h1 := n.2.2.2.1
    clear i3 na1 na2 ha h n
    grind [nI_T]
/-- what is in the packet is right; of the streams from s on there is no data yet -/
def G4 (V : Vt) (e a : Nat) : Prop := ∀ s, s < 4 → (0 ≤ V 77 a s ∧ V 77 a s ≤ 64) ∧ (0 ≤ V 78 a s ∧ V 78 a s ≤ 12) ∧ V 77 a s + V 78 a s ≤ V 60 (4 * e + s) 0 ∧ (V 79 a s = 0 ∨ V 79 a s = 1) ∧ (V 79 a s = 1 → V 62 (4 * e + s) 0 ≠ 0) ∧ (V 80 a s = 0 ∨ V 80 a s = 1) ∧ (-1 ≤ V 76 a s ∧ V 76 a s ≤ 64)
theorem G4_F3 {c : Nat} {V : Vt} {e a : Nat} (h : Iv c V) (he : e < 2) (hF : F3 V a) : G4 V e a := by
  intro s hs
  have g := hF s hs
  have io := h.1 _ (show 4 * e + s < 8 by omega)
  rw [g.1, g.2.1, g.2.2.1]
  exact ⟨by decide, by decide, io.1.1, .inl rfl, fun y => absurd y (by decide), g.2.2.2.1, g.2.2.2.2⟩
theorem G4_st {c : Nat} {V : Vt} {e a s l : Nat} (h : Iv c V) (he : e < 2) (hs : s < 4) (hG : G4 V e a) : G4 (stV V e a s l) e a := by
  have n := p_n h he hs
  have pf := p_f (V := V) (e := e) (s := s)
  have mx := p_mx (l := l) h he hs
  have hc0 : pC V e s l ≤ 12 := by
    unfold pC
    omega
  intro s' hs'
  have g := hG s' hs'
  have vs := VS_st (V := V) (e := e) (a := a) (s := s) (l := l)
  rw [vs 62 _ _ (by unfold sP; omega), vs 80 _ _ (by unfold sP; omega), vs 76 _ _ (by unfold sP; omega)]
  by_cases z : s' = s
  · subst z
    have e77 : stV V e a s' l 77 a s' = nI (pfr V e s') := by
      unfold stV
      rw [uV_k _ _ _ _ _ (by omega), uV_k _ _ _ _ _ (by omega), uV_k _ _ _ _ _ (by omega), uV_s]
    have e78 : stV V e a s' l 78 a s' = nI (pC V e s' l) := by
      unfold stV
      rw [uV_k _ _ _ _ _ (by omega), uV_k _ _ _ _ _ (by omega), uV_s]
    have e79 : stV V e a s' l 79 a s' = pE V e s' l := by
      unfold stV
      rw [uV_k _ _ _ _ _ (by omega), uV_s]
    have e60 : stV V e a s' l 60 (4 * e + s') 0 = nI (max (pN V e s') (pfr V e s' + pC V e s' l)) := by
      unfold stV
      rw [uV_s]
    rw [e77, e78, e79, e60]
    have h1 := n.2.2.2.1
    refine ⟨?_, ?_, ?_, pE_01 V e s' l, ?_, g.2.2.2.2.2.1, g.2.2.2.2.2.2⟩
    · clear g vs e77 e78 e79 e60 hG h n
      grind [nI_T]
    · clear g vs e77 e78 e79 e60 hG h n
      grind [nI_T]
    · clear g vs e77 e78 e79 e60 hG h n
      rw [nI_add]
      grind [nI_T]
    · intro y
      unfold pE at y
      split at y
      · rename_i q
        exact q.1
      · exact absurd y (by decide)
  · have u : ∀ k, stV V e a s l k a s' = V k a s' ∨ k = 60 := by
      intro k
      by_cases hk : k = 60
      · exact .inr hk
      · have nz : ∀ k', ¬ (k = k' ∧ a = a ∧ s' = s) := fun k' y => z y.2.2
        unfold stV
        rw [uV_k _ _ _ _ _ hk]
        unfold uV
        rw [if_neg (nz 79), if_neg (nz 78), if_neg (nz 77)]
        exact .inl rfl
    have e60 : stV V e a s l 60 (4 * e + s') 0 = V 60 (4 * e + s') 0 := by
      unfold stV
      rw [uV_a _ _ _ _ _ (show 4 * e + s' ≠ 4 * e + s by omega), uV_k _ _ _ _ _ (by omega), uV_k _ _ _ _ _ (by omega), uV_k _ _ _ _ _ (by omega)]
    rw [(u 77).resolve_right (by omega), (u 78).resolve_right (by omega), (u 79).resolve_right (by omega), e60]
    exact g
theorem s_st1 {m : Mm} {V : Vt} {w W : Nat → Nat} {c e s O q S a d : Nat} {L : List Nat} {x : Int32} (h : RC m V w W) (hI : Iv c V) (he : e < 2) (hs : s < 4) (hO : O = 22 + 30 * e) (hw : WC m q x (d :: L)) (hP : Pk m S V a) (hf : Fr V w q) (hS : ∀ a', Sa V a' → W a' ≠ S) (ha : ¬ Sa V a) (hL : L.length ≤ 37) (f : Nat) : ∃ m', b_Otf_putStreams_2 (f + 2) O q S (nI s) m = b_Otf_putStreams_2 f O q S (nI (s + 1)) m' ∧ FS s81 m m' ∧ ((qP V e s L.length ∧ RC m' (stV V e a s L.length) w W ∧ WC m' q x (d :: stL V e s L) ∧ Pk m' S (stV V e a s L.length) a) ∨ (¬ qP V e s L.length ∧ m' = m)) := by
  have hn : O + 1 + 1 + 3 * s = 24 + 30 * e + 3 * s := by omega
  have nx : ∀ M, b_Otf_putStreams_39 (f + 1) O q S (nI s) M = b_Otf_putStreams_2 f O q S (nI (s + 1)) M := by
    intro M
    rw [b_Otf_putStreams_39_eq]
    simp only [lt_eq]
    rw [nI_1]
  rw [b_Otf_putStreams_2_eq, if_neg (by clear h hI hw hP hf hS ha nx; grind [nI_T]), ab_ix_nI hs (by decide)]
  simp only [ob_s]
  rw [c63 h he hs hn]
  by_cases y : V 63 (4 * e + s) 0 = 0
  · rw [if_pos y, s_roomLeft]
    simp only [ob_s]
    obtain ⟨m1, z, r1, r2⟩ := s_choose (r := 38 - m.1 11 q 0) h hI he hs hO hP hS ha hL (by rw [hw.1]; rfl) y
    rw [r1]
    simp only [ob_s]
    rcases r2 with ⟨q1, q2, q3, q4, q5⟩ | ⟨q1, q2, q3⟩
    · have vs := VS_st (V := V) (e := e) (a := a) (s := s) (l := L.length)
      have hw1 : WC m1 q x (d :: L) := Wr_FS hw q5 (by unfold s60; omega) (by unfold s60; omega) (by unfold s60; omega)
      have t77 : m1.1 77 (S + 2) s = nI (pfr V e s) := by
        have := q4 77 s (TS77 hs)
        unfold stV at this
        rw [uV_k _ _ _ _ _ (by omega), uV_k _ _ _ _ _ (by omega), uV_k _ _ _ _ _ (by omega), uV_s] at this
        exact this
      have t78 : m1.1 78 (S + 3) s = nI (pC V e s L.length) := by
        have := q4 78 s (TS78 hs)
        unfold stV at this
        rw [uV_k _ _ _ _ _ (by omega), uV_k _ _ _ _ _ (by omega), uV_s] at this
        exact this
      have t79 : m1.1 79 (S + 4) s = pE V e s L.length := by
        have := q4 79 s (TS79 hs)
        unfold stV at this
        rw [uV_k _ _ _ _ _ (by omega), uV_s] at this
        exact this
      obtain ⟨m2, g1, g2, g3, g4⟩ := s_part q3 hI he hs hO (fun b => vs 66 _ _ (by unfold sP; omega)) (Fr_VS vs (by unfold sP; omega) hf) hw1 t77 t78 t79 (q_room q1)
      rw [if_neg (by rw [q2]; decide), g1]
      simp only [ob_s]
      refine ⟨m2, nx m2, FS_tr (FS_le q5 (fun r hr => by unfold s60 at hr; unfold s81; omega)) (FS_le g4 rw81), .inl ⟨q1, g2, g3, Pk_FS q4 g4 (fun r hr => by unfold rw3 at hr; omega)⟩⟩
    · subst q3
      rw [if_pos q2, nx]
      exact ⟨m1, rfl, FS_rfl _ _, .inr ⟨q1, rfl⟩⟩
  · rw [if_neg y, nx]
    exact ⟨m, rfl, FS_rfl _ _, .inr ⟨fun z => y z.1, rfl⟩⟩
theorem s3_82 (r : Nat) (h : s3 r) : s82 r := by
  unfold s3 at h
  unfold s82
  omega
theorem RM_s3 {m m' : Mm} {U : Vt} (h : RM m U) (hF : FS s3 m m') : RM m' U := by
  obtain ⟨h1, h2, h3, h4, h5⟩ := h
  have g : ∀ r p j, r ≠ 130 → r ≠ 131 → r ≠ 132 → m'.1 r p j = m.1 r p j := fun r p j a b c => FS_g hF r p j (by unfold s3; omega)
  refine ⟨fun k a b t z => ?_, ?_, fun e he => ?_, fun a ha hl => ?_, fun a ha => ?_⟩
  · have := mr_in k (Ts_k t).1
    rw [g _ _ _ (by omega) (by omega) (by omega)]
    exact h1 k a b t z
  · rw [g _ _ _ (by omega) (by omega) (by omega), g _ _ _ (by omega) (by omega) (by omega), g _ _ _ (by omega) (by omega) (by omega)]
    exact h2
  · rw [g _ _ _ (by omega) (by omega) (by omega), g _ _ _ (by omega) (by omega) (by omega), g _ _ _ (by omega) (by omega) (by omega), g _ _ _ (by omega) (by omega) (by omega)]
    exact h3 e he
  · rw [g _ _ _ (by omega) (by omega) (by omega), g _ _ _ (by omega) (by omega) (by omega)]
    refine ⟨(h4 a ha hl).1, (h4 a ha hl).2.1, fun b hb hc => ?_⟩
    rw [g _ _ _ (by omega) (by omega) (by omega)]
    exact (h4 a ha hl).2.2 b hb hc
  · rw [g _ _ _ (by omega) (by omega) (by omega), g _ _ _ (by omega) (by omega) (by omega), g _ _ _ (by omega) (by omega) (by omega)]
    refine ⟨(h5 a ha).1, (h5 a ha).2.1, (h5 a ha).2.2.1, fun s hs => ?_⟩
    rw [g _ _ _ (by omega) (by omega) (by omega)]
    exact (h5 a ha).2.2.2 s hs
theorem t_st1 {m : Mm} {V : Vt} {c e s a : Nat} {L : List Nat} {v3 : Int32} (h : RM m (PV V e a)) (hI : Iv c V) (he : e < 2) (hs : s < 4) (ha5 : a < 1120) (hw : ML m L) (hP : PM m V a) (ha : ¬ Sa V a) (hF : V 77 a s = 0 ∧ V 78 a s = 0 ∧ V 79 a s = 0) (h80 : V 80 a s = 0 ∨ V 80 a s = 1) (h76 : -1 ≤ V 76 a s ∧ V 76 a s ≤ 64) (hL : L.length ≤ 37) (f : Nat) : ∃ m' v', b_M_send_221 (f + 2) 98 (nI e) (nI a) v3 (nI (4 * e + s)) m = b_M_send_221 f 98 (nI e) (nI a) v' (nI (4 * e + (s + 1))) m' ∧ FS s82 m m' ∧ ((qP V e s L.length ∧ v' = 1 ∧ RM m' (PV (stV V e a s L.length) e a) ∧ ML m' (stL V e s L) ∧ PM m' (stV V e a s L.length) a) ∨ (¬ qP V e s L.length ∧ v' = v3 ∧ RM m' (PV V e a) ∧ ML m' L ∧ PM m' V a)) := by
  have e4 : (4 : Int32) * nI e + 4 = nI (4 * e + 4) := nI4a (b := 4)
  have nx : ∀ v M, b_M_send_251 (f + 1) 98 (nI e) (nI a) v (nI (4 * e + s)) M = b_M_send_221 f 98 (nI e) (nI a) v (nI (4 * e + (s + 1))) M := by
    intro v M
    rw [b_M_send_251_eq]
    simp only [lt_eq]
    rw [nI_1]
    rfl
  obtain ⟨m1, y, r1, r2, r3, r4⟩ := t_plans h (UV_PV (e := e) hs hF.2) hI he hs hw hL
  have h1 := RM_s3 h r2
  have w1 := ML_FS hw r2 (by unfold s3; omega) (by unfold s3; omega)
  have p1 := PM_FS hP r2 (by unfold s3; omega) (by unfold s3; omega)
  rw [b_M_send_221_eq, e4, if_neg (by clear h hI hw hP ha hF nx h80 h76 r1 r2 r3 r4 h1 w1 p1; grind [nI_T]), r1]
  simp only [ob_s]
  by_cases z : qP V e s L.length
  · obtain ⟨g1, g2, g3, g4⟩ := r3 z
    obtain ⟨m2, i1, i2, i3, i4, i5⟩ := t_putS h1 hI he hs ha5 w1 p1 ha hF h80 h76 (q_room z) g2 g3 g4
    rw [if_neg (by rw [g1]; decide), i1]
    simp only [ob_s]
    exact ⟨m2, 1, nx 1 m2, FS_tr (FS_le r2 s3_82) i5, .inl ⟨z, rfl, i2, i3, i4⟩⟩
  · rw [if_pos (r4 z)]
    exact ⟨m1, v3, nx v3 m1, FS_le r2 s3_82, .inr ⟨z, rfl, h1, w1, p1⟩⟩
theorem BL_bt {c : Nat} {V : Vt} {e s f0 : Nat} (hI : Iv c V) (he : e < 2) (hs : s < 4) : ∀ n, f0 + n ≤ 64 → BL (bt V (4 * e + s) f0 n)
  | 0, _ => BL_0
  | n + 1, h => by
    have hb := (hI.1 _ (show 4 * e + s < 8 by omega)).2.2.2.2 (f0 + n) (by omega)
    have := nn_le (N := 255) hb.1 hb.2 (by decide)
    unfold bt
    exact BL_a (BL_bt hI he hs n (by omega)) (BL_1 (by omega))
theorem BL_st {c : Nat} {V : Vt} {e s : Nat} {L : List Nat} (hI : Iv c V) (he : e < 2) (hs : s < 4) (h : BL L) : BL (stL V e s L) := by
  have pf := p_f (V := V) (e := e) (s := s)
  have n := p_n hI he hs
  have pl := (p_l hI he hs).1
  have hc0 : pC V e s L.length ≤ pL V e s ∧ pC V e s L.length ≤ 12 := by
    unfold pC
    omega
  have pe2 : nn (pE V e s L.length) < 2 := by
    rcases pE_01 V e s L.length with z | z <;> (rw [z]; decide)
  unfold stL stH
  exact BL_a (BL_a h (BL_a (BL_1 (by omega)) (BL_a (BL_1 (by omega)) (BL_a (BL_nb (by omega)) (BL_1 (by omega)))))) (BL_bt hI he hs _ (by omega))
theorem st_loop {c e O a q S d : Nat} {x : Int32} {w W : Nat → Nat} (he : e < 2) (hO : O = 22 + 30 * e) (ha5 : a < 1120) : ∀ (j s f g : Nat) (V : Vt) (L : List Nat) (m mm : Mm) (v3 : Int32), s + j = 4 → 2 * j < f → SP c e a q S d x w W m mm V L → (∀ s', s ≤ s' → s' < 4 → V 77 a s' = 0 ∧ V 78 a s' = 0 ∧ V 79 a s' = 0) → G4 V e a →
    ∃ m' mm' V' L' v', b_Otf_putStreams_2 f O q S (nI s) m = some (.inl (none, m')) ∧ b_M_send_221 (g + 2 * j) 98 (nI e) (nI a) v3 (nI (4 * e + s)) mm = b_M_send_221 g 98 (nI e) (nI a) v' (nI (4 * e + 4)) mm' ∧ SP c e a q S d x w W m' mm' V' L' ∧ G4 V' e a ∧ VS sP V V' ∧ FS s81 m m' ∧ FS s82 mm mm' ∧ L.length ≤ L'.length ∧ (L.length < L'.length → v' = 1) ∧ (L.length = L'.length → v' = v3) ∧ ((∃ s', s ≤ s' ∧ s' < 4 ∧ qP V e s' L.length) → L.length < L'.length) ∧ ((∀ s', s ≤ s' → s' < 4 → ¬ qP V e s' L.length) → V' = V ∧ L' = L ∧ m' = m) ∧ (BL L → BL L') := by
  intro j
  induction j with
  | zero =>
    intro s f g V L m mm v3 hj hf h hz hG
    obtain rfl : s = 4 := by omega
    obtain ⟨f, rfl⟩ : ∃ g, f = g + 1 := ⟨f - 1, by omega⟩
    refine ⟨m, mm, V, L, v3, ?_, rfl, h, hG, VS_rfl _ _, FS_rfl _ _, FS_rfl _ _, Nat.le_refl _, fun y => absurd y (Nat.lt_irrefl _), fun _ => rfl, fun y => ?_, fun _ => ⟨rfl, rfl, rfl⟩, id⟩
    · rw [b_Otf_putStreams_2_eq, if_pos (by decide)]
    · obtain ⟨s', y1, y2, _⟩ := y
      omega
  | succ j ih =>
    intro s f g V L m mm v3 hj hf h hz hG
    obtain ⟨f, rfl⟩ : ∃ g, f = g + 2 := ⟨f - 2, by omega⟩
    have hs : s < 4 := by omega
    obtain ⟨⟨h1, h2, h3⟩, ⟨h4, h5, h6⟩, h7, h8, h9, h10, h11⟩ := h
    have z0 := hz s (Nat.le_refl _) hs
    have gs := hG s hs
    obtain ⟨m1, a1, a2, a3⟩ := s_st1 h1 h7 he hs hO h2 h3 h8 h9 h10 h11 f
    obtain ⟨mm1, v1, b1, b2, b3⟩ := t_st1 (v3 := v3) h4 h7 he hs ha5 h5 h6 h10 z0 gs.2.2.2.2.2.1 gs.2.2.2.2.2.2 h11 (g + 2 * j)
    by_cases y : qP V e s L.length
    · have a4 := a3.resolve_right (fun q => q.1 y)
      have b4 := b3.resolve_right (fun q => q.1 y)
      have vs := VS_st (V := V) (e := e) (a := a) (s := s) (l := L.length)
      have sa := Sa_VS vs (show ¬ sP 21 by unfold sP; omega)
      have ln : (stL V e s L).length = L.length + (3 + nw (pfr V e s)) + pC V e s L.length := stL_l
      have rm := q_room y
      obtain ⟨m', mm', V', L', v', r1, r2, r3, r4, r5, r6, r7, r8, r9, r10, r11, r12, r13⟩ := ih (s + 1) f g (stV V e a s L.length) (stL V e s L) m1 mm1 v1 (by omega) (by omega) ⟨a4.2, b4.2.2, Iv_st h7 he hs h10, Fr_VS vs (by unfold sP; omega) h8, fun a' ha' => h9 a' ((sa a').mp ha'), fun q => h10 ((sa a).mp q), by omega⟩ (fun s' q1 q2 => by
        have nz : ∀ k k' : Nat, ¬ (k = k' ∧ a = a ∧ s' = s) := fun k k' p => by have := p.2.2; omega
        have u : ∀ k, k ≠ 60 → stV V e a s L.length k a s' = V k a s' := by
          intro k hk
          unfold stV
          rw [uV_k _ _ _ _ _ hk]
          unfold uV
          rw [if_neg (nz k 79), if_neg (nz k 78), if_neg (nz k 77)]
        rw [u 77 (by omega), u 78 (by omega), u 79 (by omega)]
        exact hz s' (by omega) q2) (G4_st h7 he hs hG)
      have gr : L.length < L'.length := by omega
      refine ⟨m', mm', V', L', v', by rw [a1]; exact r1, by rw [show g + 2 * (j + 1) = g + 2 * j + 2 by omega, b1]; exact r2, r3, r4, VS_tr vs r5, FS_tr a2 r6, FS_tr b2 r7, by omega, fun _ => ?_, fun q => by omega, fun _ => gr, fun q => absurd y (q s (Nat.le_refl _) hs), fun q => r13 (BL_st h7 he hs q)⟩
      by_cases q : (stL V e s L).length < L'.length
      · exact r9 q
      · rw [r10 (by omega)]
        exact b4.2.1
    · have a4 := (a3.resolve_left (fun q => y q.1)).2
      have b4 := b3.resolve_left (fun q => y q.1)
      subst a4
      obtain ⟨m', mm', V', L', v', r1, r2, r3, r4, r5, r6, r7, r8, r9, r10, r11, r12, r13⟩ := ih (s + 1) f g V L m1 mm1 v1 (by omega) (by omega) ⟨⟨h1, h2, h3⟩, b4.2.2, h7, h8, h9, h10, h11⟩ (fun s' q1 q2 => hz s' (by omega) q2) hG
      refine ⟨m', mm', V', L', v', by rw [a1]; exact r1, by rw [show g + 2 * (j + 1) = g + 2 * j + 2 by omega, b1]; exact r2, r3, r4, r5, r6, FS_tr b2 r7, r8, r9, fun q => (r10 q).trans b4.2.1, fun q => ?_, fun q => r12 (fun s' q1 q2 => q s' (by omega) q2), r13⟩
      obtain ⟨s', q1, q2, q3⟩ := q
      refine r11 ⟨s', ?_, q2, q3⟩
      by_cases e0 : s' = s
      · rw [e0] at q3
        exact absurd q3 y
      · omega
/-- the model looks ahead -/
theorem t_look {V : Vt} {c e a : Nat} {L : List Nat} {v3 : Int32} (hI : Iv c V) (he : e < 2) (hL : L.length ≤ 37) (hF : ∀ s, s < 4 → V 78 a s = 0 ∧ V 79 a s = 0) : ∀ (j s f : Nat) (m : Mm) (v4 : Int32), s + j = 4 → (v4 = 0 ∨ v4 = 1) → RM m (PV V e a) → ML m L → ∃ m' v' g, f ≤ g ∧ b_M_send_145 (f + 3 * j) 98 (nI e) (nI a) v3 v4 (nI (4 * e + s)) m = b_M_send_145 g 98 (nI e) (nI a) v3 v' (nI (4 * e + 4)) m' ∧ RM m' (PV V e a) ∧ ML m' L ∧ FS s3 m m' ∧ ((v' = 1 ∧ (v4 = 1 ∨ ∃ s', s ≤ s' ∧ s' < 4 ∧ qP V e s' L.length)) ∨ (v' = 0 ∧ v4 = 0 ∧ ∀ s', s ≤ s' → s' < 4 → ¬ qP V e s' L.length)) := by
  have e4 : (4 : Int32) * nI e + 4 = nI (4 * e + 4) := nI4a (b := 4)
  intro j
  induction j with
  | zero =>
    intro s f m v4 hj h4 h hw
    obtain rfl : s = 4 := by omega
    refine ⟨m, v4, f, Nat.le_refl _, rfl, h, hw, FS_rfl _ _, ?_⟩
    rcases h4 with q | q
    · exact .inr ⟨q, q, fun s' _ _ => by omega⟩
    · exact .inl ⟨q, .inl q⟩
  | succ j ih =>
    intro s f m v4 hj h4 h hw
    have hs : s < 4 := by omega
    have nx : ∀ g u M, b_M_send_175 (g + 1) 98 (nI e) (nI a) v3 (nI (4 * e + s)) u M = b_M_send_145 g 98 (nI e) (nI a) v3 u (nI (4 * e + (s + 1))) M := by
      intro g u M
      rw [b_M_send_175_eq]
      simp only [lt_eq]
      rw [nI_1]
      rfl
    rw [show f + 3 * (j + 1) = (f + 3 * j) + 1 + 1 + 1 by omega, b_M_send_145_eq, e4, if_neg (by clear ih h hI hw hF nx; grind [nI_T])]
    have one : ∀ M, RM M (PV V e a) → ML M L → FS s3 m M → (v4 = 1 ∨ qP V e s L.length) → ∃ m' v' g, f ≤ g ∧ b_M_send_170 ((f + 3 * j) + 1 + 1) 98 (nI e) (nI a) v3 (nI (4 * e + s)) M = b_M_send_145 g 98 (nI e) (nI a) v3 v' (nI (4 * e + 4)) m' ∧ RM m' (PV V e a) ∧ ML m' L ∧ FS s3 m m' ∧ ((v' = 1 ∧ (v4 = 1 ∨ ∃ s', s ≤ s' ∧ s' < 4 ∧ qP V e s' L.length)) ∨ (v' = 0 ∧ v4 = 0 ∧ ∀ s', s ≤ s' → s' < 4 → ¬ qP V e s' L.length)) := by
      intro M hM wM fM hq
      obtain ⟨m', v', g, r1, r2, r3, r4, r5, r6⟩ := ih (s + 1) f M 1 (by omega) (.inr rfl) hM wM
      refine ⟨m', v', g, r1, ?_, r3, r4, FS_tr fM r5, ?_⟩
      · rw [b_M_send_170_eq, nx]
        exact r2
      · rcases r6 with q | q
        · exact .inl ⟨q.1, hq.elim .inl (fun p => .inr ⟨s, Nat.le_refl _, hs, p⟩)⟩
        · exact absurd q.2.1 (by decide)
    rcases h4 with h40 | h40
    · obtain ⟨m1, y, r1, r2, r3, r4⟩ := t_plans h (UV_PV (e := e) hs (hF s hs)) hI he hs hw hL
      have h1 := RM_s3 h r2
      have w1 := ML_FS hw r2 (by unfold s3; omega) (by unfold s3; omega)
      rw [if_pos h40, r1]
      simp only [ob_s]
      by_cases z : qP V e s L.length
      · rw [if_neg (by rw [(r3 z).1]; decide)]
        exact one m1 h1 w1 r2 (.inr z)
      · rw [if_pos (r4 z), nx]
        obtain ⟨m', v', g, i1, i2, i3, i4, i5, i6⟩ := ih (s + 1) (f + 1) m1 0 (by omega) (.inl rfl) h1 w1
        rw [show f + 1 + 3 * j = f + 3 * j + 1 by omega] at i2
        refine ⟨m', v', g, by omega, i2, i3, i4, FS_tr r2 i5, ?_⟩
        rcases i6 with q | q
        · refine .inl ⟨q.1, .inr ?_⟩
          rcases q.2 with p | ⟨s', p1, p2, p3⟩
          · exact absurd p (by decide)
          · exact ⟨s', by omega, p2, p3⟩
        · refine .inr ⟨q.1, h40, fun s' p1 p2 => ?_⟩
          by_cases e0 : s' = s
          · rw [e0]
            exact z
          · exact q.2.2 s' (by omega) p2
    · rw [if_neg (by rw [h40]; decide)]
      exact one m h hw (FS_rfl _ _) (.inl h40)
end
