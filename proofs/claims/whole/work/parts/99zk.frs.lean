section
/-! All frames of a packet. -/
def rP (k : Nat) : Prop := lP k ∨ k = 80
def pP (k : Nat) : Prop := rP k ∨ sP k ∨ k = 69
theorem VS_le {P Q : Nat → Prop} {V V' : Vt} (h : VS P V V') (hq : ∀ k, P k → Q k) : VS Q V V' := fun k a b y => h k a b (fun z => y (hq k z))
theorem small {c e I O a q S d : Nat} {x : Int32} {w W : Nat → Nat} {V : Vt} {L : List Nat} {m mm : Mm} (he : e < 2) (hI : I = 12 + 30 * e) (hO : O = 22 + 30 * e) (ha5 : a < 1120) (h : SB c a q S d x w W m mm V L) (h76 : ∀ s, s < 4 → V 76 a s = -1) (hF : F2 V a) :
    ∃ m1 m2 mm' V' L', r_Int_putLimits I q S m = some m1 ∧ r_Otf_putResets O q S m1 = some m2 ∧ r_M_putSmall 98 (nI e) (nI a) mm = some (if L.length < L'.length then 1 else 0, mm') ∧ SP c e a q S d x w W m2 mm' V' L' ∧ F3 V' a ∧ VS rP V V' ∧ FS s81 m m2 ∧ FS s82 mm mm' ∧ L.length ≤ L'.length ∧ (L'.length = L.length → PV V' e a = V') ∧ (BL L → BL L') ∧ (-1 ≤ V 70 a 0 ∧ V 70 a 0 ≤ 256 → -1 ≤ V' 70 a 0 ∧ V' 70 a 0 ≤ 256) := by
  obtain ⟨m1, mm1, V1, L1, a1, a2, a3, a4, a5, a6, a7, a8, a9, a10⟩ := lims he hI ha5 h h76 hF
  have f3 : F3 V1 a := fun s hs => by
    have g := a4 s hs
    exact ⟨g.1, g.2.1, g.2.2.1, .inl g.2.2.2.1, g.2.2.2.2⟩
  obtain ⟨m2, mm2, V2, L2, g', b0, b1, b2, b3, b4, b5, b6, b7, b8, b9, b10⟩ := rs_loop (c := c) (x := x) (v3 := nI L.length) (w := w) (W := W) (q := q) (S := S) (d := d) he hO ha5 4 0 49999 49989 V1 L1 m1 mm1 (by omega) (by omega) (by omega) (SB_SP a3 a4) (fun s' _ hs' => (a4 s' hs').2.2.2.1) f3
  have l37 : L2.length ≤ 37 := b3.2.2.2.2.2.2
  have k125 : mm2.1 125 98 0 = nI L2.length := b3.2.1.2.1.1
  refine ⟨m1, m2, mm2, V2, L2, a1, ?_, ?_, b3, b4, VS_tr (VS_le a5 (fun k hk => .inl hk)) (VS_le b5 (fun k hk => .inr hk)), FS_tr a6 b6, FS_tr a7 b7, by omega, fun q => by rw [b9 (by omega)]; exact PV_F2 a4, fun q => b10 (a9 q), fun q => by rw [b5 70 _ _ (by omega)]; exact a10 q⟩
  · rw [r_Otf_putResets_eq, b_Otf_putResets_0_eq]
    exact congrArg ab_rV b1
  · have e4 : (4 : Int32) * nI e + 4 = nI (4 * e + 4) := nI4a (b := 4)
    obtain ⟨g', rfl⟩ : ∃ k, g' = k + 1 := ⟨g' - 1, by omega⟩
    rw [r_M_putSmall_eq, a2, show nI (4 * e) = nI (4 * e + 0) from rfl, b2, b_M_putSmall_214_eq, e4, if_pos (Int32.le_refl _), k125, bo_0, bo_1]
    simp only [ob_s]
    by_cases y : L.length < L2.length
    · rw [if_neg (by clear a1 a2 a3 a4 a5 a6 a7 b1 b2 b3 b4 b5 b6 b7 k125 f3 h h76 hF; grind [nI_T]), if_pos y, rI_some]
    · rw [if_pos (by clear a1 a2 a3 a4 a5 a6 a7 b1 b2 b3 b4 b5 b6 b7 k125 f3 h h76 hF; grind [nI_T]), if_neg y, rI_some]
theorem TS69 : TS 69 0 := .inl ⟨.inr (.inl rfl), rfl⟩
theorem PV_69 {V : Vt} {e a : Nat} {x : Int32} : PV (uV V 69 a 0 x) e a = uV (PV V e a) 69 a 0 x := by
  funext k a' b
  have u : ∀ k' a' b', k' ≠ 69 → uV V 69 a 0 x k' a' b' = V k' a' b' := fun k' a' b' q => uV_k _ _ _ _ _ q
  by_cases k9 : k = 69
  · subst k9
    rw [PV_o (by omega)]
    unfold uV
    rw [PV_o (by omega)]
  · rw [uV_k _ _ _ _ _ k9, PV_d, PV_d, u 77 _ _ (by omega), u 78 _ _ (by omega), u 79 _ _ (by omega), u 80 _ _ (by omega), u k _ _ k9]
    unfold mk1
    rw [u 67 _ _ (by omega), u 64 _ _ (by omega), u 65 _ _ (by omega), u k _ _ k9]
theorem SP_69 {c e a q S d : Nat} {x v : Int32} {w W : Nat → Nat} {m mm : Mm} {V : Vt} {L : List Nat} (h : SP c e a q S d x w W m mm V L) : SP c e a q S d x w W (ab_uI m 69 S 0 v) mm (uV V 69 a 0 v) L := by
  obtain ⟨⟨h1, h2, h3⟩, ⟨h4, h5, h6⟩, h7, h8, h9, h10, h11⟩ := h
  have vs : VS (fun k => k = 69) V (uV V 69 a 0 v) := VS_u rfl
  have sa := Sa_VS vs (show ¬ (21 = 69) by omega)
  refine ⟨⟨RC_pk h1 TS69 rfl h10 h9, ?_, Pk_pk h3 TS69 rfl⟩, ⟨?_, h5, ?_⟩, Iv_pk h7 TS69 h10, Fr_VS vs (by omega) h8, fun a' ha' => h9 a' ((sa a').mp ha'), fun y => h10 ((sa a).mp y), h11⟩
  · exact Wr_FS (S := fun r => r = 69) h2 (FS_uI rfl) (by omega) (by omega) (by omega)
  · rw [PV_69]
    exact RM_na h4 TS69 (fun y => h10 (by unfold Sa at *; rw [PV_o (by omega)] at y; exact y))
  · refine ⟨by rw [uV_k _ _ _ _ _ (by omega)]; exact h6.1, fun s hs => ?_⟩
    rw [uV_k _ _ _ _ _ (by omega), uV_k _ _ _ _ _ (by omega), uV_k _ _ _ _ _ (by omega), uV_k _ _ _ _ _ (by omega), uV_k _ _ _ _ _ (by omega)]
    exact h6.2 s hs
theorem s_fr69 {m : Mm} {q S n : Nat} {x : Int32} {L' : List Nat} {d : Nat} (hw : WC m q x (d :: L')) (hn : n ≤ 40) (hL : L'.length ≤ 37) (f : Nat) : b_End_putFrames_69 (f + 2) q S (nI (n + 1)) m = some (.inl (none, ab_uI m 69 S 0 (if n < L'.length then 1 else 0))) := by
  have k11 : m.1 11 q 0 = nI (L'.length + 1) := hw.1
  rw [b_End_putFrames_69_eq, k11]
  by_cases y : n < L'.length
  · rw [if_neg (by clear hw k11; grind [nI_T]), if_pos y, b_End_putFrames_83_eq, bo_1]
    simp only [ob_s, lt_eq]
  · rw [if_pos (by clear hw k11; grind [nI_T]), if_neg y, b_End_putFrames_83_eq, bo_0]
    simp only [ob_s, lt_eq]
theorem fr17 {c e E a q S d K F : Nat} {x : Int32} {w W : Nat → Nat} {V : Vt} {L : List Nat} {m mm : Mm} (he : e < 2) (hE : E = 6 + 30 * e) (ha5 : a < 1120) (h : SB c a q S d x w W m mm V L) (h76 : ∀ s, s < 4 → V 76 a s = -1) (hF : F2 V a) (hL : L.length ≤ 36) :
    ∃ m' mm' V' L' g', K ≤ g' ∧ b_End_putFrames_17 (F + 3) E q S m = some (.inl (none, m')) ∧ b_M_send_130 (K + 30) 98 (nI e) (nI a) mm = b_M_send_257 g' 98 (nI e) (nI a) (if L.length < L'.length then 1 else 0) mm' ∧ SP c e a q S d x w W m' mm' V' L' ∧ G4 V' e a ∧ V' 69 a 0 = (if L.length < L'.length then 1 else 0) ∧ VS pP V V' ∧ FS s81 m m' ∧ FS s82 mm mm' ∧ L.length ≤ L'.length ∧ (L'.length = L.length → PV V' e a = V') ∧ (BL L → BL L') ∧ (-1 ≤ V 70 a 0 ∧ V 70 a 0 ≤ 256 → -1 ≤ V' 70 a 0 ∧ V' 70 a 0 ≤ 256) := by
  have e4 : (4 : Int32) * nI e + 4 = nI (4 * e + 4) := nI4a (b := 4)
  have x4 : (4 : Int32) * nI e = nI (4 * e) := nI4a (b := 0) ▸ (Int32.add_zero _).symm
  have k11 : m.1 11 q 0 = nI (L.length + 1) := h.1.2.1.1
  obtain ⟨m1, m2, mm1, V2, L2, a1, a2, a3, a4, a5, a6, a7, a8, a9, a10, a11, a12⟩ := small (I := E + 6) (O := E + 16) he (by omega) (by omega) ha5 h h76 hF
  obtain ⟨b1, ⟨b2, b3, b4⟩, b5, b6, b7, b8, b9⟩ := a4
  obtain ⟨mm2, v4, g, c0, c1, c2, c3, c4, c5⟩ := t_look (v3 := if L.length < L2.length then 1 else 0) (a := a) b5 he b9 (fun s hs => ⟨(a5 s hs).2.1, (a5 s hs).2.2.1⟩) 4 0 (K + 17) mm1 0 (by omega) (.inl rfl) b2 b3
  have sp2 : SP c e a q S d x w W m2 mm2 V2 L2 := ⟨b1, ⟨c2, c3, PM_FS b4 c4 (by unfold s3; omega) (by unfold s3; omega)⟩, b5, b6, b7, b8, b9⟩
  have f2 : FS s82 mm mm2 := FS_tr a8 (FS_le c4 s3_82)
  have z3 : ∀ s', 0 ≤ s' → s' < 4 → V2 77 a s' = 0 ∧ V2 78 a s' = 0 ∧ V2 79 a s' = 0 := fun s' _ hs' => ⟨(a5 s' hs').1, (a5 s' hs').2.1, (a5 s' hs').2.2.1⟩
  have g4 := G4_F3 b5 he a5
  obtain ⟨g, rfl⟩ : ∃ g', g = g' + 12 := ⟨g - 12, by omega⟩
  obtain ⟨m3, mm3, V3, L3, v', d1, d2, d3, d4, d5, d6, d7, d8, d9, d10, d11, d12, d13⟩ := st_loop (c := c) (x := x) (w := w) (W := W) (q := q) (S := S) (d := d) (O := E + 16) he (by omega) ha5 4 0 49999 (g + 2) V2 L2 m2 mm2 (if L.length < L2.length then 1 else 0) (by omega) (by omega) sp2 z3 g4
  have p27 : V2 27 e 0 = V 27 e 0 := a6 27 _ _ (by unfold rP lP; omega)
  have pst : r_Otf_putStreams (E + 16) q S m2 = some m3 := by
    rw [r_Otf_putStreams_eq, b_Otf_putStreams_0_eq]
    exact congrArg ab_rV d1
  have cls : b_End_putFrames_17 (F + 3) E q S m = if V 27 e 0 = 0 then b_End_putFrames_69 (F + 2) q S (nI (L.length + 1)) m3 else if L3.length = L.length then (r_Row_put q 0 m3).bind fun m5 => b_End_putFrames_69 (F + 2) q S (nI (L.length + 1)) m5 else b_End_putFrames_69 (F + 2) q S (nI (L.length + 1)) m3 := by
    have k27 : m3.1 27 E 0 = V 27 e 0 := by
      rw [c27 d3.1.1 he hE, d5 27 _ _ (by unfold sP; omega), p27]
    have k11' : m3.1 11 q 0 = nI (L3.length + 1) := d3.1.2.1.1
    have l3 : L3.length ≤ 37 := d3.2.2.2.2.2.2
    have ci : (nI (L3.length + 1) = nI (L.length + 1)) ↔ L3.length = L.length := by
      clear h h76 hF a1 a2 a3 a5 a6 a7 a8 b1 b2 b3 b4 b5 b6 b7 b8 c1 c2 c3 c4 c5 sp2 f2 z3 g4 d1 d2 d3 d4 d5 d6 d7 d9 d10 d11 d12 p27 pst k27 k11 k11'
      grind [nI_T]
    rw [b_End_putFrames_17_eq, k11, a1]
    simp only [ob_s, lt_eq]
    rw [a2]
    simp only [ob_s]
    rw [pst]
    simp only [ob_s]
    rw [k27, k11']
    by_cases y : V 27 e 0 = 0
    · rw [if_pos y, if_pos y]
    · rw [if_neg y, if_neg y]
      by_cases z : L3.length = L.length
      · rw [if_pos (ci.mpr z), if_pos z]
      · rw [if_neg (fun q => z (ci.mp q)), if_neg z]
  have mdl : b_M_send_130 (K + 30) 98 (nI e) (nI a) mm = b_M_send_145 (g + 11 + 1) 98 (nI e) (nI a) (if L.length < L2.length then 1 else 0) v4 (nI (4 * e + 4)) mm2 := by
    rw [show K + 30 = K + 29 + 1 from rfl, b_M_send_130_eq, a3]
    simp only [ob_s, lt_eq]
    rw [x4]
    exact c1
  have k160 : mm2.1 160 (98 + 28) e = V 27 e 0 := by
    rw [n27 c2 he (p := 98 + 28) rfl rfl, PV_o (by omega), p27]
  have run : ∀ v M, b_M_send_216 (g + 11) 98 (nI e) (nI a) v M = b_M_send_221 (g + 2 + 2 * 4) 98 (nI e) (nI a) v (nI (4 * e + 0)) M := by
    intro v M
    rw [show g + 11 = g + 10 + 1 from rfl, b_M_send_216_eq, x4]
    simp only [lt_eq]
    rfl
  have end1 : ∀ v M, b_M_send_221 (g + 2) 98 (nI e) (nI a) v (nI (4 * e + 4)) M = b_M_send_257 (g + 1) 98 (nI e) (nI a) v M := by
    intro v M
    rw [show g + 2 = g + 1 + 1 from rfl, b_M_send_221_eq, e4, if_pos (Int32.le_refl _)]
  have hv : v' = if L.length < L3.length then 1 else 0 := by
    by_cases y : L2.length < L3.length
    · rw [d9 y, if_pos (by omega)]
    · rw [d10 (by omega)]
      have : L2.length = L3.length := by omega
      rw [this]
  have vs3 : VS pP V V3 := VS_tr (VS_le a6 (fun k hk => .inl hk)) (VS_le d5 (fun k hk => .inr (.inl hk)))
  have keep : ∀ (M : Mm), b_M_send_145 (g + 11 + 1) 98 (nI e) (nI a) (if L.length < L2.length then 1 else 0) v4 (nI (4 * e + 4)) mm2 = b_M_send_216 (g + 11) 98 (nI e) (nI a) (if L.length < L2.length then 1 else 0) mm2 → b_End_putFrames_17 (F + 3) E q S m = b_End_putFrames_69 (F + 2) q S (nI (L.length + 1)) m3 → ∃ m' mm' V' L' g', K ≤ g' ∧ b_End_putFrames_17 (F + 3) E q S m = some (.inl (none, m')) ∧ b_M_send_130 (K + 30) 98 (nI e) (nI a) mm = b_M_send_257 g' 98 (nI e) (nI a) (if L.length < L'.length then 1 else 0) mm' ∧ SP c e a q S d x w W m' mm' V' L' ∧ G4 V' e a ∧ V' 69 a 0 = (if L.length < L'.length then 1 else 0) ∧ VS pP V V' ∧ FS s81 m m' ∧ FS s82 mm mm' ∧ L.length ≤ L'.length ∧ (L'.length = L.length → PV V' e a = V') ∧ (BL L → BL L') ∧ (-1 ≤ V 70 a 0 ∧ V 70 a 0 ≤ 256 → -1 ≤ V' 70 a 0 ∧ V' 70 a 0 ≤ 256) := by
    intro _ t1 t2
    refine ⟨_, mm3, _, L3, g + 1, by omega, by rw [t2, s_fr69 d3.1.2.1 (by omega) d3.2.2.2.2.2.2], ?_, SP_69 (v := if L.length < L3.length then 1 else 0) d3, ?_, uV_s _ _ _ _ _, VS_tr vs3 (VS_u (.inr (.inr rfl))), FS_tr (FS_tr a7 d6) (FS_uI (by unfold s81; omega)), FS_tr f2 d7, by omega, fun q => ?_, fun q => d13 (a11 q), fun q => by rw [uV_k _ _ _ _ _ (by omega), d5 70 _ _ (by unfold sP; omega)]; exact a12 q⟩
    · rw [mdl, t1, run, d2, end1, hv]
    · intro s hs
      rw [uV_k _ _ _ _ _ (by omega), uV_k _ _ _ _ _ (by omega), uV_k _ _ _ _ _ (by omega), uV_k _ _ _ _ _ (by omega), uV_k _ _ _ _ _ (by omega), uV_k _ _ _ _ _ (by omega), uV_k _ _ _ _ _ (by omega)]
      exact d4 s hs
    · obtain ⟨r1, r2, r3⟩ := d12 (fun s' u1 u2 u3 => by have := d11 ⟨s', u1, u2, u3⟩; omega)
      rw [PV_69, r1, a10 (by omega)]
  by_cases y : V 27 e 0 = 0
  · refine keep m ?_ ?_
    · rw [b_M_send_145_eq, e4, if_pos (Int32.le_refl _), ab_ix_nI he (by decide)]
      simp only [ob_s]
      rw [k160, if_pos y]
    · rw [cls, if_pos y]
  · by_cases z1 : L.length < L2.length
    · refine keep m ?_ ?_
      · rw [b_M_send_145_eq, e4, if_pos (Int32.le_refl _), ab_ix_nI he (by decide)]
        simp only [ob_s]
        rw [k160, if_neg y, if_pos z1, if_neg (by decide)]
      · rw [cls, if_neg y, if_neg (by omega)]
    · rcases c5 with ⟨q1, q2⟩ | ⟨q1, q2, q3⟩
      · have gr : L2.length < L3.length := d11 (q2.resolve_left (by decide))
        refine keep m ?_ ?_
        · rw [b_M_send_145_eq, e4, if_pos (Int32.le_refl _), ab_ix_nI he (by decide)]
          simp only [ob_s]
          rw [k160, if_neg y, if_neg z1, if_pos rfl, q1, if_neg (by decide)]
        · rw [cls, if_neg y, if_neg (by omega)]
      · obtain ⟨rfl, rfl, rfl⟩ := d12 q3
        have le : L3.length = L.length := by omega
        obtain ⟨⟨r1, r2, r3⟩, ⟨r4, r5, r6⟩, r7, r8, r9, r10, r11⟩ := sp2
        obtain ⟨m5, i1, i2, i3, i4⟩ := s_putL r1 (v := 0) (b := 0) r8 r2 (by show L3.length + 1 < 40; omega) (by decide)
        obtain ⟨mm5, j1, j2, j3, j4⟩ := t_putL r4 (b := 0) r5 (by omega)
        have l5 : (L3 ++ [0]).length = L3.length + 1 := by rw [List.length_append]; rfl
        have sp5 : SP c e a q S d x w W m5 mm5 V3 (L3 ++ [0]) := ⟨⟨i2, i3, Pk_FS r3 i4 (fun r hr => by unfold rw3 at hr; omega)⟩, ⟨j2, j3, PM_FS r6 j4 (by unfold s2; omega) (by unfold s2; omega)⟩, r7, r8, r9, r10, by omega⟩
        obtain ⟨m6, mm6, V6, L6, v6, k1, k2, k3, k4, k5, k6, k7, k8, k9, k10, k11'', k12, k13⟩ := st_loop (c := c) (x := x) (w := w) (W := W) (q := q) (S := S) (d := d) (O := E + 16) he (by omega) ha5 4 0 49999 (g + 2) V3 (L3 ++ [0]) m5 mm5 1 (by omega) (by omega) sp5 z3 g4
        obtain ⟨rfl, rfl, rfl⟩ := k12 (fun s' u1 u2 u3 => q3 s' u1 u2 (qP_mono (by omega) u3))
        have v61 : v6 = 1 := k10 rfl
        have pos : (if L.length < (L3 ++ [0]).length then (1 : Int32) else 0) = 1 := if_pos (by omega)
        refine ⟨_, mm6, _, L3 ++ [0], g + 1, by omega, ?_, ?_, SP_69 (v := if L.length < (L3 ++ [0]).length then 1 else 0) k3, ?_, uV_s _ _ _ _ _, VS_tr vs3 (VS_u (.inr (.inr rfl))), FS_tr (FS_tr a7 (FS_le i4 rw81)) (FS_uI (by unfold s81; omega)), FS_tr (FS_tr f2 (FS_le j4 s2_82)) k7, by omega, fun q => by omega, fun q => BL_a (a11 q) (BL_1 (by omega)), fun q => by rw [uV_k _ _ _ _ _ (by omega)]; exact a12 q⟩
        · rw [cls, if_neg y, if_pos le, i1]
          simp only [ob_s]
          rw [s_fr69 (L' := L3 ++ [0]) i3 (by omega) (by omega)]
        · rw [mdl, b_M_send_145_eq, e4, if_pos (Int32.le_refl _), ab_ix_nI he (by decide)]
          simp only [ob_s]
          rw [k160, if_neg y, if_neg z1, if_pos rfl, q1, if_pos rfl, show (1 : Int32) = nI 1 from rfl, t_fitL r5 (by omega) (by omega)]
          simp only [ob_s, ib_if]
          rw [if_pos (by omega), show (0 : Int32) = nI 0 from rfl, j1]
          simp only [ob_s]
          rw [run, show nI 1 = (1 : Int32) from rfl, k2, end1, v61, show nI 0 = (0 : Int32) from rfl, pos]
        · intro s hs
          rw [uV_k _ _ _ _ _ (by omega), uV_k _ _ _ _ _ (by omega), uV_k _ _ _ _ _ (by omega), uV_k _ _ _ _ _ (by omega), uV_k _ _ _ _ _ (by omega), uV_k _ _ _ _ _ (by omega), uV_k _ _ _ _ _ (by omega)]
          exact k4 s hs
end
