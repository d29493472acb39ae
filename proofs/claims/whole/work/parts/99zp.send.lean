section
/-! send. -/
theorem s_send {m : Mm} {V : Vt} {w W : Nat → Nat} {e k : Nat} (h : RC m V w W) (he : e < 2) (h5 : V 5 0 0 = nI k) (hk : k ≤ 16) : r_X_send 0 (nI e) m = (r_End_makePacket (6 + 30 * e) (if k < 16 then w k else 3) (V 7 0 0) m).bind fun z => if z.1 = -1 then some z else if k < 16 then some (z.1, ab_uI z.2 5 0 0 (z.2.1 5 0 0 + 1)) else some z := by
  have e6 : 0 + 1 + 5 + 30 * e = 6 + 30 * e := by omega
  have c5' : m.1 5 0 0 = nI k := (c5 h rfl).trans h5
  have c7' : m.1 7 0 0 = V 7 0 0 := c7 h rfl
  rw [r_X_send_eq, b_X_send_0_eq, s_isEnd]
  simp only [ob_s, ib_if]
  rw [if_pos (show (0 : Int32) ≤ nI e ∧ nI e < 2 by clear h h5 c5' c7' e6; grind [nI_T]), c5']
  by_cases y : k < 16
  · rw [if_neg (by clear h h5 c5' c7' e6; grind [nI_T]), if_pos y, b_X_send_23_eq, ab_ix_nI he (by decide)]
    simp only [ob_s]
    rw [if_neg (by decide), c5', ab_ix_nI y (by decide)]
    simp only [ob_s]
    rw [cw h y (p := 0 + 2) rfl, b_X_send_50_eq, c7', e6]
    simp only [ob_s]
    cases hr : r_End_makePacket (6 + 30 * e) (w k) (V 7 0 0) m with
    | none => rfl
    | some z =>
      simp only [ob_s]
      by_cases y1 : z.1 = -1
      · rw [if_pos y1, if_pos y1, rI_some]
      · rw [if_neg y1, if_neg y1, if_pos y, if_neg (by decide)]
        simp only [lt_eq]
        rw [rI_some]
  · rw [if_pos (by clear h h5 c5' c7' e6; grind [nI_T]), if_neg y, b_X_send_23_eq, ab_ix_nI he (by decide)]
    simp only [ob_s]
    rw [if_pos trivial, b_X_send_50_eq, c7', e6]
    simp only [ob_s]
    cases hr : r_End_makePacket (6 + 30 * e) (0 + 3) (V 7 0 0) m with
    | none => rfl
    | some z =>
      simp only [ob_s]
      by_cases y1 : z.1 = -1
      · rw [if_pos y1, if_pos y1, rI_some]
      · rw [if_neg y1, if_neg y1, if_neg y, if_pos trivial, rI_some]
theorem s_mk0 {m : Mm} {V : Vt} {w W : Nat → Nat} {e N E q : Nat} {t : Int32} (h : RC m V w W) (he : e < 2) (hE : E = 6 + 30 * e) (h21 : V 21 e 0 = nI N) (hN : N < 512) (ho : V 22 e 0 = -1 ∨ V 28 e 0 ≠ 0) : r_End_makePacket E q t m = ab_rI (b_End_makePacket_34 50000 E q t m.2.2.2.1.length (M0 m)) := by
  have b26 : ∀ f, b_End_makePacket_26 (f + 1) E q t m = some (.inr (34, [some (.inr (.inr (7, some E))), some (.inr (.inr (4, some q))), some (.inl t), some (.inr (.inr (82, some m.2.2.2.1.length)))], [], snt_m m.2.2.2.1.length (ab_ap m 82))) := by
    intro f
    rw [b_End_makePacket_26_eq]
    simp only [lt_eq]
    rw [r_Snt_init_spec _ _ (by show (m.2.2.2.1 ++ [82]).length = _; simp)]
    simp only [ob_s]
  have b0 : b_End_makePacket_0 50000 E q t m = some (.inr (34, [some (.inr (.inr (7, some E))), some (.inr (.inr (4, some q))), some (.inl t), some (.inr (.inr (82, some m.2.2.2.1.length)))], [], snt_m m.2.2.2.1.length (ab_ap m 82))) := by
    rw [b_End_makePacket_0_eq, c21 h he hE, h21, if_neg (by clear h h21 ho b26; grind [nI_T]), s_isOpen, c22 h he hE]
    simp only [ob_s, ib_if]
    by_cases y : V 22 e 0 = -1
    · rw [if_pos y, b26]
    · rw [if_neg y, c28 h he hE, if_neg (ho.resolve_left y), b26]
  rw [r_End_makePacket_eq, b0]
  rfl
theorem s_mkn {m : Mm} {V : Vt} {w W : Nat → Nat} {e N E q : Nat} {t : Int32} (h : RC m V w W) (he : e < 2) (hE : E = 6 + 30 * e) (h21 : V 21 e 0 = nI N) (hN : N < 512) (h22 : ¬ V 22 e 0 = -1) (h28 : V 28 e 0 = 0) : r_End_makePacket E q t m = some (-1, m) := by
  have b0 : b_End_makePacket_0 50000 E q t m = some (.inl (some (.inl (-1)), m)) := by
    rw [b_End_makePacket_0_eq, c21 h he hE, h21, if_neg (by clear h h21 h22 h28; grind [nI_T]), s_isOpen, c22 h he hE]
    simp only [ob_s, ib_if]
    rw [if_neg h22, c28 h he hE, if_pos h28]
  rw [r_End_makePacket_eq, b0]
/-- what both ends with -/
def Bo (c e : Nat) (m M : Mm) (w : Nat → Nat) : Prop := ∃ (r : Int32) (m' mm' : Mm) (V' : Vt) (W' : Nat → Nat), r_X_send 0 (nI e) m = some (r, m') ∧ r_M_send 98 (nI e) M = some (r, mm') ∧ RC m' V' w W' ∧ RM mm' V' ∧ Iv (c + 1) V' ∧ FM m m' ∧ FC M mm'
theorem snd_fin {c e E N a q n k g : Nat} {v : Int32} {w W : Nat → Nat} {V V2 : Vt} {L : List Nat} {m M m2 mm2 mm0 : Mm} (he : e < 2) (hE : E = 6 + 30 * e) (hN : N < 512) (hc : c < 512) (haa : a = 560 * e + N) (hk : k ≤ 16) (hq : q = if k < 16 then w k else 3) (h5 : V2 5 0 0 = nI k) (h7 : V2 7 0 0 = V 7 0 0) (h21 : V2 21 e 0 = nI N)
    (sx : r_X_send 0 (nI e) m = (r_End_makePacket E q (V 7 0 0) m).bind fun z => if z.1 = -1 then some z else if k < 16 then some (z.1, ab_uI z.2 5 0 0 (z.2.1 5 0 0 + 1)) else some z)
    (cl : r_End_makePacket E q (V 7 0 0) m = ab_rI (b_End_makePacket_67 49999 E q (V 7 0 0) n m2)) (md : r_M_send 98 (nI e) M = ab_rI (b_M_send_257 (g + 3) 98 (nI e) (nI a) v mm2))
    (sp : SP c e a q n (N % 16) (nI e) w W m2 mm2 V2 L) (hG : G4 V2 e a) (hB : BL L) (h69 : V2 69 a 0 = v) (hv : v = 0 ∨ v = 1) (h68 : V2 68 a 0 = 1) (h70 : -1 ≤ V2 70 a 0 ∧ V2 70 a 0 ≤ 256) (hS1 : 139 ≤ n) (hS2 : n + 6 ≤ m2.2.2.2.1.length) (hS3 : ∀ a', Sa V2 a' → W a' + 6 ≤ n) (hFM : FM m m2) (hFC : FC M mm2) (hPV : L.length = 0 → PV V2 e a = V2) : Bo c e m M w := by
  obtain ⟨⟨p1, p2, p3⟩, ⟨p4, p5, p6⟩, p7, p8, p9, p10, p11⟩ := sp
  have k11 : m2.1 11 q 0 = nI (L.length + 1) := p2.1
  by_cases y : L.length = 0
  · have c1 : b_End_makePacket_67 49999 E q (V 7 0 0) n m2 = some (.inl (some (.inl (-1)), m2)) := by
      rw [b_End_makePacket_67_eq, s_roomLeft]
      simp only [ob_s]
      rw [k11, y, if_pos (by decide)]
    have d1 : b_M_send_257 (g + 3) 98 (nI e) (nI a) v mm2 = some (.inl (some (.inl (-1)), mm2)) := by
      rw [b_M_send_257_eq, p5.1, y, if_pos (by decide)]
    refine ⟨-1, m2, mm2, V2, W, ?_, by rw [md, d1, rI_some], p1, ?_, Iv_more p7 (by omega) (by omega), hFM, hFC⟩
    · rw [sx, cl, c1, rI_some]
      simp only [ob_s]
      first
      | rw [if_pos rfl]
      | rw [if_pos trivial]
    · rw [← hPV y]
      exact p4
  · obtain ⟨B, B1, B2, B3, B4⟩ := BL_B (L := L) (d := N % 16) (N := N) (c0 := 40503 + nI e) (by omega) hB
    obtain ⟨m', r1, r2, r3, r4⟩ := mk_endC (f := 49997) he hE hN haa p1 p2 p3 p7 p8 p11 hG h21 (by omega) h69 hS1 hS2 hS3 B2 B3 B4
    obtain ⟨mm', s1, s2, s3, s4, s5⟩ := mk_endM (g := g) he hN rfl haa p4 p5 p6 p7 p10 p11 h21 (by omega) h69 hv h68 B2 B3 B4
    have iv := Iv_en (v := v) p7 he hN hc haa h21 hG h68 (by rw [h69]; exact hv) h70
    rw [h7] at r1
    have e5 : enV V2 e a N v 5 0 0 = nI k := by rw [en_o (by omega), h5]
    have ne : ¬ nI (L.length + 3) = -1 := by
      clear iv s1 s2 s3 s4 s5 r1 r2 r3 r4 B1 B2 B3 B4 p1 p2 p3 p4 p5 p6 p7 p8 p9 p10 sx cl md hPV hFM hFC hS3 h70 h68 h69 hG hB h21 h7 h5 hq e5 k11
      grind [nI_T]
    have e3 : nI L.length + 3 = nI (L.length + 3) := nI_add _ 3
    have xc : r_X_send 0 (nI e) m = if k < 16 then some (nI (L.length + 3), ab_uI m' 5 0 0 (m'.1 5 0 0 + 1)) else some (nI (L.length + 3), m') := by
      rw [sx, cl, r1]
      simp only [ob_s]
      rw [if_neg ne]
    by_cases z : k < 16
    · rw [if_pos z] at xc hq
      subst hq
      have m5 : m'.1 5 0 0 = nI k := (c5 r2 rfl).trans e5
      rw [m5, nI_1] at xc
      have rc := RC_way r2 z e5 r3
      obtain ⟨m9, t1, t2, t3, t4⟩ := t_launch (x := nI e) (g := fun b => m'.1 13 (w k + 1) b) s2 z e5 (by omega) s3 (fun b hb => r3.2.2 b hb)
      refine ⟨nI (L.length + 3), _, m9, _, _, xc, ?_, rc, t2, Iv_way iv z e5 ⟨by omega, by omega⟩ (by
        have : e = 0 ∨ e = 1 := by omega
        rcases this with q | q
        · exact .inl (by rw [q]; rfl)
        · exact .inr (by rw [q]; rfl)) (fun b hb => by
        show 0 ≤ m'.1 13 (w k + 1) b ∧ m'.1 13 (w k + 1) b ≤ 255
        rw [r3.2.2 b hb]
        have := B1 b
        clear iv s1 s2 s3 s4 s5 r1 r2 r3 r4 B1 B2 B3 B4 p1 p2 p3 p4 p5 p6 p7 p8 p9 p10 sx cl md hPV hFM hFC hS3 h70 h68 h69 hG hB h21 h7 h5 e5 k11 rc t1 t2 t3 t4 xc ne m5
        grind [nI_T]), FM_tr (FM_tr hFM r4) (FM_uI (by omega)), FC_tr (FC_tr hFC s5) t3⟩
      rw [md, s1, t1]
      simp only [ob_s]
      rw [t4, s4, e3, rI_some]
    · rw [if_neg z] at xc
      refine ⟨nI (L.length + 3), m', mm', _, _, xc, ?_, r2, s2, iv, FM_tr hFM r4, FC_tr hFC s5⟩
      rw [md, s1, t_launch0 s2 (by rw [e5, show k = 16 by omega]; rfl)]
      simp only [ob_s]
      rw [s4, e3, rI_some]
theorem snd_both {c e : Nat} {m M : Mm} {V : Vt} {w W : Nat → Nat} (h1 : RC m V w W) (h3 : Iv c V) (hc : c < 512) (hz : Zr m) (hn : 139 ≤ m.2.2.2.1.length) (he : e < 2) (hM : RM M V) : Bo c e m M w := by
  have ie := h3.2.2.1 e he
  obtain ⟨N, hN', h21⟩ := i_ofc (x := V 21 e 0) (N := c) ie.1.1 ie.1.2 (by omega)
  have hN : N < 512 := by omega
  have ix := h3.2.2.2.1.1
  obtain ⟨k, hk, h5⟩ := i_ofc (x := V 5 0 0) (N := 16) ix.1 ix.2 (by decide)
  obtain ⟨a, haa⟩ : ∃ a, a = 560 * e + N := ⟨_, rfl⟩
  obtain ⟨E, hE⟩ : ∃ E, E = 6 + 30 * e := ⟨_, rfl⟩
  obtain ⟨q, hq⟩ : ∃ q, q = if k < 16 then w k else 3 := ⟨_, rfl⟩
  have ha5 : a < 1120 := by omega
  have na : ¬ Sa V a := by
    intro y
    have := y.2.2
    rw [show a / 560 = e by omega, show a % 560 = N by omega, h21] at this
    exact Int32.lt_irrefl this
  obtain ⟨mm0, t1, t2, t3, t4, t5, t6⟩ := t_s0 hM he hN h21 haa na
  have sx := s_send h1 he h5 hk
  rw [← hE, ← hq] at sx
  have wk := h1.2.2.2.2.2.1
  have frq : Fr V w q := by
    intro a' ha' hl
    rw [h5] at hl
    have hl2 : a' < k := by
      clear t1 t2 t3 t4 t5 t6 sx h1 h3 hM ie hz h21 h5 wk na
      grind [nI_T]
    have w1 := wk.1 a' ha'
    by_cases y : k < 16
    · have w2 := wk.1 k y
      have ne : w k ≠ w a' := fun z => by have := wk.2 k a' y ha' z; omega
      rw [if_pos y] at hq
      omega
    · rw [if_neg y] at hq
      omega
  by_cases hcl : V 22 e 0 = -1 ∨ V 28 e 0 ≠ 0
  case neg =>
    have h22 : ¬ V 22 e 0 = -1 := fun y => hcl (.inl y)
    have h28 : V 28 e 0 = 0 := Decidable.not_not.mp (fun y => hcl (.inr y))
    have i22 : -1 ≤ V 22 e 0 := ie.2.1
    refine ⟨-1, m, mm0, V, W, ?_, ?_, h1, t2, Iv_more h3 (by omega) (by omega), FM_rfl _, t6⟩
    · rw [sx, s_mkn h1 he hE h21 hN h22 h28]
      simp only [ob_s]
      first
      | rw [if_pos rfl]
      | rw [if_pos trivial]
    · rw [t1, b_M_send_46_eq, if_pos (by decide), ab_ix_nI he (by decide)]
      simp only [ob_s]
      rw [n22 t2 he (p := 98 + 22) rfl rfl, n28 t2 he (p := 98 + 27) rfl rfl, if_neg (by clear t1 t2 t3 t4 t5 t6 sx h1 h3 hM ie hz h21 h5 wk na frq hcl h28; grind), if_pos h28, rI_some]
  have V0o : ∀ k a' b, k < 68 → frV V a k a' b = V k a' b := fun k a' b y => FV_fr V a k a' b (.inl y)
  have sa0 := Sa_FV (FV_fr V a)
  have na0 : ¬ Sa (frV V a) a := fun y => na ((sa0 a).mp y)
  have rcM := RC_FV (RC_M0 h1) (FV_fr V a) na
  have fr0 : Fr (frV V a) w q := by
    intro a' ha' hl
    rw [V0o _ _ _ (by omega)] at hl
    exact frq a' ha' hl
  have iv0 := Iv_FV h3 (FV_fr V a) na
  obtain ⟨m1, g1, g2, g3, g4⟩ := s_rbegin rcM (q := q) (n := N) (x := nI e) (B := lB [N % 16]) fr0 (by omega) rfl
  have pk1 : Pk m1 m.2.2.2.1.length (frV V a) a := Pk_FS (Pk_M0 hz) g4 (fun r hr => by unfold rw3 at hr; omega)
  have W6 : ∀ a', Sa (frV V a) a' → W a' + 6 ≤ m.2.2.2.1.length := fun a' ha' => (h1.2.2.2.2.2.2.1 a' ((sa0 a').mp ha')).2
  have len1 : m1.2.2.2.1.length = m.2.2.2.1.length + 6 := by rw [g4.2, M0_l]
  have fm1 : FM m m1 := FM_tr (FM_M0 m) (FS_FM g4 (fun r hr => by unfold rw3 at hr; omega))
  have wc1 : WC m1 q (nI e) [N % 16] := g3
  have c34 : r_End_makePacket E q (V 7 0 0) m = ab_rI (if V 22 e 0 = -1 then (r_End_putFrames E q m.2.2.2.1.length m1).bind fun m4 => b_End_makePacket_67 49999 E q (V 7 0 0) m.2.2.2.1.length m4 else (r_End_putClose E q m1).bind fun m3 => b_End_makePacket_67 49999 E q (V 7 0 0) m.2.2.2.1.length m3) := by
    have k15 : (M0 m).1 15 E 0 = nI e := by rw [hE]; exact rcM.2.2.2.2.1 e he
    have k21 : (M0 m).1 21 E 0 = nI N := by rw [c21 rcM he hE, V0o _ _ _ (by omega), h21]
    have k22 : m1.1 22 E 0 = V 22 e 0 := by rw [c22 g2 he hE, V0o _ _ _ (by omega)]
    rw [s_mk0 h1 he hE h21 hN hcl, b_End_makePacket_34_eq, k15, k21, g1]
    simp only [ob_s]
    rw [s_isOpen, k22]
    simp only [ob_s, ib_if]
  have sb : SB c a q m.2.2.2.1.length (N % 16) (nI e) w W m1 mm0 (frV V a) [] := ⟨⟨g2, wc1, pk1⟩, ⟨t3, t5, t4⟩, iv0, fr0, fun a' ha' => by have := W6 a' ha'; omega, na0, by show 0 ≤ 37; omega⟩
  have f68 : frV V a 68 a 0 = 1 := fr_s (by omega)
  have f70 : frV V a 70 a 0 = -1 := fr_s (by omega)
  have f69 : frV V a 69 a 0 = 0 := fr_s (by omega)
  have f76 : ∀ s, s < 4 → frV V a 76 a s = -1 := fun s _ => fr_s (by omega)
  by_cases hop : V 22 e 0 = -1
  · rw [if_pos hop] at c34
    -- frames
    have ack : ∃ mA mmA L0, (∀ f, b_End_putFrames_0 (f + 1) E q m.2.2.2.1.length m1 = b_End_putFrames_17 f E q m.2.2.2.1.length mA) ∧ b_M_send_46 49995 98 (nI e) (nI a) 0 (nI 4) mm0 = b_M_send_130 49994 98 (nI e) (nI a) mmA ∧ SB c a q m.2.2.2.1.length (N % 16) (nI e) w W mA mmA (uV (frV V a) 26 e 0 0) L0 ∧ L0.length ≤ 36 ∧ BL L0 ∧ FS s81 m1 mA ∧ FC mm0 mmA := by
      have k26 : m1.1 26 E 0 = V 26 e 0 := by rw [c26 g2 he hE, V0o _ _ _ (by omega)]
      have k158 : mm0.1 158 (98 + 26) e = V 26 e 0 := (t2.2.2.1 e he).2.2.2 hop
      have k154 : mm0.1 154 (98 + 22) e = -1 := (n22 t2 he (p := 98 + 22) rfl rfl).trans hop
      by_cases y : V 26 e 0 = 0
      · have ev : uV (frV V a) 26 e 0 0 = frV V a := by
          have : frV V a 26 e 0 = 0 := by rw [V0o _ _ _ (by omega), y]
          rw [← this]
          exact uV_self
        refine ⟨m1, mm0, [], fun f => ?_, ?_, by rw [ev]; exact sb, by show 0 ≤ 36; omega, BL_0, FS_rfl _ _, FC_rfl _⟩
        · rw [b_End_putFrames_0_eq, k26, if_pos y]
        · rw [b_M_send_46_eq, if_pos (by decide), ab_ix_nI he (by decide)]
          simp only [ob_s]
          rw [k154, if_pos (by decide), k158, if_pos y]
      · have y1 : V 26 e 0 = 1 := ie.2.2.2.2.2.1.resolve_left y
        have p30 := ie.2.2.2.2.2.2.1 y1
        have b30 := ie.2.2.2.2.2.2.2.1.2
        obtain ⟨t, ht, e30⟩ := i_ofc (x := V 30 e 0) (N := 15 + 9 * c) p30 b30 (by omega)
        have hbt : hb V e t := ie.2.2.2.2.2.2.2.2.1 t (by omega) e30
        have hbt0 : hb (frV V a) e t := by
          unfold hb at *
          rw [V0o _ _ _ (by omega)]
          exact hbt
        have e30' : frV V a 30 e 0 = nI t := by rw [V0o _ _ _ (by omega), e30]
        obtain ⟨m2, a1, a2, a3, a4⟩ := s_putAck g2 he hE fr0 wc1 (by show 1 ≤ 20; omega) (by omega) e30'
        obtain ⟨mm2, b1, b2, b3, b4⟩ := t_putAck t3 he (by omega) e30' hbt0 t5 (by show 0 ≤ 20; omega)
        have al := ack_l (V := frV V a) (e := e) (t := t)
        have vs : VS (fun k => k = 26) (frV V a) (uV (frV V a) 26 e 0 0) := VS_u rfl
        have saV := Sa_VS vs (show ¬ (21 = 26) by omega)
        refine ⟨ab_uI m2 26 E 0 0, mm2, ackL (frV V a) e t, fun f => ?_, ?_, ⟨⟨cu26 a2 he hE 0, ?_, ?_⟩, ⟨b2, b3, ?_⟩, Iv_26z iv0, Fr_VS vs (by omega) fr0, fun a' ha' => by have := W6 a' ((saV a').mp ha'); omega, fun z => na0 ((saV a).mp z), by omega⟩, by omega, BL_ack (by omega), FS_tr (FS_le a4 rw81) (FS_uI (by unfold s81; omega)), FS_FC b4 (fun r hr => by unfold s4 s2 s71 at hr; omega)⟩
        · rw [b_End_putFrames_0_eq, k26, if_neg y, a1, bo_0]
          simp only [ob_s, lt_eq]
        · rw [b_M_send_46_eq, if_pos (by decide), ab_ix_nI he (by decide)]
          simp only [ob_s]
          rw [k154, if_pos (by decide), k158, if_neg y, b1]
          simp only [ob_s]
        · exact Wr_FS (S := fun r => r = 26) a3 (FS_uI rfl) (by omega) (by omega) (by omega)
        · exact Pk_FS (T := fun r => r = 26) (Pk_uV (Pk_FS pk1 a4 (fun r hr => by unfold rw3 at hr; omega)) (by omega)) (FS_uI rfl) (fun r hr => by omega)
        · exact PM_uV (PM_FS t4 b4 (by unfold s4 s2 s71; omega) (by unfold s4 s2 s71; omega)) (by omega)
    obtain ⟨mA, mmA, L0, q1, q2, q3, q4, q5, q6, q7⟩ := ack
    have v1o : ∀ k a' b, k ≠ 26 → uV (frV V a) 26 e 0 0 k a' b = frV V a k a' b := fun k a' b y => uV_k _ _ _ _ _ y
    obtain ⟨m2, mm2, V2, L, g', r0, r1, r2, r3, r4, r5, r6, r7, r8, r9, r10, r11, r12⟩ := fr17 (K := 49964) (F := 49996) he hE ha5 q3 (fun s hs => by rw [v1o _ _ _ (by omega)]; exact f76 s hs) (fun s hs => by
      have := F2_fr (V := V) (a := a) s hs
      rw [v1o _ _ _ (by omega), v1o _ _ _ (by omega), v1o _ _ _ (by omega), v1o _ _ _ (by omega), v1o _ _ _ (by omega)]
      exact this) q4
    obtain ⟨g', rfl⟩ : ∃ k, g' = k + 3 := ⟨g' - 3, by omega⟩
    have v2o : ∀ k a' b, ¬ pP k → k ≠ 26 → V2 k a' b = frV V a k a' b := fun k a' b y1 y2 => (r6 k a' b y1).trans (v1o k a' b y2)
    have s5 : ¬ pP 5 := by unfold pP rP lP sP; omega
    have s7 : ¬ pP 7 := by unfold pP rP lP sP; omega
    have s21 : ¬ pP 21 := by unfold pP rP lP sP; omega
    have s68 : ¬ pP 68 := by unfold pP rP lP sP; omega
    have pf : r_End_putFrames E q m.2.2.2.1.length m1 = some m2 := by
      rw [r_End_putFrames_eq, q1 49999]
      exact congrArg ab_rV r1
    rw [pf] at c34
    simp only [ob_s] at c34
    have fs2 : FS s81 m1 m2 := FS_tr q6 r7
    have V5 : V2 5 0 0 = nI k := by rw [v2o _ _ _ s5 (by omega), V0o _ _ _ (by omega), h5]
    have V7 : V2 7 0 0 = V 7 0 0 := by rw [v2o _ _ _ s7 (by omega), V0o _ _ _ (by omega)]
    have V21 : V2 21 e 0 = nI N := by rw [v2o _ _ _ s21 (by omega), V0o _ _ _ (by omega), h21]
    refine snd_fin (V := V) (V2 := V2) (W := W) (q := q) (k := k) (mm0 := mm0) (n := m.2.2.2.1.length) he hE hN hc haa hk hq V5 V7 V21 sx c34 (by rw [t1, q2, show 49994 = 49964 + 30 from rfl, r2]) r3 r4 (r11 q5) r5 ?_ (by rw [v2o _ _ _ s68 (by omega)]; exact f68) (r12 ?_) hn (by rw [fs2.2, len1]; exact Nat.le_refl _) (fun a' ha' => W6 a' ?_) (FM_tr fm1 (FS_FM fs2 (fun r hr => by unfold s81 at hr; omega))) (FC_tr (FC_tr t6 q7) (FS_FC r8 (fun r hr => by unfold s82 at hr; omega))) (fun y => r10 (by omega))
    · split
      · exact .inr rfl
      · exact .inl rfl
    · rw [v1o _ _ _ (by omega), f70]
      decide
    · unfold Sa at *
      rw [v2o _ _ _ s21 (by omega)] at ha'
      exact ha'
  · rw [if_neg hop] at c34
    have h28 := hcl.resolve_left hop
    have i22 : -1 ≤ V 22 e 0 := ie.2.1
    have u22 : V 22 e 0 < 1073741824 := ie.2.2.2.2.2.2.2.2.2.2.2.2.2.2.2.2
    obtain ⟨cd, hcd, e22⟩ := i_of (x := V 22 e 0) (N := 1073741824) (by clear t1 t2 t3 t4 t5 t6 sx h1 h3 hM ie hz h21 h5 wk na frq hcl h28 c34 sb rcM fr0 iv0 g1 g2 g3 g4 pk1 W6 fm1 wc1 f68 f69 f70 f76; grind) u22 (by decide)
    have w4 := nw_4 cd
    obtain ⟨m2, a1, a2, a3, a4⟩ := s_putL g2 (v := 6) (b := 6) fr0 wc1 (by show 1 < 40; omega) (by decide)
    obtain ⟨m3, b1, b2, b3, b4⟩ := s_numL a2 (v := cd) fr0 a3 (by omega) (by show 2 + nw cd ≤ 40; omega)
    have k22 : m2.1 22 E 0 = nI cd := by rw [c22 a2 he hE, V0o _ _ _ (by omega), e22]
    have f3 := FS_tr a4 b4
    have pc : r_End_putClose E q m1 = some (ab_uI m3 28 E 0 0) := by
      rw [r_End_putClose_eq, b_End_putClose_0_eq, a1]
      simp only [ob_s]
      rw [k22, b1, bo_0]
      simp only [ob_s, lt_eq]
      rw [rV_some]
    rw [pc] at c34
    simp only [ob_s] at c34
    have T1 := nu28 t3 he (p := 98 + 27) (j := e) rfl rfl 0
    have fa : FS (fun r => r = 159) mm0 (ab_uI mm0 159 (98 + 27) e 0) := FS_uI rfl
    obtain ⟨mm2, d1, d2, d3, d4⟩ := t_putL T1 (b := 6) (ML_FS t5 fa (by omega) (by omega)) (by show 0 < 47; omega)
    obtain ⟨mm3, i1, i2, i3, i4⟩ := t_numL d2 (v := cd) d3 (by omega) (by show 1 + nw cd ≤ 47; omega)
    have k154 : mm2.1 154 (98 + 22) e = nI cd := by
      rw [n22 d2 he (p := 98 + 22) rfl rfl, uV_k _ _ _ _ _ (by omega), V0o _ _ _ (by omega), e22]
    have f4 := FS_tr d4 i4
    have md : b_M_send_46 49995 98 (nI e) (nI a) 0 (nI 4) mm0 = b_M_send_257 49994 98 (nI e) (nI a) 0 mm3 := by
      rw [b_M_send_46_eq, if_pos (by decide), ab_ix_nI he (by decide)]
      simp only [ob_s]
      rw [n22 t2 he (p := 98 + 22) rfl rfl, n28 t2 he (p := 98 + 27) rfl rfl, if_neg (by clear t1 t2 t3 t4 t5 t6 sx h1 h3 hM ie hz h21 h5 wk na frq hcl h28 c34 sb rcM fr0 iv0 g1 g2 g3 g4 pk1 W6 fm1 wc1 f68 f69 f70 f76 a1 a2 a3 a4 b1 b2 b3 b4 d1 d2 d3 d4 i1 i2 i3 i4 T1 fa f4 f3 pc k22 k154; grind), if_neg h28, bo_0]
      simp only [ob_s, lt_eq]
      rw [show (6 : Int32) = nI 6 from rfl, d1]
      simp only [ob_s]
      rw [k154, i1]
      simp only [ob_s]
    have vs : VS (fun k => k = 28) (frV V a) (uV (frV V a) 28 e 0 0) := VS_u rfl
    have saV := Sa_VS vs (show ¬ (21 = 28) by omega)
    have F2v : F2 (uV (frV V a) 28 e 0 0) a := fun s hs => by
      have := F2_fr (V := V) (a := a) s hs
      rw [uV_k _ _ _ _ _ (by omega), uV_k _ _ _ _ _ (by omega), uV_k _ _ _ _ _ (by omega), uV_k _ _ _ _ _ (by omega), uV_k _ _ _ _ _ (by omega)]
      exact this
    have ll : ([6] ++ nb cd).length = 1 + nw cd := by rw [List.length_append, nb_l]; rfl
    have iv1 := Iv_28z (e := e) iv0
    have sb2 : SB c a q m.2.2.2.1.length (N % 16) (nI e) w W (ab_uI m3 28 E 0 0) mm3 (uV (frV V a) 28 e 0 0) ([6] ++ nb cd) := ⟨⟨cu28 b2 he hE 0, Wr_FS (S := fun r => r = 28) b3 (FS_uI rfl) (by omega) (by omega) (by omega), Pk_FS (T := fun r => r = 28) (Pk_uV (Pk_FS pk1 f3 (fun r hr => by unfold rw3 at hr; omega)) (by omega)) (FS_uI rfl) (fun r hr => by omega)⟩, ⟨i2, i3, PM_uV (PM_FS (PM_FS t4 fa (by omega) (by omega)) f4 (by unfold s2; omega) (by unfold s2; omega)) (by omega)⟩, iv1, Fr_VS vs (by omega) fr0, fun a' ha' => by have := W6 a' ((saV a').mp ha'); omega, fun z => na0 ((saV a).mp z), by omega⟩
    have v1o : ∀ k a' b, k ≠ 28 → uV (frV V a) 28 e 0 0 k a' b = frV V a k a' b := fun k a' b y => uV_k _ _ _ _ _ y
    have fs2 : FS s81 m1 (ab_uI m3 28 E 0 0) := FS_tr (FS_le f3 rw81) (FS_uI (by unfold s81; omega))
    refine snd_fin (V := V) (V2 := uV (frV V a) 28 e 0 0) (W := W) (q := q) (k := k) (mm0 := mm0) (n := m.2.2.2.1.length) (g := 49991) (v := 0) (L := [6] ++ nb cd) he hE hN hc haa hk hq ?_ ?_ ?_ sx c34 (by rw [t1, md]) (SB_SP sb2 F2v) ?_ (BL_a (BL_1 (by omega)) (BL_nb (by omega))) ?_ (.inl rfl) ?_ ?_ hn (by rw [fs2.2, len1]; exact Nat.le_refl _) (fun a' ha' => W6 a' ((saV a').mp ha')) (FM_tr fm1 (FS_FM fs2 (fun r hr => by unfold s81 at hr; omega))) (FC_tr (FC_tr t6 (FC_uI (by omega))) (FS_FC f4 (fun r hr => by unfold s2 at hr; omega))) (fun y => by omega)
    · rw [v1o _ _ _ (by omega), V0o _ _ _ (by omega), h5]
    · rw [v1o _ _ _ (by omega), V0o _ _ _ (by omega)]
    · rw [v1o _ _ _ (by omega), V0o _ _ _ (by omega), h21]
    · refine G4_F3 iv1 he (fun s hs => ?_)
      have := F2v s hs
      exact ⟨this.1, this.2.1, this.2.2.1, .inl this.2.2.2.1, this.2.2.2.2⟩
    · rw [v1o _ _ _ (by omega), f69]
    · rw [v1o _ _ _ (by omega), f68]
    · rw [v1o _ _ _ (by omega), f70]
      decide
theorem J_send {c : Nat} {m : Mm} (h : St c m) (hc : c < 512) (hz : Zr m) (hn : 139 ≤ m.2.2.2.1.length) (v : Int32) : Jn c (r_X_send 0 v m) (r_M_send 98 v) := by
  obtain ⟨V, w, W, h1, h2, h3⟩ := id h
  by_cases hv : 0 ≤ v ∧ v < 2
  · obtain ⟨e, he, rfl⟩ := i_of (N := 2) hv.1 hv.2 (by decide)
    obtain ⟨r, m', mm', V', W', x1, x2, x3, x4, x5, x6, x7⟩ := snd_both h1 h3 hc hz hn he h2
    obtain ⟨r', m'', mm'', V'', W'', y1, y2, y3, y4, y5, y6, y7⟩ := snd_both h1 h3 hc hz hn he (RM_FM h2 x6)
    have : (r', m'') = (r, m') := Option.some.inj (y1.symm.trans x1)
    cases this
    exact ⟨(r, m'), x1, (r, mm''), y2, rfl, V'', w, W'', RC_FC y3 y7, y4, y5⟩
  · refine ⟨(-1, m), ?_, (-1, ab_uI m 84 98 0 0), ?_, rfl, St_more (St_84 h) (by omega) (by omega)⟩
    · rw [r_X_send_eq, b_X_send_0_eq, s_isEnd]
      simp only [ob_s, ib_if]
      rw [if_neg hv, rI_some]
    · rw [r_M_send_eq, b_M_send_0_eq]
      simp only [lt_eq, t_in, ob_s, ib_if]
      rw [if_neg (fun y => hv ⟨y.1, by have := y.2; clear h1 h2 h3 h hv; grind⟩), rI_some]
end
