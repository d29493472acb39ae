section
/-! The packet's end: sealed, marked, kept. -/
def enV (V : Vt) (e a N : Nat) (v : Int32) : Vt := uV (if v = 0 then PV V e a else uV (uV (PV V e a) 25 e 0 (V 7 0 0)) 27 e 0 0) 21 e 0 (nI (N + 1))
theorem en_o {V : Vt} {e a N k a' b : Nat} {v : Int32} (h : k ≠ 21 ∧ k ≠ 25 ∧ k ≠ 27 ∧ k ≠ 64 ∧ k ≠ 65 ∧ k ≠ 67) : enV V e a N v k a' b = V k a' b := by
  unfold enV
  rw [uV_k _ _ _ _ _ h.1]
  by_cases y : v = 0
  · rw [if_pos y, PV_o (by omega)]
  · rw [if_neg y, uV_k _ _ _ _ _ h.2.2.1, uV_k _ _ _ _ _ h.2.1, PV_o (by omega)]
theorem BL_B {L : List Nat} {d N : Nat} {c0 : Int32} (hd : d < 256) (hB : BL L) : ∃ B : Nat → Nat, (∀ j, B j < 256) ∧ (∀ j, j < L.length + 1 → lB (d :: L) j = B j) ∧ B (L.length + 1) = sl (hs B c0 (L.length + 1)) N / 256 ∧ B (L.length + 1 + 1) = sl (hs B c0 (L.length + 1)) N % 256 := by
  let S := sl (hs (lB (d :: L)) c0 (L.length + 1)) N
  have lt : S < 65536 := sl_lt _ _
  have bl : BL (d :: L) := fun b hb => by
    rcases List.mem_cons.mp hb with q | q
    · omega
    · exact hB b q
  let B : Nat → Nat := fun j => if j < L.length + 1 then lB (d :: L) j else if j = L.length + 1 then S / 256 else S % 256
  have same : ∀ j, j < L.length + 1 → B j = lB (d :: L) j := fun j hj => if_pos hj
  have hsame : hs B c0 (L.length + 1) = hs (lB (d :: L)) c0 (L.length + 1) := hs_c same
  refine ⟨B, fun j => ?_, fun j hj => (same j hj).symm, ?_, ?_⟩
  · show (if j < L.length + 1 then lB (d :: L) j else if j = L.length + 1 then S / 256 else S % 256) < 256
    have := lB_lt bl j
    split
    · exact this
    · split <;> omega
  · rw [hsame]
    show (if L.length + 1 < L.length + 1 then lB (d :: L) (L.length + 1) else if L.length + 1 = L.length + 1 then S / 256 else S % 256) = S / 256
    rw [if_neg (by omega), if_pos rfl]
  · rw [hsame]
    show (if L.length + 1 + 1 < L.length + 1 then lB (d :: L) (L.length + 1 + 1) else if L.length + 1 + 1 = L.length + 1 then S / 256 else S % 256) = S % 256
    rw [if_neg (by omega), if_neg (by omega)]
theorem mk_endC {c e E N a q S d : Nat} {v : Int32} {w W : Nat → Nat} {V : Vt} {L : List Nat} {m : Mm} {B : Nat → Nat} (he : e < 2) (hE : E = 6 + 30 * e) (hN : N < 512) (haa : a = 560 * e + N) (h1 : RC m V w W) (h2 : WC m q (nI e) (d :: L)) (h3 : Pk m S V a) (h7 : Iv c V) (h8 : Fr V w q) (hL : L.length ≤ 37) (hG : G4 V e a) (h21 : V 21 e 0 = nI N) (hL1 : 1 ≤ L.length) (h69 : V 69 a 0 = v) (hS1 : 139 ≤ S) (hS2 : S + 6 ≤ m.2.2.2.1.length) (hS3 : ∀ a', Sa V a' → W a' + 6 ≤ S) (b0 : ∀ j, j < L.length + 1 → lB (d :: L) j = B j) (b1 : B (L.length + 1) = sl (hs B (40503 + nI e) (L.length + 1)) N / 256) (b2 : B (L.length + 1 + 1) = sl (hs B (40503 + nI e) (L.length + 1)) N % 256) (f : Nat) :
    ∃ m', ab_rI (b_End_makePacket_67 (f + 2) E q (V 7 0 0) S m) = some (nI (L.length + 3), m') ∧ RC m' (enV V e a N v) w (fun a' => if a' = a then S else W a') ∧ Wr m' q (nI e) B (L.length + 3) ∧ FM m m' := by
  obtain ⟨m2, r1, r2, r3, r4⟩ := s_rseal h1 (n := N) (c0 := 40503 + nI e) (B := B) h8 (Wr_c h2 (fun j hj => b0 j hj)) (by show L.length + 1 ≤ 38; omega) rfl b1 b2
  have p2 := Pk_FS h3 r4 (fun r hr => by unfold rw3 at hr; omega)
  obtain ⟨m3, s1, s2, s3⟩ := s_mark (V := V) (w := w) (W := W) (e := e) (o := E + 16) (q := S) (x := 1) (F := fun s => nn (V 77 a s)) (C := fun s => nn (V 78 a s)) (D := fun s => V 79 a s) (R := fun s => V 80 a s) r2 he (by omega) (fun s hs => by
    have := G4_n h7 he hs hG
    show nn (V 77 a s) + nn (V 78 a s) ≤ 64
    omega) (fun s hs => by
    have := G4_n h7 he hs hG
    exact ⟨(p2 77 s (TS77 hs)).trans this.1.symm, (p2 78 s (TS78 hs)).trans this.2.1.symm, p2 79 s (TS79 hs), p2 80 s (TS80 hs)⟩)
  have s2 : RC m3 (PV V e a) w W := s2
  have k21 : m3.1 21 E 0 = nI N := by
    rw [c21 s2 he hE, PV_o (by omega), h21]
  have p3 : Pk m3 S (PV V e a) a := by
    intro k b t
    have tk := TS_k t
    rw [PV_o (by omega)]
    exact Pk_FS p2 s3 (fun r hr => by unfold s67 at hr; omega) k b t
  have w3 : Wr m3 q (nI e) B (L.length + 3) := Wr_FS r3 s3 (by unfold s67; omega) (by unfold s67; omega) (by unfold s67; omega)
  have len : m3.2.2.2.1.length = m.2.2.2.1.length := by rw [s3.2, r4.2]
  have saP : ∀ a', Sa (PV V e a) a' ↔ Sa V a' := fun a' => by unfold Sa; rw [PV_o (by omega)]
  have rc := RC_21 s2 he hE hN haa (by rw [PV_o (by omega)]; exact h21) p3 hS1 (by rw [len]; exact hS2) (fun a' ha' => hS3 a' ((saP a').mp ha'))
  have k69 : (ab_uI (ab_uR m3 39 (E + 5) N (some S)) 21 E 0 (nI (N + 1))).1 69 S 0 = v := by
    rw [uI_r _ _ _ _ _ _ _ _ (by omega), uR_1]
    have := p3 69 0 TS69
    rw [PV_o (by omega), h69] at this
    exact this
  have fm : FM m (ab_uI (ab_uR m3 39 (E + 5) N (some S)) 21 E 0 (nI (N + 1))) := FM_tr (FM_tr (FM_tr (FS_FM r4 (fun r hr => by unfold rw3 at hr; omega)) (FS_FM s3 (fun r hr => by unfold s67 at hr; omega))) FM_uR) (FM_uI (by omega))
  have w6 : Wr (ab_uI (ab_uR m3 39 (E + 5) N (some S)) 21 E 0 (nI (N + 1))) q (nI e) B (L.length + 3) := ⟨by rw [uI_r _ _ _ _ _ _ _ _ (by omega), uR_1]; exact w3.1, by rw [uI_r _ _ _ _ _ _ _ _ (by omega), uR_1]; exact w3.2.1, fun j hj => by rw [uI_r _ _ _ _ _ _ _ _ (by omega), uR_1]; exact w3.2.2 j hj⟩
  have k11 : m.1 11 q 0 = nI (L.length + 1) := h2.1
  have k21m : m.1 21 E 0 = nI N := (c21 h1 he hE).trans h21
  have run : b_End_makePacket_67 (f + 2) E q (V 7 0 0) S m = if v = 0 then b_End_makePacket_132 (f + 1) q (ab_uI (ab_uR m3 39 (E + 5) N (some S)) 21 E 0 (nI (N + 1))) else b_End_makePacket_132 (f + 1) q (ab_uI (ab_uI (ab_uI (ab_uR m3 39 (E + 5) N (some S)) 21 E 0 (nI (N + 1))) 25 E 0 (V 7 0 0)) 27 E 0 0) := by
    rw [b_End_makePacket_67_eq, s_roomLeft]
    simp only [ob_s]
    rw [k11, if_neg (by clear rc w6 fm k69 saP w3 p3 k21 s2 s1 s3 p2 r1 r2 r3 r4 h1 h2 h3 h7 h8 hG h21 h69 hS3 b0 b1 b2 len k11 k21m; grind [nI_T]), k21m, r1]
    simp only [ob_s]
    rw [s1]
    simp only [ob_s]
    rw [k21, ab_ix_nI hN (by decide)]
    simp only [ob_s, lt_eq]
    rw [uR_1, k21, nI_1, k69, bo_0]
    simp only [ob_s]
  rw [run]
  by_cases y : v = 0
  · rw [if_pos y, b_End_makePacket_132_eq, rI_some, w6.1]
    refine ⟨_, rfl, ?_, w6, fm⟩
    unfold enV
    rw [if_pos y]
    exact rc
  · rw [if_neg y, b_End_makePacket_132_eq, rI_some]
    have fz : FS (fun r => r = 25 ∨ r = 27) (ab_uI (ab_uR m3 39 (E + 5) N (some S)) 21 E 0 (nI (N + 1))) (ab_uI (ab_uI (ab_uI (ab_uR m3 39 (E + 5) N (some S)) 21 E 0 (nI (N + 1))) 25 E 0 (V 7 0 0)) 27 E 0 0) := FS_tr (FS_uI (.inl rfl)) (FS_uI (.inr rfl))
    have w8 := Wr_FS w6 fz (by omega) (by omega) (by omega)
    rw [w8.1]
    refine ⟨_, rfl, ?_, w8, FM_tr fm (FS_FM fz (fun r hr => by omega))⟩
    have r8 := cu27 (cu25 rc he hE (V 7 0 0)) he hE 0
    rw [uV_comm (k := 21) (k' := 25) (by omega), uV_comm (k := 21) (k' := 27) (by omega)] at r8
    unfold enV
    rw [if_neg y]
    exact r8
theorem mk_endM {c e N a d : Nat} {v : Int32} {V : Vt} {L : List Nat} {mm : Mm} {B : Nat → Nat} (he : e < 2) (hN : N < 512) (hd : d = N % 16) (haa : a = 560 * e + N) (h4 : RM mm (PV V e a)) (h5 : ML mm L) (h6 : PM mm V a) (h7 : Iv c V) (h10 : ¬ Sa V a) (hL : L.length ≤ 37) (h21 : V 21 e 0 = nI N) (hL1 : 1 ≤ L.length) (h69 : V 69 a 0 = v) (hv : v = 0 ∨ v = 1) (h68 : V 68 a 0 = 1) (b0 : ∀ j, j < L.length + 1 → lB (d :: L) j = B j) (b1 : B (L.length + 1) = sl (hs B (40503 + nI e) (L.length + 1)) N / 256) (b2 : B (L.length + 1 + 1) = sl (hs B (40503 + nI e) (L.length + 1)) N % 256) (g : Nat) :
    ∃ mm', b_M_send_257 (g + 3) 98 (nI e) (nI a) v mm = ((r_M_launch 98 (nI e) (nI (L.length + 3)) mm').bind fun m9 => some (.inl (some (.inl ((m9.1 125 98 0) + 3)), m9))) ∧ RM mm' (enV V e a N v) ∧ Wm mm' B (L.length + 3) ∧ mm'.1 125 98 0 = nI L.length ∧ FC mm mm' := by
  have ha5 : a < 1120 := by omega
  have naP : ¬ Sa (PV V e a) a := fun y => h10 (by unfold Sa at *; rw [PV_o (by omega)] at y; exact y)
  have A2 := RM_pw (RM_pw h4 (r := 162) (p := 98 + 30) (j := a) (x := 0) (.inl ⟨by omega, by omega, rfl⟩) naP) (r := 163) (p := 98 + 31) (j := a) (x := v) (.inl ⟨by omega, by omega, rfl⟩) naP
  have F2' : FS (fun r => r = 162 ∨ r = 163) mm (ab_uI (ab_uI mm 162 (98 + 30) a 0) 163 (98 + 31) a v) := FS_tr (FS_uI (.inl rfl)) (FS_uI (.inr rfl))
  have a162 : (ab_uI (ab_uI mm 162 (98 + 30) a 0) 163 (98 + 31) a v).1 162 128 a = 0 := by
    rw [uI_r _ _ _ _ _ _ _ _ (by omega)]
    exact uI_s _ _ _ _ _
  have a163 : (ab_uI (ab_uI mm 162 (98 + 30) a 0) 163 (98 + 31) a v).1 163 129 a = v := uI_s _ _ _ _ _
  have fin : ∀ (M : Mm) (X : Vt), RM M X → FS (fun r => r = 162 ∨ r = 163 ∨ r = 155 ∨ r = 160) mm M → M.1 162 128 a = 0 → M.1 163 129 a = v → (∀ k a' b, k ≠ 25 → k ≠ 27 → X k a' b = PV V e a k a' b) → enV V e a N v = uV X 21 e 0 (nI (N + 1)) → ∃ mm', b_M_send_306 (g + 1) 98 (nI e) M = ((r_M_launch 98 (nI e) (nI (L.length + 3)) mm').bind fun m9 => some (.inl (some (.inl ((m9.1 125 98 0) + 3)), m9))) ∧ RM mm' (enV V e a N v) ∧ Wm mm' B (L.length + 3) ∧ mm'.1 125 98 0 = nI L.length ∧ FC mm mm' := by
    intro M X hX hM k162 k163 hXV hE
    have x21 : X 21 e 0 = nI N := by rw [hXV _ _ _ (by omega) (by omega), PV_o (by omega), h21]
    have k151 : M.1 151 (98 + 19) e = nI N := (n21 hX he (p := 98 + 19) rfl rfl).trans x21
    have X1 : RM (ab_uI M 168 (98 + 36) 0 (nI (N % 16))) X := RM_sm hX (by unfold Sm; omega)
    have f1 : FS (fun r => r = 168) M (ab_uI M 168 (98 + 36) 0 (nI (N % 16))) := FS_uI rfl
    have k125 : M.1 125 98 0 = nI L.length := by rw [FS_g hM _ _ _ (by omega)]; exact h5.1
    have wm : Wm (ab_uI M 168 (98 + 36) 0 (nI (N % 16))) B (L.length + 1) := by
      intro j hj
      rw [uI_1]
      by_cases y : j = 0
      · subst y
        rw [if_pos ⟨rfl, rfl, rfl⟩, ← b0 0 (by omega), ← hd]
        rfl
      · obtain ⟨i, rfl⟩ : ∃ i, j = i + 1 := ⟨j - 1, by omega⟩
        rw [if_neg (by omega), ← b0 (i + 1) hj, FS_g hM _ _ _ (by omega), show i + 1 = 1 + i by omega, h5.2 i (by omega), show 1 + i = i + 1 by omega]
        rfl
    obtain ⟨m5, s1, s2, s3, s4⟩ := t_seal X1 (n := N) (c0 := 40503 + nI e) wm (by omega) rfl b1 b2
    have f5 : FS (fun r => r = 168) M m5 := FS_tr f1 s4
    have pm5 : PM m5 X a := by
      refine ⟨?_, fun s hs => ?_⟩
      · rw [FS_g f5 _ _ _ (by omega), FS_g hM _ _ _ (by omega), h6.1, hXV _ _ _ (by omega) (by omega), PV_o (by omega)]
      · rw [FS_g f5 _ _ _ (by omega), FS_g hM _ _ _ (by omega), h6.2 s hs, hXV _ _ _ (by omega) (by omega), hXV _ _ _ (by omega) (by omega), hXV _ _ _ (by omega) (by omega), hXV _ _ _ (by omega) (by omega), hXV _ _ _ (by omega) (by omega), PV_o (by omega), PV_o (by omega), PV_o (by omega), PV_o (by omega), PV_o (by omega)]
    have R := RM_21 s2 he hN haa x21 (by rw [FS_g f5 _ _ _ (by omega), k162, hXV _ _ _ (by omega) (by omega), PV_o (by omega), h68]; rfl) (by rw [FS_g f5 _ _ _ (by omega), k163, hXV _ _ _ (by omega) (by omega), PV_o (by omega), h69]) pm5
    have f6 : FS (fun r => r = 151) m5 (ab_uI m5 151 (98 + 19) e (nI (N + 1))) := FS_uI rfl
    refine ⟨ab_uI m5 151 (98 + 19) e (nI (N + 1)), ?_, by rw [hE]; exact R, fun j hj => by rw [FS_g f6 _ _ _ (by omega)]; exact s3 j hj, by rw [FS_g f6 _ _ _ (by omega), FS_g f5 _ _ _ (by omega), k125], FC_tr (FC_tr (FS_FC hM (fun r hr => by omega)) (FS_FC f5 (fun r hr => by omega))) (FC_uI (by omega))⟩
    have e16 : nI N - nI N / 16 * 16 = nI (N % 16) := nI_rem (k := 16) (by omega) (by decide) (by decide)
    have e3 : nI L.length + 3 = nI (L.length + 3) := nI_add _ 3
    rw [b_M_send_306_eq, ab_ix_nI he (by decide), show ab_ix (0 : Int32) 48 = some 0 from by decide]
    simp only [ob_s, lt_eq]
    first
    | rw [if_neg (show ¬ (16 : Int32) = 0 by decide)]
    | rw [if_neg not_false]
    rw [k151, e16, FS_g f1 151 _ _ (by omega), k151, FS_g f1 125 _ _ (by omega), k125, e3, show L.length + 3 = L.length + 1 + 2 from rfl, s1]
    simp only [ob_s]
    rw [FS_g f5 151 _ _ (by omega), k151, nI_1, FS_g f6 125 _ _ (by omega), FS_g f5 125 _ _ (by omega), k125, e3]
  have k125 : mm.1 125 98 0 = nI L.length := h5.1
  have st : b_M_send_257 (g + 3) 98 (nI e) (nI a) v mm = if v = 0 then b_M_send_306 (g + 1) 98 (nI e) (ab_uI (ab_uI mm 162 (98 + 30) a 0) 163 (98 + 31) a v) else b_M_send_306 (g + 1) 98 (nI e) (ab_uI (ab_uI (ab_uI (ab_uI mm 162 (98 + 30) a 0) 163 (98 + 31) a v) 155 (98 + 23) e 0) 160 (98 + 28) e 0) := by
    rw [b_M_send_257_eq, k125, if_neg (by clear fin h4 h5 h6 h7 h10 h21 h69 h68 b0 b1 b2 A2 F2' a162 a163 k125 naP; grind [nI_T]), ab_ix_nI ha5 (by decide)]
    simp only [ob_s, lt_eq]
    rcases hv with rfl | rfl
    · rw [if_pos rfl, if_pos rfl, b_M_send_287_eq, ab_ix_nI ha5 (by decide)]
      simp only [ob_s, lt_eq]
      rw [if_pos trivial]
    · rw [if_neg (by decide), if_neg (by decide), b_M_send_287_eq, ab_ix_nI ha5 (by decide), ab_ix_nI he (by decide), bo_0]
      simp only [ob_s, lt_eq]
      rw [if_neg (by decide)]
  rw [st]
  by_cases y : v = 0
  · rw [if_pos y]
    exact fin _ _ A2 (FS_le F2' (fun r hr => by omega)) a162 a163 (fun _ _ _ _ _ => rfl) (by unfold enV; rw [if_pos y])
  · rw [if_neg y]
    have i8 : V 8 e 0 = V 7 0 0 := (h7.2.2.1 e he).2.2.2.2.2.2.2.2.2.2.2.2.2.2.1
    have A3 : RM (ab_uI (ab_uI (ab_uI mm 162 (98 + 30) a 0) 163 (98 + 31) a v) 155 (98 + 23) e 0) (uV (PV V e a) 25 e 0 (V 7 0 0)) := RM_ov A2 he (.inr rfl) rfl rfl (by rw [uV_s, uV_k _ _ _ _ _ (by omega), PV_o (by omega), i8, Int32.sub_self])
    have A4 := nu27 A3 he (p := 98 + 28) (j := e) rfl rfl 0
    refine fin _ _ A4 (FS_tr (FS_tr (FS_le F2' (fun r hr => by omega)) (FS_uI (by omega))) (FS_uI (by omega))) ?_ ?_ (fun k a' b k1 k2 => by rw [uV_k _ _ _ _ _ k2, uV_k _ _ _ _ _ k1]) (by unfold enV; rw [if_neg y])
    · rw [uI_r _ _ _ _ _ _ _ _ (by omega), uI_r _ _ _ _ _ _ _ _ (by omega)]
      exact a162
    · rw [uI_r _ _ _ _ _ _ _ _ (by omega), uI_r _ _ _ _ _ _ _ _ (by omega)]
      exact a163
theorem Iv_en {c e N a : Nat} {v : Int32} {V : Vt} (h : Iv c V) (he : e < 2) (hN : N < 512) (hc : c < 512) (haa : a = 560 * e + N) (h21 : V 21 e 0 = nI N) (hG : G4 V e a) (h68 : V 68 a 0 = 1) (h69 : V 69 a 0 = 0 ∨ V 69 a 0 = 1) (h70 : -1 ≤ V 70 a 0 ∧ V 70 a 0 ≤ 256) : Iv (c + 1) (enV V e a N v) := by
  have p := Iv_PV h he hG
  have is : IS (PV V e a) a := by
    have := IS_G4 he hN haa hG h68 h69 h70
    unfold IS at *
    rw [PV_o (by omega), PV_o (by omega), PV_o (by omega)]
    refine ⟨this.1, this.2.1, this.2.2.1, fun s hs => ?_⟩
    rw [PV_o (by omega), PV_o (by omega), PV_o (by omega), PV_o (by omega), PV_o (by omega), PV_o (by omega), PV_o (by omega)]
    exact this.2.2.2 s hs
  unfold enV
  by_cases y : v = 0
  · rw [if_pos y]
    exact Iv_21 p he hN hc haa (by rw [PV_o (by omega)]; exact h21) is
  · rw [if_neg y]
    have e7 : V 7 0 0 = PV V e a 7 0 0 := (PV_o (by omega)).symm
    rw [e7]
    exact Iv_21 (Iv_free (Iv_25 p) (.inl rfl)) he hN hc haa (by rw [uV_k _ _ _ _ _ (by omega), uV_k _ _ _ _ _ (by omega), PV_o (by omega)]; exact h21) (IS_k (by omega) (IS_k (by omega) is))
end
