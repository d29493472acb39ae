section
/-! The packet is sent: what changes. -/
theorem G4_n {c : Nat} {V : Vt} {e a s : Nat} (h : Iv c V) (he : e < 2) (hs : s < 4) (hG : G4 V e a) : nI (nn (V 77 a s)) = V 77 a s ∧ nI (nn (V 78 a s)) = V 78 a s ∧ nn (V 77 a s) + nn (V 78 a s) ≤ nn (V 60 (4 * e + s) 0) ∧ nn (V 60 (4 * e + s) 0) ≤ 64 := by
  have n := p_n h he hs
  have g := hG s hs
  obtain ⟨f, hf, ef⟩ := i_ofc (x := V 77 a s) (N := 64) g.1.1 g.1.2 (by decide)
  obtain ⟨d, hd, ed⟩ := i_ofc (x := V 78 a s) (N := 12) g.2.1.1 g.2.1.2 (by decide)
  have g3 := g.2.2.1
  have l64 : pN V e s ≤ 64 := by omega
  have n1 := n.1
  unfold pN at l64 n1
  rw [← n1, ef, ed, nI_add] at g3
  rw [ef, ed, nn_nI (by omega), nn_nI (by omega)]
  refine ⟨rfl, rfl, ?_, l64⟩
  clear n g h hG n1 ef ed
  grind [nI_T]
theorem Iv_PV {c : Nat} {V : Vt} {e a : Nat} (h : Iv c V) (he : e < 2) (hG : G4 V e a) : Iv c (PV V e a) := by
  have hh := h
  obtain ⟨i1, i2, i3, i4, i5, i6⟩ := h
  have o : ∀ k a' b, k ≠ 64 ∧ k ≠ 65 ∧ k ≠ 67 → PV V e a k a' b = V k a' b := fun k a' b q => PV_o q
  refine ⟨fun a0 ha => ?_, fun a ha => ?_, fun e he => ?_, ?_, fun a ha hl => ?_, fun a' ha' => ?_⟩
  · have g := i1 a0 ha
    unfold IO at *
    simp only [o 59 _ _ (by omega), o 60 _ _ (by omega), o 61 _ _ (by omega), o 62 _ _ (by omega), o 66 _ _ (by omega)]
    refine ⟨g.1, ?_, fun b hb hl => ?_, g.2.2.2⟩
    · rw [PV_d]
      by_cases y : a0 / 4 = e ∧ a0 % 4 < 4
      · rw [if_pos y]
        unfold mk1
        rw [if_neg (by omega)]
        by_cases z : 64 = 64 ∧ 0 = 0 ∧ V 79 a (a0 % 4) ≠ 0 ∧ V 64 a0 0 ≠ 3
        · intro _
          have gg := hG (a0 % 4) y.2
          have z1 : V 79 a (a0 % 4) = 1 := gg.2.2.2.1.resolve_left z.2.2.1
          have := gg.2.2.2.2.1 z1
          rw [show 4 * e + a0 % 4 = a0 by omega] at this
          exact this
        · rw [if_neg z, if_neg (by omega)]
          exact g.2.1
      · rw [if_neg y]
        exact g.2.1
    · rw [PV_d]
      by_cases y : a0 / 4 = e ∧ a0 % 4 < 4
      · rw [if_pos y]
        have gn := G4_n hh he y.2 hG
        rw [show 4 * e + a0 % 4 = a0 by omega] at gn
        have n1 := (p_n hh he y.2).1
        unfold pN at n1
        rw [show 4 * e + a0 % 4 = a0 by omega] at n1
        have le : nn (V 60 a0 0) ≤ b := by
          rw [← n1] at hl
          have h64 := gn.2.2.2
          clear gn n1 g i1 i2 i3 i4 i5 i6 o hG hh
          grind [nI_T]
        unfold mk1
        rw [if_neg (by omega), if_neg (by omega), if_neg (by omega)]
        exact g.2.2.1 b hb hl
      · rw [if_neg y]
        exact g.2.2.1 b hb hl
  · have := i2 a ha
    unfold IN at *
    simp only [o 47 _ _ (by omega), o 48 _ _ (by omega), o 49 _ _ (by omega), o 50 _ _ (by omega), o 51 _ _ (by omega), o 52 _ _ (by omega), o 53 _ _ (by omega)]
    exact this
  · have := i3 e he
    unfold IE hb at *
    simp only [o 21 _ _ (by omega), o 22 _ _ (by omega), o 23 _ _ (by omega), o 24 _ _ (by omega), o 25 _ _ (by omega), o 26 _ _ (by omega), o 30 _ _ (by omega), o 31 _ _ (by omega), o 41 _ _ (by omega), o 42 _ _ (by omega), o 43 _ _ (by omega), o 44 _ _ (by omega), o 55 _ _ (by omega), o 7 _ _ (by omega), o 8 _ _ (by omega), o 28 _ _ (by omega)]
    exact this
  · unfold IX at *
    simp only [o 5 _ _ (by omega), o 6 _ _ (by omega), o 7 _ _ (by omega), o 14 _ _ (by omega)]
    exact i4
  · rw [o 5 _ _ (by omega)] at hl
    have := i5 a ha hl
    unfold IR at *
    simp only [o 11 _ _ (by omega), o 12 _ _ (by omega), o 13 _ _ (by omega)]
    exact this
  · have sa : Sa V a' := by
      unfold Sa at *
      rw [o 21 _ _ (by omega)] at ha'
      exact ha'
    have := i6 a' sa
    unfold IS at *
    simp only [o 60 _ _ (by omega), o 62 _ _ (by omega), o 68 _ _ (by omega), o 69 _ _ (by omega), o 70 _ _ (by omega), o 76 _ _ (by omega), o 77 _ _ (by omega), o 78 _ _ (by omega), o 79 _ _ (by omega), o 80 _ _ (by omega)]
    exact this
theorem Sa_21 {P : Vt} {e N a : Nat} (he : e < 2) (hN : N < 512) (haa : a = 560 * e + N) (h21 : P 21 e 0 = nI N) (a' : Nat) : Sa (uV P 21 e 0 (nI (N + 1))) a' ↔ Sa P a' ∨ a' = a := by
  unfold Sa
  by_cases y : a' / 560 = e
  · rw [y, uV_s, h21]
    constructor
    · rintro ⟨h1, h2, h3⟩
      by_cases z : a' % 560 = N
      · exact .inr (by omega)
      · refine .inl ⟨h1, h2, ?_⟩
        clear h21
        grind [nI_T]
    · rintro (⟨h1, h2, h3⟩ | h)
      · refine ⟨h1, h2, ?_⟩
        clear h21
        grind [nI_T]
      · have e1 : a' % 560 = N := by omega
        refine ⟨by omega, by omega, ?_⟩
        rw [e1]
        clear h21 y h e1 haa
        grind [nI_T]
  · rw [uV_a _ _ _ _ _ y]
    constructor
    · exact .inl
    · rintro (h | h)
      · exact h
      · omega
theorem RC_21 {m : Mm} {P : Vt} {w W : Nat → Nat} {e N a S E : Nat} (h : RC m P w W) (he : e < 2) (hE : E = 6 + 30 * e) (hN : N < 512) (haa : a = 560 * e + N) (h21 : P 21 e 0 = nI N) (hk : Pk m S P a) (hS1 : 139 ≤ S) (hS2 : S + 6 ≤ m.2.2.2.1.length) (hd : ∀ a', Sa P a' → W a' + 6 ≤ S) : RC (ab_uI (ab_uR m 39 (E + 5) N (some S)) 21 E 0 (nI (N + 1))) (uV P 21 e 0 (nI (N + 1))) w (fun a' => if a' = a then S else W a') := by
  subst hE
  obtain ⟨h1, h2, h3, h4, h5, h6, h7⟩ := h
  have sa := Sa_21 he hN haa h21
  have na : ¬ Sa P a := by
    intro y
    have := y.2.2
    rw [show a / 560 = e by omega, show a % 560 = N by omega, h21] at this
    exact Int32.lt_irrefl this
  refine ⟨fun k' a' b' t => ?_, fun a' ha' => ?_, fun a' ha' hl => ?_, fun a' ha' => ⟨?_, fun k' b' t => ?_⟩, fun e' he' => ?_, h6, ?_⟩
  · by_cases q : k' = 21
    · subst q
      have tb : a' < 2 ∧ b' = 0 := by unfold Ts at t; omega
      have ps : Ps 21 a' = 6 + 30 * a' := rfl
      rw [ps, uI_1]
      by_cases z : a' = e
      · subst z
        rw [if_pos ⟨rfl, rfl, tb.2⟩, tb.2, uV_s]
      · rw [if_neg (by omega), uV_a _ _ _ _ _ z, ← ps]
        exact h1 21 a' b' t
    · rw [uI_r _ _ _ _ _ _ _ _ q, uV_k _ _ _ _ _ q]
      exact h1 k' a' b' t
  · show (if 9 = 39 ∧ 2 = 6 + 30 * e + 5 ∧ a' = N then some S else m.2.2.1 9 2 a') = some (w a')
    rw [if_neg (by omega)]
    exact h2 a' ha'
  · rw [uV_k _ _ _ _ _ (by omega)] at hl
    rw [uI_r _ _ _ _ _ _ _ _ (by omega), uI_r _ _ _ _ _ _ _ _ (by omega), uV_k _ _ _ _ _ (by omega), uV_k _ _ _ _ _ (by omega)]
    refine ⟨(h3 a' ha' hl).1, (h3 a' ha' hl).2.1, fun b hb => ?_⟩
    rw [uI_r _ _ _ _ _ _ _ _ (by omega), uV_k _ _ _ _ _ (by omega)]
    exact (h3 a' ha' hl).2.2 b hb
  · show (if 39 = 39 ∧ 11 + 30 * (a' / 560) = 6 + 30 * e + 5 ∧ a' % 560 = N then some S else m.2.2.1 39 (11 + 30 * (a' / 560)) (a' % 560)) = some (if a' = a then S else W a')
    rcases (sa a').mp ha' with y | y
    · have ne : a' ≠ a := fun z => na (z ▸ y)
      have b2 := y.1
      rw [if_neg ne, if_neg (by omega)]
      exact (h4 a' y).1
    · rw [if_pos (by omega), if_pos y]
  · have tk := TS_k t
    rw [uI_r _ _ _ _ _ _ _ _ (by omega), uV_k _ _ _ _ _ (by omega)]
    show m.1 k' ((if a' = a then S else W a') + ofk k') b' = P k' a' b'
    rcases (sa a').mp ha' with y | y
    · have ne : a' ≠ a := fun z => na (z ▸ y)
      rw [if_neg ne]
      exact (h4 a' y).2 k' b' t
    · rw [if_pos y, y]
      exact hk k' b' t
  · rw [uI_r _ _ _ _ _ _ _ _ (by omega)]
    exact h5 e' he'
  · show Wok _ _ m.2.2.2.1.length
    refine ⟨fun x hx => ?_, fun x y hx hy hne => ?_⟩
    · show 139 ≤ (if x = a then S else W x) ∧ (if x = a then S else W x) + 6 ≤ _
      by_cases z : x = a
      · rw [if_pos z]
        exact ⟨hS1, hS2⟩
      · rw [if_neg z]
        exact h7.1 x (((sa x).mp hx).resolve_right z)
    · show (if x = a then S else W x) + 6 ≤ (if y = a then S else W y) ∨ (if y = a then S else W y) + 6 ≤ (if x = a then S else W x)
      by_cases z : x = a
      · have z2 : y ≠ a := fun q => hne (z.trans q.symm)
        rw [if_pos z, if_neg z2]
        exact .inr (hd y (((sa y).mp hy).resolve_right z2))
      · rw [if_neg z]
        have sx := ((sa x).mp hx).resolve_right z
        by_cases z2 : y = a
        · rw [if_pos z2]
          exact .inl (hd x sx)
        · rw [if_neg z2]
          exact h7.2 x y sx (((sa y).mp hy).resolve_right z2) hne
theorem RM_21 {m : Mm} {P : Vt} {e N a : Nat} (h : RM m P) (he : e < 2) (hN : N < 512) (haa : a = 560 * e + N) (h21 : P 21 e 0 = nI N) (q1 : m.1 162 128 a = fs (P 68 a 0)) (q2 : m.1 163 129 a = P 69 a 0) (hP : PM m P a) : RM (ab_uI m 151 (98 + 19) e (nI (N + 1))) (uV P 21 e 0 (nI (N + 1))) := by
  obtain ⟨h1, h2, h3, h4, h5⟩ := h
  have sa := Sa_21 he hN haa h21
  have u : ∀ k a' b, k ≠ 21 → uV P 21 e 0 (nI (N + 1)) k a' b = P k a' b := fun k a' b q => uV_k _ _ _ _ _ q
  refine ⟨fun k' a' b' t z => ?_, ?_, fun e' he' => ?_, fun a' ha' hl => ?_, fun a' ha' => ?_⟩
  · by_cases q : k' = 21
    · subst q
      have tb : a' < 2 ∧ b' = 0 := by unfold Ts at t; omega
      have r1 : mr 21 = 151 := rfl
      have r2 : ms 21 * a' + b' = a' := by
        show 1 * a' + b' = a'
        omega
      rw [r1, r2, uI_1]
      by_cases y : a' = e
      · subst y
        rw [if_pos ⟨rfl, rfl, rfl⟩, tb.2, uV_s]
      · rw [if_neg (fun p => y p.2.2), uV_a _ _ _ _ _ y]
        have := h1 21 a' b' t z
        rw [r1, r2] at this
        exact this
    · have tk := Ts_k t
      have nm : mr k' ≠ 151 := fun y => q (mr_inj k' tk.1 21 (by omega) z y)
      rw [uI_r _ _ _ _ _ _ _ _ nm, u _ _ _ q]
      exact h1 k' a' b' t z
  · rw [uI_r _ _ _ _ _ _ _ _ (by omega), uI_r _ _ _ _ _ _ _ _ (by omega), uI_r _ _ _ _ _ _ _ _ (by omega), u _ _ _ (by omega), u _ _ _ (by omega), u _ _ _ (by omega)]
    exact h2
  · rw [uI_r _ _ _ _ _ _ _ _ (by omega), uI_r _ _ _ _ _ _ _ _ (by omega), uI_r _ _ _ _ _ _ _ _ (by omega), uI_r _ _ _ _ _ _ _ _ (by omega), u _ _ _ (by omega), u _ _ _ (by omega), u _ _ _ (by omega), u _ _ _ (by omega), u _ _ _ (by omega), u _ _ _ (by omega)]
    exact h3 e' he'
  · rw [u _ _ _ (by omega)] at hl
    rw [uI_r _ _ _ _ _ _ _ _ (by omega), uI_r _ _ _ _ _ _ _ _ (by omega), u _ _ _ (by omega), u _ _ _ (by omega)]
    refine ⟨(h4 a' ha' hl).1, (h4 a' ha' hl).2.1, fun b hb hc => ?_⟩
    rw [uI_r _ _ _ _ _ _ _ _ (by omega), u _ _ _ (by omega)]
    exact (h4 a' ha' hl).2.2 b hb hc
  · have key : m.1 162 128 a' = fs (P 68 a' 0) ∧ m.1 163 129 a' = P 69 a' 0 ∧ m.1 164 130 a' = P 70 a' 0 ∧ ∀ s, s < 4 → m.1 165 131 (4 * a' + s) = enc (P 77 a' s) (P 78 a' s) (P 79 a' s) (P 80 a' s) (P 76 a' s) := by
      rcases (sa a').mp ha' with y | y
      · exact h5 a' y
      · rw [y]
        exact ⟨q1, q2, hP.1, hP.2⟩
    rw [uI_r _ _ _ _ _ _ _ _ (by omega), uI_r _ _ _ _ _ _ _ _ (by omega), uI_r _ _ _ _ _ _ _ _ (by omega), u _ _ _ (by omega), u _ _ _ (by omega), u _ _ _ (by omega)]
    refine ⟨key.1, key.2.1, key.2.2.1, fun s hs => ?_⟩
    rw [uI_r _ _ _ _ _ _ _ _ (by omega), u _ _ _ (by omega), u _ _ _ (by omega), u _ _ _ (by omega), u _ _ _ (by omega), u _ _ _ (by omega)]
    exact key.2.2.2 s hs
theorem Iv_21 {c : Nat} {P : Vt} {e N a : Nat} (h : Iv c P) (he : e < 2) (hN : N < 512) (hc : c < 512) (haa : a = 560 * e + N) (h21 : P 21 e 0 = nI N) (hs : IS P a) : Iv (c + 1) (uV P 21 e 0 (nI (N + 1))) := by
  have le : N ≤ c := by
    have := (h.2.2.1 e he).1.2
    rw [h21] at this
    clear h hs h21
    grind [nI_T]
  have h := Iv_more h (show c ≤ c + 1 by omega) (by omega)
  have sa := Sa_21 he hN haa h21
  have u : ∀ k a' b, k ≠ 21 → uV P 21 e 0 (nI (N + 1)) k a' b = P k a' b := fun k a' b q => uV_k _ _ _ _ _ q
  obtain ⟨i1, i2, i3, i4, i5, i6⟩ := h
  refine ⟨fun a ha => IO_k (by omega) (i1 a ha), fun a ha => IN_k (by omega) (i2 a ha), fun e' he' => ?_, IX_k (by omega) i4, fun a ha hl => IR_k (by omega) (i5 a ha (by rw [u _ _ _ (by omega)] at hl; exact hl)), fun a' ha' => ?_⟩
  · have g := i3 e' he'
    unfold IE hb at *
    simp only [u 22 _ _ (by omega), u 23 _ _ (by omega), u 24 _ _ (by omega), u 25 _ _ (by omega), u 26 _ _ (by omega), u 30 _ _ (by omega), u 31 _ _ (by omega), u 41 _ _ (by omega), u 42 _ _ (by omega), u 43 _ _ (by omega), u 44 _ _ (by omega), u 55 _ _ (by omega), u 7 _ _ (by omega), u 8 _ _ (by omega), u 28 _ _ (by omega)]
    by_cases y : e' = e
    · subst y
      rw [uV_s]
      obtain ⟨g1, g2, g3, g4, g5⟩ := g
      rw [h21] at g4
      refine ⟨?_, g2, g3, ?_, g5⟩
      · clear g1 g2 g3 g4 g5 i1 i2 i3 i4 i5 i6 u sa h21 hs
        grind [nI_T]
      · rcases g4 with q | q
        · refine .inl ⟨q.1, ?_⟩
          have q2 := q.2
          clear g1 g2 g3 g5 i1 i2 i3 i4 i5 i6 u sa h21 q hs
          grind [nI_T]
        · exact .inr q
    · rw [uV_a _ _ _ _ _ y]
      exact g
  · have : IS P a' := by
      rcases (sa a').mp ha' with y | y
      · exact i6 a' y
      · rw [y]
        exact hs
    exact IS_k (by omega) this
theorem Iv_25 {c : Nat} {V : Vt} {e : Nat} (h : Iv c V) : Iv c (uV V 25 e 0 (V 7 0 0)) := by
  refine Iv_k h (by omega) (fun a ha => IO_k (by omega) (h.1 a ha)) (fun a ha => IN_k (by omega) (h.2.1 a ha)) (fun e' he => ?_) (IX_k (by omega) h.2.2.2.1) (fun a ha hl => IR_k (by omega) (h.2.2.2.2.1 a ha hl)) (fun a ha => IS_k (by omega) (h.2.2.2.2.2 a ha))
  have u : ∀ k' a' b', k' ≠ 25 → uV V 25 e 0 (V 7 0 0) k' a' b' = V k' a' b' := fun k' a' b' q => uV_k V 25 e 0 (V 7 0 0) q
  have g := h.2.2.1 e' he
  have x7 := h.2.2.2.1.2.2.1.1
  unfold IE hb at *
  simp only [u 21 _ _ (by omega), u 22 _ _ (by omega), u 23 _ _ (by omega), u 24 _ _ (by omega), u 26 _ _ (by omega), u 43 _ _ (by omega), u 30 _ _ (by omega), u 31 _ _ (by omega), u 41 _ _ (by omega), u 42 _ _ (by omega), u 44 _ _ (by omega), u 55 _ _ (by omega), u 7 _ _ (by omega), u 8 _ _ (by omega), u 28 _ _ (by omega)]
  obtain ⟨g1, g2, g3, g4, g5, g6⟩ := g
  refine ⟨g1, g2, g3, g4, ?_, g6⟩
  unfold uV
  split
  · exact ⟨x7, Int32.le_refl _⟩
  · exact g5
theorem Iv_28z {c : Nat} {V : Vt} {e : Nat} (h : Iv c V) : Iv c (uV V 28 e 0 0) := by
  refine Iv_k h (by omega) (fun a ha => IO_k (by omega) (h.1 a ha)) (fun a ha => IN_k (by omega) (h.2.1 a ha)) (fun e' he => ?_) (IX_k (by omega) h.2.2.2.1) (fun a ha hl => IR_k (by omega) (h.2.2.2.2.1 a ha hl)) (fun a ha => IS_k (by omega) (h.2.2.2.2.2 a ha))
  have u : ∀ k' a' b', k' ≠ 28 → uV V 28 e 0 0 k' a' b' = V k' a' b' := fun k' a' b' q => uV_k V 28 e 0 0 q
  have g := h.2.2.1 e' he
  unfold IE hb at *
  simp only [u 21 _ _ (by omega), u 22 _ _ (by omega), u 23 _ _ (by omega), u 24 _ _ (by omega), u 25 _ _ (by omega), u 26 _ _ (by omega), u 43 _ _ (by omega), u 30 _ _ (by omega), u 31 _ _ (by omega), u 41 _ _ (by omega), u 42 _ _ (by omega), u 44 _ _ (by omega), u 55 _ _ (by omega), u 7 _ _ (by omega), u 8 _ _ (by omega)]
  obtain ⟨g1, g2, g3, g4, g5, g6, g7, g8, g9, g10, g11, g12, g13, g14, g15, g16, g17⟩ := g
  refine ⟨g1, g2, g3, g4, g5, g6, g7, g8, g9, g10, g11, g12, g13, g14, g15, fun y => ?_, g17⟩
  unfold uV
  split
  · rfl
  · exact g16 y
theorem IS_G4 {V : Vt} {e a N : Nat} (he : e < 2) (hN : N < 512) (haa : a = 560 * e + N) (hG : G4 V e a) (h68 : V 68 a 0 = 1) (h69 : V 69 a 0 = 0 ∨ V 69 a 0 = 1) (h70 : -1 ≤ V 70 a 0 ∧ V 70 a 0 ≤ 256) : IS V a := by
  refine ⟨.inl h68, h69, h70, fun s hs => ?_⟩
  rw [show a / 560 = e by omega]
  exact hG s hs
theorem BL_fur {V : Vt} {e : Nat} : ∀ k l, l < 2 ^ 30 → BL (fur V e k l)
  | 0, _, _ => BL_0
  | k + 1, l, h => by
    unfold fur
    split
    · exact BL_0
    · rename_i t ht
      have g := (gbl_lt ht).1
      have g2 := lrg_le V e t
      exact BL_a (BL_nb (by omega)) (BL_a (BL_nb (by omega)) (BL_fur k _ (by omega)))
theorem BL_ack {V : Vt} {e t : Nat} (h : t < 2 ^ 30) : BL (ackL V e t) := by
  have g2 := lrg_le V e t
  have g3 := rgn_le V e 2 (lrg V e t)
  unfold ackL
  exact BL_a (BL_1 (by omega)) (BL_a (BL_nb h) (BL_a (BL_nb (by omega)) (BL_a (BL_nb (by omega)) (BL_fur 2 _ (by omega)))))
theorem fur_l {V : Vt} {e : Nat} : ∀ k l, (fur V e k l).length ≤ 8 * k
  | 0, _ => Nat.le_refl _
  | k + 1, l => by
    unfold fur
    split
    · exact Nat.zero_le _
    · rename_i t ht
      have := fur_l (V := V) (e := e) k (lrg V e t)
      have w1 := nw_4 (l - t - 2)
      have w2 := nw_4 (t - lrg V e t)
      rw [List.length_append, List.length_append, nb_l, nb_l]
      omega
theorem ack_l {V : Vt} {e t : Nat} : 1 ≤ (ackL V e t).length ∧ (ackL V e t).length ≤ 29 := by
  have := fur_l (V := V) (e := e) 2 (lrg V e t)
  have w1 := nw_4 t
  have w2 := nw_4 (t - lrg V e t)
  have w3 := nw_4 (rgn V e 2 (lrg V e t))
  unfold ackL
  rw [List.length_append, List.length_append, List.length_append, List.length_append, nb_l, nb_l, nb_l]
  show 1 ≤ 1 + _ ∧ 1 + _ ≤ 29
  omega
end
