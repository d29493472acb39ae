section
/-! Ranges of packets are acked, overtaken ones are lost. -/
theorem lsV_o {V : Vt} {e p i k : Nat} (hk : k ≠ 44 ∧ k ≠ 52 ∧ k ≠ 64 ∧ k ≠ 65 ∧ k ≠ 67 ∧ k ≠ 68) (a b : Nat) : lsV V e p i k a b = V k a b := by
  unfold lsV mk1
  rw [if_neg (by omega), if_neg (by omega)]
  split
  · rw [if_neg (by omega), if_neg (by omega), if_neg (by omega), if_neg (by omega)]
  · rfl
theorem akV_o {V : Vt} {e n p i k : Nat} (hk : k ≠ 23 ∧ k ≠ 24 ∧ k ≠ 64 ∧ k ≠ 65 ∧ k ≠ 67 ∧ k ≠ 68) (a b : Nat) : akV V e n p i k a b = V k a b := by
  unfold akV mk1
  rw [if_neg (by omega), if_neg (by omega), if_neg (by omega)]
  split
  · rw [if_neg (by omega), if_neg (by omega), if_neg (by omega)]
  · rfl
theorem mk1_64 {V : Vt} {f c a : Nat} {d r x : Int32} (h : mk1 V f c d r x 64 a 0 ≠ 0) : V 64 a 0 ≠ 0 ∨ d ≠ 0 := by
  unfold mk1 at h
  rw [if_neg (by omega)] at h
  by_cases z : d ≠ 0
  · exact .inr z
  · rw [if_neg (fun y => z y.2.2.1), if_neg (by omega)] at h
    exact .inl h
theorem mk1_67 {V : Vt} {f c a b : Nat} {d r x : Int32} (h : f + c ≤ b) : mk1 V f c d r x 67 a b = V 67 a b := by
  unfold mk1
  rw [if_neg (by omega), if_neg (by omega), if_neg (by omega)]
theorem IS_60 {V : Vt} {p s b : Nat} (is : IS V p) (hI : ∀ a, a < 8 → IO V a) (hp : p < 1120) (hs : s < 4) (hb : V 60 (4 * (p / 560) + s) 0 ≤ nI b) (h64 : b < 64) : nn (V 77 p s) + nn (V 78 p s) ≤ b := by
  have g := IS_77 is hI hp hs
  unfold IS at is
  have q := (is.2.2.2 s hs).2.2.1
  have o := hI (4 * (p / 560) + s) (by omega)
  unfold IO at o
  have o1 := o.1.1
  have o2 := o.1.2.1
  have o3 := o.1.2.2
  rw [← g.1, ← g.2.1] at q
  have g3 := g.2.2.1
  generalize nn (V 77 p s) = x at *
  generalize nn (V 78 p s) = y at *
  generalize V 60 (4 * (p / 560) + s) 0 = z at *
  grind [nI_T]
theorem Iv_ls {c : Nat} {V : Vt} {e n : Nat} (h : Iv c V) (he : e < 2) (sa : Sa V (560 * e + n)) (hn : n < 512) : Iv c (lsV V e (560 * e + n) 4) := by
  obtain ⟨h1, h2, h3, h4, h5, h6⟩ := h
  have is := h6 _ sa
  have hpd : (560 * e + n) / 560 = e := by omega
  have hp0 := sa.1
  generalize hp : 560 * e + n = p at *
  have o := fun k (hk : k ≠ 44 ∧ k ≠ 52 ∧ k ≠ 64 ∧ k ≠ 65 ∧ k ≠ 67 ∧ k ≠ 68) a b => lsV_o (V := V) (e := e) (p := p) (i := 4) hk a b
  have is' := is
  unfold IS at is'
  refine ⟨fun a ha => ?_, fun a ha => ?_, fun e' he' => ?_, ?_, fun a ha hl => ?_, fun a ha => ?_⟩
  · have g := h1 a ha
    have r60 : ∀ b, b < 64 → V 60 a 0 ≤ nI b → a / 4 = e → nn (V 77 p (a % 4)) + nn (V 78 p (a % 4)) ≤ b := by
      intro b hb hv hae
      refine IS_60 is h1 hp0 (by omega) ?_ hb
      rw [hpd, show 4 * e + a % 4 = a by omega]
      exact hv
    unfold IO at *
    simp only [o 60 (by omega), o 59 (by omega), o 62 (by omega), o 61 (by omega), o 66 (by omega)]
    refine ⟨g.1, ?_, ?_, g.2.2.2⟩
    · intro q
      unfold lsV at q
      rw [if_neg (by omega), if_neg (by omega)] at q
      by_cases z : a / 4 = e ∧ a % 4 < 4
      · rw [if_pos z, if_neg (by omega)] at q
        rcases mk1_64 q with q | q
        · exact g.2.1 q
        · have := is'.2.2.2 (a % 4) (by omega)
          rw [hpd, show 4 * e + a % 4 = a by omega] at this
          rcases this.2.2.2.1 with y | y
          · exact (q y).elim
          · exact this.2.2.2.2.1 y
      · rw [if_neg z] at q
        exact g.2.1 q
    · intro b hb hv
      unfold lsV
      rw [if_neg (by omega), if_neg (by omega)]
      by_cases z : a / 4 = e ∧ a % 4 < 4
      · rw [if_pos z, if_neg (by omega), mk1_67 (r60 b hb hv z.1)]
        exact g.2.2.1 b hb hv
      · rw [if_neg z]
        exact g.2.2.1 b hb hv
  · have g := h2 a ha
    unfold IN at *
    simp only [o 47 (by omega), o 48 (by omega), o 49 (by omega), o 50 (by omega), o 51 (by omega), o 53 (by omega)]
    refine ⟨g.1, g.2.1, g.2.2.1, ?_, g.2.2.2.2⟩
    unfold lsV
    rw [if_neg (by omega), if_neg (by omega)]
    split
    · split
      · exact .inr rfl
      · unfold mk1
        rw [if_neg (by omega), if_neg (by omega), if_neg (by omega)]
        exact g.2.2.2.1
    · exact g.2.2.2.1
  · have g := h3 e' he'
    unfold IE hb at *
    simp only [o 21 (by omega), o 22 (by omega), o 23 (by omega), o 24 (by omega), o 25 (by omega), o 26 (by omega), o 30 (by omega), o 31 (by omega), o 41 (by omega), o 42 (by omega), o 43 (by omega), o 55 (by omega), o 7 (by omega), o 8 (by omega), o 28 (by omega)]
    obtain ⟨g1, g2, g3, g4, g5, g6, g7, g8, g9, g10, g11, g12, g13, g14⟩ := g
    refine ⟨g1, g2, g3, g4, g5, g6, g7, g8, g9, g10, g11, g12, ?_, g14⟩
    unfold lsV
    rw [if_neg (by omega)]
    split
    · exact .inr rfl
    · split
      · rw [if_neg (by omega)]
        unfold mk1
        rw [if_neg (by omega), if_neg (by omega), if_neg (by omega)]
        exact g13
      · exact g13
  · unfold IX at *
    simp only [o 5 (by omega), o 6 (by omega), o 7 (by omega), o 14 (by omega)]
    exact h4
  · rw [o 5 (by omega)] at hl
    have g := h5 a ha hl
    unfold IR at *
    simp only [o 11 (by omega), o 12 (by omega), o 13 (by omega)]
    exact g
  · have ha' : Sa V a := by
      unfold Sa at *
      rw [o 21 (by omega)] at ha
      exact ha
    have g := h6 a ha'
    unfold IS at *
    simp only [o 69 (by omega), o 70 (by omega), o 76 (by omega), o 77 (by omega), o 78 (by omega), o 79 (by omega), o 80 (by omega), o 60 (by omega), o 62 (by omega)]
    refine ⟨?_, g.2⟩
    unfold lsV
    split
    · exact .inr (.inl rfl)
    · rw [if_neg (by omega)]
      split
      · rw [if_neg (by omega)]
        unfold mk1
        rw [if_neg (by omega), if_neg (by omega), if_neg (by omega)]
        exact g.1
      · exact g.1
theorem Iv_ak {c : Nat} {V : Vt} {e n : Nat} (h : Iv c V) (he : e < 2) (sa : Sa V (560 * e + n)) (hn : n < 512) : Iv c (akV V e n (560 * e + n) 4) := by
  obtain ⟨h1, h2, h3, h4, h5, h6⟩ := h
  have is := h6 _ sa
  have hpd : (560 * e + n) / 560 = e := by omega
  have hp0 := sa.1
  have hx : nI n < V 21 e 0 := by
    have := sa.2.2
    rw [hpd, show (560 * e + n) % 560 = n by omega] at this
    exact this
  generalize hp : 560 * e + n = p at *
  have o := fun k (hk : k ≠ 23 ∧ k ≠ 24 ∧ k ≠ 64 ∧ k ≠ 65 ∧ k ≠ 67 ∧ k ≠ 68) a b => akV_o (V := V) (e := e) (n := n) (p := p) (i := 4) hk a b
  have is' := is
  unfold IS at is'
  refine ⟨fun a ha => ?_, fun a ha => ?_, fun e' he' => ?_, ?_, fun a ha hl => ?_, fun a ha => ?_⟩
  · have g := h1 a ha
    have r60 : ∀ b, b < 64 → V 60 a 0 ≤ nI b → a / 4 = e → nn (V 77 p (a % 4)) + nn (V 78 p (a % 4)) ≤ b := by
      intro b hb hv hae
      refine IS_60 is h1 hp0 (by omega) ?_ hb
      rw [hpd, show 4 * e + a % 4 = a by omega]
      exact hv
    unfold IO at *
    simp only [o 60 (by omega), o 59 (by omega), o 62 (by omega), o 61 (by omega), o 66 (by omega)]
    refine ⟨g.1, ?_, ?_, g.2.2.2⟩
    · intro q
      unfold akV at q
      rw [if_neg (by omega), if_neg (by omega), if_neg (by omega)] at q
      by_cases z : a / 4 = e ∧ a % 4 < 4
      · rw [if_pos z] at q
        rcases mk1_64 q with q | q
        · exact g.2.1 q
        · have := is'.2.2.2 (a % 4) (by omega)
          rw [hpd, show 4 * e + a % 4 = a by omega] at this
          rcases this.2.2.2.1 with y | y
          · exact (q y).elim
          · exact this.2.2.2.2.1 y
      · rw [if_neg z] at q
        exact g.2.1 q
    · intro b hb hv
      unfold akV
      rw [if_neg (by omega), if_neg (by omega), if_neg (by omega)]
      by_cases z : a / 4 = e ∧ a % 4 < 4
      · rw [if_pos z, mk1_67 (r60 b hb hv z.1)]
        exact g.2.2.1 b hb hv
      · rw [if_neg z]
        exact g.2.2.1 b hb hv
  · have g := h2 a ha
    unfold IN at *
    simp only [o 47 (by omega), o 48 (by omega), o 49 (by omega), o 50 (by omega), o 51 (by omega), o 52 (by omega), o 53 (by omega)]
    exact g
  · have g := h3 e' he'
    unfold IE hb at *
    simp only [o 21 (by omega), o 22 (by omega), o 25 (by omega), o 26 (by omega), o 30 (by omega), o 31 (by omega), o 41 (by omega), o 42 (by omega), o 43 (by omega), o 44 (by omega), o 55 (by omega), o 7 (by omega), o 8 (by omega), o 28 (by omega)]
    obtain ⟨g1, g2, g3, g4, g5⟩ := g
    refine ⟨g1, g2, ?_, ?_, g5⟩
    · unfold akV mk1
      grind
    · unfold akV mk1
      grind [nI_T]
  · unfold IX at *
    simp only [o 5 (by omega), o 6 (by omega), o 7 (by omega), o 14 (by omega)]
    exact h4
  · rw [o 5 (by omega)] at hl
    have g := h5 a ha hl
    unfold IR at *
    simp only [o 11 (by omega), o 12 (by omega), o 13 (by omega)]
    exact g
  · have ha' : Sa V a := by
      unfold Sa at *
      rw [o 21 (by omega)] at ha
      exact ha
    have g := h6 a ha'
    unfold IS at *
    simp only [o 69 (by omega), o 70 (by omega), o 76 (by omega), o 77 (by omega), o 78 (by omega), o 79 (by omega), o 80 (by omega), o 60 (by omega), o 62 (by omega)]
    refine ⟨?_, g.2⟩
    unfold akV mk1
    grind
/-- the packets n .. n + k - 1 are acked -/
def ark (e : Nat) : Nat → Nat → Vt → Vt
  | _, 0, V => V
  | n, k + 1, V => ark e (n + 1) k (if V 68 (560 * e + n) 0 = 1 then akV V e n (560 * e + n) 4 else V)
/-- the packets n .. n + k - 1 are lost -/
def lrk (e : Nat) : Nat → Nat → Vt → Vt
  | _, 0, V => V
  | n, k + 1, V => lrk e (n + 1) k (if V 68 (560 * e + n) 0 = 1 then lsV V e (560 * e + n) 4 else V)
theorem s_ackLoop {w W : Nat → Nat} {c e E hi N : Nat} (he : e < 2) (hE : E = 6 + 30 * e) (hN : N ≤ 512) (hh : hi < N) : ∀ (k n f : Nat) (V : Vt) (m : Mm), n + k = hi + 1 → 2 * k < f → V 21 e 0 = nI N → Iv c V → RC m V w W → ∃ m', b_End_ackRange_6 f E (nI hi) (nI n) m = some (.inl (none, m')) ∧ RC m' (ark e n k V) w W ∧ Iv c (ark e n k V) ∧ FS sAk m m' ∧ (ark e n k V) 21 e 0 = nI N := by
  intro k
  induction k with
  | zero =>
    intro n f V m hn hf hV hI h
    obtain ⟨f, rfl⟩ : ∃ g, f = g + 1 := ⟨f - 1, by omega⟩
    rw [b_End_ackRange_6_eq, if_pos (by (try clear ih); grind [nI_T])]
    exact ⟨m, rfl, h, hI, FS_rfl _ _, hV⟩
  | succ k ih =>
    intro n f V m hn hf hV hI h
    obtain ⟨f, rfl⟩ : ∃ g, f = g + 2 := ⟨f - 2, by omega⟩
    have hx : nI n < V 21 e 0 := by rw [hV]; grind [nI_T]
    have hn5 : n < 512 := by omega
    have sa := Sa_of he hn5 hx
    rw [b_End_ackRange_6_eq, if_neg (by (try clear ih); grind [nI_T]), c21 h he hE, hV, if_neg (by (try clear ih); grind [nI_T]), s_isOnWay h he hn5 hx hE]
    simp only [bo_0, bo_1, ob_s, lt_eq, rI_ite, rI_some, rV_ite, rV_some, ib_if]
    unfold ark
    by_cases z : V 68 (560 * e + n) 0 = 1
    · obtain ⟨m2, e2, k24, r2, f2⟩ := s_ack1 h hI.1 he hE hn5 hx (hI.2.2.2.2.2 _ sa)
      rw [if_pos z, if_pos z, ab_ix_nI hn5 (by decide)]
      simp only [ob_s, lt_eq]
      rw [cW h he hn5 hx (p := E + 5) (by omega)]
      simp only [ob_s, lt_eq]
      rw [show (ab_uI m 68 (W (560 * e + n)) 0 3).2.2.1 39 (E + 5) n = some (W (560 * e + n)) from cW h he hn5 hx (p := E + 5) (by omega)]
      simp only [ob_s, lt_eq]
      rw [e2]
      simp only [ob_s, lt_eq]
      rw [k24, s_max]
      simp only [ob_s, lt_eq]
      rw [b_End_ackRange_68_eq]
      simp only [ob_s, lt_eq]
      rw [nI_1]
      obtain ⟨m', q1, q2, q3, q4, q5⟩ := ih (n + 1) f _ _ (by omega) (by omega) (by rw [akV_o (by omega)]; exact hV) (Iv_ak hI he sa hn5) r2
      exact ⟨m', q1, q2, q3, FS_tr f2 q4, q5⟩
    · rw [if_neg z, if_neg z, b_End_ackRange_68_eq]
      simp only [ob_s, lt_eq]
      rw [nI_1]
      exact ih (n + 1) f V m (by omega) (by omega) hV hI h
theorem s_loseLoop {w W : Nat → Nat} {c e E N : Nat} (he : e < 2) (hE : E = 6 + 30 * e) (hN : N ≤ 512) : ∀ (k n f : Nat) (V : Vt) (m : Mm), 2 * k < f → n + k ≤ N → (V 24 e 0 - 3 = nI (n + k) - 1) → V 21 e 0 = nI N → Iv c V → RC m V w W → ∃ m', b_End_loseOvertaken_2 f E (nI n) m = some (.inl (none, m')) ∧ RC m' (lrk e n k V) w W ∧ Iv c (lrk e n k V) ∧ FS sLs m m' ∧ (lrk e n k V) 21 e 0 = nI N := by
  intro k
  induction k with
  | zero =>
    intro n f V m hf hnk h24 hV hI h
    obtain ⟨f, rfl⟩ : ∃ g, f = g + 1 := ⟨f - 1, by omega⟩
    rw [b_End_loseOvertaken_2_eq, c24 h he hE, h24, if_pos (by (try clear ih); grind [nI_T])]
    exact ⟨m, rfl, h, hI, FS_rfl _ _, hV⟩
  | succ k ih =>
    intro n f V m hf hnk h24 hV hI h
    obtain ⟨f, rfl⟩ : ∃ g, f = g + 2 := ⟨f - 2, by omega⟩
    have hx : nI n < V 21 e 0 := by rw [hV]; grind [nI_T]
    have hn5 : n < 512 := by omega
    have sa := Sa_of he hn5 hx
    rw [b_End_loseOvertaken_2_eq, c24 h he hE, h24, if_neg (by (try clear ih); grind [nI_T]), s_isOnWay h he hn5 hx hE]
    simp only [bo_0, bo_1, ob_s, lt_eq, rI_ite, rI_some, rV_ite, rV_some, ib_if]
    unfold lrk
    by_cases z : V 68 (560 * e + n) 0 = 1
    · obtain ⟨m2, e2, r2, f2⟩ := s_losePacket h hI.1 he hE sa (hI.2.2.2.2.2 _ sa)
      rw [if_pos z, if_pos z, ab_ix_nI hn5 (by decide)]
      simp only [ob_s, lt_eq]
      rw [cW h he hn5 hx (p := E + 5) (by omega)]
      simp only [ob_s, lt_eq]
      rw [e2]
      simp only [ob_s, lt_eq]
      rw [b_End_loseOvertaken_30_eq]
      simp only [ob_s, lt_eq]
      rw [nI_1]
      obtain ⟨m', q1, q2, q3, q4, q5⟩ := ih (n + 1) f _ _ (by omega) (by omega) (by rw [lsV_o (by omega), h24, show n + 1 + k = n + (k + 1) by omega]) (by rw [lsV_o (by omega)]; exact hV) (Iv_ls hI he sa hn5) r2
      exact ⟨m', q1, q2, q3, FS_tr f2 q4, q5⟩
    · rw [if_neg z, if_neg z, b_End_loseOvertaken_30_eq]
      simp only [ob_s, lt_eq]
      rw [nI_1]
      exact ih (n + 1) f V m (by omega) (by omega) (by rw [h24, show n + 1 + k = n + (k + 1) by omega]) hV hI h
end
