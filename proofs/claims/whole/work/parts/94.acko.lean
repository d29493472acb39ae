section
def sMa (r : Nat) : Prop := sMl r ∨ s170 r
theorem ark_o {e : Nat} : ∀ (k n : Nat) (V : Vt) (q a b : Nat), (q ≠ 23 ∧ q ≠ 24 ∧ q ≠ 64 ∧ q ≠ 65 ∧ q ≠ 67 ∧ q ≠ 68) → ark e n k V q a b = V q a b
  | 0, _, _, _, _, _, _ => rfl
  | k + 1, n, V, q, a, b, hq => by
    unfold ark
    rw [ark_o k (n + 1) _ q a b hq]
    split
    · rw [akV_o hq]
    · rfl
theorem t_ackLoop {c e hi N r k0 : Nat} (he : e < 2) (hN : N ≤ 512) (hh : hi < N) (hk0 : k0 < 3) : ∀ (k n f : Nat) (V : Vt) (m : Mm), n + k = hi + 1 → 3 * k < f → V 21 e 0 = nI N → Iv c V → RM m V → m.1 170 136 k0 = nI hi → ∃ m' g, f ≤ g + 3 * k + 1 ∧ b_M_ack_219 f 98 (nI e) (nI r) (nI k0) (nI n) m = b_M_ack_203 g 98 (nI e) (nI r) (nI (k0 + 1)) m' ∧ RM m' (ark e n k V) ∧ Iv c (ark e n k V) ∧ FS sMl m m' ∧ (ark e n k V) 21 e 0 = nI N := by
  intro k
  induction k with
  | zero =>
    intro n f V m hn hf hV hI h h170
    obtain ⟨f, rfl⟩ : ∃ g, f = g + 1 := ⟨f - 1, by omega⟩
    rw [b_M_ack_219_eq, ab_ix_nI hk0 (by decide)]
    try simp only [ob_s, lt_eq]
    rw [show (98 : Nat) + 38 = 136 from rfl, h170, if_pos (by clear h hI; grind [nI_T]), nI_1]
    exact ⟨m, f, by omega, rfl, h, hI, FS_rfl _ _, hV⟩
  | succ k ih =>
    intro n f V m hn hf hV hI h h170
    obtain ⟨f, rfl⟩ : ∃ g, f = g + 2 := ⟨f - 2, by omega⟩
    have hx : nI n < V 21 e 0 := by rw [hV]; clear ih h hI; grind [nI_T]
    have hn5 : n < 512 := by omega
    have sa := Sa_of he hn5 hx
    have g68 := (h.2.2.2.2 _ sa).1
    rw [b_M_ack_219_eq, ab_ix_nI hk0 (by decide), nI_560, ab_ix_nI (show 560 * e + n < 1120 by omega) (by decide)]
    try simp only [ob_s, lt_eq]
    rw [show (98 : Nat) + 38 = 136 from rfl, h170, if_neg (by clear ih h hI; grind [nI_T]), show (98 : Nat) + 30 = 128 from rfl, g68]
    unfold ark
    by_cases z : V 68 (560 * e + n) 0 = 1
    · obtain ⟨m2, e2, r2, f2⟩ := t_acks h hI.1 he hn5 sa (hI.2.2.2.2.2 _ sa)
      rw [if_pos (fs_0.mpr z), if_pos z, e2]
      try simp only [ob_s, lt_eq]
      rw [b_M_ack_260_eq]
      try simp only [ob_s, lt_eq]
      rw [nI_1]
      obtain ⟨m', g, q0, q1, q2, q3, q4, q5⟩ := ih (n + 1) f _ m2 (by omega) (by omega) (by rw [akV_o (by omega)]; exact hV) (Iv_ak hI he sa hn5) r2 (by rw [FS_g f2 _ _ _ (by unfold sMl; omega)]; exact h170)
      exact ⟨m', g, by omega, q1, q2, q3, FS_tr f2 q4, q5⟩
    · rw [if_neg (fun y => z (fs_0.mp y)), if_neg z, b_M_ack_260_eq]
      try simp only [ob_s, lt_eq]
      rw [nI_1]
      obtain ⟨m', g, q0, q1, q2⟩ := ih (n + 1) f V m (by omega) (by omega) hV hI h h170
      exact ⟨m', g, by omega, q1, q2⟩
theorem t_loseLoop {c e N : Nat} (he : e < 2) (hN : N ≤ 512) : ∀ (k n f : Nat) (V : Vt) (m : Mm), 2 * k < f → n + k ≤ N → (V 24 e 0 - 3 = nI (n + k) - 1) → V 21 e 0 = nI N → Iv c V → RM m V → ∃ m', b_M_ack_275 f 98 (nI e) (nI n) m = some (.inl (some (.inl 0), m')) ∧ RM m' (lrk e n k V) ∧ FS sMl m m' := by
  intro k
  induction k with
  | zero =>
    intro n f V m hf hnk h24 hV hI h
    obtain ⟨f, rfl⟩ : ∃ g, f = g + 1 := ⟨f - 1, by omega⟩
    rw [b_M_ack_275_eq, ab_ix_nI he (by decide)]
    try simp only [ob_s, lt_eq]
    rw [n24 h he (p := 98 + 21) rfl rfl, h24, if_pos (by clear h hI; grind [nI_T])]
    exact ⟨m, rfl, h, FS_rfl _ _⟩
  | succ k ih =>
    intro n f V m hf hnk h24 hV hI h
    obtain ⟨f, rfl⟩ : ∃ g, f = g + 2 := ⟨f - 2, by omega⟩
    have hx : nI n < V 21 e 0 := by rw [hV]; clear ih h hI h24; grind [nI_T]
    have hn5 : n < 512 := by omega
    have sa := Sa_of he hn5 hx
    have g68 := (h.2.2.2.2 _ sa).1
    rw [b_M_ack_275_eq, ab_ix_nI he (by decide), nI_560, ab_ix_nI (show 560 * e + n < 1120 by omega) (by decide)]
    try simp only [ob_s, lt_eq]
    rw [n24 h he (p := 98 + 21) rfl rfl, h24, if_neg (by clear ih h hI h24; grind [nI_T]), show (98 : Nat) + 30 = 128 from rfl, g68]
    unfold lrk
    by_cases z : V 68 (560 * e + n) 0 = 1
    · obtain ⟨m2, e2, r2, f2⟩ := t_loses h hI.1 he sa (hI.2.2.2.2.2 _ sa)
      rw [if_pos (fs_0.mpr z), if_pos z, e2]
      try simp only [ob_s, lt_eq]
      rw [b_M_ack_317_eq]
      try simp only [ob_s, lt_eq]
      rw [nI_1]
      obtain ⟨m', q1, q2, q3⟩ := ih (n + 1) f _ m2 (by omega) (by omega) (by rw [lsV_o (by omega), h24, show n + 1 + k = n + (k + 1) by omega]) (by rw [lsV_o (by omega)]; exact hV) (Iv_ls hI he sa hn5) r2
      exact ⟨m', q1, q2, FS_tr f2 q3⟩
    · rw [if_neg (fun y => z (fs_0.mp y)), if_neg z, b_M_ack_317_eq]
      try simp only [ob_s, lt_eq]
      rw [nI_1]
      exact ih (n + 1) f V m (by omega) (by omega) (by rw [h24, show n + 1 + k = n + (k + 1) by omega]) hV hI h
/-- the ranges lie below N -/
def rok (N : Nat) (R : List (Nat × Nat)) : Prop := ∀ x ∈ R, x.1 ≤ x.2 ∧ x.2 < N
theorem t_ackAll {c e N r : Nat} (he : e < 2) (hN : N ≤ 512) (hr : r < 3) : ∀ (R : List (Nat × Nat)) (i f : Nat) (V : Vt) (m : Mm), i + R.length = r + 1 → 2000 * R.length + 2000 < f → rok N R → V 21 e 0 = nI N → Iv c V → RM m V → ST m i R → ∃ m', b_M_ack_203 f 98 (nI e) (nI r) (nI i) m = some (.inl (some (.inl 0), m')) ∧ RM m' (ovV e (arL e R V)) ∧ FS sMl m m' := by
  intro R
  induction R with
  | nil =>
    intro i f V m hi hf hR hV hI h hS
    obtain ⟨f, rfl⟩ : ∃ g, f = g + 2 := ⟨f - 2, by omega⟩
    simp only [List.length_nil, Nat.add_zero] at hi
    rw [b_M_ack_203_eq, if_pos (by clear h hI hS hR; grind [nI_T])]
    show ∃ m', b_M_ack_275 (f + 1) 98 (nI e) 0 m = some (.inl (some (.inl 0), m')) ∧ RM m' (ovV e V) ∧ FS sMl m m'
    unfold ovV
    by_cases z : V 24 e 0 - 3 < 0
    · rw [if_pos z, b_M_ack_275_eq, ab_ix_nI he (by decide)]
      try simp only [ob_s, lt_eq]
      rw [n24 h he (p := 98 + 21) rfl rfl, if_pos z]
      exact ⟨m, rfl, h, FS_rfl _ _⟩
    · rw [if_neg z]
      obtain ⟨k1, k2⟩ := ov_K hI he hV hN z
      obtain ⟨m', a1, a2, a3⟩ := t_loseLoop (c := c) he hN (nn (V 24 e 0 - 3) + 1) 0 (f + 1) V m (by omega) k2 k1 hV hI h
      exact ⟨m', a1, a2, a3⟩
  | cons x R ih =>
    obtain ⟨lo, hi'⟩ := x
    intro i f V m hi hf hR hV hI h hS
    simp only [List.length_cons] at hi hf
    obtain ⟨f, rfl⟩ : ∃ g, f = g + 1 := ⟨f - 1, by omega⟩
    have r1 := hR (lo, hi') (by simp)
    have s1 := hS 0 (by simp)
    have s170' : m.1 170 136 i = nI hi' := s1.1
    have s171' : m.1 171 137 i = nI lo := s1.2
    obtain ⟨m2, g, q0, q1, q2, q3, q4, q5⟩ := t_ackLoop (c := c) (r := r) he hN r1.2 (show i < 3 by omega) (hi' + 1 - lo) lo f V m (by have := r1.1; simp only at this; omega) (by have := r1.2; simp only at this; omega) hV hI h s170'
    have lim := r1.2
    simp only at lim
    obtain ⟨m', a1, a2, a3⟩ := ih (i + 1) g _ m2 (by omega) (by omega) (fun x hx => hR x (List.mem_cons_of_mem _ hx)) q5 q3 q2 (fun j hj => by
      have := hS (j + 1) (by simp; omega)
      rw [show i + (j + 1) = i + 1 + j by omega] at this
      rw [FS_g q4 _ _ _ (by unfold sMl; omega), FS_g q4 _ _ _ (by unfold sMl; omega)]
      exact this)
    refine ⟨m', ?_, a2, FS_tr q4 a3⟩
    rw [b_M_ack_203_eq, if_neg (by clear ih h hI hS hR; grind [nI_T]), ab_ix_nI (show i < 3 by omega) (by decide)]
    try simp only [ob_s, lt_eq]
    rw [show (98 : Nat) + 39 = 137 from rfl, s171', q1]
    exact a1
theorem rgs_ok {N : Nat} : ∀ {F : List (Nat × Nat)} {y : Nat}, nd 0 F ≤ y → y < N → rok N (rgs y F) ∧ (rgs y F).length = F.length
  | [], _, _, _ => ⟨fun x hx => (by cases hx), rfl⟩
  | (g, f) :: F, y, h, hy => by
    have nda : ∀ (c : Nat) (G : List (Nat × Nat)) , nd c G = c + nd 0 G := by
      intro c G
      induction G generalizing c with
      | nil => rfl
      | cons u G ihG =>
        obtain ⟨u1, u2⟩ := u
        show nd (c + u1 + 2 + u2) G = c + nd (0 + u1 + 2 + u2) G
        rw [ihG, ihG (0 + u1 + 2 + u2)]
        omega
    have h' : nd (0 + g + 2 + f) F ≤ y := h
    rw [nda] at h'
    obtain ⟨a, b⟩ := rgs_ok (N := N) (F := F) (y := y - g - 2 - f) (by omega) (by omega)
    unfold rgs
    refine ⟨fun x hx => ?_, by simp [b]⟩
    rcases List.mem_cons.mp hx with rfl | hx
    · simp only
      omega
    · exact a x hx
/-- the model takes an ACK frame -/
theorem t_ack {U : Vt} {c e p s N : Nat} {B : Nat → Nat} {m : Mm} (h : RM m U) (hI : Iv c U) (he : e < 2) (hU : U 21 e 0 = nI N) (hN : N ≤ 512) (hs : s ≤ 38) (hp : p ≤ s) (hB : ∀ j, B j < 256) (hc : Cu m B p s) (hm : m.1 127 98 0 = 0) :
    (∀ l f r p1 p2 p3, num B p s = some (l, p1) → num B p1 s = some (f, p2) → num B p2 s = some (r, p3) → r ≤ 2 → ∀ F p', F.length = r → PF B s p3 F p' → sm F →
      (l < N ∧ nd f F ≤ l → ∃ m', r_M_ack 98 (nI e) m = some (0, m') ∧ RM m' (akA e l f F U) ∧ Cu m' B p' s ∧ FS sMa m m') ∧ (¬ (l < N ∧ nd f F ≤ l) → ∃ m', r_M_ack 98 (nI e) m = some (5, m') ∧ RM m' U ∧ FS sMa m m')) := by
  intro l f r p1 p2 p3 k1 k2 k3 hr F p' hF hpf hsm
  have q1 := num_lt hB k1
  have q2 := num_lt hB k2
  have q3 := num_lt hB k3
  have a1 := (t_numberAt hc hB hs hp).1 l p1 k1
  have c1 : Cu (ab_uI m 124 98 0 (nI p1)) B p1 s := Cu_124 hc
  have a2 := (t_numberAt c1 hB hs q1.2.2).1 f p2 k2
  rw [uI_uI] at a2
  have c2 : Cu (ab_uI m 124 98 0 (nI p2)) B p2 s := Cu_124 hc
  have a3 := (t_numberAt c2 hB hs q2.2.2).1 r p3 k3
  rw [uI_uI] at a3
  have c3 : Cu (ab_uI m 124 98 0 (nI p3)) B p3 s := Cu_124 hc
  have z127 : (ab_uI m 124 98 0 (nI p3)).1 127 98 0 = 0 := by rw [uI_r _ _ _ _ _ _ _ _ (by omega)]; exact hm
  have f3 : FS s170 m (ab_uI m 124 98 0 (nI p3)) := FS_uI (by unfold s170; omega)
  have w4 : ((nI l).toInt64 - (nI f).toInt64).toInt = (l : Int) - f := by
    rw [Int64.toInt_sub, Int32.toInt_toInt64, Int32.toInt_toInt64, nI_toInt (by omega), nI_toInt (by omega), Int.bmod_eq_of_le (by omega) (by omega)]
  have run : ∀ v7 : Int32, v7 = 0 ∨ v7 = 1 → (v7 = 0 ↔ 0 ≤ (l : Int) - f) → b_M_ack_50 49999 98 (nI e) (nI l) (nI r) ((nI l).toInt64 - (nI f).toInt64) v7 (ab_uI m 124 98 0 (nI p3)) = b_M_ack_80 49997 98 (nI e) (nI l) (nI r) ((nI l).toInt64 - (nI f).toInt64) v7 (nI 1) (ab_uI (ab_uI (ab_uI m 124 98 0 (nI p3)) 170 136 0 (nI l)) 171 137 0 (if v7 = 0 then ((nI l).toInt64 - (nI f).toInt64).toInt32 else 0)) := by
    intro v7 h7 h7'
    have q76 : ∀ u2, b_M_ack_76 49998 98 (nI e) (nI l) (nI r) ((nI l).toInt64 - (nI f).toInt64) v7 (98 + 39) 0 u2 (ab_uI (ab_uI m 124 98 0 (nI p3)) 170 (98 + 38) 0 (nI l)) = b_M_ack_80 49997 98 (nI e) (nI l) (nI r) ((nI l).toInt64 - (nI f).toInt64) v7 (nI 1) (ab_uI (ab_uI (ab_uI m 124 98 0 (nI p3)) 170 136 0 (nI l)) 171 137 0 u2) := by
      intro u2
      rw [b_M_ack_76_eq, i_ix (x := 0) (k := 0) (n := 3) rfl (by omega) (by decide)]
      try simp only [ob_s, lt_eq]
      rfl
    rw [b_M_ack_50_eq, i_ix (x := 0) (k := 0) (n := 3) rfl (by omega) (by decide)]
    try simp only [ob_s, lt_eq]
    rw [q76, q76]
    by_cases z : v7 = 0
    · simp only [if_pos z]
    · simp only [if_neg z]
  have start : ∃ v7 : Int32, (v7 = 0 ∨ v7 = 1) ∧ (v7 = 0 ↔ 0 ≤ (l : Int) - f) ∧ b_M_ack_0 50000 98 (nI e) m = b_M_ack_50 49999 98 (nI e) (nI l) (nI r) ((nI l).toInt64 - (nI f).toInt64) v7 (ab_uI m 124 98 0 (nI p3)) := by
    have st : b_M_ack_0 50000 98 (nI e) m = if 0 ≤ lg_cmp ((nI l).toInt64 - (nI f).toInt64) (Int64.ofNat 0) then b_M_ack_50 49999 98 (nI e) (nI l) (nI r) ((nI l).toInt64 - (nI f).toInt64) 0 (ab_uI m 124 98 0 (nI p3)) else b_M_ack_50 49999 98 (nI e) (nI l) (nI r) ((nI l).toInt64 - (nI f).toInt64) 1 (ab_uI m 124 98 0 (nI p3)) := by
      rw [b_M_ack_0_eq, a1]
      try simp only [ob_s, lt_eq]
      rw [a2]
      try simp only [ob_s, lt_eq]
      rw [a3]
      try simp only [ob_s, lt_eq]
      rw [z127, if_pos rfl, if_pos (by clear run; grind [nI_T])]
    by_cases z : 0 ≤ (l : Int) - f
    · refine ⟨0, .inl rfl, ⟨fun _ => z, fun _ => rfl⟩, ?_⟩
      rw [st, if_pos ((lg0 _).mpr (by rw [w4]; exact z))]
    · refine ⟨1, .inr rfl, ⟨fun y => absurd y (by decide), fun y => (z y).elim⟩, ?_⟩
      rw [st, if_neg (fun y => z (by have := (lg0 _).mp y; rw [w4] at this; exact this))]
  obtain ⟨v7, h7, h7', st⟩ := start
  have f4 : FS (fun r => r = 170 ∨ r = 171) (ab_uI m 124 98 0 (nI p3)) (ab_uI (ab_uI (ab_uI m 124 98 0 (nI p3)) 170 136 0 (nI l)) 171 137 0 (if v7 = 0 then ((nI l).toInt64 - (nI f).toInt64).toInt32 else 0)) := FS_tr (FS_uI (.inl rfl)) (FS_uI (.inr rfl))
  have fa := FS_tr f3 (FS_le f4 (fun r hr => by unfold s170; omega))
  have c4 := Cu_170 c3 f4
  have r4 := RM_170 h fa
  have m4 : (ab_uI (ab_uI (ab_uI m 124 98 0 (nI p3)) 170 136 0 (nI l)) 171 137 0 (if v7 = 0 then ((nI l).toInt64 - (nI f).toInt64).toInt32 else 0)).1 127 98 0 = 0 := by rw [FS_g f4 _ _ _ (by omega)]; exact z127
  have at0 : (ab_uI (ab_uI (ab_uI m 124 98 0 (nI p3)) 170 136 0 (nI l)) 171 137 0 (if v7 = 0 then ((nI l).toInt64 - (nI f).toInt64).toInt32 else 0)).1 170 136 0 = nI l ∧ (ab_uI (ab_uI (ab_uI m 124 98 0 (nI p3)) 170 136 0 (nI l)) 171 137 0 (if v7 = 0 then ((nI l).toInt64 - (nI f).toInt64).toInt32 else 0)).1 171 137 0 = (if v7 = 0 then ((nI l).toInt64 - (nI f).toInt64).toInt32 else 0) := by
    constructor
    · rw [uI_r _ _ _ _ _ _ _ _ (by omega), uI_s]
    · rw [uI_s]
  have run7 := run v7 h7 h7'
  generalize ab_uI (ab_uI (ab_uI m 124 98 0 (nI p3)) 170 136 0 (nI l)) 171 137 0 (if v7 = 0 then ((nI l).toInt64 - (nI f).toInt64).toInt32 else 0) = M at *
  obtain ⟨o1, o2⟩ := t_ackOk (U := U) (e := e) (l := l) (r := r) (N := N) he hU hN q1.1 hB hs (by omega) F 1 49997 p3 p' ((l : Int) - f) _ v7 M (by omega) (by omega) q3.2.2 hpf w4 (by omega) (by omega) h7 h7' r4 c4 m4
  have nda : ∀ (c : Nat) (G : List (Nat × Nat)) , nd c G = c + nd 0 G := by
    intro c G
    induction G generalizing c with
    | nil => rfl
    | cons u G ihG =>
      obtain ⟨u1, u2⟩ := u
      show nd (c + u1 + 2 + u2) G = c + nd (0 + u1 + 2 + u2) G
      rw [ihG, ihG (0 + u1 + 2 + u2)]
      omega
  have ndf := nda f F
  constructor
  · intro z
    have zz := z.2
    have zl := z.1
    obtain ⟨m5, g, b0, b1, b2, b3, b4, b5⟩ := o1 ⟨z.1, by omega⟩
    have v0 : v7 = 0 := h7'.mpr (by omega)
    have tn : ((l : Int) - f).toNat = l - f := by omega
    rw [tn] at b5
    obtain ⟨ro1, ro2⟩ := rgs_ok (N := N) (F := F) (y := l - f) (by omega) (by omega)
    have st5 : ST m5 0 ((l - f, l) :: rgs (l - f) F) := by
      intro j hj
      cases j with
      | zero =>
        have := b4 0 (by omega)
        show m5.1 170 136 0 = nI l ∧ m5.1 171 137 0 = nI (l - f)
        rw [this.1, this.2, at0.1, at0.2, if_pos v0]
        exact ⟨rfl, l_32 (by rw [w4]; omega) (by omega)⟩
      | succ j =>
        have := b5 j (by simpa using hj)
        rw [show 0 + (j + 1) = 1 + j by omega]
        exact this
    obtain ⟨m', d1, d2, d3⟩ := t_ackAll (c := c) (r := r) he hN (by omega) ((l - f, l) :: rgs (l - f) F) 0 g U m5 (by simp [ro2]; omega) (by simp [ro2]; omega) (fun x hx => by
      rcases List.mem_cons.mp hx with rfl | hx
      · simp only
        omega
      · exact ro1 x hx) hU hI (RM_170 r4 b2) st5
    refine ⟨m', ?_, d2, Cu_FS b3 d3 (by unfold sMl; omega) (by unfold sMl; omega) (by unfold sMl; omega), FS_tr (FS_le (FS_tr fa b2) (fun r hr => .inr hr)) (FS_le d3 (fun r hr => .inl hr))⟩
    rw [r_M_ack_eq, st, run7, b1, show (0 : Int32) = nI 0 from rfl, d1]
    rfl
  · intro z
    obtain ⟨m5, b1, b2⟩ := o2 (fun y => z ⟨y.1, by have := y.2; omega⟩)
    refine ⟨m5, ?_, RM_170 r4 b2, FS_le (FS_tr fa b2) (fun r hr => .inr hr)⟩
    rw [r_M_ack_eq, st, run7, b1]
    rfl
end
