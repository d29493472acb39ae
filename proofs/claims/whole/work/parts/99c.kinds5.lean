section
def fl : List (Nat × Nat) → List Nat
  | [] => []
  | (a, b) :: t => a :: b :: fl t
theorem fl_len : ∀ F : List (Nat × Nat), (fl F).length = 2 * F.length
  | [] => rfl
  | (a, b) :: t => by
    show (fl t).length + 1 + 1 = 2 * (t.length + 1)
    rw [fl_len t]
    omega
theorem fl_get : ∀ (F : List (Nat × Nat)) (j : Nat) (hj : j < F.length), (fl F)[2 * j]? = some F[j].1 ∧ (fl F)[2 * j + 1]? = some F[j].2
  | [], j, hj => by cases hj
  | (a, b) :: t, 0, _ => ⟨rfl, rfl⟩
  | (a, b) :: t, j + 1, hj => by
    have := fl_get t j (by simpa using hj)
    rw [show 2 * (j + 1) = 2 * j + 1 + 1 by omega]
    exact this
theorem nums_pairs {B : Nat → Nat} {s : Nat} (hB : ∀ j, B j < 256) : ∀ (r p : Nat) (L : List Nat) (p' : Nat), nums B s (2 * r) p = some (L, p') → p ≤ s → ∃ F, F.length = r ∧ PF B s p F p' ∧ sm F ∧ L = fl F
  | 0, p, L, p', h, hp => by
    cases h
    exact ⟨[], rfl, rfl, fun x hx => (by cases hx), rfl⟩
  | r + 1, p, L, p', h, hp => by
    rw [show 2 * (r + 1) = 2 * r + 1 + 1 by omega, nums_s] at h
    cases h1 : num B p s with
    | none => rw [h1] at h; cases h
    | some z =>
      obtain ⟨v, q⟩ := z
      rw [h1] at h
      simp only at h
      have l1 := num_lt hB h1
      rw [nums_s] at h
      cases h2 : num B q s with
      | none => rw [h2] at h; cases h
      | some z2 =>
        obtain ⟨u, q2⟩ := z2
        rw [h2] at h
        simp only at h
        have l2 := num_lt hB h2
        cases h3 : nums B s (2 * r) q2 with
        | none => rw [h3] at h; cases h
        | some z3 =>
          obtain ⟨L', q3⟩ := z3
          rw [h3] at h
          cases h
          obtain ⟨F, f1, f2, f3, f4⟩ := nums_pairs hB r q2 L' _ h3 l2.2.2
          refine ⟨(v, u) :: F, by simp [f1], ⟨q, q2, h1, h2, f2⟩, fun x hx => ?_, by rw [f4]; rfl⟩
          rcases List.mem_cons.mp hx with rfl | hx
          · exact ⟨l1.1, l2.1⟩
          · exact f3 x hx
theorem nums_none {B : Nat → Nat} {s r p : Nat} (h : nums B s (2 * (r + 1)) p = none) : nums B s 2 p = none ∨ ∃ a v p2, nums B s 2 p = some ([a, v], p2) ∧ nums B s (2 * r) p2 = none := by
  rw [show 2 * (r + 1) = 2 * r + 1 + 1 by omega, nums_s] at h
  rw [nums_2]
  cases h1 : num B p s with
  | none => exact .inl rfl
  | some z =>
    obtain ⟨v, q⟩ := z
    rw [h1] at h
    simp only at h ⊢
    rw [nums_s] at h
    cases h2 : num B q s with
    | none => exact .inl rfl
    | some z2 =>
      obtain ⟨u, q2⟩ := z2
      rw [h2] at h
      simp only at h ⊢
      cases h3 : nums B s (2 * r) q2 with
      | none => exact .inr ⟨v, u, q2, rfl, h3⟩
      | some z3 =>
        rw [h3] at h
        cases h
theorem s_stepAck {R q s p : Nat} {B : Nat → Nat} {m : Mm} (h : Rd m R q B p s) (hB : ∀ j, B j < 256) (hs : s ≤ 38) (hp : p ≤ s) :
    (nums B s 3 p = none → ∃ m', r_Rdr_stepAck R m = some (0, m') ∧ FS sRd m m') ∧
    (∀ l f r p3, nums B s 3 p = some ([l, f, r], p3) → (2 < r → ∃ m', r_Rdr_stepAck R m = some (0, m') ∧ FS sRd m m') ∧
      (r ≤ 2 → nums B s (2 * r) p3 = none → ∃ m', r_Rdr_stepAck R m = some (0, m') ∧ FS sRd m m') ∧
      (r ≤ 2 → ∀ F p', F.length = r → nums B s (2 * r) p3 = some (fl F, p') → ∃ m', r_Rdr_stepAck R m = some (1, m') ∧ FS sRd m m' ∧ Rd m' R q B p' s ∧ m'.1 33 R 0 = m.1 33 R 0 ∧ AN m' (R + 1) l f F)) := by
  obtain ⟨a1, a2⟩ := s_stepN (fr := 0) (ct := 3) hB hs (by omega) hp h
  constructor
  · intro hn
    obtain ⟨m', c1, c2, c3⟩ := a2 hn
    rw [show nI 0 = (0 : Int32) from rfl, show nI 3 = (3 : Int32) from rfl] at c1
    refine ⟨m', ?_, c2⟩
    rw [r_Rdr_stepAck_eq, b_Rdr_stepAck_0_eq, c1]
    try simp only [ob_s, lt_eq]
    rw [if_pos trivial, bo_0]
    rfl
  · intro l f r p3 hn
    have hl := nums_le hB hn hp
    have hr : r < 1073741824 := hl.2.2.2 r (by simp)
    obtain ⟨m1, c1, c2, c3, c4, c5, c6⟩ := a1 _ _ hn
    rw [show nI 0 = (0 : Int32) from rfl, show nI 3 = (3 : Int32) from rfl] at c1
    have k0 : m1.1 38 (R + 1) 0 = nI l := c6 0 (by simp)
    have k1 : m1.1 38 (R + 1) 1 = nI f := c6 1 (by simp)
    have k2 : m1.1 38 (R + 1) 2 = nI r := c6 2 (by simp)
    have st : b_Rdr_stepAck_0 50000 R m = if nI r ≤ 2 then (r_Rdr_stepNumbers R 3 (2 * nI r) m1).bind fun z5 => (ab_bo z5.1).bind fun y6 => some (.inl (some (.inl y6), z5.2)) else some (.inl (some (.inl 0), m1)) := by
      rw [b_Rdr_stepAck_0_eq, c1]
      try simp only [ob_s, lt_eq]
      rw [if_neg (by decide), i_ix (x := 2) (k := 2) (n := 7) rfl (by omega) (by decide)]
      try simp only [ob_s, lt_eq]
      rw [k2, bo_0]
      try simp only [ob_s, lt_eq]
    have d2 : r ≤ 2 → (2 : Int32) * nI r = nI (2 * r) := by
      intro z
      clear a1 a2 c1 c6 hl hB st
      grind [nI_T]
    have le2 : r ≤ 2 → nI r ≤ 2 := by
      intro z
      clear a1 a2 c1 c6 hl hB st d2
      grind [nI_T]
    refine ⟨fun z => ?_, fun z hn2 => ?_, fun z F p' hF hn2 => ?_⟩
    · refine ⟨m1, ?_, c2⟩
      rw [r_Rdr_stepAck_eq, st, if_neg (by clear a1 a2 c1 c6 hl hB st d2 le2; grind [nI_T]), rI_some]
    · obtain ⟨e1, e2⟩ := s_stepN (fr := 3) (ct := 2 * r) hB hs (by omega) hl.2.2.1 c3
      obtain ⟨m', f1, f2, f3⟩ := e2 hn2
      rw [show nI 3 = (3 : Int32) from rfl] at f1
      refine ⟨m', ?_, FS_tr c2 f2⟩
      rw [r_Rdr_stepAck_eq, st, if_pos (le2 z), d2 z, f1]
      try simp only [ob_s, lt_eq]
      rw [bo_0]
      rfl
    · obtain ⟨e1, e2⟩ := s_stepN (fr := 3) (ct := 2 * r) hB hs (by omega) hl.2.2.1 c3
      obtain ⟨m', f1, f2, f3, f4, f5, f6⟩ := e1 _ _ hn2
      rw [show nI 3 = (3 : Int32) from rfl] at f1
      refine ⟨m', ?_, FS_tr c2 f2, f3, f4.trans c4, ?_⟩
      · rw [r_Rdr_stepAck_eq, st, if_pos (le2 z), d2 z, f1]
        try simp only [ob_s, lt_eq]
        rw [bo_1]
        rfl
      · refine ⟨by rw [f5 0 (by omega)]; exact k0, by rw [f5 1 (by omega)]; exact k1, by rw [f5 2 (by omega), hF]; exact k2, by omega, fun j hj => ?_⟩
        obtain ⟨g1, g2⟩ := fl_get F j hj
        have ln := fl_len F
        have i1 : 2 * j < (fl F).length := by omega
        have i2 : 2 * j + 1 < (fl F).length := by omega
        have t1 := f6 (2 * j) i1
        have t2 := f6 (2 * j + 1) i2
        rw [List.getElem?_eq_getElem i1] at g1
        rw [List.getElem?_eq_getElem i2] at g2
        rw [Option.some.inj g1] at t1
        rw [Option.some.inj g2, show 3 + (2 * j + 1) = 4 + 2 * j by omega] at t2
        exact ⟨t1, t2⟩
/-- a number of the further ranges is missing -/
theorem t_ackMiss2 {e l r s : Nat} {B : Nat → Nat} (hB : ∀ j, B j < 256) (hs : s ≤ 38) (hr : r < 3) : ∀ (j i f p : Nat) (v5 : Int64) (v7 : Int32) (m : Mm), i + j = r + 1 → 10 * j + 1 < f → p ≤ s → v7 = 0 ∨ v7 = 1 → Cu m B p s → nums B s (2 * j) p = none → ∃ m', b_M_ack_80 f 98 (nI e) (nI l) (nI r) v5 v7 (nI i) m = some (.inl (some (.inl 1), m')) ∧ FS s170 m m' := by
  intro j
  induction j with
  | zero =>
    intro i f p v5 v7 m hi hf hp h7 hc hn
    cases hn
  | succ j ih =>
    intro i f p v5 v7 m hi hf hp h7 hc hn
    obtain ⟨f, rfl⟩ : ∃ g, f = g + 5 := ⟨f - 5, by omega⟩
    obtain ⟨b2, b1⟩ := t_two hB hs hp hc
    rcases nums_none hn with h2 | ⟨a, v, p2, h2, h3⟩
    · obtain ⟨x2, x4, m1, m2, p2, a1, a2, a3, a4, a5, a6⟩ := b2 h2
      obtain ⟨x, y, v7', g, c1, c2, c3, _, _⟩ := t_ackStep (e := e) (l := l) (v5 := v5) (i := i) (by omega) (by omega) hr a1 a2 h7 f
      have f2 : FS s170 m2 (ab_uI (ab_uI m2 170 136 i x) 171 137 i y) := FS_tr (FS_uI (by unfold s170; omega)) (FS_uI (by unfold s170; omega))
      have f3 : FS (fun r => r = 170 ∨ r = 171) m2 (ab_uI (ab_uI m2 170 136 i x) 171 137 i y) := FS_tr (FS_uI (.inl rfl)) (FS_uI (.inr rfl))
      obtain ⟨m', d1, d2⟩ := t_ackMiss (e := e) (l := l) hB hs hr j (i + 1) g p2 (v5 - x2.toInt64 - Int64.ofNat 2 - x4.toInt64) v7' (ab_uI (ab_uI m2 170 136 i x) 171 137 i y) (by omega) (by omega) a3 c3 (Cu_170 a4 f3) (by rw [FS_g f3 _ _ _ (by omega)]; exact a5)
      exact ⟨m', c2.trans d1, FS_tr a6 (FS_tr f2 d2)⟩
    · obtain ⟨m1, a1, a2, a3, a4, a5, a6⟩ := b1 a v p2 h2
      obtain ⟨x, y, v7', g, c1, c2, c3, _, _⟩ := t_ackStep (e := e) (l := l) (v5 := v5) (i := i) (by omega) (by omega) hr a1 a2 h7 f
      have f0 : FS s170 m (ab_uI m 124 98 0 (nI p2)) := FS_uI (by unfold s170; omega)
      have f3 : FS (fun r => r = 170 ∨ r = 171) (ab_uI m 124 98 0 (nI p2)) (ab_uI (ab_uI (ab_uI m 124 98 0 (nI p2)) 170 136 i x) 171 137 i y) := FS_tr (FS_uI (.inl rfl)) (FS_uI (.inr rfl))
      obtain ⟨m', d1, d2⟩ := ih (i + 1) g p2 (v5 - (nI a).toInt64 - Int64.ofNat 2 - (nI v).toInt64) v7' (ab_uI (ab_uI (ab_uI m 124 98 0 (nI p2)) 170 136 i x) 171 137 i y) (by omega) (by omega) a6 c3 (Cu_170 (Cu_124 hc) f3) h3
      exact ⟨m', c2.trans d1, FS_tr f0 (FS_tr (FS_le f3 (fun r hr => by unfold s170; omega)) d2)⟩
/-- the model: an ACK frame that is none -/
theorem t_ackNo {e p s : Nat} {B : Nat → Nat} {m : Mm} (hs : s ≤ 38) (hp : p ≤ s) (hB : ∀ j, B j < 256) (hc : Cu m B p s) (hm : m.1 127 98 0 = 0) :
    (nums B s 3 p = none → ∃ m', r_M_ack 98 (nI e) m = some (1, m') ∧ FS s170 m m') ∧
    (∀ l f r p3, nums B s 3 p = some ([l, f, r], p3) → (2 < r → ∃ m', r_M_ack 98 (nI e) m = some (1, m') ∧ FS s170 m m') ∧ (r ≤ 2 → nums B s (2 * r) p3 = none → ∃ m', r_M_ack 98 (nI e) m = some (1, m') ∧ FS s170 m m')) := by
  obtain ⟨b2, b1⟩ := t_two hB hs hp hc
  have miss : ∀ x1 x2 x3 m1 m2 m3, r_M_numberAt 98 m = some (x1, m1) → r_M_numberAt 98 m1 = some (x2, m2) → r_M_numberAt 98 m2 = some (x3, m3) → m3.1 127 98 0 = 1 → r_M_ack 98 (nI e) m = some (1, m3) := by
    intro x1 x2 x3 m1 m2 m3 y1 y2 y3 y4
    rw [r_M_ack_eq, b_M_ack_0_eq, y1]
    try simp only [ob_s, lt_eq]
    rw [y2]
    try simp only [ob_s, lt_eq]
    rw [y3]
    try simp only [ob_s, lt_eq]
    rw [y4, if_neg (by decide), rI_some]
  constructor
  · intro hn
    cases hn2 : nums B s 2 p with
    | none =>
      obtain ⟨x1, x2, m1, m2, p2, a1, a2, a3, a4, a5, a6⟩ := b2 hn2
      obtain ⟨x3, m3, p3, c1, c2, c3, c4, c5⟩ := t_nx hB hs a3 a4 a5
      exact ⟨m3, miss _ _ _ _ _ _ a1 a2 c1 c4, FS_tr a6 c5⟩
    | some z =>
      obtain ⟨L, p2⟩ := z
      obtain ⟨l, f, rfl⟩ := nums_2L hn2
      obtain ⟨m1, a1, a2, a3, a4, a5, a6⟩ := b1 l f p2 hn2
      have n3 : num B p2 s = none := by
        rw [nums_23, hn2] at hn
        simp only at hn
        cases h3 : num B p2 s with
        | none => rfl
        | some z => rw [h3] at hn; cases hn
      obtain ⟨m3, c1, c2, c3, c4⟩ := t_n0 hB hs a6 (Cu_124 (p' := p2) hc) n3
      exact ⟨m3, miss _ _ _ _ _ _ a1 a2 c1 c3, FS_tr (FS_uI (by unfold s170; omega)) c4⟩
  · intro l f r p3 hn
    have hl := nums_le hB hn hp
    have hr30 : r < 1073741824 := hl.2.2.2 r (by simp)
    have k1 : nums B s 2 p = some ([l, f], p3) ∨ ∃ p2, nums B s 2 p = some ([l, f], p2) ∧ num B p2 s = some (r, p3) := by
      rw [nums_23] at hn
      cases h2 : nums B s 2 p with
      | none => rw [h2] at hn; cases hn
      | some z =>
        obtain ⟨L, p2⟩ := z
        obtain ⟨a, v, rfl⟩ := nums_2L h2
        rw [h2] at hn
        simp only at hn
        cases h3 : num B p2 s with
        | none => rw [h3] at hn; cases hn
        | some z =>
          rw [h3] at hn
          cases hn
          exact .inr ⟨p2, rfl, h3⟩
    obtain ⟨p2, k2, k3⟩ : ∃ p2, nums B s 2 p = some ([l, f], p2) ∧ num B p2 s = some (r, p3) := by
      rcases k1 with k | k
      · rw [nums_23, k] at hn
        simp only at hn
        cases h3 : num B p3 s with
        | none => rw [h3] at hn; cases hn
        | some z =>
          have := num_lt hB h3
          rw [h3] at hn
          simp only [Option.some.injEq, Prod.mk.injEq] at hn
          omega
      · exact k
    obtain ⟨m1, a1, a2, a3, a4, a5, a6⟩ := b1 l f p2 k2
    have c2 : Cu (ab_uI m 124 98 0 (nI p2)) B p2 s := Cu_124 hc
    have r3 := (t_numberAt c2 hB hs a6).1 r p3 k3
    rw [uI_uI] at r3
    have c3 : Cu (ab_uI m 124 98 0 (nI p3)) B p3 s := Cu_124 hc
    have l3 := num_lt hB k3
    have z127 : (ab_uI m 124 98 0 (nI p3)).1 127 98 0 = 0 := by rw [uI_r _ _ _ _ _ _ _ _ (by omega)]; exact hm
    have f3 : FS s170 m (ab_uI m 124 98 0 (nI p3)) := FS_uI (by unfold s170; omega)
    have st : b_M_ack_0 50000 98 (nI e) m = if nI r ≤ 2 then (if 0 ≤ lg_cmp ((nI l).toInt64 - (nI f).toInt64) (Int64.ofNat 0) then b_M_ack_50 49999 98 (nI e) (nI l) (nI r) ((nI l).toInt64 - (nI f).toInt64) 0 (ab_uI m 124 98 0 (nI p3)) else b_M_ack_50 49999 98 (nI e) (nI l) (nI r) ((nI l).toInt64 - (nI f).toInt64) 1 (ab_uI m 124 98 0 (nI p3))) else some (.inl (some (.inl 1), ab_uI m 124 98 0 (nI p3))) := by
      rw [b_M_ack_0_eq, a1]
      try simp only [ob_s, lt_eq]
      rw [a2]
      try simp only [ob_s, lt_eq]
      rw [r3]
      try simp only [ob_s, lt_eq]
      rw [z127, if_pos rfl]
    constructor
    · intro z
      refine ⟨_, ?_, f3⟩
      rw [r_M_ack_eq, st, if_neg (by clear b1 b2 miss st hn k1 hl hB; grind [nI_T]), rI_some]
    · intro z hn2
      have q50 : ∀ v7 : Int32, v7 = 0 ∨ v7 = 1 → ∃ m', b_M_ack_50 49999 98 (nI e) (nI l) (nI r) ((nI l).toInt64 - (nI f).toInt64) v7 (ab_uI m 124 98 0 (nI p3)) = some (.inl (some (.inl 1), m')) ∧ FS s170 m m' := by
        intro v7 h7
        have q76 : ∀ u2, ∃ m', b_M_ack_76 49998 98 (nI e) (nI l) (nI r) ((nI l).toInt64 - (nI f).toInt64) v7 (98 + 39) 0 u2 (ab_uI (ab_uI m 124 98 0 (nI p3)) 170 (98 + 38) 0 (nI l)) = some (.inl (some (.inl 1), m')) ∧ FS s170 m m' := by
          intro u2
          have f4 : FS (fun r => r = 170 ∨ r = 171) (ab_uI m 124 98 0 (nI p3)) (ab_uI (ab_uI (ab_uI m 124 98 0 (nI p3)) 170 136 0 (nI l)) 171 137 0 u2) := FS_tr (FS_uI (.inl rfl)) (FS_uI (.inr rfl))
          obtain ⟨m', d1, d2⟩ := t_ackMiss2 (e := e) (l := l) (r := r) hB hs (by omega) r 1 49997 p3 ((nI l).toInt64 - (nI f).toInt64) v7 (ab_uI (ab_uI (ab_uI m 124 98 0 (nI p3)) 170 136 0 (nI l)) 171 137 0 u2) (by omega) (by omega) l3.2.2 h7 (Cu_170 c3 f4) hn2
          refine ⟨m', ?_, FS_tr f3 (FS_tr (FS_le f4 (fun r hr => by unfold s170; omega)) d2)⟩
          rw [b_M_ack_76_eq, i_ix (x := 0) (k := 0) (n := 3) rfl (by omega) (by decide)]
          try simp only [ob_s, lt_eq]
          exact d1
        rw [b_M_ack_50_eq, i_ix (x := 0) (k := 0) (n := 3) rfl (by omega) (by decide)]
        try simp only [ob_s, lt_eq]
        by_cases y : v7 = 0
        · rw [if_pos y]
          exact q76 _
        · rw [if_neg y]
          exact q76 _
      have le2 : nI r ≤ 2 := by
        clear b1 b2 miss st hn k1 hl hB q50
        grind [nI_T]
      rw [r_M_ack_eq, st, if_pos le2]
      by_cases y : 0 ≤ lg_cmp ((nI l).toInt64 - (nI f).toInt64) (Int64.ofNat 0)
      · rw [if_pos y]
        obtain ⟨m', d1, d2⟩ := q50 0 (.inl rfl)
        exact ⟨m', by rw [d1]; rfl, d2⟩
      · rw [if_neg y]
        obtain ⟨m', d1, d2⟩ := q50 1 (.inr rfl)
        exact ⟨m', by rw [d1]; rfl, d2⟩
end
