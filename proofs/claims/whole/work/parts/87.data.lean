section
/-! Data and resets that come in. -/
/-- what the other streams have reached -/
def oth (V : Vt) (e s : Nat) : Nat := (if 0 = s then 0 else nn (V 48 (4 * e + 0) 0)) + (if 1 = s then 0 else nn (V 48 (4 * e + 1) 0)) + (if 2 = s then 0 else nn (V 48 (4 * e + 2) 0)) + (if 3 = s then 0 else nn (V 48 (4 * e + 3) 0))
theorem IN_48 {V : Vt} {a : Nat} (h : IN V a) : nI (nn (V 48 a 0)) = V 48 a 0 ∧ nn (V 48 a 0) ≤ 64 := by
  unfold IN at h
  have g1 := h.2.1
  refine ⟨nI_nn g1.1, nn_le g1.1 (by grind [nI_T]) (by decide)⟩
theorem oth_le {V : Vt} {e s : Nat} (h : ∀ a, a < 8 → IN V a) (he : e < 2) (hs : s < 4) : oth V e s ≤ 192 := by
  have a0 := (IN_48 (h (4 * e + 0) (by omega))).2
  have a1 := (IN_48 (h (4 * e + 1) (by omega))).2
  have a2 := (IN_48 (h (4 * e + 2) (by omega))).2
  have a3 := (IN_48 (h (4 * e + 3) (by omega))).2
  unfold oth
  split <;> split <;> split <;> split <;> omega
theorem s_reachOfAll {m : Mm} {V : Vt} {w W : Nat → Nat} (h : RC m V w W) (hi : ∀ a, a < 8 → IN V a) {e s I t : Nat} (he : e < 2) (hs : s < 4) (hI : I = 12 + 30 * e) (ht : t ≤ 64) : r_Int_reachOfAll I (nI s) (nI t) m = some (nI (oth V e s + max (nn (V 48 (4 * e + s) 0)) t), m) := by
  have g : ∀ j, j < 4 → m.1 48 (I + 1 + 1 + 2 * j) 0 = nI (nn (V 48 (4 * e + j) 0)) ∧ nn (V 48 (4 * e + j) 0) ≤ 64 := by
    intro j hj
    have := IN_48 (hi (4 * e + j) (by omega))
    exact ⟨by rw [c48 h he hj (by omega), this.1], this.2⟩
  have st : ∀ (f i x : Nat), i < 4 → b_Int_reachOfAll_5 (f + 2) I (nI s) (nI t) (nI x) (nI i) m = b_Int_reachOfAll_5 f I (nI s) (nI t) (nI (x + (if i = s then max (nn (V 48 (4 * e + i) 0)) t else nn (V 48 (4 * e + i) 0)))) (nI (i + 1)) m := by
    intro f i x hi4
    have gi := g i hi4
    rw [b_Int_reachOfAll_5_eq, if_neg (by (try clear ih); grind [nI_T]), ab_ix_nI hi4 (by decide)]
    try simp only [ob_s, lt_eq]
    rw [gi.1, s_max]
    try simp only [ob_s, lt_eq]
    rw [b_Int_reachOfAll_45_eq, b_Int_reachOfAll_45_eq]
    try simp only [ob_s, lt_eq]
    rw [nI_add, nI_1]
    by_cases z : i = s
    · rw [if_pos (by rw [z]), if_pos z]
      have : (if nI (nn (V 48 (4 * e + i) 0)) < nI t then nI t else nI (nn (V 48 (4 * e + i) 0))) = nI (max (nn (V 48 (4 * e + i) 0)) t) := by
        have := gi.2
        generalize nn (V 48 (4 * e + i) 0) = y at *
        by_cases q : y < t
        · rw [if_pos (by grind [nI_T]), Nat.max_eq_right (by omega)]
        · rw [if_neg (by grind [nI_T]), Nat.max_eq_left (by omega)]
      rw [this, nI_add]
    · rw [if_neg (by grind [nI_T]), if_neg z]
  rw [r_Int_reachOfAll_eq, b_Int_reachOfAll_0_eq, show (0 : Int32) = nI 0 from rfl, st _ _ _ (by omega), st _ _ _ (by omega), st _ _ _ (by omega), st _ _ _ (by omega), b_Int_reachOfAll_5_eq, if_pos (show (4 : Int32) ≤ nI (0 + 1 + 1 + 1 + 1) by decide)]
  have ev : 0 + (if 0 = s then max (nn (V 48 (4 * e + 0) 0)) t else nn (V 48 (4 * e + 0) 0)) + (if 0 + 1 = s then max (nn (V 48 (4 * e + (0 + 1)) 0)) t else nn (V 48 (4 * e + (0 + 1)) 0)) + (if 0 + 1 + 1 = s then max (nn (V 48 (4 * e + (0 + 1 + 1)) 0)) t else nn (V 48 (4 * e + (0 + 1 + 1)) 0)) + (if 0 + 1 + 1 + 1 = s then max (nn (V 48 (4 * e + (0 + 1 + 1 + 1)) 0)) t else nn (V 48 (4 * e + (0 + 1 + 1 + 1)) 0)) = oth V e s + max (nn (V 48 (4 * e + s) 0)) t := by
    unfold oth
    have : s = 0 ∨ s = 1 ∨ s = 2 ∨ s = 3 := by omega
    rcases this with rfl | rfl | rfl | rfl <;> simp <;> omega
  rw [ev]
  rfl
theorem i64_T (x : Int32) : Lean.Grind.ToInt.toInt x.toInt64 = Lean.Grind.ToInt.toInt x := Int32.toInt_toInt64 x
theorem t_isBeyond {m : Mm} {V : Vt} (h : RM m V) (hi : ∀ a, a < 8 → IN V a) {e s n : Nat} (he : e < 2) (hs : s < 4) (hn : n ≤ 64) (hg : 0 ≤ V 43 e 0) : r_M_isBeyond 98 (nI e) (nI (4 * e + s)) (nI n) m = some (ib (V 43 e 0 < nI (oth V e s + n)), m) := by
  have g : ∀ j, j < 4 → m.1 143 (98 + 11) (4 * e + j) = nI (nn (V 48 (4 * e + j) 0)) ∧ nn (V 48 (4 * e + j) 0) ≤ 64 := by
    intro j hj
    have := IN_48 (hi (4 * e + j) (by omega))
    exact ⟨by rw [n48 h (a := 4 * e + j) (by omega) rfl rfl, this.1], this.2⟩
  have st : ∀ (f i x : Nat), i < 4 → x ≤ 500 → b_M_isBeyond_9 (f + 2) 98 (nI e) (nI (4 * e + s)) (nI x).toInt64 (nI (4 * e + i)) m = b_M_isBeyond_9 f 98 (nI e) (nI (4 * e + s)) (nI (x + (if i = s then 0 else nn (V 48 (4 * e + i) 0)))).toInt64 (nI (4 * e + (i + 1))) m := by
    intro f i x hi4 hx
    have gi := g i hi4
    rw [b_M_isBeyond_9_eq, show (4 : Int32) * nI e + 4 = nI (4 * e + 4) from nI_4 e 4, if_neg (by (try clear ih); grind [nI_T])]
    by_cases z : i = s
    · rw [if_pos (by rw [z]), if_pos z, b_M_isBeyond_41_eq]
      try simp only [ob_s, lt_eq]
      rw [nI_1]
      rfl
    · rw [if_neg (by grind [nI_T]), if_neg z, ab_ix_nI (show 4 * e + i < 8 by omega) (by decide)]
      try simp only [ob_s, lt_eq]
      rw [gi.1, b_M_isBeyond_41_eq]
      try simp only [ob_s, lt_eq]
      rw [nI_1]
      have : (nI x).toInt64 + (nI (nn (V 48 (4 * e + i) 0))).toInt64 = (nI (x + nn (V 48 (4 * e + i) 0))).toInt64 := by
        have := gi.2
        generalize nn (V 48 (4 * e + i) 0) = y at *
        apply Int64.toInt_inj.mp
        rw [Int64.toInt_add, Int32.toInt_toInt64, Int32.toInt_toInt64, Int32.toInt_toInt64, nI_toInt (by omega), nI_toInt (by omega), nI_toInt (by omega), Int.bmod_eq_of_le (by omega) (by omega)]
        omega
      rw [this]
      rfl
  have b : ∀ j, j < 4 → nn (V 48 (4 * e + j) 0) ≤ 64 := fun j hj => (g j hj).2
  have b0 := b 0 (by omega)
  have b1 := b (0 + 1) (by omega)
  have b2 := b (0 + 1 + 1) (by omega)
  have b3 := b (0 + 1 + 1 + 1) (by omega)
  have ite0 : ∀ (p : Prop) [Decidable p] (x : Nat), x ≤ 64 → (if p then 0 else x) ≤ 64 := by
    intro p _ x hx
    split <;> omega
  have c0 := ite0 (0 = s) _ b0
  have c1 := ite0 (0 + 1 = s) _ b1
  have c2 := ite0 (0 + 1 + 1 = s) _ b2
  have c3 := ite0 (0 + 1 + 1 + 1 = s) _ b3
  rw [r_M_isBeyond_eq, b_M_isBeyond_0_eq]
  try simp only [ob_s, lt_eq]
  rw [show (4 : Int32) * nI e = nI (4 * e + 0) by rw [← nI_4]; grind [show nI 0 = 0 from rfl], st _ _ _ (by omega) (by omega), st _ _ _ (by omega) (by omega), st _ _ _ (by omega) (by omega), st _ _ _ (by omega) (by omega), b_M_isBeyond_9_eq, show (4 : Int32) * nI e + 4 = nI (4 * e + 4) from nI_4 e 4, if_pos (by (try clear ih); grind [nI_T]), ab_ix_nI he (by decide)]
  try simp only [ob_s, lt_eq]
  rw [n43 h he (p := 98 + 18) rfl rfl]
  have ev : n + (if 0 = s then 0 else nn (V 48 (4 * e + 0) 0)) + (if 0 + 1 = s then 0 else nn (V 48 (4 * e + (0 + 1)) 0)) + (if 0 + 1 + 1 = s then 0 else nn (V 48 (4 * e + (0 + 1 + 1)) 0)) + (if 0 + 1 + 1 + 1 = s then 0 else nn (V 48 (4 * e + (0 + 1 + 1 + 1)) 0)) = oth V e s + n := by
    unfold oth
    simp only [Nat.zero_add, Nat.reduceAdd]
    omega
  rw [ev]
  have ol := oth_le hi he hs
  generalize oth V e s = y at *
  have key : (lg_cmp (nI (y + n)).toInt64 (V 43 e 0).toInt64 ≤ 0) ↔ ¬ V 43 e 0 < nI (y + n) := by
    unfold lg_cmp
    have e1 : (nI (y + n)).toInt64 > (V 43 e 0).toInt64 ↔ V 43 e 0 < nI (y + n) := by
      show (V 43 e 0).toInt64 < (nI (y + n)).toInt64 ↔ _
      rw [Int64.lt_iff_toInt_lt, Int32.lt_iff_toInt_lt, Int32.toInt_toInt64, Int32.toInt_toInt64]
    by_cases z : V 43 e 0 < nI (y + n)
    · rw [if_pos (e1.mpr z)]
      exact ⟨fun q => absurd q (by decide), fun q => (q z).elim⟩
    · rw [if_neg (fun q => z (e1.mp q))]
      refine ⟨fun _ => z, fun _ => ?_⟩
      split <;> decide
  simp only [bo_0, bo_1, ob_s, lt_eq, rI_ite, rI_some, rV_ite, rV_some, ib_if]
  by_cases z : V 43 e 0 < nI (y + n)
  · rw [if_neg (fun q => key.mp q z), ← ib_t z]
  · rw [if_pos (key.mpr z), ← ib_f z]
end
section
/-- what is wrong with data that reach to t -/
def ff (V : Vt) (e s t : Nat) (u : Int32) : Int32 :=
  if V 50 (4 * e + s) 0 < nI t ∨ V 43 e 0 < nI (oth V e s + max (nn (V 48 (4 * e + s) 0)) t) then 3
  else if (u ≠ 0 ∧ nI t < V 48 (4 * e + s) 0) ∨ (V 49 (4 * e + s) 0 ≠ -1 ∧ (if u = 0 then V 49 (4 * e + s) 0 < nI t else nI t ≠ V 49 (4 * e + s) 0)) then 4 else 0
theorem s_findFault {m : Mm} {V : Vt} {w W : Nat → Nat} (h : RC m V w W) (hi : ∀ a, a < 8 → IN V a) {e s I t : Nat} {u : Int32} (he : e < 2) (hI : I = 12 + 30 * e) (ht : t < 2 ^ 31) (hs : s < 2 ^ 31) : r_Int_findFault I (nI s) (nI t) u m = some (if 4 ≤ s then 2 else ff V e s t u, m) := by
  rw [r_Int_findFault_eq, b_Int_findFault_0_eq, if_neg (by (try clear ih); grind [nI_T])]
  by_cases z : 4 ≤ s
  · rw [if_neg (by (try clear ih); grind [nI_T]), if_pos z]
    rfl
  · have hs4 : s < 4 := by omega
    rw [if_pos (by (try clear ih); grind [nI_T]), if_neg z, ab_ix_nI hs4 (by decide)]
    try simp only [ob_s, lt_eq]
    rw [c50 h he hs4 (by omega)]
    unfold ff
    have i50 : V 50 (4 * e + s) 0 ≤ 64 := by
      have := hi (4 * e + s) (by omega)
      unfold IN at this
      exact this.2.1.2.2
    by_cases z1 : V 50 (4 * e + s) 0 < nI t
    · rw [if_pos z1, if_pos (.inl z1)]
      rfl
    · have ht64 : t ≤ 64 := by grind [nI_T]
      rw [if_neg z1, s_reachOfAll h hi he hs4 hI ht64]
      try simp only [ob_s, lt_eq]
      rw [c43 h he hI]
      by_cases z2 : V 43 e 0 < nI (oth V e s + max (nn (V 48 (4 * e + s) 0)) t)
      · rw [if_neg (by grind), if_pos (.inr z2)]
        rfl
      · rw [if_pos (by grind), if_neg (by grind), s_isWrongSize, c48 h he hs4 (by omega), c49 h he hs4 (by omega)]
        simp only [bo_0, bo_1, ob_s, lt_eq, rI_ite, rI_some, rV_ite, rV_some, ib_if]
        have sI : ∀ (c : Prop) [Decidable c] (a b : Int32), (if c then some (a, m) else some (b, m)) = some (if c then a else b, m) := by
          intro c _ a b
          split <;> rfl
        exact sI _ _ _
/-- bytes that come for a stream -/
def kpV (V : Vt) (a o i : Nat) (D : Nat → Int32) : Vt := fun k a' b => if k = 53 ∧ a' = a ∧ o ≤ b ∧ b < o + i ∧ V 53 a b = -1 ∧ V 51 a 0 = 0 then D (b - o) else V k a' b
theorem kpV_o {V : Vt} {a o i : Nat} {D : Nat → Int32} {k : Nat} (hk : k ≠ 53) (a' b : Nat) : kpV V a o i D k a' b = V k a' b := if_neg (by omega)
theorem kpV_step {V : Vt} {a o i : Nat} {D : Nat → Int32} (z : V 53 a (o + i) = -1 ∧ V 51 a 0 = 0) : uV (kpV V a o i D) 53 a (o + i) (D i) = kpV V a o (i + 1) D := by
  funext k a' b
  unfold uV kpV
  by_cases y : k = 53 ∧ a' = a ∧ b = o + i
  · obtain ⟨rfl, rfl, rfl⟩ := y
    rw [if_pos ⟨rfl, rfl, rfl⟩, if_pos ⟨rfl, rfl, by omega, by omega, z.1, z.2⟩, show o + i - o = i by omega]
  · rw [if_neg y]
    by_cases y2 : k = 53 ∧ a' = a ∧ o ≤ b ∧ b < o + i ∧ V 53 a b = -1 ∧ V 51 a 0 = 0
    · rw [if_pos y2, if_pos ⟨y2.1, y2.2.1, y2.2.2.1, by omega, y2.2.2.2.2⟩]
    · rw [if_neg y2, if_neg]
      intro y3
      by_cases y4 : b = o + i
      · exact y ⟨y3.1, y3.2.1, y4⟩
      · exact y2 ⟨y3.1, y3.2.1, y3.2.2.1, by omega, y3.2.2.2.2⟩
theorem kpV_same {V : Vt} {a o i : Nat} {D : Nat → Int32} (z : ¬ (V 53 a (o + i) = -1 ∧ V 51 a 0 = 0)) : kpV V a o i D = kpV V a o (i + 1) D := by
  funext k a' b
  unfold kpV
  by_cases y2 : k = 53 ∧ a' = a ∧ o ≤ b ∧ b < o + i ∧ V 53 a b = -1 ∧ V 51 a 0 = 0
  · rw [if_pos y2, if_pos ⟨y2.1, y2.2.1, y2.2.2.1, by omega, y2.2.2.2.2⟩]
  · rw [if_neg y2, if_neg]
    intro y3
    by_cases y4 : b = o + i
    · subst y4
      exact z y3.2.2.2.2
    · exact y2 ⟨y3.1, y3.2.1, y3.2.2.1, by omega, y3.2.2.2.2⟩
theorem kpV_0 {V : Vt} {a o : Nat} {D : Nat → Int32} : kpV V a o 0 D = V := by
  funext k a' b
  exact if_neg (by omega)
theorem s_keep {m : Mm} {U : Vt} {w W : Nat → Nat} (h : RC m U w W) {e s n b : Nat} {x : Int32} (he : e < 2) (hs : s < 4) (hn : n = 14 + 30 * e + 2 * s) (hb : b < 64) : r_Inc_keep n (nI b) x m = some (if U 53 (4 * e + s) b = -1 ∧ U 51 (4 * e + s) 0 = 0 then ab_uI m 53 (n + 1) b x else m) := by
  have q : ∀ f, b_Inc_keep_15 (f + 1) n (nI b) x 1 m = some (.inl (none, if U 53 (4 * e + s) b = -1 ∧ U 51 (4 * e + s) 0 = 0 then ab_uI m 53 (n + 1) b x else m)) := by
    intro f
    rw [b_Inc_keep_15_eq, c51 h he hs hn, ab_ix_nI hb (by decide)]
    try simp only [ob_s, lt_eq]
    rw [c53 h he hs hb (p := n + 1) (by omega)]
    grind
  rw [r_Inc_keep_eq, b_Inc_keep_0_eq, if_neg (by (try clear ih); grind [nI_T]), if_neg (by (try clear ih); grind [nI_T]), q]
  rfl
theorem s_dataLoop {V : Vt} {w W : Nat → Nat} {e s I R q o n d : Nat} {u : Int32} {D : Nat → Int32} (he : e < 2) (hs : s < 4) (hI : I = 12 + 30 * e) (hon : o + n ≤ 64) (hd : d + n ≤ 40) : ∀ (j i f : Nat) (m : Mm), i + j = n → j < f → RC m (kpV V (4 * e + s) o i D) w W → m.2.2.1 34 R 0 = some q → m.1 35 R 0 = nI d → (∀ t, t < n → m.1 13 (q + 1) (d + t) = D t) → ∃ m', b_Int_takeData_67 f I R (nI s) (nI n) u (nI o) (nI i) m = some (.inl (some (.inl 0), m')) ∧ (RC m' (if u = 0 then uV (kpV V (4 * e + s) o n D) 48 (4 * e + s) 0 (if V 48 (4 * e + s) 0 < nI (o + n) then nI (o + n) else V 48 (4 * e + s) 0) else uV (uV (kpV V (4 * e + s) o n D) 48 (4 * e + s) 0 (if V 48 (4 * e + s) 0 < nI (o + n) then nI (o + n) else V 48 (4 * e + s) 0)) 49 (4 * e + s) 0 (nI (o + n))) w W) ∧ FS (fun r => r = 48 ∨ r = 49 ∨ r = 53) m m' := by
  intro j
  induction j with
  | zero =>
    intro i f m hi hf h h34 h35 hD
    obtain ⟨f, rfl⟩ : ∃ g, f = g + 1 := ⟨f - 1, by omega⟩
    obtain rfl : i = n := by omega
    rw [b_Int_takeData_67_eq, if_pos (Int32.le_refl _), ab_ix_nI hs (by decide)]
    try simp only [ob_s, lt_eq]
    rw [nI_add, r_Inc_reachTo_eq, b_Inc_reachTo_0_eq, c48 h he hs (p := I + 1 + 1 + 2 * s) (by omega), kpV_o (by omega), s_max]
    try simp only [ob_s, lt_eq]
    by_cases z : u = 0
    · rw [if_pos z, if_pos z]
      exact ⟨_, rfl, cu48 h he hs (by omega) _, FS_uI (.inl rfl)⟩
    · rw [if_neg z, if_neg z]
      exact ⟨_, rfl, cu49 (cu48 h he hs (by omega) _) he hs (by omega) _, FS_tr (FS_uI (.inl rfl)) (FS_uI (.inr (.inl rfl)))⟩
  | succ j ih =>
    intro i f m hi hf h h34 h35 hD
    obtain ⟨f, rfl⟩ : ∃ g, f = g + 1 := ⟨f - 1, by omega⟩
    have dat : r_Rdr_dataAt R (nI i) m = some (D i, m) := by
      rw [r_Rdr_dataAt_eq, b_Rdr_dataAt_0_eq, h34, h35, nI_add]
      try simp only [ob_s, lt_eq]
      rw [oe_s, if_neg (by (try clear ih); grind [nI_T]), if_neg (by (try clear ih); grind [nI_T])]
      try simp only [ob_s, lt_eq]
      rw [ab_ix_nI (show d + i < 40 by omega) (by decide)]
      try simp only [ob_s, lt_eq]
      rw [hD i (by omega)]
      rfl
    have v53 : kpV V (4 * e + s) o i D 53 (4 * e + s) (o + i) = V 53 (4 * e + s) (o + i) := if_neg (by omega)
    rw [b_Int_takeData_67_eq, if_neg (by (try clear ih); grind [nI_T]), ab_ix_nI hs (by decide)]
    try simp only [ob_s, lt_eq]
    rw [dat]
    try simp only [ob_s, lt_eq]
    rw [nI_add, s_keep h he hs (n := I + 1 + 1 + 2 * s) (by omega) (show o + i < 64 by omega), v53, kpV_o (show 51 ≠ 53 by omega)]
    try simp only [ob_s, lt_eq]
    rw [nI_1]
    by_cases z : V 53 (4 * e + s) (o + i) = -1 ∧ V 51 (4 * e + s) 0 = 0
    · rw [if_pos z]
      have h' := cu53 h he hs (b := o + i) (by omega) (p := I + 1 + 1 + 2 * s + 1) (by omega) (D i)
      rw [kpV_step z] at h'
      obtain ⟨m', a1, a2, a3⟩ := ih (i + 1) f _ (by omega) (by omega) h' h34 (by rw [uI_r _ _ _ _ _ _ _ _ (by omega)]; exact h35) (fun t ht => by rw [uI_r _ _ _ _ _ _ _ _ (by omega)]; exact hD t ht)
      exact ⟨m', a1, a2, FS_tr (FS_uI (.inr (.inr rfl))) a3⟩
    · rw [if_neg z]
      rw [kpV_same z] at h
      exact ih (i + 1) f m (by omega) (by omega) h h34 h35 hD
end
