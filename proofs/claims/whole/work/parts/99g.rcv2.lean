section
/-! A packet is received, on both sides. -/
theorem bit_b (x : Int32) {j : Nat} (hj : j < 32) : ((x >>> (nI j &&& 31)) &&& 1 = 1) ↔ x.toBitVec.getLsbD j = true := by
  have e : ((x >>> (nI j &&& 31)) &&& 1).toBitVec = if x.toBitVec.getLsbD j then 1#32 else 0#32 := by
    rw [Int32.toBitVec_and, Int32.toBitVec_shiftRight]
    unfold BitVec.sshiftRight'
    rw [smod32 j hj]
    apply BitVec.eq_of_getLsbD_eq
    intro i hi
    show (x.toBitVec.sshiftRight j &&& 1#32).getLsbD i = _
    rw [BitVec.getLsbD_and]
    by_cases h0 : i = 0
    · subst h0
      rw [BitVec.getLsbD_sshiftRight]
      by_cases z : x.toBitVec.getLsbD j = true
      · simp [hj, z]
      · rw [if_neg z]
        have z' : x.toBitVec.getLsbD j = false := by
          cases g : x.toBitVec.getLsbD j
          · rfl
          · exact absurd g z
        simp [hj]
        rw [← BitVec.getLsbD_eq_getElem]
        exact z'
    · have : (1#32).getLsbD i = false := by
        rw [BitVec.getLsbD_one]
        simp [h0]
      rw [this]
      split
      · rw [this]; simp
      · simp
  constructor
  · intro h
    rw [h] at e
    by_cases z : x.toBitVec.getLsbD j = true
    · exact z
    · rw [if_neg z] at e
      exact absurd e (by decide)
  · intro z
    rw [if_pos z] at e
    apply Int32.toBitVec_inj.mp
    rw [e]
    rfl
theorem sh_bit : ∀ j, j < 32 → ((1 : Int32) <<< (nI j &&& 31)).toBitVec.getLsbD j = true := by decide +kernel
theorem or_bit1 (x : Int32) {j : Nat} (hj : j < 32) : ((x ||| ((1 : Int32) <<< (nI j &&& 31))) >>> (nI j &&& 31)) &&& 1 = 1 := by
  rw [bit_b _ hj, Int32.toBitVec_or, BitVec.getLsbD_or, sh_bit j hj]
  simp
theorem or_bit2 (x y : Int32) {j : Nat} (hj : j < 32) (h : (x >>> (nI j &&& 31)) &&& 1 = 1) : ((x ||| y) >>> (nI j &&& 31)) &&& 1 = 1 := by
  rw [bit_b _ hj] at *
  rw [Int32.toBitVec_or, BitVec.getLsbD_or, h]
  simp
theorem s_has {m : Mm} {V : Vt} {w W : Nat → Nat} (h : RC m V w W) {e n P : Nat} (he : e < 2) (hP : P = 7 + 30 * e) (hn : n < 10240) : r_Num_has P (nI n) m = some (ib ((V 31 e (n / 32) >>> (nI (n % 32) &&& 31)) &&& 1 = 1), m) := by
  have e1 : nI n / 32 = nI (n / 32) := nI_div (k := 32) (by omega) (by decide) (by decide)
  have e2 : nI n - nI n / 32 * 32 = nI (n % 32) := nI_rem (k := 32) (by omega) (by decide) (by decide)
  have e3 : nI n - nI (n / 32) * 32 = nI (n % 32) := by rw [← e1]; exact e2
  rw [r_Num_has_eq, b_Num_has_0_eq, if_neg (by clear h e1 e2 e3; grind [nI_T]), if_neg (by clear h e1 e2 e3; grind [nI_T]), if_neg (by decide), e1, ab_ix_nI (show n / 32 < 320 by omega) (by decide)]
  try simp only [ob_s, lt_eq]
  rw [if_neg (by decide), c31 h he (b := n / 32) (by omega) (p := P + 1) (by omega), e3, bit_eq _ (show n % 32 < 32 by omega)]
  simp only [ib, bo_0, bo_1, ob_s, lt_eq, rI_ite, rI_some, rV_ite, rV_some, ib_if]
  split <;> rfl
theorem nI_320 (e s : Nat) : (320 : Int32) * nI e + nI s = nI (320 * e + s) := by
  unfold nI
  rw [← show Int32.ofNat 320 = 320 from rfl, ← Int32.ofNat_mul, ← Int32.ofNat_add]
theorem t_isSeen {m : Mm} {V : Vt} (h : RM m V) {e n : Nat} (he : e < 2) (hn : n < 10240) : r_M_isSeen 98 (nI e) (nI n) m = some (ib ((V 31 e (n / 32) >>> (nI (n % 32) &&& 31)) &&& 1 = 1), m) := by
  have e1 : nI n / 32 = nI (n / 32) := nI_div (k := 32) (by omega) (by decide) (by decide)
  have e2 : nI n - nI n / 32 * 32 = nI (n % 32) := nI_rem (k := 32) (by omega) (by decide) (by decide)
  have e3 : nI n - nI (n / 32) * 32 = nI (n % 32) := by rw [← e1]; exact e2
  rw [r_M_isSeen_eq, b_M_isSeen_0_eq, if_neg (by clear h e1 e2 e3; grind [nI_T]), if_neg (by decide), e1, nI_320, ab_ix_nI (show 320 * e + n / 32 < 640 by omega) (by decide)]
  try simp only [ob_s, lt_eq]
  rw [if_neg (by decide), n31 h he (b := n / 32) (by omega) (p := 98 + 29) rfl rfl, e3]
  simp only [ib, bo_0, bo_1, ob_s, lt_eq, rI_ite, rI_some, rV_ite, rV_some, ib_if]
  split <;> rfl
/-- a packet's number is noted -/
def adV (V : Vt) (e n : Nat) : Vt := uV (uV V 31 e (n / 32) (V 31 e (n / 32) ||| ((1 : Int32) <<< (nI (n % 32) &&& 31)))) 30 e 0 (if V 30 e 0 < nI n then nI n else V 30 e 0)
theorem s_add {m : Mm} {V : Vt} {w W : Nat → Nat} (h : RC m V w W) {e n P : Nat} (he : e < 2) (hP : P = 7 + 30 * e) (hn : n < 10240) : ∃ m', r_Num_add P (nI n) m = some m' ∧ RC m' (adV V e n) w W ∧ FS (fun r => r = 30 ∨ r = 31) m m' := by
  have e1 : nI n / 32 = nI (n / 32) := nI_div (k := 32) (by omega) (by decide) (by decide)
  have e2 : nI n - nI n / 32 * 32 = nI (n % 32) := nI_rem (k := 32) (by omega) (by decide) (by decide)
  have e3 : nI n - nI (n / 32) * 32 = nI (n % 32) := by rw [← e1]; exact e2
  have h1 := cu31 h he (b := n / 32) (by omega) (p := P + 1) (by omega) (V 31 e (n / 32) ||| ((1 : Int32) <<< (nI (n % 32) &&& 31)))
  have k30 := c30 h1 he (p := P) hP
  rw [uV_k _ _ _ _ _ (by omega)] at k30
  refine ⟨_, ?_, cu30 h1 he hP _, FS_tr (FS_uI (.inr rfl)) (FS_uI (.inl rfl))⟩
  rw [r_Num_add_eq, b_Num_add_0_eq, s_canHold]
  try simp only [ob_s, lt_eq]
  rw [ib_if, if_pos (by clear h h1 e1 e2 e3 k30; grind [nI_T]), if_neg (by decide), e1, ab_ix_nI (show n / 32 < 320 by omega) (by decide)]
  try simp only [ob_s, lt_eq]
  rw [if_neg (by decide), c31 h he (b := n / 32) (by omega) (p := P + 1) (by omega), e3, k30, s_max]
  rfl
theorem Iv_ad {c : Nat} {V : Vt} {e n : Nat} (h : Iv c V) (he : e < 2) (hn : n < 10240) (hc : c < 512) (hb9 : n ≤ 15 + 9 * (c + 1)) : Iv (c + 1) (adV V e n) := by
  have h := Iv_more h (show c ≤ c + 1 by omega) (by omega)
  have o : ∀ k a b, k ≠ 30 → k ≠ 31 → adV V e n k a b = V k a b := fun k a b q q' => (uV_k _ _ _ _ _ q).trans (uV_k _ _ _ _ _ q')
  have sa : ∀ a, Sa (adV V e n) a ↔ Sa V a := fun a => (Sa_uV (by omega) a).trans (Sa_uV (by omega) a)
  refine ⟨fun a ha => IO_k (by omega) (IO_k (by omega) (h.1 a ha)), fun a ha => IN_k (by omega) (IN_k (by omega) (h.2.1 a ha)), fun e' he' => ?_, IX_k (by omega) (IX_k (by omega) h.2.2.2.1), fun a ha hl => IR_k (by omega) (IR_k (by omega) (h.2.2.2.2.1 a ha (by rw [o 5 _ _ (by omega) (by omega)] at hl; exact hl))), fun a ha => IS_k (by omega) (IS_k (by omega) (h.2.2.2.2.2 a ((sa a).mp ha)))⟩
  have g := h.2.2.1 e' he'
  unfold IE at *
  simp only [o 21 _ _ (by omega) (by omega), o 22 _ _ (by omega) (by omega), o 23 _ _ (by omega) (by omega), o 24 _ _ (by omega) (by omega), o 25 _ _ (by omega) (by omega), o 26 _ _ (by omega) (by omega), o 41 _ _ (by omega) (by omega), o 42 _ _ (by omega) (by omega), o 43 _ _ (by omega) (by omega), o 44 _ _ (by omega) (by omega), o 55 _ _ (by omega) (by omega), o 7 _ _ (by omega) (by omega), o 8 _ _ (by omega) (by omega), o 28 _ _ (by omega) (by omega)]
  obtain ⟨g1, g2, g3, g4, g5, g6, g7, g8, g9, g10⟩ := g
  by_cases z : e' = e
  · subst z
    have v30 : adV V e' n 30 e' 0 = if V 30 e' 0 < nI n then nI n else V 30 e' 0 := uV_s _ _ _ _ _
    have v31 : ∀ b, adV V e' n 31 e' b = if b = n / 32 then V 31 e' (n / 32) ||| ((1 : Int32) <<< (nI (n % 32) &&& 31)) else V 31 e' b := by
      intro b
      unfold adV
      rw [uV_k _ _ _ _ _ (by omega)]
      unfold uV
      by_cases y : b = n / 32
      · rw [if_pos ⟨rfl, rfl, y⟩, if_pos y]
      · rw [if_neg (fun w => y w.2.2), if_neg y]
    refine ⟨g1, g2, g3, g4, g5, g6, ?_, ?_, ?_, g10⟩
    · intro y
      have := g7 y
      rw [v30]
      clear g9 v31 v30
      by_cases w1 : V 30 e' 0 < nI n
      · rw [if_pos w1]
        grind [nI_T]
      · rw [if_neg w1]
        exact this
    · rw [v30]
      clear g9 v31 v30
      by_cases w1 : V 30 e' 0 < nI n
      · rw [if_pos w1]
        grind [nI_T]
      · rw [if_neg w1]
        exact g8
    · intro n' hn' y
      unfold hb
      rw [v31]
      rw [v30] at y
      by_cases w1 : V 30 e' 0 < nI n
      · rw [if_pos w1] at y
        have : n' = n := by
          clear g9 v31 v30
          grind [nI_T]
        subst this
        rw [if_pos rfl]
        exact or_bit1 _ (by omega)
      · rw [if_neg w1] at y
        have old := g9 n' hn' y
        unfold hb at old
        by_cases w2 : n' / 32 = n / 32
        · rw [if_pos w2]
          rw [w2] at old
          exact or_bit2 _ _ (by omega) old
        · rw [if_neg w2]
          exact old
  · have q30 : adV V e n 30 e' 0 = V 30 e' 0 := (uV_a _ _ _ _ _ z).trans (uV_k _ _ _ _ _ (by omega))
    have q31 : ∀ b, adV V e n 31 e' b = V 31 e' b := fun b => (uV_k _ _ _ _ _ (by omega)).trans (uV_a _ _ _ _ _ z)
    unfold hb at *
    simp only [q30, q31]
    exact ⟨g1, g2, g3, g4, g5, g6, g7, g8, g9, g10⟩
theorem fn_le {h b : Nat} (hb : b < 16) : fn h b ≤ 15 ∨ fn h b ≤ h + 8 := by
  unfold fn
  have : (h + 16 - b) % 16 < 16 := Nat.mod_lt _ (by decide)
  generalize (h + 16 - b) % 16 = d at *
  split
  · right; omega
  · omega
end
