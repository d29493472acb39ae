section
/-! Seals and numbers of packets. -/
/-- the sum over a packet's bytes -/
def hs (B : Nat → Nat) (c0 : Int32) : Nat → Int32
  | 0 => c0
  | i + 1 => (hs B c0 i ^^^ nI (B i)) * 16777619
/-- its upper half, as a number -/
def up (x : Int32) : Nat := x.toBitVec.toNat / 65536
theorem up_lt (x : Int32) : up x < 65536 := by
  unfold up
  have := x.toBitVec.isLt
  omega
theorem up_eq (x : Int32) : (x.toUInt32 >>> ((16 : Int32).toUInt32 &&& Int32.toUInt32 31)).toInt32 = nI (up x) := by
  have e : x = nI x.toBitVec.toNat := by
    apply Int32.toBitVec_inj.mp
    rw [nI_bv, BitVec.ofNat_toNat, BitVec.setWidth_eq]
  have h := nI_ushr (n := x.toBitVec.toNat) (k := 16) (y := 16) x.toBitVec.isLt (by decide)
  rw [← e] at h
  rw [h]
  rfl
/-- the seal of a packet with number n -/
def sl (x : Int32) (n : Nat) : Nat := up x ^^^ (n % 65536)
theorem sl_lt (x : Int32) (n : Nat) : sl x n < 65536 := by
  unfold sl
  exact Nat.xor_lt_two_pow (n := 16) (up_lt x) (Nat.mod_lt _ (by decide))
theorem sl_c (x : Int32) {n : Nat} : (x.toUInt32 >>> ((16 : Int32).toUInt32 &&& Int32.toUInt32 31)).toInt32 ^^^ (nI n &&& 65535) = nI (sl x n) := by
  have e := nI_mod (n := n) 16
  rw [up_eq, show (65535 : Int32) = nI (2 ^ 16 - 1) from rfl, e, nI_xor]
  rfl
theorem sl_m (x : Int32) {n : Nat} : ((x.toUInt32 >>> ((16 : Int32).toUInt32 &&& Int32.toUInt32 31)).toInt32 ^^^ nI n) &&& 65535 = nI (sl x n) := by
  have e := nI_mod (n := up x ^^^ n) 16
  rw [up_eq, nI_xor, show (65535 : Int32) = nI (2 ^ 16 - 1) from rfl, e]
  unfold sl
  rw [Nat.xor_mod_two_pow, Nat.mod_eq_of_lt (show up x < 2 ^ 16 from up_lt x)]
theorem sl_hi (x : Int32) (n : Nat) : ((nI (sl x n)).toUInt32 >>> ((8 : Int32).toUInt32 &&& Int32.toUInt32 31)).toInt32 = nI (sl x n / 256) := by
  have := sl_lt x n
  exact nI_ushr (k := 8) (y := 8) (by omega) (by decide)
theorem sl_hm (x : Int32) (n : Nat) : nI (sl x n) >>> ((8 : Int32) &&& 31) = nI (sl x n / 256) := by
  have := sl_lt x n
  exact nI_shr (k := 8) (by omega) (by decide)
theorem sl_lo (x : Int32) (n : Nat) : nI (sl x n) &&& 255 = nI (sl x n % 256) := nI_mod (n := sl x n) 8
theorem s_sealFor {q ct : Nat} {n c0 : Int32} {B : Nat → Nat} {m : Mm} (hc : ct ≤ 40) (h : ∀ j, j < ct → m.1 13 (q + 1) j = nI (B j)) (h12 : 40503 + m.1 12 q 0 = c0) : r_Row_sealFor q (nI ct) n m = some ((hs B c0 ct).toUInt32 >>> ((16 : Int32).toUInt32 &&& Int32.toUInt32 31) |>.toInt32.xor (n &&& 65535), m) := by
  have loop : ∀ (k i f : Nat), i + k = ct → k < f → b_Row_sealFor_11 f q (nI ct) n (hs B c0 i) (nI i) m = some (.inl (some (.inl (((hs B c0 ct).toUInt32 >>> ((16 : Int32).toUInt32 &&& Int32.toUInt32 31)).toInt32 ^^^ (n &&& 65535))), m)) := by
    intro k
    induction k with
    | zero =>
      intro i f hi hf
      obtain ⟨f, rfl⟩ : ∃ g, f = g + 1 := ⟨f - 1, by omega⟩
      obtain rfl : i = ct := by omega
      rw [b_Row_sealFor_11_eq, if_pos (Int32.le_refl _)]
    | succ k ih =>
      intro i f hi hf
      obtain ⟨f, rfl⟩ : ∃ g, f = g + 1 := ⟨f - 1, by omega⟩
      rw [b_Row_sealFor_11_eq, if_neg (by clear ih h; grind [nI_T]), ab_ix_nI (show i < 40 by omega) (by decide)]
      try simp only [ob_s, lt_eq]
      rw [h i (by omega), nI_1]
      exact ih (i + 1) f (by omega) (by omega)
  have := loop ct 0 49999 (by omega) (by omega)
  rw [show nI 0 = (0 : Int32) from rfl, show hs B c0 0 = c0 from rfl] at this
  rw [r_Row_sealFor_eq, b_Row_sealFor_0_eq, h12]
  try simp only [ob_s, lt_eq]
  rw [this]
  rfl
theorem s_isSealedFor {q z n : Nat} {c0 : Int32} {B : Nat → Nat} {m : Mm} (hz : 2 ≤ z) (hz4 : z ≤ 40) (h11 : m.1 11 q 0 = nI z) (h : ∀ j, j < z → m.1 13 (q + 1) j = nI (B j)) (hB : ∀ j, B j < 256) (h12 : 40503 + m.1 12 q 0 = c0) : r_Row_isSealedFor q (nI n) m = some (ib (B (z - 2) = sl (hs B c0 (z - 2)) n / 256 ∧ B (z - 1) = sl (hs B c0 (z - 2)) n % 256), m) := by
  have e1 : nI z - 2 = nI (z - 2) := by
    clear h
    grind [nI_T]
  have sf := s_sealFor (q := q) (ct := z - 2) (n := nI n) (c0 := c0) (B := B) (m := m) (by omega) (fun j hj => h j (by omega)) h12
  have sf' : r_Row_sealFor q (nI (z - 2)) (nI n) m = some (nI (sl (hs B c0 (z - 2)) n), m) := by
    rw [sf]
    exact congrArg (fun x => some (x, m)) (sl_c _)
  have lt := sl_lt (hs B c0 (z - 2)) n
  have b1 := hB (z - 2)
  have b2 := hB (z - 1)
  have q1 : ∀ a b : Nat, a < 256 → b < 256 → (nI a = nI b) = (a = b) := fun a b ha hb => propext ⟨fun y => by by_cases w : a = b; exact w; exact (ne_k ha hb w y).elim, fun y => by rw [y]⟩
  rw [r_Row_isSealedFor_eq, b_Row_isSealedFor_0_eq, h11, e1]
  try simp only [ob_s, lt_eq]
  rw [if_pos (by clear h sf sf'; grind [nI_T]), sf']
  try simp only [ob_s, lt_eq]
  rw [ab_ix_nI (show z - 2 < 40 by omega) (by decide), nI_1, ab_ix_nI (show z - 2 + 1 < 40 by omega) (by decide)]
  try simp only [ob_s, lt_eq]
  rw [h (z - 2) (by omega), show z - 2 + 1 = z - 1 by omega, h (z - 1) (by omega), sl_hi, sl_lo]
  simp only [ib, bo_0, bo_1, ob_s, lt_eq, rI_ite, rI_some, rV_ite, rV_some, ib_if]
  by_cases w1 : B (z - 2) = sl (hs B c0 (z - 2)) n / 256
  · by_cases w2 : B (z - 1) = sl (hs B c0 (z - 2)) n % 256
    · rw [if_pos (by rw [w1]), if_pos (by rw [w2]), if_pos ⟨w1, w2⟩]
    · rw [if_pos (by rw [w1]), if_neg (ne_k b2 (by omega) w2), if_neg (fun y => w2 y.2)]
  · rw [if_neg (ne_k b1 (by omega) w1), if_neg (fun y => w1 y.1)]
/-- the number that a packet's first byte stands for -/
def fn (h b : Nat) : Nat := if (h + 16 - b) % 16 < 8 ∧ (h + 16 - b) % 16 ≤ h then h - (h + 16 - b) % 16 else h + 16 - (h + 16 - b) % 16
def zfm (x : Int32) : Int32 := if 0 ≤ (x ^^^ 16) then x - x / 16 * 16 else if x - x / 16 * 16 = 0 then x - x / 16 * 16 else x - x / 16 * 16 + 16
theorem zfm1 : ∀ h, h < 16 → ∀ b, b < 16 → h < b → zfm (nI h - nI b) = nI ((h + 16 - b) % 16) := by decide +kernel
theorem zfm2 {h b : Nat} (hh : h < 100000) (hb : b ≤ h) (hb2 : b < 16) : zfm (nI h - nI b) = nI ((h + 16 - b) % 16) := by
  have e : nI h - nI b = nI (h - b) := by grind [nI_T]
  have e2 : nI (h - b) - nI (h - b) / 16 * 16 = nI ((h - b) % 16) := nI_rem (k := 16) (by omega) (by decide) (by decide)
  have x1 : nI (h - b) ^^^ 16 = nI ((h - b) ^^^ 16) := nI_xor _ 16
  have x2 : (h - b) ^^^ 16 < 2 ^ 20 := Nat.xor_lt_two_pow (by omega) (by omega)
  unfold zfm
  rw [e, e2, x1, if_pos (by clear e e2 x1; grind [nI_T]), show (h + 16 - b) % 16 = (h - b) % 16 by omega]
theorem s_fullNumber {q z h : Nat} {B : Nat → Nat} {m : Mm} (h11 : m.1 11 q 0 = nI z) (hz : 3 ≤ z) (hz4 : z ≤ 40) (h13 : m.1 13 (q + 1) 0 = nI (B 0)) (hB : B 0 < 16) (hh : h < 100000) : r_Row_fullNumber q (nI h) m = some (nI (fn h (B 0)), m) := by
  have fm : r_Math_floorMod (nI h - nI (B 0)) 16 m = some (nI ((h + 16 - B 0) % 16), m) := by
    have v : zfm (nI h - nI (B 0)) = nI ((h + 16 - B 0) % 16) := by
      by_cases w : B 0 ≤ h
      · exact zfm2 hh w hB
      · exact zfm1 h (by omega) (B 0) hB (by omega)
    rw [← v, r_Math_floorMod_eq, b_Math_floorMod_0_eq, if_neg (by decide)]
    try simp only [ob_s, lt_eq]
    unfold zfm
    by_cases y1 : 0 ≤ ((nI h - nI (B 0)) ^^^ 16)
    · rw [if_pos y1, if_pos y1, rI_some]
    · rw [if_neg y1, if_neg y1]
      by_cases y2 : nI h - nI (B 0) - (nI h - nI (B 0)) / 16 * 16 = 0
      · rw [if_pos y2, if_pos y2, rI_some]
      · rw [if_neg y2, if_neg y2, rI_some]
  rw [r_Row_fullNumber_eq, b_Row_fullNumber_0_eq, h11, if_neg (by clear fm; grind [nI_T]), i_ix (x := 0) (k := 0) (n := 40) rfl (by omega) (by decide)]
  try simp only [ob_s, lt_eq]
  rw [h13, if_pos (by clear fm; grind [nI_T]), fm]
  try simp only [ob_s, lt_eq]
  have dl : (h + 16 - B 0) % 16 < 16 := Nat.mod_lt _ (by decide)
  unfold fn
  generalize (h + 16 - B 0) % 16 = d at *
  rw [b_Row_fullNumber_50_eq, b_Row_fullNumber_50_eq, b_Row_fullNumber_61_eq]
  have p16 : nI h - nI d + 16 = nI (h + 16 - d) := by
    clear fm
    grind [nI_T]
  by_cases w1 : d < 8
  · rw [if_pos (by clear fm p16; grind [nI_T]), if_pos rfl]
    by_cases w2 : d ≤ h
    · rw [if_pos (by clear fm p16; grind [nI_T]), if_pos ⟨w1, w2⟩, rI_some]
      have : nI h - nI d = nI (h - d) := by
        clear fm p16
        grind [nI_T]
      rw [this]
    · rw [if_neg (by clear fm p16; grind [nI_T]), if_neg (fun y => w2 y.2), rI_some, p16]
  · rw [if_neg (by clear fm p16; grind [nI_T]), if_neg (by decide), if_neg (fun y => w1 y.1), rI_some, p16]
theorem s_noNumber {q z : Nat} {x : Int32} {B : Nat → Nat} {m : Mm} (h11 : m.1 11 q 0 = nI z) (hz : 3 ≤ z) (hz4 : z ≤ 40) (h13 : m.1 13 (q + 1) 0 = nI (B 0)) (hB : 16 ≤ B 0) (hB2 : B 0 < 256) : r_Row_fullNumber q x m = some (-1, m) := by
  rw [r_Row_fullNumber_eq, b_Row_fullNumber_0_eq, h11, if_neg (by grind [nI_T]), i_ix (x := 0) (k := 0) (n := 40) rfl (by omega) (by decide)]
  try simp only [ob_s, lt_eq]
  rw [h13, if_neg (by grind [nI_T]), rI_some]
theorem nI_wrap {b h : Nat} (hh : h < 100000) : nI b - nI h = nI (b + 4294967296 - h) := by
  have e : nI (b + 4294967296) = nI b := by
    apply Int32.toBitVec_inj.mp
    rw [nI_bv, nI_bv]
    apply BitVec.eq_of_toNat_eq
    rw [BitVec.toNat_ofNat, BitVec.toNat_ofNat]
    omega
  have q : nI (b + 4294967296 - h) = nI (b + 4294967296) - nI h := by
    unfold nI
    rw [Int32.ofNat_sub _ _ (by omega)]
  rw [q, e]
theorem t_fullNumber {V : Vt} {e h b : Nat} {m : Mm} (hm : RM m V) (he : e < 2) (h30 : V 30 e 0 + 1 = nI h) (hb : b < 16) (hh : h < 100000) : r_M_fullNumber 98 (nI e) (nI b) m = some (nI (fn h b), m) := by
  have md := nI_mod (n := b + 4294967296 - h) 4
  rw [show nI (2 ^ 4 - 1) = (15 : Int32) from rfl] at md
  rw [r_M_fullNumber_eq, b_M_fullNumber_0_eq, ab_ix_nI he (by decide)]
  try simp only [ob_s, lt_eq]
  rw [n30 hm he (p := 98 + 20) rfl rfl, h30, nI_wrap hh, md, nI_add]
  have dl : (b + 4294967296 - h) % 2 ^ 4 < 16 := Nat.mod_lt _ (by decide)
  have rel : (b + 4294967296 - h) % 2 ^ 4 = (16 - (h + 16 - b) % 16) % 16 := by omega
  rw [rel] at *
  have d2 : (h + 16 - b) % 16 < 16 := Nat.mod_lt _ (by decide)
  unfold fn
  generalize (h + 16 - b) % 16 = d at *
  clear md rel hm h30
  have sb : nI (h + (16 - d) % 16) - nI h = nI ((16 - d) % 16) := by grind [nI_T]
  rw [sb]
  by_cases w0 : d = 0
  · subst w0
    rw [if_pos (by decide), if_pos ⟨by omega, by omega⟩, rI_some]
    rfl
  · have x : (16 - d) % 16 = 16 - d := by omega
    rw [x]
    by_cases w1 : d < 8
    · rw [if_neg (by clear sb; grind [nI_T])]
      by_cases w2 : d ≤ h
      · have q : nI (h + (16 - d)) - 16 = nI (h - d) := by
          clear sb
          grind [nI_T]
        rw [if_neg (by clear sb; grind [nI_T]), if_pos ⟨w1, w2⟩, q, rI_some]
      · rw [if_pos (by clear sb; grind [nI_T]), if_neg (fun y => w2 y.2), rI_some, show h + (16 - d) = h + 16 - d by omega]
    · rw [if_pos (by clear sb; grind [nI_T]), if_neg (fun y => w1 y.1), rI_some, show h + (16 - d) = h + 16 - d by omega]
end
