section
/-! Bits. -/
theorem nI_bv (n : Nat) : (nI n).toBitVec = BitVec.ofNat 32 n := rfl
theorem nI_and (n k : Nat) : nI n &&& nI k = nI (n &&& k) := by
  apply Int32.toBitVec_inj.mp
  rw [Int32.toBitVec_and, nI_bv, nI_bv, nI_bv, BitVec.ofNat_and]
theorem nI_or (n k : Nat) : nI n ||| nI k = nI (n ||| k) := by
  apply Int32.toBitVec_inj.mp
  rw [Int32.toBitVec_or, nI_bv, nI_bv, nI_bv, BitVec.ofNat_or]
theorem nI_xor (n k : Nat) : nI n ^^^ nI k = nI (n ^^^ k) := by
  apply Int32.toBitVec_inj.mp
  rw [Int32.toBitVec_xor, nI_bv, nI_bv, nI_bv, BitVec.ofNat_xor]
theorem nI_mod {n : Nat} (k : Nat) : nI n &&& nI (2 ^ k - 1) = nI (n % 2 ^ k) := by
  rw [nI_and, Nat.and_two_pow_sub_one_eq_mod]
theorem bv_shr {n k : Nat} (hn : n < 2 ^ 32) : BitVec.ofNat 32 n >>> k = BitVec.ofNat 32 (n / 2 ^ k) := by
  apply BitVec.eq_of_toNat_eq
  rw [BitVec.toNat_ushiftRight, BitVec.toNat_ofNat, BitVec.toNat_ofNat, Nat.shiftRight_eq_div_pow, Nat.mod_eq_of_lt hn, Nat.mod_eq_of_lt (Nat.lt_of_le_of_lt (Nat.div_le_self _ _) hn)]
theorem nI_shr {n k : Nat} {y : Int32} (hn : n < 2 ^ 31) (hy : (y.toBitVec.smod 32).toNat = k) : nI n >>> y = nI (n / 2 ^ k) := by
  apply Int32.toBitVec_inj.mp
  have hm : (BitVec.ofNat 32 n).msb = false := by
    rw [BitVec.msb_eq_false_iff_two_mul_lt, BitVec.toNat_ofNat, Nat.mod_eq_of_lt (by omega)]
    omega
  rw [Int32.toBitVec_shiftRight, nI_bv, nI_bv]
  unfold BitVec.sshiftRight'
  rw [hy, BitVec.sshiftRight_eq_of_msb_false hm, bv_shr (by omega)]
theorem nI_shl {n k : Nat} {y : Int32} (hy : (y.toBitVec.smod 32).toNat = k) : nI n <<< y = nI (n * 2 ^ k) := by
  apply Int32.toBitVec_inj.mp
  rw [Int32.toBitVec_shiftLeft, nI_bv, nI_bv, BitVec.shiftLeft_eq', hy]
  apply BitVec.eq_of_toNat_eq
  rw [BitVec.toNat_shiftLeft, BitVec.toNat_ofNat, BitVec.toNat_ofNat, Nat.shiftLeft_eq, Nat.mod_mul_mod]
theorem smod32 : ∀ j, j < 32 → ((nI j &&& 31).toBitVec.smod 32).toNat = j := by decide +kernel
theorem umod32 : ∀ j, j < 32 → ((nI j).toUInt32 &&& Int32.toUInt32 31).toNat % 32 = j := by decide +kernel
theorem xor_byte {x t : Int32} (h : 0 ≤ x ∧ x ≤ 255) (h' : 1 ≤ t ∧ t ≤ 255) : 0 ≤ x ^^^ t ∧ x ^^^ t ≤ 255 := by
  obtain ⟨p, hp, rfl⟩ := i_ofc (N := 255) h.1 h.2 (by decide)
  obtain ⟨q, hq, rfl⟩ := i_ofc (x := t) (N := 255) (by grind) h'.2 (by decide)
  rw [nI_xor]
  have : p ^^^ q < 2 ^ 8 := Nat.xor_lt_two_pow (by omega) (by omega)
  grind [nI_T]
/-- logical shift right of what is not negative -/
theorem nI_ushr {n k : Nat} {y : Int32} (hn : n < 2 ^ 32) (hy : (y.toUInt32 &&& Int32.toUInt32 31).toNat % 32 = k) : ((nI n).toUInt32 >>> (y.toUInt32 &&& Int32.toUInt32 31)).toInt32 = nI (n / 2 ^ k) := by
  apply Int32.toBitVec_inj.mp
  show ((nI n).toUInt32 >>> (y.toUInt32 &&& Int32.toUInt32 31)).toBitVec = _
  apply BitVec.eq_of_toNat_eq
  rw [UInt32.toNat_toBitVec, UInt32.toNat_shiftRight, nI_bv, BitVec.toNat_ofNat, Nat.shiftRight_eq_div_pow, hy]
  rw [show (nI n).toUInt32.toNat = n % 2 ^ 32 from rfl, Nat.mod_eq_of_lt hn, Nat.mod_eq_of_lt (Nat.lt_of_le_of_lt (Nat.div_le_self _ _) hn)]
/-- one bit, by either shift -/
theorem bit_eq (x : Int32) {j : Nat} (hj : j < 32) : ((x.toUInt32 >>> ((nI j).toUInt32 &&& Int32.toUInt32 31)).toInt32 &&& 1) = ((x >>> (nI j &&& 31)) &&& 1) := by
  apply Int32.toBitVec_inj.mp
  rw [Int32.toBitVec_and, Int32.toBitVec_and, Int32.toBitVec_shiftRight]
  unfold BitVec.sshiftRight'
  rw [smod32 j hj]
  show (x.toUInt32 >>> ((nI j).toUInt32 &&& Int32.toUInt32 31)).toBitVec &&& 1#32 = x.toBitVec.sshiftRight j &&& 1#32
  rw [UInt32.toBitVec_shiftRight]
  apply BitVec.eq_of_getLsbD_eq
  intro i hi
  rw [BitVec.getLsbD_and, BitVec.getLsbD_and]
  by_cases h0 : i = 0
  · subst h0
    have e : (((nI j).toUInt32 &&& Int32.toUInt32 31).toBitVec % 32).toNat = j := by
      have := umod32 j hj
      rw [BitVec.toNat_umod]
      exact this
    rw [BitVec.ushiftRight_eq', e, BitVec.getLsbD_ushiftRight, BitVec.getLsbD_sshiftRight]
    simp [hj]
  · have : (1#32).getLsbD i = false := by
      rw [BitVec.getLsbD_one]
      simp [h0]
    rw [this]
    simp
theorem nI_div {n k : Nat} (hn : n < 2 ^ 31) (hk : 0 < k) (hk2 : k < 2 ^ 31) : nI n / nI k = nI (n / k) := by
  apply Int32.toInt_inj.mp
  rw [Int32.toInt_div, nI_toInt hn, nI_toInt hk2, nI_toInt (Nat.lt_of_le_of_lt (Nat.div_le_self _ _) hn)]
  have e : (n : Int).tdiv (k : Int) = ((n / k : Nat) : Int) := by
    rw [Int.tdiv_eq_ediv_of_nonneg (by omega)]
    rfl
  rw [e]
  have := Nat.lt_of_le_of_lt (Nat.div_le_self n k) hn
  generalize n / k = d at *
  rw [Int.bmod_eq_of_le (by omega) (by omega)]
theorem nI_rem {n k : Nat} (hn : n < 2 ^ 31) (hk : 0 < k) (hk2 : k < 2 ^ 31) : nI n - nI n / nI k * nI k = nI (n % k) := by
  rw [nI_div hn hk hk2]
  unfold nI
  rw [← Int32.ofNat_mul, ← Int32.ofNat_sub _ _ (Nat.div_mul_le_self n k)]
  congr 1
  have := Nat.div_add_mod n k
  rw [Nat.mul_comm] at this
  omega
/-- what the model keeps of what a packet bore of a stream -/
def enc (f c e r l : Int32) : Int32 := f + 128 * c + 2048 * e + 4096 * r + 8192 * (l + 1)
/-- what the model's number of a packet's part says -/
theorem enc_n {f c d r l : Nat} {x : Int32} (hx : x + 1 = nI l) : enc (nI f) (nI c) (nI d) (nI r) x = nI (f + 128 * c + 2048 * d + 4096 * r + 8192 * l) := by
  unfold enc
  rw [hx]
  unfold nI
  rw [← show Int32.ofNat 128 = 128 from rfl, ← show Int32.ofNat 2048 = 2048 from rfl, ← show Int32.ofNat 4096 = 4096 from rfl, ← show Int32.ofNat 8192 = 8192 from rfl]
  simp only [← Int32.ofNat_mul, ← Int32.ofNat_add]
theorem dec_f {f c d r l : Nat} (hf : f < 128) : nI (f + 128 * c + 2048 * d + 4096 * r + 8192 * l) &&& 127 = nI f := by
  have := nI_mod (n := f + 128 * c + 2048 * d + 4096 * r + 8192 * l) 7
  rw [show (f + 128 * c + 2048 * d + 4096 * r + 8192 * l) % 2 ^ 7 = f by omega] at this
  exact this
theorem dec_c {f c d r l : Nat} (hf : f < 128) (hc : c < 16) (hd : d < 2) (hr : r < 2) (hl : l < 100) : (nI (f + 128 * c + 2048 * d + 4096 * r + 8192 * l) >>> ((7 : Int32) &&& 31)) &&& 15 = nI c := by
  rw [nI_shr (k := 7) (by omega) (by decide)]
  have := nI_mod (n := (f + 128 * c + 2048 * d + 4096 * r + 8192 * l) / 2 ^ 7) 4
  rw [show (f + 128 * c + 2048 * d + 4096 * r + 8192 * l) / 2 ^ 7 % 2 ^ 4 = c by omega] at this
  exact this
theorem dec_d {f c d r l : Nat} (hf : f < 128) (hc : c < 16) (hd : d < 2) (hr : r < 2) (hl : l < 100) : (nI (f + 128 * c + 2048 * d + 4096 * r + 8192 * l) >>> ((11 : Int32) &&& 31)) &&& 1 = nI d := by
  rw [nI_shr (k := 11) (by omega) (by decide)]
  have := nI_mod (n := (f + 128 * c + 2048 * d + 4096 * r + 8192 * l) / 2 ^ 11) 1
  rw [show (f + 128 * c + 2048 * d + 4096 * r + 8192 * l) / 2 ^ 11 % 2 ^ 1 = d by omega] at this
  exact this
theorem dec_r {f c d r l : Nat} (hf : f < 128) (hc : c < 16) (hd : d < 2) (hr : r < 2) (hl : l < 100) : (nI (f + 128 * c + 2048 * d + 4096 * r + 8192 * l) >>> ((12 : Int32) &&& 31)) &&& 1 = nI r := by
  rw [nI_shr (k := 12) (by omega) (by decide)]
  have := nI_mod (n := (f + 128 * c + 2048 * d + 4096 * r + 8192 * l) / 2 ^ 12) 1
  rw [show (f + 128 * c + 2048 * d + 4096 * r + 8192 * l) / 2 ^ 12 % 2 ^ 1 = r by omega] at this
  exact this
theorem dec_l {f c d r l : Nat} (hf : f < 128) (hc : c < 16) (hd : d < 2) (hr : r < 2) (hl : l < 100) : nI (f + 128 * c + 2048 * d + 4096 * r + 8192 * l) >>> ((13 : Int32) &&& 31) = nI l := by
  rw [nI_shr (k := 13) (by omega) (by decide), show (f + 128 * c + 2048 * d + 4096 * r + 8192 * l) / 2 ^ 13 = l by omega]
end
