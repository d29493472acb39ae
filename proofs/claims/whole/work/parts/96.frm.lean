section
/-! Frames one by one, on both sides. -/
theorem RC_sRd {m m' : Mm} {V : Vt} {w W : Nat → Nat} (h : RC m V w W) (hF : FS sRd m m') : RC m' V w W := by
  obtain ⟨h1, h2, h3, h4, h5, h6, h7⟩ := h
  have k : ∀ r p j, ¬ sRd r → m'.1 r p j = m.1 r p j := fun r p j hr => FS_g hF r p j hr
  unfold sRd at k
  refine ⟨fun k' a' b' t => ?_, fun a ha => by rw [hF.2]; exact h2 a ha, fun a' ha hl => ?_, fun a' ha => ⟨by rw [hF.2]; exact (h4 a' ha).1, fun k' b' t => ?_⟩, fun e he => ?_, h6, by rw [hF.2]; exact h7⟩
  · have := Ts_k t
    rw [k _ _ _ (by omega)]; exact h1 k' a' b' t
  · rw [k _ _ _ (by omega), k _ _ _ (by omega)]
    refine ⟨(h3 a' ha hl).1, (h3 a' ha hl).2.1, fun b' hb => ?_⟩
    rw [k _ _ _ (by omega)]
    exact (h3 a' ha hl).2.2 b' hb
  · rw [k _ _ _ (by unfold TS at t; omega)]; exact (h4 a' ha).2 k' b' t
  · rw [k _ _ _ (by omega)]; exact h5 e he
/-- a step and what becomes of the frame -/
noncomputable def cf (E R : Nat) (m : Mm) : Option (Int32 × Mm) := (r_Rdr_step R m).bind fun z3 => if z3.1 = 0 then some (1, z3.2) else r_End_takeFrame E z3.2
def FR (c e E R q s p : Nat) (B : Nat → Nat) (m mm : Mm) (V : Vt) (w W : Nat → Nat) (x0 : Int32) : Prop := ∃ (ft : Int32) (m' mm' : Mm) (V' : Vt), cf E R m = some (ft, m') ∧ r_M_frame 98 (nI e) (nI (B p)) mm = some (ft, mm') ∧ RC m' V' w W ∧ RM mm' (uV V' 26 e 0 x0) ∧ Iv c V' ∧ FM m m' ∧ FC mm mm' ∧ V' 30 e 0 = V 30 e 0 ∧
  ((ft = 0 ∧ V' 22 e 0 = -1 ∧ V' 26 e 0 = (if B p = 1 then V 26 e 0 else 1) ∧ B p ≠ 6 ∧ ∃ p', p < p' ∧ p' ≤ s ∧ Rd m' R q B p' s ∧ Cu mm' B p' s) ∨ (ft = 0 ∧ 0 ≤ V' 22 e 0) ∨ ((0 < ft ∧ ft < 100) ∧ V' 22 e 0 = -1))
/-- where the frame's kind is read -/
def kd (m : Mm) (R p b : Nat) : Mm := ab_uI (ab_uI m 36 R 0 (nI (p + 1))) 33 R 0 (nI b)
theorem kd_FS {m : Mm} {R p b : Nat} : FS sRd m (kd m R p b) := FS_tr (FS_uI (by unfold sRd; omega)) (FS_uI (by unfold sRd; omega))
theorem kd_Rd {m : Mm} {R q p s b : Nat} {B : Nat → Nat} (h : Rd m R q B p s) : Rd (kd m R p b) R q B (p + 1) s := Rd_FS h kd_FS (by unfold kd; rw [uI_r _ _ _ _ _ _ _ _ (by omega), uI_s]) (by unfold kd; rw [uI_r _ _ _ _ _ _ _ _ (by omega), uI_r _ _ _ _ _ _ _ _ (by omega)])
theorem kd_33 {m : Mm} {R p b : Nat} : (kd m R p b).1 33 R 0 = nI b := uI_s _ _ _ _ _
theorem s_step {m : Mm} {R q p s : Nat} {B : Nat → Nat} (h : Rd m R q B p s) (hs : s ≤ 38) (hp : p < s) : b_Rdr_step_0 50000 R m =
    if nI (B p) = (0 : Int32) then some (.inl (some (.inl 1), kd m R p (B p)))
    else if nI (B p) = (1 : Int32) then (r_Rdr_stepAck R (kd m R p (B p))).bind fun z4 => (ab_bo z4.1).bind fun y5 => some (.inl (some (.inl y5), z4.2))
    else if nI (B p) = (2 : Int32) then (r_Rdr_stepStream R (kd m R p (B p))).bind fun z4 => (ab_bo z4.1).bind fun y5 => some (.inl (some (.inl y5), z4.2))
    else if nI (B p) = (3 : Int32) then (r_Rdr_stepNumbers R 0 1 (kd m R p (B p))).bind fun z4 => (ab_bo z4.1).bind fun y5 => some (.inl (some (.inl y5), z4.2))
    else if nI (B p) = (4 : Int32) then (r_Rdr_stepNumbers R 0 2 (kd m R p (B p))).bind fun z4 => (ab_bo z4.1).bind fun y5 => some (.inl (some (.inl y5), z4.2))
    else if nI (B p) = (5 : Int32) then (r_Rdr_stepNumbers R 0 2 (kd m R p (B p))).bind fun z4 => (ab_bo z4.1).bind fun y5 => some (.inl (some (.inl y5), z4.2))
    else if nI (B p) = (6 : Int32) then (r_Rdr_stepNumbers R 0 1 (kd m R p (B p))).bind fun z4 => (ab_bo z4.1).bind fun y5 => some (.inl (some (.inl y5), z4.2))
    else some (.inl (some (.inl 0), kd m R p (B p))) := by
  rw [b_Rdr_step_0_eq, s_nextByte h hs (by omega), if_neg (show ¬ s ≤ p by omega), if_neg (show ¬ s ≤ p by omega)]
  simp only [ob_s, lt_eq, bo_0, bo_1]
  show _ = _
  rw [uI_s]
  rfl
theorem s_stepN {R q s p fr ct : Nat} {B : Nat → Nat} {m : Mm} (hB : ∀ j, B j < 256) (hs : s ≤ 38) (hfc : fr + ct ≤ 7) (hp : p ≤ s) (h : Rd m R q B p s) :
    (∀ L p', nums B s ct p = some (L, p') → ∃ m', r_Rdr_stepNumbers R (nI fr) (nI ct) m = some (1, m') ∧ FS sRd m m' ∧ Rd m' R q B p' s ∧ m'.1 33 R 0 = m.1 33 R 0 ∧ (∀ j, j < fr → m'.1 38 (R + 1) j = m.1 38 (R + 1) j) ∧ ∀ j (hj : j < L.length), m'.1 38 (R + 1) (fr + j) = nI L[j]) ∧
    (nums B s ct p = none → ∃ m', r_Rdr_stepNumbers R (nI fr) (nI ct) m = some (0, m') ∧ FS sRd m m' ∧ m'.1 33 R 0 = m.1 33 R 0) := by
  obtain ⟨a, b⟩ := s_stepNumbers (R := R) (q := q) hB hs hfc ct fr p 49999 m rfl (by omega) hp h
  constructor
  · intro L p' e
    obtain ⟨m', c1, c2⟩ := a L p' e
    refine ⟨m', ?_, c2⟩
    rw [r_Rdr_stepNumbers_eq, b_Rdr_stepNumbers_0_eq, c1]
    rfl
  · intro e
    obtain ⟨m', c1, c2⟩ := b e
    refine ⟨m', ?_, c2⟩
    rw [r_Rdr_stepNumbers_eq, b_Rdr_stepNumbers_0_eq, c1]
    rfl
/-- the class takes a frame that is neither ACK nor CLOSE -/
theorem s_tf {m : Mm} {E : Nat} {k : Nat} (h33 : m.1 33 (E + 3) 0 = nI k) (h1 : k ≠ 1) (h6 : k ≠ 6) (hk : k < 256) : b_End_takeFrame_0 50000 E m =
    if k = 2 then (r_Int_takeData (E + 6) (E + 3) (ab_uI m 26 E 0 1)).bind fun z3 => some (.inl (some (.inl z3.1), z3.2))
    else if k = 3 then (r_Otf_raiseAll (E + 16) (m.1 38 (E + 3 + 1) 0) (ab_uI m 26 E 0 1)).bind fun m5 => some (.inl (some (.inl 0), m5))
    else if k = 4 then (r_Otf_raiseOne (E + 16) (m.1 38 (E + 3 + 1) 0) (m.1 38 (E + 3 + 1) 1) (ab_uI m 26 E 0 1)).bind fun z8 => some (.inl (some (.inl z8.1), z8.2))
    else if k = 5 then (r_Int_takeReset (E + 6) (m.1 38 (E + 3 + 1) 0) (m.1 38 (E + 3 + 1) 1) (ab_uI m 26 E 0 1)).bind fun z11 => some (.inl (some (.inl z11.1), z11.2))
    else some (.inl (some (.inl 0), ab_uI m 26 E 0 1)) := by
  have q : ∀ j : Nat, j < 256 → (nI k = nI j) = (k = j) := by
    intro j hj
    apply propext
    constructor
    · intro y
      grind [nI_T]
    · intro y
      rw [y]
  have k33 : (ab_uI m 26 E 0 1).1 33 (E + 3) 0 = nI k := by rw [uI_r _ _ _ _ _ _ _ _ (by omega)]; exact h33
  have k38 : ∀ j, (ab_uI m 26 E 0 1).1 38 (E + 3 + 1) j = m.1 38 (E + 3 + 1) j := fun j => uI_r _ _ _ _ _ _ _ _ (by omega)
  rw [b_End_takeFrame_0_eq, h33, if_neg (by rw [show (1 : Int32) = nI 1 from rfl, q 1 (by omega)]; exact h1), if_neg (by rw [show (6 : Int32) = nI 6 from rfl, q 6 (by omega)]; exact h6), i_ix (x := 0) (k := 0) (n := 7) rfl (by omega) (by decide), i_ix (x := 1) (k := 1) (n := 7) rfl (by omega) (by decide), bo_1]
  simp only [ob_s, lt_eq, k33, k38]
  rw [show (2 : Int32) = nI 2 from rfl, show (3 : Int32) = nI 3 from rfl, show (4 : Int32) = nI 4 from rfl, show (5 : Int32) = nI 5 from rfl]
  simp only [q 2 (by omega), q 3 (by omega), q 4 (by omega), q 5 (by omega)]
end
