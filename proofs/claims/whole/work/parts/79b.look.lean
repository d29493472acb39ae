section
/-! The limits that an end gives. -/
def sp (V : Vt) (a : Nat) : Int32 := if V 51 a 0 = 0 then V 47 a 0 else V 49 a 0
def allS (V : Vt) (e : Nat) : Int32 := V 42 e 0 + sp V (4 * e) + sp V (4 * e + 1) + sp V (4 * e + 2) + sp V (4 * e + 3)
def allT (V : Vt) (e : Nat) : Int32 := if 256 < allS V e then 256 else allS V e
def strT (V : Vt) (e s : Nat) : Int32 := if 64 < V 47 (4 * e + s) 0 + V 41 e 0 then 64 else V 47 (4 * e + s) 0 + V 41 e 0
theorem s_limitForAll {m : Mm} {V : Vt} {w W : Nat → Nat} (h : RC m V w W) {e I : Nat} (he : e < 2) (hI : I = 12 + 30 * e) : r_Int_limitForAll I m = some (allT V e, m) := by
  have g : ∀ s, s < 4 → r_Inc_spent (I + 1 + 1 + 2 * s) m = some (sp V (4 * e + s), m) := by
    intro s hs
    rw [s_spent, c51 h he hs (by omega), c47 h he hs (by omega), c49 h he hs (by omega)]
    rfl
  have st : ∀ (f i : Nat) (x : Int32), i < 4 → b_Int_limitForAll_4 (f + 1) I x (nI i) m = b_Int_limitForAll_4 f I (x + sp V (4 * e + i)) (nI (i + 1)) m := by
    intro f i x hi
    rw [b_Int_limitForAll_4_eq, if_neg (by (try clear ih); grind [nI_T]), ab_ix_nI hi (by decide)]
    simp only [ob_s, lt_eq]
    rw [g i hi]
    simp only [ob_s, lt_eq]
    rw [nI_1]
  rw [r_Int_limitForAll_eq, b_Int_limitForAll_0_eq, show (0 : Int32) = nI 0 from rfl, st _ _ _ (by omega), st _ _ _ (by omega), st _ _ _ (by omega), st _ _ _ (by omega), b_Int_limitForAll_4_eq, if_pos (show (4 : Int32) ≤ nI (0 + 1 + 1 + 1 + 1) by decide), c42 h he hI, s_min]
  simp only [ob_s, lt_eq]
  rw [show nI 0 + sp V (4 * e + 0) + sp V (4 * e + (0 + 1)) + sp V (4 * e + (0 + 1 + 1)) + sp V (4 * e + (0 + 1 + 1 + 1)) + V 42 e 0 = allS V e by unfold allS; rw [show nI 0 = 0 from rfl]; grind]
  rfl
theorem t_allTarget {m : Mm} {V : Vt} (h : RM m V) {e : Nat} (he : e < 2) : r_M_allTarget 98 (nI e) m = some (allT V e, m) := by
  have st : ∀ (f i : Nat) (x : Int32), i < 4 → b_M_allTarget_9 (f + 2) 98 (nI e) x (nI (4 * e + i)) m = b_M_allTarget_9 f 98 (nI e) (x + sp V (4 * e + i)) (nI (4 * e + (i + 1))) m := by
    intro f i x hi
    have ha : 4 * e + i < 8 := by omega
    rw [b_M_allTarget_9_eq, show (4 : Int32) * nI e + 4 = nI (4 * e + 4) from nI_4 e 4, if_neg (by (try clear ih); grind [nI_T]), ab_ix_nI ha (by decide)]
    simp only [ob_s, lt_eq]
    rw [n51 h ha (p := 98 + 15) rfl rfl, n47 h ha (p := 98 + 13) rfl rfl, n49 h ha (p := 98 + 12) rfl rfl, b_M_allTarget_43_eq, b_M_allTarget_43_eq]
    simp only [ob_s, lt_eq]
    rw [nI_1]
    unfold sp
    split <;> rfl
  have k42 := (h.2.2.1 e he).2.1
  rw [r_M_allTarget_eq, b_M_allTarget_0_eq]
  simp only [ob_s, lt_eq]
  rw [k42, show (4 : Int32) * nI e = nI (4 * e + 0) by rw [← nI_4]; grind [show nI 0 = 0 from rfl], st _ _ _ (by omega), st _ _ _ (by omega), st _ _ _ (by omega), st _ _ _ (by omega), b_M_allTarget_9_eq, show (4 : Int32) * nI e + 4 = nI (4 * e + 4) from nI_4 e 4, if_pos (by (try clear ih); grind [nI_T])]
  rw [show V 42 e 0 + sp V (4 * e + 0) + sp V (4 * e + (0 + 1)) + sp V (4 * e + (0 + 1 + 1)) + sp V (4 * e + (0 + 1 + 1 + 1)) = allS V e from rfl]
  unfold allT
  simp only [bo_0, bo_1, ob_s, lt_eq, rI_ite, rI_some, rV_ite, rV_some, ib_if]
  grind
theorem t_streamTarget {m : Mm} {V : Vt} (h : RM m V) {e s : Nat} (he : e < 2) (hs : s < 4) : r_M_streamTarget 98 (nI (4 * e + s)) m = some (strT V e s, m) := by
  have ha : 4 * e + s < 8 := by omega
  rw [r_M_streamTarget_eq, b_M_streamTarget_0_eq, ab_ix_nI ha (by decide)]
  simp only [ob_s, lt_eq]
  rw [n47 h ha (p := 98 + 13) rfl rfl, (h.2.2.1 e he).1]
  unfold strT
  simp only [bo_0, bo_1, ob_s, lt_eq, rI_ite, rI_some, rV_ite, rV_some, ib_if]
  grind
theorem s_limitForV {m : Mm} {V : Vt} {w W : Nat → Nat} (h : RC m V w W) {e s I n : Nat} (he : e < 2) (hs : s < 4) (hI : I = 12 + 30 * e) (hn : n = 14 + 30 * e + 2 * s) : r_Int_limitFor I n m = some (strT V e s, m) := by
  rw [s_limitFor, c47 h he hs hn, c41 h he hI]
  rfl
/-- a limit for all is due -/
def lkV (V : Vt) (e : Nat) : Vt := uV V 44 e 0 (if V 43 e 0 < allT V e ∧ (V 42 e 0 / 2 ≤ allT V e - V 43 e 0 ∨ allT V e = 256) then 1 else V 44 e 0)
def lsV1 (V : Vt) (e s : Nat) : Vt := uV V 52 (4 * e + s) 0 (if V 50 (4 * e + s) 0 < strT V e s ∧ (V 41 e 0 / 2 ≤ strT V e s - V 50 (4 * e + s) 0 ∨ strT V e s = 64) then 1 else V 52 (4 * e + s) 0)
theorem uV_self {V : Vt} {k a b : Nat} : uV V k a b (V k a b) = V := by
  funext k' a' b'
  unfold uV
  split
  · rename_i z
    rw [z.1, z.2.1, z.2.2]
  · rfl
theorem s_lookAtLimitAll {m : Mm} {V : Vt} {w W : Nat → Nat} (h : RC m V w W) {e I : Nat} (he : e < 2) (hI : I = 12 + 30 * e) : ∃ m', r_Int_lookAtLimitAll I m = some m' ∧ RC m' (lkV V e) w W ∧ FS (fun r => r = 44) m m' := by
  rw [r_Int_lookAtLimitAll_eq, b_Int_lookAtLimitAll_0_eq, s_limitForAll h he hI]
  simp only [ob_s, lt_eq]
  rw [if_neg (by decide), s_isWorthGiving]
  simp only [ob_s, lt_eq]
  rw [c43 h he hI, c42 h he hI]
  unfold lkV
  simp only [bo_0, bo_1, ob_s, lt_eq, rI_ite, rI_some, rV_ite, rV_some, ib_if]
  by_cases z : V 43 e 0 < allT V e ∧ (V 42 e 0 / 2 ≤ allT V e - V 43 e 0 ∨ allT V e = 256)
  · rw [if_pos z, if_pos z]
    exact ⟨_, rfl, cu44 h he hI 1, FS_uI rfl⟩
  · rw [if_neg z, if_neg z, uV_self]
    exact ⟨_, rfl, h, FS_rfl _ _⟩
theorem s_lookAtLimit {m : Mm} {V : Vt} {w W : Nat → Nat} (h : RC m V w W) {e s I n : Nat} (he : e < 2) (hs : s < 4) (hI : I = 12 + 30 * e) (hn : n = 14 + 30 * e + 2 * s) : ∃ m', r_Int_lookAtLimit I n m = some m' ∧ RC m' (lsV1 V e s) w W ∧ FS (fun r => r = 52) m m' := by
  rw [r_Int_lookAtLimit_eq, b_Int_lookAtLimit_0_eq, s_limitForV h he hs hI hn]
  simp only [ob_s, lt_eq]
  rw [if_neg (by decide), s_isWorthGiving]
  simp only [ob_s, lt_eq]
  rw [c50 h he hs hn, c41 h he hI]
  unfold lsV1
  simp only [bo_0, bo_1, ob_s, lt_eq, rI_ite, rI_some, rV_ite, rV_some, ib_if]
  by_cases z : V 50 (4 * e + s) 0 < strT V e s ∧ (V 41 e 0 / 2 ≤ strT V e s - V 50 (4 * e + s) 0 ∨ strT V e s = 64)
  · rw [if_pos z, if_pos z]
    exact ⟨_, rfl, cu52 h he hs hn 1, FS_uI rfl⟩
  · rw [if_neg z, if_neg z, uV_self]
    exact ⟨_, rfl, h, FS_rfl _ _⟩
theorem t_lookAll {m : Mm} {V : Vt} (h : RM m V) {e : Nat} (he : e < 2) (hb : V 44 e 0 = 0 ∨ V 44 e 0 = 1) : ∃ m', r_M_lookAll 98 (nI e) m = some m' ∧ RM m' (lkV V e) ∧ FS (fun r => r = 157) m m' := by
  have fin : ∀ (f : Nat) (u : Int32), u = 0 ∨ u = 1 → b_M_lookAll_59 (f + 1) (98 + 25) (nI e) u m = some (.inl (none, ab_uI m 157 (98 + 25) e u)) := by
    intro f u hu
    rw [b_M_lookAll_59_eq, ab_ix_nI he (by decide)]
    rcases hu with rfl | rfl <;> rfl
  have go : ∀ x, b_M_lookAll_0 50000 98 (nI e) m = some (.inl (none, ab_uI m 157 (98 + 25) e x)) → uV V 44 e 0 x = lkV V e → ∃ m', ab_rV (b_M_lookAll_0 50000 98 (nI e) m) = some m' ∧ RM m' (lkV V e) ∧ FS (fun r => r = 157) m m' := by
    intro x hx hv
    rw [hx]
    refine ⟨_, rfl, ?_, FS_uI rfl⟩
    rw [← hv]
    exact nu44 h he rfl rfl x
  rw [r_M_lookAll_eq]
  by_cases z : V 44 e 0 = 0
  · by_cases z1 : V 43 e 0 < allT V e ∧ (V 42 e 0 / 2 ≤ allT V e - V 43 e 0 ∨ allT V e = 256)
    · refine go 1 ?_ (by unfold lkV; rw [if_pos z1])
      rw [b_M_lookAll_0_eq, t_allTarget h he, ab_ix_nI he (by decide)]
      simp only [ob_s, lt_eq]
      rw [n44 h he (p := 98 + 25) rfl rfl, n43 h he (p := 98 + 18) rfl rfl, (h.2.2.1 e he).2.1, if_pos z, if_neg (by grind), if_neg (by decide), b_M_lookAll_54_eq, b_M_lookAll_58_eq, fin _ _ (.inr rfl), fin _ _ (.inl rfl)]
      grind
    · refine go 0 ?_ (by unfold lkV; rw [if_neg z1, z])
      rw [b_M_lookAll_0_eq, t_allTarget h he, ab_ix_nI he (by decide)]
      simp only [ob_s, lt_eq]
      rw [n44 h he (p := 98 + 25) rfl rfl, n43 h he (p := 98 + 18) rfl rfl, (h.2.2.1 e he).2.1, if_pos z, if_neg (show ¬ (2 : Int32) = 0 by decide), b_M_lookAll_54_eq, b_M_lookAll_58_eq, fin _ _ (.inr rfl), fin _ _ (.inl rfl)]
      grind
  · have q : V 44 e 0 = 1 := hb.resolve_left z
    refine go 1 ?_ (by
      unfold lkV
      rw [q]
      split <;> rfl)
    rw [b_M_lookAll_0_eq, t_allTarget h he, ab_ix_nI he (by decide)]
    simp only [ob_s, lt_eq]
    rw [n44 h he (p := 98 + 25) rfl rfl, if_neg z, b_M_lookAll_54_eq, fin _ _ (.inr rfl)]
end
