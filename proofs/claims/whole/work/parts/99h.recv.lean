section
/-! A packet is received. -/
theorem RC_34 {m : Mm} {V : Vt} {w W : Nat → Nat} (h : RC m V w W) {p b : Nat} {x : Option Nat} : RC (ab_uR m 34 p b x) V w W := by
  obtain ⟨h1, h2, h3, h4, h5, h6, h7⟩ := h
  refine ⟨h1, fun a ha => ?_, h3, fun a ha => ⟨?_, (h4 a ha).2⟩, h5, h6, h7⟩
  · rw [uR_r, if_neg (by omega)]
    exact h2 a ha
  · rw [uR_r, if_neg (by omega)]
    exact (h4 a ha).1
theorem s_begin {m : Mm} {V : Vt} {w W : Nat → Nat} (h : RC m V w W) {R q z : Nat} {B : Nat → Nat} (hz : 3 ≤ z) (hz4 : z ≤ 40) (h11 : m.1 11 q 0 = nI z) (h13 : ∀ j, j < z → m.1 13 (q + 1) j = nI (B j)) : ∃ m', r_Rdr_begin R q m = some m' ∧ RC m' V w W ∧ Rd m' R q B 1 (z - 2) ∧ FM m m' := by
  have e2 : nI z - 2 = nI (z - 2) := by
    clear h h13 h11
    grind [nI_T]
  refine ⟨ab_uI (ab_uI (ab_uR m 34 R 0 (some q)) 36 R 0 1) 37 R 0 (nI (z - 2)), ?_, RC_sc (RC_sc (RC_34 h) (by unfold Sc; omega)) (by unfold Sc; omega), ⟨?_, ?_, uI_s _ _ _ _ _, fun j hj hs => ?_⟩, FM_tr FM_uR (FM_tr (FM_uI (by omega)) (FM_uI (by omega)))⟩
  · rw [r_Rdr_begin_eq, b_Rdr_begin_0_eq]
    try simp only [ob_s, lt_eq]
    rw [uI_r _ _ _ _ _ _ _ _ (by omega), uR_1, h11, e2, rV_some]
  · show (ab_uR m 34 R 0 (some q)).2.2.1 34 R 0 = some q
    rw [uR_r, if_pos ⟨rfl, rfl, rfl⟩]
  · rw [uI_r _ _ _ _ _ _ _ _ (by omega), uI_s]
    rfl
  · rw [uI_r _ _ _ _ _ _ _ _ (by omega), uI_r _ _ _ _ _ _ _ _ (by omega), uR_1]
    exact h13 j (by omega)
theorem t_52 {m : Mm} {e z n : Nat} {c0 : Int32} {B : Nat → Nat} (hz : 3 ≤ z) (hz4 : z ≤ 40) (h123 : m.1 123 98 0 = nI z) (h : ∀ j, j < z → m.1 167 133 j = nI (B j)) : ∀ k i f, i + k = z - 2 → b_M_receive_52 (f + k) 98 (nI e) (nI n) (hs B c0 i) (nI i) m = b_M_receive_52 f 98 (nI e) (nI n) (hs B c0 (z - 2)) (nI (z - 2)) m := by
  intro k
  induction k with
  | zero =>
    intro i f hi
    obtain rfl : i = z - 2 := by omega
    rfl
  | succ k ih =>
    intro i f hi
    rw [show f + (k + 1) = f + k + 1 by omega, b_M_receive_52_eq, h123, if_neg (by clear ih h h123; grind [nI_T]), ab_ix_nI (show i < 48 by omega) (by decide)]
    try simp only [ob_s, lt_eq]
    rw [show (98 : Nat) + 35 = 133 from rfl, h i (by omega), nI_1]
    exact ih (i + 1) f (by omega)
theorem rcv {c e E q z : Nat} {B : Nat → Nat} {w W : Nat → Nat} {V : Vt} {m mm : Mm} (he : e < 2) (hE : E = 6 + 30 * e) (h1 : RC m V w W) (h2 : RM mm V) (h3 : Iv c V) (hc : c < 512) (hz : 3 ≤ z) (hz4 : z ≤ 40) (hB : ∀ j, B j < 256) (h11 : m.1 11 q 0 = nI z) (h13 : ∀ j, j < z → m.1 13 (q + 1) j = nI (B j)) (h12 : 40503 + m.1 12 q 0 = 40504 - nI e) (h123 : mm.1 123 98 0 = nI z) (h167 : ∀ j, j < z → mm.1 167 133 j = nI (B j)) :
    ∃ r m' mm' V', r_End_receive E q m = some (r, m') ∧ r_M_receive 98 (nI e) mm = some (r, mm') ∧ RC m' V' w W ∧ RM mm' V' ∧ Iv (c + 1) V' ∧ FM m m' ∧ FC mm mm' := by
  have ie := h3.2.2.1 e he
  have same : ∀ r : Int32, r_End_receive E q m = some (r, m) → r_M_receive 98 (nI e) mm = some (r, mm) → ∃ r m' mm' V', r_End_receive E q m = some (r, m') ∧ r_M_receive 98 (nI e) mm = some (r, mm') ∧ RC m' V' w W ∧ RM mm' V' ∧ Iv (c + 1) V' ∧ FM m m' ∧ FC mm mm' :=
    fun r a b => ⟨r, m, mm, V, a, b, h1, h2, Iv_more h3 (by omega) (by omega), FM_rfl _, FC_rfl _⟩
  have C0 : r_End_receive E q m = ab_rI (b_End_receive_0 50000 E q m) := r_End_receive_eq _ _ _
  rw [b_End_receive_0_eq, s_isOpen, c22 h1 he hE] at C0
  simp only [ob_s, lt_eq, ib_if] at C0
  have M0 : r_M_receive 98 (nI e) mm = ab_rI (b_M_receive_0 50000 98 (nI e) mm) := r_M_receive_eq _ _ _
  rw [b_M_receive_0_eq, ab_ix_nI he (by decide)] at M0
  simp only [ob_s, lt_eq] at M0
  rw [n22 h2 he rfl rfl, h123, if_neg (show ¬ nI z < 3 by clear C0 M0 same h1 h2 h3 ie h13 h167; grind [nI_T]), i_ix (x := 0) (k := 0) (n := 48) rfl (by omega) (by decide)] at M0
  simp only [ob_s, lt_eq] at M0
  rw [show (98 : Nat) + 35 = 133 from rfl, h167 0 (by omega)] at M0
  by_cases op : V 22 e 0 = -1
  · rw [if_pos op] at C0
    rw [op, if_pos (by decide)] at M0
    obtain ⟨h, hh, h30⟩ := i_ofc (x := V 30 e 0 + 1) (N := 16 + 9 * c) (by have := ie.2.2.2.2.2.2.2.1; clear C0 M0 same h1 h2 h3 ie h13 h167; grind [nI_T]) (by have := ie.2.2.2.2.2.2.2.1; clear C0 M0 same h1 h2 h3 ie h13 h167; grind [nI_T]) (by omega)
    rw [c30 h1 he (p := E + 1) (by omega), h30] at C0
    by_cases b16 : B 0 < 16
    · have nl := fn_le (h := h) b16
      have sf := s_fullNumber (q := q) (z := z) (h := h) (B := B) (m := m) h11 hz hz4 (h13 0 (by omega)) b16 (by omega)
      have tf := t_fullNumber (V := V) (e := e) (h := h) (b := B 0) (m := mm) h2 he h30 b16 (by omega)
      rw [if_pos (show nI (B 0) ≤ 15 by clear C0 M0 same h1 h2 h3 ie h13 h167 sf tf; grind [nI_T]), tf] at M0
      rw [sf] at C0
      have n1 : fn h (B 0) < 10240 := by omega
      have n2 : fn h (B 0) ≤ 15 + 9 * (c + 1) := by omega
      generalize fn h (B 0) = n at *
      have c1 : 0 ≤ nI n ∧ nI n < 10240 := by
        clear C0 M0 same h1 h2 h3 ie h13 h167 sf tf
        grind [nI_T]
      have sld := s_isSealedFor (q := q) (z := z) (n := n) (c0 := 40504 - nI e) (B := B) (m := m) (by omega) hz4 h11 h13 hB h12
      simp only [ob_s, lt_eq, s_canHold, ib_if] at C0
      rw [if_pos c1, s_has h1 he (P := E + 1) (by omega) n1] at C0
      simp only [ob_s, lt_eq, ib_if] at C0
      rw [sld] at C0
      simp only [ob_s, lt_eq, ib_if] at C0
      simp only [ob_s, lt_eq] at M0
      have t2 := t_52 (m := mm) (e := e) (n := n) (c0 := 40504 - nI e) (B := B) hz hz4 h123 h167 (z - 2) 0 (49999 - (z - 2)) (by omega)
      rw [show 49999 - (z - 2) + (z - 2) = 49999 by omega, show nI 0 = (0 : Int32) from rfl, show hs B (40504 - nI e) 0 = 40504 - nI e from rfl] at t2
      rw [t2] at M0
      obtain ⟨g, hg⟩ : ∃ g, 49999 - (z - 2) = g + 2 := ⟨49999 - (z - 2) - 2, by omega⟩
      have q1 : ∀ a b : Nat, a < 256 → b < 256 → (nI a = nI b) = (a = b) := fun a b ha hb => propext ⟨fun y => by by_cases w : a = b; exact w; exact (ne_k ha hb w y).elim, fun y => by rw [y]⟩
      have lt := sl_lt (hs B (40504 - nI e) (z - 2)) n
      have e1 : nI n / 32 = nI (n / 32) := nI_div (k := 32) (by omega) (by decide) (by decide)
      have e2 : nI n - nI n / 32 * 32 = nI (n % 32) := nI_rem (k := 32) (by omega) (by decide) (by decide)
      have e3 : nI n - nI (n / 32) * 32 = nI (n % 32) := by rw [← e1]; exact e2
      have z2 : nI z - 2 = nI (z - 2) := by
        clear C0 M0 same h1 h2 h3 ie h13 h167 sf tf t2 q1
        grind [nI_T]
      have z1 : nI z - 1 = nI (z - 1) := by
        clear C0 M0 same h1 h2 h3 ie h13 h167 sf tf t2 q1
        grind [nI_T]
      rw [hg, b_M_receive_52_eq, h123, z2, z1, if_pos (Int32.le_refl _), sl_m] at M0
      simp only [lt_eq] at M0
      rw [sl_hm, sl_lo, ab_ix_nI (show z - 2 < 48 by omega) (by decide), ab_ix_nI (show z - 1 < 48 by omega) (by decide), t_isSeen h2 he n1] at M0
      simp only [ob_s, lt_eq, ib_if] at M0
      rw [show (98 : Nat) + 35 = 133 from rfl, h167 (z - 2) (by omega), h167 (z - 1) (by omega)] at M0
      simp only [q1 (B (z - 2)) (sl (hs B (40504 - nI e) (z - 2)) n / 256) (hB _) (by omega), q1 (B (z - 1)) (sl (hs B (40504 - nI e) (z - 2)) n % 256) (hB _) (Nat.mod_lt _ (by decide))] at M0
      by_cases seen : (V 31 e (n / 32) >>> (nI (n % 32) &&& 31)) &&& 1 = 1
      · rw [if_pos seen, rI_some] at C0
        rw [if_pos seen] at M0
        refine same 1 C0 ?_
        rw [M0]
        split
        · split <;> exact rI_some _ _
        · exact rI_some _ _
      · rw [if_neg seen] at C0
        rw [if_neg seen] at M0
        by_cases s1 : B (z - 2) = sl (hs B (40504 - nI e) (z - 2)) n / 256 ∧ B (z - 1) = sl (hs B (40504 - nI e) (z - 2)) n % 256
        · rw [if_pos s1] at C0
          rw [if_pos s1.1, if_pos s1.2] at M0
          rw [if_neg (show ¬ (32 : Int32) = 0 by decide), if_neg (show ¬ (32 : Int32) = 0 by decide), e1, nI_320, ab_ix_nI (show 320 * e + n / 32 < 640 by omega) (by decide), ab_ix_nI he (by decide)] at M0
          simp only [ob_s, lt_eq] at M0
          rw [if_neg (show ¬ (32 : Int32) = 0 by decide)] at M0
          rw [e3, n31 h2 he (b := n / 32) (by omega) (p := 98 + 29) rfl rfl, uI_r _ _ _ _ _ _ _ _ (show (152 : Nat) ≠ 161 by omega), n30 h2 he (p := 98 + 20) rfl rfl] at M0
          have M2 : r_M_receive 98 (nI e) mm = ab_rI (b_M_receive_214 g 98 (nI e) 0 (ab_uI (ab_uI (ab_uI mm 161 127 (320 * e + n / 32) (V 31 e (n / 32) ||| ((1 : Int32) <<< (nI (n % 32) &&& 31)))) 152 118 e (if V 30 e 0 < nI n then nI n else V 30 e 0)) 124 98 0 1)) := by
            rw [M0, b_M_receive_205_eq, b_M_receive_205_eq, ab_ix_nI he (by decide)]
            simp only [ob_s, lt_eq]
            by_cases y : V 30 e 0 < nI n
            · rw [if_neg (Int32.not_le.mpr y), if_pos y]
            · rw [if_pos (Int32.not_lt.mp y), if_neg y]
          clear M0
          obtain ⟨m1, a1, a2, a3⟩ := s_add h1 (e := e) (n := n) (P := E + 1) he (by omega) n1
          rw [a1, ob_s] at C0
          obtain ⟨m2, b1, b2, b3, b4⟩ := s_begin a2 (R := E + 3) (q := q) (z := z) (B := B) hz hz4 (by rw [FS_g a3 _ _ _ (by omega)]; exact h11) (fun j hj => by rw [FS_g a3 _ _ _ (by omega)]; exact h13 j hj)
          rw [b1, ob_s] at C0
          have R2 : RM (ab_uI (ab_uI (ab_uI mm 161 127 (320 * e + n / 32) (V 31 e (n / 32) ||| ((1 : Int32) <<< (nI (n % 32) &&& 31)))) 152 118 e (if V 30 e 0 < nI n then nI n else V 30 e 0)) 124 98 0 1) (adV V e n) := RM_sm (nu30 (nu31 h2 he (b := n / 32) (by omega) rfl rfl _) he rfl rfl _) (by unfold Sm; omega)
          have i4 := Iv_ad h3 he n1 hc n2
          have v22 : adV V e n 22 e 0 = -1 := (uV_k _ _ _ _ _ (by omega)).trans ((uV_k _ _ _ _ _ (by omega)).trans op)
          have v26 : adV V e n 26 e 0 = V 26 e 0 := (uV_k _ _ _ _ _ (by omega)).trans (uV_k _ _ _ _ _ (by omega))
          have v30 : 0 ≤ adV V e n 30 e 0 := by
            have : adV V e n 30 e 0 = if V 30 e 0 < nI n then nI n else V 30 e 0 := uV_s _ _ _ _ _
            rw [this]
            split
            · exact c1.1
            · rename_i y
              exact Int32.le_trans c1.1 (Int32.not_lt.mp y)
          have CU : Cu (ab_uI (ab_uI (ab_uI mm 161 127 (320 * e + n / 32) (V 31 e (n / 32) ||| ((1 : Int32) <<< (nI (n % 32) &&& 31)))) 152 118 e (if V 30 e 0 < nI n then nI n else V 30 e 0)) 124 98 0 1) B 1 (z - 2) := by
            refine ⟨(uI_s _ _ _ _ _).trans rfl, ?_, fun j hj hs => ?_⟩
            · rw [uI_r _ _ _ _ _ _ _ _ (by omega), uI_r _ _ _ _ _ _ _ _ (by omega), uI_r _ _ _ _ _ _ _ _ (by omega), h123, show z - 2 + 2 = z by omega]
            · rw [uI_r _ _ _ _ _ _ _ _ (by omega), uI_r _ _ _ _ _ _ _ _ (by omega), uI_r _ _ _ _ _ _ _ _ (by omega)]
              exact h167 j (by omega)
          obtain ⟨m', mm', V', r1, r2, r3, r4, r5, r6, r7⟩ := rcv_loop (c := c + 1) (e := e) (E := E) (R := E + 3) (q := q) (s := z - 2) (N := 0) (B := B) (w := w) (W := W) (x0 := V 26 e 0) he hE rfl (by omega) hB ie.2.2.2.2.2.1 (by omega) (z - 2) 1 0 49999 g 0 (adV V e n) m2 _ (by omega) (by omega) (by omega) (by omega) (by omega) (.inl rfl) b2 b3 (by rw [← v26, uV_self]; exact R2) CU i4 v22 v30 (by rw [if_pos rfl, v26])
          refine ⟨0, m', mm', V', ?_, ?_, r3, r4, r5, FM_tr (FM_tr (FS_FM a3 (fun r hr => by omega)) b4) r6, FC_tr (FC_tr (FC_tr (FC_uI (by omega)) (FC_uI (by omega))) (FC_uI (by omega))) r7⟩
          · rw [C0]
            exact congrArg ab_rI r1
          · rw [M2]
            exact congrArg ab_rI r2
        · rw [if_neg s1, rI_some] at C0
          refine same 1 C0 ?_
          rw [M0]
          by_cases s2 : B (z - 2) = sl (hs B (40504 - nI e) (z - 2)) n / 256
          · rw [if_pos s2, if_neg (fun y => s1 ⟨s2, y⟩), rI_some]
          · rw [if_neg s2, rI_some]
    · have sf := s_noNumber (q := q) (z := z) (x := nI h) (B := B) (m := m) h11 hz hz4 (h13 0 (by omega)) (by omega) (hB 0)
      rw [sf] at C0
      have b2 := hB 0
      rw [if_neg (show ¬ nI (B 0) ≤ 15 by clear C0 M0 same h1 h2 h3 ie h13 h167 sf; grind [nI_T]), rI_some] at M0
      simp only [ob_s, lt_eq, s_canHold, ib_if] at C0
      rw [if_neg (by decide), rI_some] at C0
      exact same 1 C0 M0
  · rw [if_neg op, rI_some] at C0
    rw [if_neg (show ¬ V 22 e 0 < 0 by have := ie.2.1; clear C0 M0 same h1 h2 h3 ie h13 h167; grind), rI_some] at M0
    exact same 2 C0 M0
end
