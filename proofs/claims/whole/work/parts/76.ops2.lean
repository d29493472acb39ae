section
/-! What calls only look at: packet, about, stream. -/
theorem Sa_of {V : Vt} {e n : Nat} (he : e < 2) (hn : n < 512) (hx : nI n < V 21 e 0) : Sa V (560 * e + n) := by
  unfold Sa
  rw [show (560 * e + n) % 560 = n by omega, show (560 * e + n) / 560 = e by omega]
  exact ⟨by omega, hn, hx⟩
theorem cW {m : Mm} {V : Vt} {w W : Nat → Nat} (h : RC m V w W) {e n p : Nat} (he : e < 2) (hn : n < 512) (hx : nI n < V 21 e 0) (hp : p = 11 + 30 * e) : m.2.2.1 39 p n = some (W (560 * e + n)) := by
  have := (h.2.2.2.1 _ (Sa_of he hn hx)).1
  rw [show (560 * e + n) % 560 = n by omega, show (560 * e + n) / 560 = e by omega] at this
  rw [hp]
  exact this
theorem s_isOnWay {m : Mm} {V : Vt} {w W : Nat → Nat} (h : RC m V w W) {e n E : Nat} (he : e < 2) (hn : n < 512) (hx : nI n < V 21 e 0) (hE : E = 6 + 30 * e) : r_End_isOnWay E (nI n) m = some (ib (V 68 (560 * e + n) 0 = 1), m) := by
  have g := (h.2.2.2.1 _ (Sa_of he hn hx)).2 68 0 (by unfold TS; omega)
  rw [show W (560 * e + n) + ofk 68 = W (560 * e + n) from rfl] at g
  rw [r_End_isOnWay_eq, b_End_isOnWay_0_eq, c21 h he hE, if_neg (by (try clear ih); grind [nI_T]), if_neg (by (try clear ih); grind [nI_T]), if_neg (by (try clear ih); grind [nI_T]), ab_ix_nI hn (by decide)]
  simp only [cW h he hn hx (p := E + 5) (by omega), oe_s, g, ib, bo_0, bo_1, ob_s, lt_eq, rI_ite, rI_some, rV_ite, rV_some, ib_if]
  grind
theorem s_isTimed {m : Mm} {V : Vt} {w W : Nat → Nat} (h : RC m V w W) {e n E : Nat} (he : e < 2) (hn : n < 512) (hx : nI n < V 21 e 0) (hE : E = 6 + 30 * e) : r_End_isTimed E (nI n) m = some (ib (V 68 (560 * e + n) 0 = 1 ∧ V 69 (560 * e + n) 0 ≠ 0), m) := by
  have g := (h.2.2.2.1 _ (Sa_of he hn hx)).2 69 0 (by unfold TS; omega)
  rw [show W (560 * e + n) + ofk 69 = W (560 * e + n) from rfl] at g
  rw [r_End_isTimed_eq, b_End_isTimed_0_eq, s_isOnWay h he hn hx hE, ab_ix_nI hn (by decide)]
  simp only [cW h he hn hx (p := E + 5) (by omega), g, ib, bo_0, bo_1, ob_s, lt_eq, rI_ite, rI_some, rV_ite, rV_some, ib_if]
  grind
/-- how many packets are timed -/
def ctw (V : Vt) (e : Nat) : Nat → Nat
  | 0 => 0
  | n + 1 => ctw V e n + if V 68 (560 * e + n) 0 = 1 ∧ V 69 (560 * e + n) 0 ≠ 0 then 1 else 0
theorem cow_loop {m : Mm} {V : Vt} {w W : Nat → Nat} (h : RC m V w W) {e E N : Nat} (he : e < 2) (hE : E = 6 + 30 * e) (hN : V 21 e 0 = nI N) (h5 : N ≤ 512) : ∀ (k i f : Nat), i + k = N → 2 * k < f → b_End_countOnWay_4 f E (nI (ctw V e i)) (nI i) m = some (.inl (some (.inl (nI (ctw V e N))), m)) := by
  intro k
  induction k with
  | zero =>
    intro i f hi hf
    obtain ⟨f, rfl⟩ : ∃ g, f = g + 1 := ⟨f - 1, by omega⟩
    obtain rfl : i = N := by omega
    rw [b_End_countOnWay_4_eq, c21 h he hE, hN, if_pos (by (try clear ih); grind [nI_T])]
  | succ k ih =>
    intro i f hi hf
    obtain ⟨f, rfl⟩ : ∃ g, f = g + 2 := ⟨f - 2, by omega⟩
    rw [b_End_countOnWay_4_eq, c21 h he hE, hN, if_neg (by (try clear ih); grind [nI_T]), s_isTimed h he (by omega) (by rw [hN]; grind [nI_T]) hE]
    have e1 := ih (i + 1) f (by omega) (by omega)
    rw [← nI_1, ctw] at e1
    simp only [bo_0, bo_1, ob_s, lt_eq, rI_ite, rI_some, rV_ite, rV_some, ib_if]
    split
    · rename_i hc
      rw [if_pos hc, ← nI_1] at e1
      rw [b_End_countOnWay_23_eq]
      simp only [ob_s, lt_eq]
      exact e1
    · rename_i hc
      rw [if_neg hc] at e1
      rw [b_End_countOnWay_23_eq]
      simp only [ob_s, lt_eq]
      exact e1
theorem s_countOnWay {m : Mm} {V : Vt} {w W : Nat → Nat} (h : RC m V w W) {e E N : Nat} (he : e < 2) (hE : E = 6 + 30 * e) (hN : V 21 e 0 = nI N) (h5 : N ≤ 512) : r_End_countOnWay E m = some (nI (ctw V e N), m) := by
  rw [r_End_countOnWay_eq, b_End_countOnWay_0_eq]
  exact congrArg ab_rI (cow_loop h he hE hN h5 N 0 49999 (by omega) (by omega))
theorem nI_560 (e s : Nat) : (560 : Int32) * nI e + nI s = nI (560 * e + s) := by
  unfold nI
  rw [← show Int32.ofNat 560 = 560 from rfl, ← Int32.ofNat_mul, ← Int32.ofNat_add]
theorem nI_42 (e s : Nat) : (42 : Int32) * nI e + nI s = nI (42 * e + s) := by
  unfold nI
  rw [← show Int32.ofNat 42 = 42 from rfl, ← Int32.ofNat_mul, ← Int32.ofNat_add]
theorem fs_0 {x : Int32} : fs x = 0 ↔ x = 1 := by
  unfold fs
  grind
theorem mab_loop {m : Mm} {V : Vt} (h : RM m V) (hs : ∀ a, Sa V a → IS V a) {e N : Nat} (he : e < 2) (hN : V 21 e 0 = nI N) (h5 : N ≤ 512) : ∀ (k i f : Nat), i + k = N → 3 * k < f → b_M_about_93 f 98 (nI e) (nI (ctw V e i)) (nI (560 * e + i)) m = some (.inl (some (.inl (nI (ctw V e N))), m)) := by
  intro k
  induction k with
  | zero =>
    intro i f hi hf
    obtain ⟨f, rfl⟩ : ∃ g, f = g + 1 := ⟨f - 1, by omega⟩
    obtain rfl : i = N := by omega
    rw [b_M_about_93_eq, ab_ix_nI he (by decide)]
    simp only [ob_s, lt_eq]
    rw [n21 h he (p := 98 + 19) rfl rfl, hN, nI_560, if_pos (by (try clear ih); grind [nI_T])]
  | succ k ih =>
    intro i f hi hf
    obtain ⟨f, rfl⟩ : ∃ g, f = g + 3 := ⟨f - 3, by omega⟩
    have sa : Sa V (560 * e + i) := Sa_of he (by omega) (by rw [hN]; grind [nI_T])
    have g := h.2.2.2.2 _ sa
    have q := hs _ sa
    unfold IS at q
    have e1 := fun f' (hf' : 3 * k < f') => ih (i + 1) f' (by omega) hf'
    simp only [show 560 * e + (i + 1) = 560 * e + i + 1 by omega, ← nI_1 (560 * e + i), ctw] at e1
    rw [b_M_about_93_eq, ab_ix_nI he (by decide)]
    simp only [ob_s, lt_eq]
    rw [n21 h he (p := 98 + 19) rfl rfl, hN, nI_560, if_neg (by (try clear ih); grind [nI_T]), ab_ix_nI (by omega) (by decide)]
    simp only [ob_s, lt_eq]
    rw [show (98 : Nat) + 30 = 128 from rfl, show (98 : Nat) + 31 = 129 from rfl, g.1, g.2.1]
    by_cases hc : V 68 (560 * e + i) 0 = 1 ∧ V 69 (560 * e + i) 0 ≠ 0
    · simp only [if_pos hc, ← nI_1 (ctw V e i)] at e1
      rw [if_pos (fs_0.mpr hc.1), if_pos (by clear ih e1; grind), b_M_about_138_eq]
      simp only [ob_s, lt_eq]
      exact e1 (f + 1) (by omega)
    · simp only [if_neg hc] at e1
      by_cases h68 : fs (V 68 (560 * e + i) 0) = 0
      · have := fs_0.mp h68
        rw [if_pos h68, if_neg (by clear ih e1; grind), b_M_about_137_eq, b_M_about_138_eq]
        simp only [ob_s, lt_eq]
        exact e1 f (by omega)
      · rw [if_neg h68, b_M_about_137_eq, b_M_about_138_eq]
        simp only [ob_s, lt_eq]
        exact e1 f (by omega)
theorem J_about {c : Nat} {m : Mm} (h : St c m) (hc : c < 512) (v u : Int32) : Jn c (r_X_about 0 v u m) (r_M_about 98 v u) := by
  obtain ⟨V, w, W, h1, h2, h3⟩ := id h
  have h2' : RM (ab_uI m 84 98 0 0) V := RM_sm h2 (by unfold Sm; omega)
  by_cases hv : 0 ≤ v ∧ v < 2
  · obtain ⟨e, he, rfl⟩ := i_of (N := 2) hv.1 hv.2 (by decide)
    have ie := h3.2.2.1 e he
    obtain ⟨N, h5, hN⟩ := i_ofc (N := c) ie.1.1 ie.1.2 (by omega)
    have x : r_X_about 0 (nI e) u m = some (if u = 0 then V 21 e 0 else if u = 1 then nI (ctw V e N) else if u = 2 then V 55 e 0 else if u = 3 then V 43 e 0 else if u = 4 then V 30 e 0 else if u = 5 then V 23 e 0 else -1, m) := by
      rw [r_X_about_eq, b_X_about_0_eq, s_isEnd]
      simp only [if_pos hv, ab_ix_nI he (show 2 < 2 ^ 31 by decide), s_countOnWay h1 he (E := 0 + 1 + 5 + 30 * e) (by omega) hN (by omega), c21 h1 he (p := 0 + 1 + 5 + 30 * e) (by omega), c55 h1 he (p := 0 + 1 + 5 + 30 * e + 16) (by omega), c43 h1 he (p := 0 + 1 + 5 + 30 * e + 6) (by omega), c30 h1 he (p := 0 + 1 + 5 + 30 * e + 1) (by omega), c23 h1 he (p := 0 + 1 + 5 + 30 * e) (by omega), bo_0, bo_1, ob_s, lt_eq, rI_ite, rI_some, rV_ite, rV_some, ib_if]
      grind
    refine ⟨_, x, ?_⟩
    have y : r_M_about 98 (nI e) u m = some (if u = 0 then V 21 e 0 else if u = 1 then nI (ctw V e N) else if u = 2 then V 55 e 0 else if u = 3 then V 43 e 0 else if u = 4 then V 30 e 0 else if u = 5 then V 23 e 0 else -1, ab_uI m 84 98 0 0) := by
      rw [r_M_about_eq, b_M_about_0_eq]
      have l := mab_loop h2' h3.2.2.2.2.2 he hN (by omega) N 0 49999 (by omega) (by omega)
      rw [show nI (ctw V e 0) = 0 from rfl, show nI (560 * e + 0) = (560 : Int32) * nI e by rw [← nI_560]; simp [nI]] at l
      simp only [t_in, if_pos (show (0 : Int32) ≤ nI e ∧ nI e ≤ 1 by grind [nI_T]), ab_ix_nI he (show 2 < 2 ^ 31 by decide), l, n21 h2' he (p := 98 + 19) rfl rfl, n55 h2' he (p := 98 + 17) rfl rfl, n43 h2' he (p := 98 + 18) rfl rfl, n30 h2' he (p := 98 + 20) rfl rfl, n23 h2' he (p := 98 + 24) rfl rfl, bo_0, bo_1, ob_s, lt_eq, rI_ite, rI_some, rV_ite, rV_some, ib_if]
      grind
    exact ⟨_, y, rfl, St_more (St_84 h) (by omega) (by omega)⟩
  · refine ⟨(-1, m), ?_, (-1, ab_uI m 84 98 0 0), ?_, rfl, St_more (St_84 h) (by omega) (by omega)⟩
    · rw [r_X_about_eq, b_X_about_0_eq, s_isEnd]
      simp only [if_neg hv, bo_0, bo_1, ob_s, lt_eq, rI_ite, rI_some, rV_ite, rV_some, ib_if]
    · rw [r_M_about_eq, b_M_about_0_eq]
      simp only [t_in, if_neg (show ¬ ((0 : Int32) ≤ v ∧ v ≤ 1) by grind), bo_0, bo_1, ob_s, lt_eq, rI_ite, rI_some, rV_ite, rV_some, ib_if]
theorem mrd_loop {m : Mm} {V : Vt} (h : RM m V) {a t : Nat} (ha : a < 8) (hb : ∀ b, b < 64 → -1 ≤ V 53 a b) (ht : V 47 a 0 = nI t) (hg : V 51 a 0 = 0) : ∀ (k i f : Nat), i + k = 64 → t ≤ i → k + 1 < f → b_M_readable_7 f 98 (nI a) (nI i) m = some (.inl (some (.inl (nI (i - t + rd (fun j => V 53 a j) k i))), m)) := by
  intro k
  induction k with
  | zero =>
    intro i f hi hti hf
    obtain ⟨f, rfl⟩ : ∃ g, f = g + 2 := ⟨f - 2, by omega⟩
    obtain rfl : i = 64 := by omega
    rw [b_M_readable_7_eq, if_pos (show (64 : Int32) ≤ nI 64 by decide), b_M_readable_42_eq, ab_ix_nI ha (by decide)]
    simp only [ob_s, lt_eq]
    rw [n47 h ha (p := 98 + 13) rfl rfl, ht, show nI 64 - nI t = nI (64 - t + rd (fun j => V 53 a j) 0 64) by unfold rd; grind [nI_T]]
  | succ k ih =>
    intro i f hi hti hf
    obtain ⟨f, rfl⟩ : ∃ g, f = g + 2 := ⟨f - 2, by omega⟩
    have e1 := ih (i + 1) (f + 1) (by omega) (by omega) (by omega)
    rw [b_M_readable_7_eq, if_neg (by (try clear ih); grind [nI_T]), ab_ix_nI ha (by decide)]
    simp only [ob_s, lt_eq]
    rw [n51 h ha (p := 98 + 15) rfl rfl, if_pos hg, nI_64, ab_ix_nI (by omega) (by decide)]
    simp only [ob_s, lt_eq]
    rw [n53 h ha (b := i) (by omega) (p := 98 + 10) rfl rfl, rd]
    have := hb i (by omega)
    by_cases hx : V 53 a i = -1
    · rw [if_pos (by rw [hx]; decide), if_pos hx, b_M_readable_42_eq, ab_ix_nI ha (by decide)]
      simp only [ob_s, lt_eq]
      rw [n47 h ha (p := 98 + 13) rfl rfl, ht, show nI i - nI t = nI (i - t + 0) by grind [nI_T]]
    · rw [if_neg (by grind), if_neg hx, nI_1, e1, show i + 1 - t + rd (fun j => V 53 a j) k (i + 1) = i - t + (rd (fun j => V 53 a j) k (i + 1) + 1) by omega]
theorem t_readable {m : Mm} {V : Vt} (h : RM m V) {a t : Nat} (ha : a < 8) (hb : ∀ b, b < 64 → -1 ≤ V 53 a b) (ht : V 47 a 0 = nI t) (h64 : t ≤ 64) : r_M_readable 98 (nI a) m = some (if V 51 a 0 = 0 then nI (rd (fun j => V 53 a j) (64 - t) t) else 0, m) := by
  rw [r_M_readable_eq, b_M_readable_0_eq, ab_ix_nI ha (by decide)]
  simp only [ob_s, lt_eq]
  rw [n47 h ha (p := 98 + 13) rfl rfl, ht]
  split
  · rename_i hg
    have e := mrd_loop h ha hb ht hg (64 - t) t 49999 (by omega) (by omega) (by omega)
    rw [Nat.sub_self, Nat.zero_add] at e
    exact congrArg ab_rI e
  · rename_i hg
    rw [b_M_readable_7_eq, ab_ix_nI ha (by decide)]
    simp only [ob_s, lt_eq]
    rw [n51 h ha (p := 98 + 15) rfl rfl, if_neg hg, b_M_readable_42_eq, ab_ix_nI ha (by decide)]
    simp only [ob_s, lt_eq]
    rw [n47 h ha (p := 98 + 13) rfl rfl, ht, show nI t - nI t = 0 by grind]
    split <;> rfl
theorem mst_loop {m : Mm} {V : Vt} (h : RM m V) {a N : Nat} {u : Int32} (ha : a < 8) (hN : V 59 a 0 = nI N) (h5 : N ≤ 64) : ∀ (k i f : Nat), i + k = N → 2 * k + 3 < f → b_M_stream_130 f 98 u (nI a) (nI (cn 3 (fun j => V 67 a j) i)) (nI i) m = some (.inl (some (.inl (if u = 2 then nI (cn 3 (fun j => V 67 a j) N) else ib ((V 62 a 0 ≠ 0 ∧ nI (cn 3 (fun j => V 67 a j) N) = nI N ∧ V 64 a 0 = 3) ∨ V 65 a 0 = 3))), m)) := by
  intro k
  induction k with
  | zero =>
    intro i f hi hf
    obtain ⟨f, rfl⟩ : ∃ g, f = g + 4 := ⟨f - 4, by omega⟩
    obtain rfl : i = N := by omega
    rw [b_M_stream_130_eq, ab_ix_nI ha (by decide)]
    simp only [ob_s, lt_eq]
    rw [n59 h ha (p := 98 + 3) rfl rfl, n62 h ha (p := 98 + 8) rfl rfl, n64 h ha (p := 98 + 5) rfl rfl, hN, if_pos (by (try clear ih); grind [nI_T])]
    have q : ∀ u0, b_M_stream_214 (f + 1 + 1) 98 u (nI a) (nI (cn 3 (fun j => V 67 a j) i)) u0 m = some (.inl (some (.inl (if u = 2 then nI (cn 3 (fun j => V 67 a j) i) else if u0 = 0 then ib (V 65 a 0 = 3) else 1)), m)) := by
      intro u0
      rw [b_M_stream_214_eq, ab_ix_nI ha (by decide)]
      simp only [b_M_stream_242_eq, n65 h ha (p := 98 + 6) rfl rfl, ib, bo_0, bo_1, ob_s, lt_eq, rI_ite, rI_some, rV_ite, rV_some, ib_if]
      grind
    have q' : ∀ u0, b_M_stream_214 (f + 1 + 1 + 1) 98 u (nI a) (nI (cn 3 (fun j => V 67 a j) i)) u0 m = some (.inl (some (.inl (if u = 2 then nI (cn 3 (fun j => V 67 a j) i) else if u0 = 0 then ib (V 65 a 0 = 3) else 1)), m)) := by
      intro u0
      rw [b_M_stream_214_eq, ab_ix_nI ha (by decide)]
      simp only [b_M_stream_242_eq, n65 h ha (p := 98 + 6) rfl rfl, ib, bo_0, bo_1, ob_s, lt_eq, rI_ite, rI_some, rV_ite, rV_some, ib_if]
      grind
    rw [b_M_stream_213_eq, q, q']
    unfold ib
    grind
  | succ k ih =>
    intro i f hi hf
    obtain ⟨f, rfl⟩ : ∃ g, f = g + 2 := ⟨f - 2, by omega⟩
    have e1 := ih (i + 1) f (by omega) (by omega)
    rw [b_M_stream_130_eq, ab_ix_nI ha (by decide)]
    simp only [ob_s, lt_eq]
    rw [n59 h ha (p := 98 + 3) rfl rfl, hN, if_neg (by (try clear ih); grind [nI_T]), nI_64, ab_ix_nI (by omega) (by decide)]
    simp only [ob_s, lt_eq]
    rw [n67 h ha (b := i) (by omega) (p := 98 + 2) rfl rfl]
    rw [← nI_1, cn] at e1
    split
    · rename_i hc
      rw [if_pos hc, ← nI_1] at e1
      rw [b_M_stream_168_eq]
      simp only [ob_s, lt_eq]
      exact e1
    · rename_i hc
      rw [if_neg hc] at e1
      rw [b_M_stream_168_eq]
      simp only [ob_s, lt_eq]
      exact e1
theorem J_stream {c : Nat} {m : Mm} (h : St c m) (hc : c < 512) (v u t : Int32) : Jn c (r_X_stream 0 v u t m) (r_M_stream 98 v u t) := by
  obtain ⟨V, w, W, h1, h2, h3⟩ := id h
  have h2' : RM (ab_uI m 84 98 0 0) V := RM_sm h2 (by unfold Sm; omega)
  by_cases hv : (0 ≤ v ∧ v < 2) ∧ 0 ≤ u ∧ u < 4
  · obtain ⟨e, s, he, hs, rfl, rfl⟩ := okS hv
    have ha : 4 * e + s < 8 := by omega
    have io := h3.1 _ ha
    have ii := h3.2.1 _ ha
    unfold IO at io
    unfold IN at ii
    obtain ⟨N, h5, hN⟩ := i_ofc (x := V 59 (4 * e + s) 0) (N := 64) (Int32.le_trans io.1.1 io.1.2.1) io.1.2.2 (by decide)
    obtain ⟨T, hT5, hT⟩ := i_ofc (x := V 47 (4 * e + s) 0) (N := 64) ii.1.1 ii.1.2 (by decide)
    have p1 : (0 + 1 + 5 + 30 * e + 16 + 1 + 1 + 3 * s) = 24 + 30 * e + 3 * s := by omega
    have p2 : (0 + 1 + 5 + 30 * e + 6 + 1 + 1 + 2 * s) = 14 + 30 * e + 2 * s := by omega
    have cA : cn 3 (fun j => m.1 67 (24 + 30 * e + 3 * s + 2) j) N = cn 3 (fun j => V 67 (4 * e + s) j) N := cn_ext (fun j hj => c67 h1 he hs (b := j) (by omega) (by omega))
    have cR : rd (fun j => m.1 53 (14 + 30 * e + 2 * s + 1) j) (64 - T) T = rd (fun j => V 53 (4 * e + s) j) (64 - T) T := by
      refine rd_ext (fun j hj => c53 h1 he hs (b := j) (by omega) (by omega))
    have x : r_X_stream 0 (nI e) (nI s) t m = some (if t = 0 then V 59 (4 * e + s) 0 else if t = 1 then V 60 (4 * e + s) 0 else if t = 2 then nI (cn 3 (fun j => V 67 (4 * e + s) j) N) else if t = 3 then V 61 (4 * e + s) 0 else if t = 4 then ib (V 65 (4 * e + s) 0 = 3 ∨ (V 64 (4 * e + s) 0 = 3 ∧ nI (cn 3 (fun j => V 67 (4 * e + s) j) N) = nI N)) else if t = 5 then V 47 (4 * e + s) 0 else if t = 6 then (if V 51 (4 * e + s) 0 = 0 then nI (rd (fun j => V 53 (4 * e + s) j) (64 - T) T) else 0) else if t = 7 then V 49 (4 * e + s) 0 else if t = 8 then V 50 (4 * e + s) 0 else -1, m) := by
      rw [r_X_stream_eq, b_X_stream_0_eq, s_isStream]
      have w1 := c59 h1 he hs (p := 24 + 30 * e + 3 * s) (by omega)
      have w2 := c47 h1 he hs (p := 14 + 30 * e + 2 * s) (by omega)
      rw [hN] at w1
      rw [hT] at w2
      simp only [if_pos hv, ab_ix_nI he (show 2 < 2 ^ 31 by decide), ab_ix_nI hs (show 4 < 2 ^ 31 by decide), p1, p2, s_countAcked w1 h5, s_isDone w1 h5, s_ready w2 hT5, cA, cR, w1, w2, c60 h1 he hs (p := 24 + 30 * e + 3 * s) (by omega), c61 h1 he hs (p := 24 + 30 * e + 3 * s) (by omega), c64 h1 he hs (p := 24 + 30 * e + 3 * s) (by omega), c65 h1 he hs (p := 24 + 30 * e + 3 * s) (by omega), c49 h1 he hs (p := 14 + 30 * e + 2 * s) (by omega), c50 h1 he hs (p := 14 + 30 * e + 2 * s) (by omega), c51 h1 he hs (p := 14 + 30 * e + 2 * s) (by omega), hN, hT, ib, bo_0, bo_1, ob_s, lt_eq, rI_ite, rI_some, rV_ite, rV_some, ib_if]
      clear io ii h h1 h2 h3 h2' cA cR w1 w2
      grind (splits := 30)
    refine ⟨_, x, ?_⟩
    have y : r_M_stream 98 (nI e) (nI s) t m = some (if t = 0 then V 59 (4 * e + s) 0 else if t = 1 then V 60 (4 * e + s) 0 else if t = 2 then nI (cn 3 (fun j => V 67 (4 * e + s) j) N) else if t = 3 then V 61 (4 * e + s) 0 else if t = 4 then ib (V 65 (4 * e + s) 0 = 3 ∨ (V 64 (4 * e + s) 0 = 3 ∧ nI (cn 3 (fun j => V 67 (4 * e + s) j) N) = nI N)) else if t = 5 then V 47 (4 * e + s) 0 else if t = 6 then (if V 51 (4 * e + s) 0 = 0 then nI (rd (fun j => V 53 (4 * e + s) j) (64 - T) T) else 0) else if t = 7 then V 49 (4 * e + s) 0 else if t = 8 then V 50 (4 * e + s) 0 else -1, ab_uI m 84 98 0 0) := by
      rw [r_M_stream_eq, b_M_stream_0_eq]
      have l := mst_loop h2' (u := t) ha hN h5 N 0 49999 (by omega) (by omega)
      rw [show nI (cn 3 (fun j => V 67 (4 * e + s) j) 0) = 0 from rfl, show nI 0 = 0 from rfl] at l
      have r := t_readable h2' ha (fun b hb => (ii.2.2.2.2.1 b hb).1) hT hT5
      simp only [t_isStream, if_pos hv, t_in, nI_4, ab_ix_nI ha (show 8 < 2 ^ 31 by decide), l, r, n59 h2' ha (p := 98 + 3) rfl rfl, n60 h2' ha (p := 98 + 4) rfl rfl, n61 h2' ha (p := 98 + 7) rfl rfl, n47 h2' ha (p := 98 + 13) rfl rfl, n49 h2' ha (p := 98 + 12) rfl rfl, n50 h2' ha (p := 98 + 14) rfl rfl, ib, bo_0, bo_1, ob_s, lt_eq, rI_ite, rI_some, rV_ite, rV_some, ib_if]
      have i2 := io.2.1
      clear io ii h h1 h2 h3 h2' cA cR l r x
      grind (splits := 30)
    exact ⟨_, y, rfl, St_more (St_84 h) (by omega) (by omega)⟩
  · refine ⟨(-1, m), ?_, (-1, ab_uI m 84 98 0 0), ?_, rfl, St_more (St_84 h) (by omega) (by omega)⟩
    · rw [r_X_stream_eq, b_X_stream_0_eq, s_isStream]
      simp only [if_neg hv, bo_0, bo_1, ob_s, lt_eq, rI_ite, rI_some, rV_ite, rV_some, ib_if]
    · rw [r_M_stream_eq, b_M_stream_0_eq]
      simp only [t_isStream, if_neg hv, bo_0, bo_1, ob_s, lt_eq, rI_ite, rI_some, rV_ite, rV_some, ib_if]
end
