section
/-! A packet is lost, or acked: the class. -/
def nn (x : Int32) : Nat := x.toNatClampNeg
theorem nn_nI {k : Nat} (h : k < 2 ^ 31) : nn (nI k) = k := nI_clamp h
theorem nI_nn {x : Int32} (h : 0 ≤ x) : nI (nn x) = x := by
  obtain ⟨k, hk, rfl⟩ := i_ofp h
  rw [nn_nI hk]
theorem nn_le {x : Int32} {N : Nat} (h : 0 ≤ x) (h1 : x ≤ nI N) (hN : N < 2 ^ 31) : nn x ≤ N := by
  obtain ⟨k, hk, rfl⟩ := i_ofc h h1 hN
  rw [nn_nI (by omega)]
  exact hk
theorem RC_sent {m : Mm} {V : Vt} {w W : Nat → Nat} (h : RC m V w W) {k a b p : Nat} {x : Int32} (sa : Sa V a) (t : TS k b) (hp : p = W a + ofk k) : RC (ab_uI m k p b x) (uV V k a b x) w W := by
  subst hp
  obtain ⟨h1, h2, h3, h4, h5, h6, h7⟩ := h
  have tk : 68 ≤ k := by unfold TS at t; omega
  refine ⟨fun k' a' b' t' => ?_, h2, fun a' ha hl => ?_, fun a' ha => ?_, fun e he => ?_, h6, Wok_uV (by omega) h7⟩
  · have := Ts_k t'
    rw [uI_r _ _ _ _ _ _ _ _ (by omega), uV_k _ _ _ _ _ (by omega)]; exact h1 k' a' b' t'
  · rw [uV_k _ _ _ _ _ (by omega)] at hl
    rw [uI_r _ _ _ _ _ _ _ _ (by omega), uI_r _ _ _ _ _ _ _ _ (by omega), uV_k _ _ _ _ _ (by omega), uV_k _ _ _ _ _ (by omega)]
    refine ⟨(h3 a' ha hl).1, (h3 a' ha hl).2.1, fun b' hb => ?_⟩
    rw [uI_r _ _ _ _ _ _ _ _ (by omega), uV_k _ _ _ _ _ (by omega)]
    exact (h3 a' ha hl).2.2 b' hb
  · have ha := (Sa_uV (by omega) a').mp ha
    refine ⟨(h4 a' ha).1, fun k' b' t' => ?_⟩
    rw [uI_1]
    unfold uV
    by_cases e : k' = k ∧ a' = a ∧ b' = b
    · obtain ⟨rfl, rfl, rfl⟩ := e
      rw [if_pos ⟨rfl, rfl, rfl⟩, if_pos ⟨rfl, rfl, rfl⟩]
    · rw [if_neg e, if_neg]
      · exact (h4 a' ha).2 k' b' t'
      · intro z
        refine e ⟨z.1, ?_, z.2.2⟩
        by_cases q : a' = a
        · exact q
        · have := h7.2 a' a ha sa q
          have z2 := z.2.1
          rw [z.1] at z2
          omega
  · rw [uI_r _ _ _ _ _ _ _ _ (by omega)]; exact h5 e he
theorem cS {m : Mm} {V : Vt} {w W : Nat → Nat} (h : RC m V w W) {k a b p : Nat} (sa : Sa V a) (t : TS k b) (hp : p = W a + ofk k) : m.1 k p b = V k a b := by
  rw [hp]
  exact (h.2.2.2.1 a sa).2 k b t
/-- the limits of a lost packet are due -/
def llV (V : Vt) (e : Nat) (A : Int32) (L : Nat → Int32) (i : Nat) : Vt := fun k a b => if k = 44 ∧ a = e ∧ b = 0 ∧ A = V 43 e 0 then 1 else if k = 52 ∧ a / 4 = e ∧ a % 4 < i ∧ b = 0 ∧ L (a % 4) = V 50 a 0 then 1 else V k a b
def s52 (r : Nat) : Prop := r = 44 ∨ r = 52
theorem s_loseLimits {V : Vt} {w W : Nat → Nat} {e I q : Nat} {m : Mm} {A : Int32} {L : Nat → Int32} (h : RC m V w W) (he : e < 2) (hI : I = 12 + 30 * e) (hA : m.1 70 q 0 = A) (hL : ∀ s, s < 4 → m.1 76 (q + 1) s = L s) :
    ∃ m', r_Int_loseLimits I q m = some m' ∧ RC m' (llV V e A L 4) w W ∧ FS s52 m m' := by
  have loop : ∀ (j i f : Nat) (m1 : Mm), i + j = 4 → 2 * j < f → RC m1 (llV V e A L i) w W → FS s52 m m1 → ∃ m', b_Int_loseLimits_18 f I q (nI i) m1 = some (.inl (none, m')) ∧ RC m' (llV V e A L 4) w W ∧ FS s52 m m' := by
    intro j
    induction j with
    | zero =>
      intro i f m1 hi hf' h1 h2
      obtain ⟨f, rfl⟩ : ∃ g, f = g + 1 := ⟨f - 1, by omega⟩
      obtain rfl : i = 4 := by omega
      rw [b_Int_loseLimits_18_eq, if_pos (show (4 : Int32) ≤ nI 4 by decide)]
      exact ⟨m1, rfl, h1, h2⟩
    | succ j ih =>
      intro i f m1 hi hf' h1 h2
      obtain ⟨f, rfl⟩ : ∃ g, f = g + 2 := ⟨f - 2, by omega⟩
      rw [b_Int_loseLimits_18_eq, if_neg (by (try clear ih); grind [nI_T]), ab_ix_nI (show i < 4 by omega) (by decide)]
      simp only [ob_s, lt_eq]
      have k76 : m1.1 76 (q + 1) i = L i := by rw [FS_g h2 _ _ _ (by unfold s52; omega)]; exact hL i (by omega)
      have k50 := c50 h1 he (show i < 4 by omega) (p := I + 1 + 1 + 2 * i) (by omega)
      have v50 : llV V e A L i 50 (4 * e + i) 0 = V 50 (4 * e + i) 0 := by unfold llV; rw [if_neg (by omega), if_neg (by omega)]
      rw [k76, k50, v50]
      have d1 : (4 * e + i) / 4 = e := by omega
      have d2 : (4 * e + i) % 4 = i := by omega
      by_cases z : L i = V 50 (4 * e + i) 0
      · rw [if_pos z, bo_1]
        simp only [ob_s, lt_eq]
        rw [b_Int_loseLimits_51_eq]
        simp only [ob_s, lt_eq]
        rw [nI_1]
        refine ih (i + 1) f _ (by omega) (by omega) ?_ (FS_tr h2 (FS_uI (by unfold s52; omega)))
        have ev : uV (llV V e A L i) 52 (4 * e + i) 0 1 = llV V e A L (i + 1) := by
          funext k a b
          unfold uV llV
          by_cases y : k = 52 ∧ a = 4 * e + i ∧ b = 0
          · obtain ⟨rfl, rfl, rfl⟩ := y
            rw [if_pos ⟨rfl, rfl, rfl⟩, if_neg (by omega), d1, d2, if_pos ⟨rfl, rfl, by omega, rfl, z⟩]
          · rw [if_neg y]
            by_cases y2 : k = 44 ∧ a = e ∧ b = 0 ∧ A = V 43 e 0
            · rw [if_pos y2, if_pos y2]
            · rw [if_neg y2, if_neg y2]
              by_cases y3 : k = 52 ∧ a / 4 = e ∧ a % 4 < i ∧ b = 0 ∧ L (a % 4) = V 50 a 0
              · rw [if_pos y3, if_pos ⟨y3.1, y3.2.1, by omega, y3.2.2.2⟩]
              · rw [if_neg y3, if_neg]
                intro y4
                by_cases y5 : a % 4 < i
                · exact y3 ⟨y4.1, y4.2.1, y5, y4.2.2.2⟩
                · exact y ⟨y4.1, by omega, y4.2.2.2.1⟩
        have := cu52 h1 he (show i < 4 by omega) (p := I + 1 + 1 + 2 * i) (by omega) 1
        rw [ev] at this
        exact this
      · rw [if_neg z, b_Int_loseLimits_51_eq]
        simp only [ob_s, lt_eq]
        rw [nI_1]
        refine ih (i + 1) f _ (by omega) (by omega) ?_ h2
        have ev : llV V e A L i = llV V e A L (i + 1) := by
          funext k a b
          unfold llV
          by_cases y2 : k = 44 ∧ a = e ∧ b = 0 ∧ A = V 43 e 0
          · rw [if_pos y2, if_pos y2]
          · rw [if_neg y2, if_neg y2]
            by_cases y3 : k = 52 ∧ a / 4 = e ∧ a % 4 < i ∧ b = 0 ∧ L (a % 4) = V 50 a 0
            · rw [if_pos y3, if_pos ⟨y3.1, y3.2.1, by omega, y3.2.2.2⟩]
            · rw [if_neg y3, if_neg]
              intro y4
              by_cases y5 : a % 4 < i
              · exact y3 ⟨y4.1, y4.2.1, y5, y4.2.2.2⟩
              · have y6 : a = 4 * e + i := by omega
                rw [y6, d2] at y4
                exact z y4.2.2.2.2
        rw [← ev]
        exact h1
  have k43 := c43 h he (p := I) hI
  have start : ∃ m1, RC m1 (llV V e A L 0) w W ∧ FS s52 m m1 ∧ b_Int_loseLimits_0 50000 I q m = b_Int_loseLimits_16 49999 I q m1 := by
    rw [b_Int_loseLimits_0_eq, hA, k43]
    by_cases z : A = V 43 e 0
    · rw [if_pos z, bo_1]
      simp only [ob_s, lt_eq]
      refine ⟨_, ?_, FS_uI (m := m) (k := 44) (p := I) (b := 0) (x := 1) (by unfold s52; omega), rfl⟩
      have ev : uV V 44 e 0 1 = llV V e A L 0 := by
        funext k a b
        unfold uV llV
        by_cases y : k = 44 ∧ a = e ∧ b = 0
        · rw [if_pos y, if_pos ⟨y.1, y.2.1, y.2.2, z⟩]
        · rw [if_neg y, if_neg (fun y2 => y ⟨y2.1, y2.2.1, y2.2.2.1⟩), if_neg (by omega)]
      rw [← ev]
      exact cu44 h he hI 1
    · rw [if_neg z]
      refine ⟨m, ?_, FS_rfl _ _, rfl⟩
      have ev : V = llV V e A L 0 := by
        funext k a b
        unfold llV
        rw [if_neg (fun y2 => z y2.2.2.2), if_neg (by omega)]
      rw [← ev]
      exact h
  obtain ⟨m1, s1, s2, s3⟩ := start
  obtain ⟨m', g1, g2, g3⟩ := loop 4 0 49998 m1 (by omega) (by omega) s1 s2
  refine ⟨m', ?_, g2, g3⟩
  rw [r_Int_loseLimits_eq, s3, b_Int_loseLimits_16_eq]
  exact congrArg ab_rV g1
/-- a packet is lost, as far as the first i streams -/
def lsV (V : Vt) (e p i : Nat) : Vt := fun k a b =>
  if k = 68 ∧ a = p ∧ b = 0 then 2 else if k = 44 ∧ a = e ∧ b = 0 ∧ V 70 p 0 = V 43 e 0 then 1
  else if a / 4 = e ∧ a % 4 < i then (if k = 52 ∧ b = 0 ∧ V 76 p (a % 4) = V 50 a 0 then 1 else mk1 V (nn (V 77 p (a % 4))) (nn (V 78 p (a % 4))) (V 79 p (a % 4)) (V 80 p (a % 4)) 2 k a b) else V k a b
def sLs (r : Nat) : Prop := r = 44 ∨ r = 52 ∨ r = 64 ∨ r = 65 ∨ r = 67 ∨ r = 68
theorem IS_77 {V : Vt} {p s : Nat} (h : IS V p) (hI : ∀ a, a < 8 → IO V a) (hp : p < 1120) (hs : s < 4) : nI (nn (V 77 p s)) = V 77 p s ∧ nI (nn (V 78 p s)) = V 78 p s ∧ nn (V 77 p s) + nn (V 78 p s) ≤ 64 ∧ nn (V 78 p s) ≤ 12 := by
  unfold IS at h
  have g := h.2.2.2 s hs
  have q := hI (4 * (p / 560) + s) (by omega)
  unfold IO at q
  obtain ⟨f, hf, ef⟩ := i_ofc (x := V 77 p s) (N := 64) g.1.1 g.1.2 (by decide)
  obtain ⟨c, hc, ec⟩ := i_ofc (x := V 78 p s) (N := 12) g.2.1.1 g.2.1.2 (by decide)
  have g3 := g.2.2.1
  have q1 := q.1.2.1
  have q2 := q.1.2.2
  rw [ef, ec] at g3
  rw [ef, ec, nn_nI (by omega), nn_nI (by omega)]
  refine ⟨rfl, rfl, ?_, hc⟩
  generalize V 60 (4 * (p / 560) + s) 0 = a at *
  generalize V 59 (4 * (p / 560) + s) 0 = b at *
  grind [nI_T]
theorem s_losePacket {V : Vt} {w W : Nat → Nat} {e n E : Nat} {m : Mm} (h : RC m V w W) (hI : ∀ a, a < 8 → IO V a) (he : e < 2) (hE : E = 6 + 30 * e) (sa : Sa V (560 * e + n)) (is : IS V (560 * e + n)) :
    ∃ m', r_End_losePacket E (W (560 * e + n)) m = some m' ∧ RC m' (lsV V e (560 * e + n) 4) w W ∧ FS sLs m m' := by
  generalize hp : 560 * e + n = p at *
  have h1 := RC_sent h (x := 2) sa (k := 68) (b := 0) (by unfold TS; omega) (p := W p) rfl
  have sa1 : Sa (uV V 68 p 0 2) p := (Sa_uV (by omega) p).mpr sa
  have i77 := fun s hs => IS_77 (s := s) is hI sa.1 hs
  obtain ⟨m2, e2, r2, f2⟩ := s_mark (x := 2) (o := E + 16) (q := W p) (F := fun s => nn (V 77 p s)) (C := fun s => nn (V 78 p s)) (D := fun s => V 79 p s) (R := fun s => V 80 p s) h1 he (by omega) (fun s hs => (i77 s hs).2.2.1) (fun s hs => by
    refine ⟨?_, ?_, ?_, ?_⟩
    · rw [cS h1 sa1 (k := 77) (b := s) (p := W p + 2) (by unfold TS; omega) rfl, uV_k _ _ _ _ _ (by omega), (i77 s hs).1]
    · rw [cS h1 sa1 (k := 78) (b := s) (p := W p + 3) (by unfold TS; omega) rfl, uV_k _ _ _ _ _ (by omega), (i77 s hs).2.1]
    · rw [cS h1 sa1 (k := 79) (b := s) (p := W p + 4) (by unfold TS; omega) rfl, uV_k _ _ _ _ _ (by omega)]
    · rw [cS h1 sa1 (k := 80) (b := s) (p := W p + 5) (by unfold TS; omega) rfl, uV_k _ _ _ _ _ (by omega)])
  obtain ⟨m3, e3, r3, f3⟩ := s_loseLimits (I := E + 6) (q := W p) (A := V 70 p 0) (L := fun s => V 76 p s) r2 he (by omega) (by
    rw [FS_g f2 _ _ _ (by unfold s67; omega), cS h1 sa1 (k := 70) (b := 0) (p := W p) (by unfold TS; omega) rfl, uV_k _ _ _ _ _ (by omega)]) (fun s hs => by
    rw [FS_g f2 _ _ _ (by unfold s67; omega), cS h1 sa1 (k := 76) (b := s) (p := W p + 1) (by unfold TS; omega) rfl, uV_k _ _ _ _ _ (by omega)])
  refine ⟨m3, ?_, ?_, FS_tr (FS_tr (FS_uI (by unfold sLs; omega)) (FS_le f2 (fun r hr => by unfold s67 at hr; unfold sLs; omega))) (FS_le f3 (fun r hr => by unfold s52 at hr; unfold sLs; omega))⟩
  · rw [r_End_losePacket_eq, b_End_losePacket_0_eq, lt_eq, e2]
    simp only [ob_s, lt_eq]
    rw [e3]
    rfl
  · have ev : llV (mkA (uV V 68 p 0 2) e (fun s => nn (V 77 p s)) (fun s => nn (V 78 p s)) (fun s => V 79 p s) (fun s => V 80 p s) 2 4) e (V 70 p 0) (fun s => V 76 p s) 4 = lsV V e p 4 := by
      funext k a b
      have u : ∀ k' a' b', k' ≠ 68 → uV V 68 p 0 2 k' a' b' = V k' a' b' := fun k' a' b' q => uV_k V 68 p 0 2 q
      have v43 : mkA (uV V 68 p 0 2) e (fun s => nn (V 77 p s)) (fun s => nn (V 78 p s)) (fun s => V 79 p s) (fun s => V 80 p s) 2 4 43 e 0 = V 43 e 0 := by
        unfold mkA mk1
        split <;> simp [u]
      have v50 : mkA (uV V 68 p 0 2) e (fun s => nn (V 77 p s)) (fun s => nn (V 78 p s)) (fun s => V 79 p s) (fun s => V 80 p s) 2 4 50 a 0 = V 50 a 0 := by
        unfold mkA mk1
        split <;> simp [u]
      unfold llV lsV
      rw [v43, v50]
      unfold mkA mk1
      rw [u 67 a b (by omega), u 64 a 0 (by omega), u 65 a 0 (by omega)]
      by_cases z : k = 68 ∧ a = p ∧ b = 0
      · obtain ⟨rfl, rfl, rfl⟩ := z
        simp [uV_s]
      · have uz : uV V 68 p 0 2 k a b = V k a b := if_neg z
        rw [uz, if_neg z]
        have : a % 4 < 4 := by omega
        grind
    rw [ev] at r3
    exact r3
/-- a packet is acked, as far as the first i streams -/
def akV (V : Vt) (e n p i : Nat) : Vt := fun k a b =>
  if k = 68 ∧ a = p ∧ b = 0 then 3 else if k = 24 ∧ a = e ∧ b = 0 then (if V 24 e 0 < nI n then nI n else V 24 e 0) else if k = 23 ∧ a = e ∧ b = 0 then 0
  else if a / 4 = e ∧ a % 4 < i then mk1 V (nn (V 77 p (a % 4))) (nn (V 78 p (a % 4))) (V 79 p (a % 4)) (V 80 p (a % 4)) 3 k a b else V k a b
end
