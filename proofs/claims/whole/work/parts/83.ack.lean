section
/-! Packets are acked, one by one. -/
theorem akV_hi {V : Vt} {e n p i k : Nat} (hk : 69 ≤ k) (a b : Nat) : akV V e n p i k a b = V k a b := by
  unfold akV mk1
  rw [if_neg (by omega), if_neg (by omega), if_neg (by omega)]
  split
  · rw [if_neg (by omega), if_neg (by omega), if_neg (by omega)]
  · rfl
def sAk (r : Nat) : Prop := r = 23 ∨ r = 24 ∨ r = 64 ∨ r = 65 ∨ r = 67 ∨ r = 68
/-- the class: a packet under way is acked -/
theorem s_ack1 {V : Vt} {w W : Nat → Nat} {e n E : Nat} {m : Mm} (h : RC m V w W) (hI : ∀ a, a < 8 → IO V a) (he : e < 2) (hE : E = 6 + 30 * e) (hn : n < 512) (hx : nI n < V 21 e 0) (is : IS V (560 * e + n)) :
    ∃ m2, r_Otf_mark (E + 16) (W (560 * e + n)) 3 (ab_uI m 68 (W (560 * e + n)) 0 3) = some m2 ∧ m2.1 24 E 0 = V 24 e 0 ∧ RC (ab_uI (ab_uI m2 24 E 0 (if V 24 e 0 < nI n then nI n else V 24 e 0)) 23 E 0 0) (akV V e n (560 * e + n) 4) w W ∧ FS sAk m (ab_uI (ab_uI m2 24 E 0 (if V 24 e 0 < nI n then nI n else V 24 e 0)) 23 E 0 0) := by
  have sa := Sa_of he hn hx
  generalize hp : 560 * e + n = p at *
  have h1 := RC_sent h (x := 3) sa (k := 68) (b := 0) (by unfold TS; omega) (p := W p) rfl
  have sa1 : Sa (uV V 68 p 0 3) p := (Sa_uV (by omega) p).mpr sa
  have i77 := fun s hs => IS_77 (s := s) is hI sa.1 hs
  obtain ⟨m2, e2, r2, f2⟩ := s_mark (x := 3) (o := E + 16) (q := W p) (F := fun s => nn (V 77 p s)) (C := fun s => nn (V 78 p s)) (D := fun s => V 79 p s) (R := fun s => V 80 p s) h1 he (by omega) (fun s hs => (i77 s hs).2.2.1) (fun s hs => by
    refine ⟨?_, ?_, ?_, ?_⟩
    · rw [cS h1 sa1 (k := 77) (b := s) (p := W p + 2) (by unfold TS; omega) rfl, uV_k _ _ _ _ _ (by omega), (i77 s hs).1]
    · rw [cS h1 sa1 (k := 78) (b := s) (p := W p + 3) (by unfold TS; omega) rfl, uV_k _ _ _ _ _ (by omega), (i77 s hs).2.1]
    · rw [cS h1 sa1 (k := 79) (b := s) (p := W p + 4) (by unfold TS; omega) rfl, uV_k _ _ _ _ _ (by omega)]
    · rw [cS h1 sa1 (k := 80) (b := s) (p := W p + 5) (by unfold TS; omega) rfl, uV_k _ _ _ _ _ (by omega)])
  refine ⟨m2, e2, ?_, ?_, ?_⟩
  · rw [FS_g f2 _ _ _ (by unfold s67; omega), uI_r _ _ _ _ _ _ _ _ (by omega)]
    exact c24 h he hE
  · have r3 := cu23 (cu24 r2 he hE (if V 24 e 0 < nI n then nI n else V 24 e 0)) he hE 0
    have ev : uV (uV (mkA (uV V 68 p 0 3) e (fun s => nn (V 77 p s)) (fun s => nn (V 78 p s)) (fun s => V 79 p s) (fun s => V 80 p s) 3 4) 24 e 0 (if V 24 e 0 < nI n then nI n else V 24 e 0)) 23 e 0 0 = akV V e n p 4 := by
      funext k a b
      have u : ∀ k' a' b', k' ≠ 68 → uV V 68 p 0 3 k' a' b' = V k' a' b' := fun k' a' b' q => uV_k V 68 p 0 3 q
      unfold akV
      by_cases z23 : k = 23 ∧ a = e ∧ b = 0
      · obtain ⟨rfl, rfl, rfl⟩ := z23
        rw [uV_s, if_neg (by omega), if_neg (by omega), if_pos ⟨rfl, rfl, rfl⟩]
      · have q1 : ∀ U : Vt, uV U 23 e 0 0 k a b = U k a b := fun U => if_neg z23
        rw [q1, if_neg z23]
        by_cases z24 : k = 24 ∧ a = e ∧ b = 0
        · obtain ⟨rfl, rfl, rfl⟩ := z24
          rw [uV_s, if_neg (show ¬ ((24 : Nat) = 68 ∧ a = p ∧ 0 = 0) by omega), if_pos (show (24 : Nat) = 24 ∧ a = a ∧ 0 = 0 from ⟨rfl, rfl, rfl⟩)]
        · have q2 : ∀ (U : Vt) x, uV U 24 e 0 x k a b = U k a b := fun U x => if_neg z24
          rw [q2, if_neg z24]
          unfold mkA mk1
          rw [u 67 a b (by omega), u 64 a 0 (by omega), u 65 a 0 (by omega)]
          by_cases z : k = 68 ∧ a = p ∧ b = 0
          · obtain ⟨rfl, rfl, rfl⟩ := z
            simp [uV_s]
          · have uz : uV V 68 p 0 3 k a b = V k a b := if_neg z
            rw [uz, if_neg z]
    rw [ev] at r3
    exact r3
  · exact FS_tr (FS_tr (FS_tr (FS_uI (by unfold sAk; omega)) (FS_le f2 (fun r hr => by unfold s67 at hr; unfold sAk; omega))) (FS_uI (by unfold sAk; omega))) (FS_uI (by unfold sAk; omega))
theorem akV_step {V : Vt} {e n p i f c : Nat} {d r : Int32} (hi : i < 4) (he : e < 2) (hf : V 77 p i = nI f) (hc : V 78 p i = nI c) (hfc : f + c ≤ 64) (hd : V 79 p i = d) (hr : V 80 p i = r) :
    (fun k a b => if a = 4 * e + i then mk1 (akV V e n p i) f c d r 3 k a b else akV V e n p i k a b) = akV V e n p (i + 1) := by
  have d1 : (4 * e + i) / 4 = e := by omega
  have d2 : (4 * e + i) % 4 = i := by omega
  funext k a b
  by_cases ha : a = 4 * e + i
  · subst ha
    rw [if_pos rfl]
    unfold akV mk1
    rw [d1, d2, hf, hc, hd, hr, nn_nI (by omega), nn_nI (by omega)]
    simp only [Nat.lt_irrefl, and_false, if_false, Nat.lt_succ_self, and_true, if_true]
    clear hf hc hd hr
    grind (splits := 24)
  · unfold akV
    rw [if_neg ha]
    have : (a / 4 = e ∧ a % 4 < i) ↔ (a / 4 = e ∧ a % 4 < i + 1) := by omega
    simp only [this]
theorem t_acks {V : Vt} {e n : Nat} {m : Mm} (h : RM m V) (hI : ∀ a, a < 8 → IO V a) (he : e < 2) (hn : n < 512) (sa : Sa V (560 * e + n)) (is : IS V (560 * e + n)) :
    ∃ m', r_M_acks 98 (nI e) (nI (560 * e + n)) m = some m' ∧ RM m' (akV V e n (560 * e + n) 4) ∧ FS sMl m m' := by
  have hp0 := sa.1
  have hsub : nI (560 * e + n) - 560 * nI e = nI n := by
    rw [← nI_560]
    grind
  generalize hp : 560 * e + n = p at *
  have bo : ∀ i, i < 4 → m.1 165 131 (4 * p + i) = enc (V 77 p i) (V 78 p i) (V 79 p i) (V 80 p i) (V 76 p i) := fun i hi => (h.2.2.2.2 p sa).2.2.2 i hi
  have inner : ∀ (i f0 c0 : Nat) (V0 : Vt) (X : Int32), i < 4 → f0 + c0 ≤ 64 → X &&& 127 = nI f0 → (X >>> ((7 : Int32) &&& 31)) &&& 15 = nI c0 → ∀ (j t g : Nat) (m1 : Mm), t + j = c0 → j < g → RM m1 (mk67 V0 (4 * e + i) f0 (f0 + t) 3) → FS sMl m m1 → ∃ m2 g2, g ≤ g2 + j ∧ b_M_acks_81 g 98 (nI e) (nI p) (nI i) (nI (4 * e + i)) X (nI t) m1 = b_M_acks_81 g2 98 (nI e) (nI p) (nI i) (nI (4 * e + i)) X (nI c0) m2 ∧ RM m2 (mk67 V0 (4 * e + i) f0 (f0 + c0) 3) ∧ FS sMl m m2 := by
    intro i f0 c0 V0 X hi hfc hXf hXc j
    induction j with
    | zero =>
      intro t g m1 ht hg h1 h2
      obtain rfl : t = c0 := by omega
      exact ⟨m1, g, by omega, rfl, h1, h2⟩
    | succ j ih =>
      intro t g m1 ht hg h1 h2
      obtain ⟨g, rfl⟩ : ∃ g', g = g' + 1 := ⟨g - 1, by omega⟩
      have step : b_M_acks_81 (g + 1) 98 (nI e) (nI p) (nI i) (nI (4 * e + i)) X (nI t) m1 = b_M_acks_81 g 98 (nI e) (nI p) (nI i) (nI (4 * e + i)) X (nI (t + 1)) (ab_uI m1 134 (98 + 2) (64 * (4 * e + i) + (f0 + t)) 3) := by
        rw [b_M_acks_81_eq, hXf, hXc, nI_64, nI_add, if_neg (by (try clear ih); grind [nI_T]), show 64 * (4 * e + i) + f0 + t = 64 * (4 * e + i) + (f0 + t) by omega, ab_ix_nI (show 64 * (4 * e + i) + (f0 + t) < 512 by omega) (by decide)]
        simp only [ob_s, lt_eq]
        rw [nI_1]
      have ev : uV (mk67 V0 (4 * e + i) f0 (f0 + t) 3) 67 (4 * e + i) (f0 + t) 3 = mk67 V0 (4 * e + i) f0 (f0 + (t + 1)) 3 := by
        funext k a b
        unfold uV mk67
        by_cases z : k = 67 ∧ a = 4 * e + i ∧ b = f0 + t
        · obtain ⟨rfl, rfl, rfl⟩ := z
          rw [if_pos ⟨rfl, rfl, rfl⟩]
          by_cases z3 : V0 67 (4 * e + i) (f0 + t) = 3
          · rw [if_neg (fun y => y.2.2.2.2 z3), z3]
          · rw [if_pos ⟨rfl, rfl, by omega, by omega, z3⟩]
        · rw [if_neg z]
          by_cases z1 : k = 67 ∧ a = 4 * e + i ∧ f0 ≤ b ∧ b < f0 + t ∧ V0 67 (4 * e + i) b ≠ 3
          · rw [if_pos z1, if_pos ⟨z1.1, z1.2.1, z1.2.2.1, by omega, z1.2.2.2.2⟩]
          · rw [if_neg z1, if_neg]
            intro y
            exact z1 ⟨y.1, y.2.1, y.2.2.1, by omega, y.2.2.2.2⟩
      have h' := nu67 h1 (a := 4 * e + i) (by omega) (b := f0 + t) (by omega) (p := 98 + 2) (j := 64 * (4 * e + i) + (f0 + t)) rfl rfl 3
      rw [ev] at h'
      obtain ⟨m2, g2, e1, e2, e3, e4⟩ := ih (t + 1) g _ (by omega) (by omega) h' (FS_tr h2 (FS_uI (by unfold sMl; omega)))
      exact ⟨m2, g2, by omega, step.trans e2, e3, e4⟩
  have loop : ∀ (j i g : Nat) (m1 : Mm), i + j = 4 → 200 * j < g → RM m1 (akV V e n p i) → FS sMl m m1 → ∃ m', b_M_acks_54 g 98 (nI e) (nI p) (nI i) m1 = some (.inl (none, m')) ∧ RM m' (akV V e n p 4) ∧ FS sMl m m' := by
    intro j
    induction j with
    | zero =>
      intro i g m1 hi hg h1 h2
      obtain ⟨g, rfl⟩ : ∃ g', g = g' + 1 := ⟨g - 1, by omega⟩
      obtain rfl : i = 4 := by omega
      rw [b_M_acks_54_eq, if_pos (show (4 : Int32) ≤ nI 4 by decide)]
      exact ⟨m1, rfl, h1, h2⟩
    | succ j ih =>
      intro i g m1 hi hg h1 h2
      obtain ⟨g, rfl⟩ : ∃ g', g = g' + 1 := ⟨g - 1, by omega⟩
      have ha : 4 * e + i < 8 := by omega
      obtain ⟨f0, c0, d0, r0, l0, ef, ec, ed, er, el, hfc, hc, hd, hr, hl⟩ := IS_dec is hI hp0 (show i < 4 by omega)
      have b1 : m1.1 165 131 (4 * p + i) = nI (f0 + 128 * c0 + 2048 * d0 + 4096 * r0 + 8192 * l0) := by
        rw [FS_g h2 _ _ _ (by unfold sMl; omega), bo i (by omega), ef, ec, ed, er, enc_n el]
      rw [b_M_acks_54_eq, if_neg (by (try clear ih); grind [nI_T]), nI_4, nI_4, ab_ix_nI (show 4 * p + i < 4480 by omega) (by decide)]
      simp only [ob_s, lt_eq]
      rw [show (98 : Nat) + 33 = 131 from rfl, b1]
      have x1 := dec_f (f := f0) (c := c0) (d := d0) (r := r0) (l := l0) (by omega)
      have x2 := dec_c (f := f0) (c := c0) (d := d0) (r := r0) (l := l0) (by omega) (by omega) hd hr (by omega)
      have x3 := dec_d (f := f0) (c := c0) (d := d0) (r := r0) (l := l0) (by omega) (by omega) hd hr (by omega)
      have x4 := dec_r (f := f0) (c := c0) (d := d0) (r := r0) (l := l0) (by omega) (by omega) hd hr (by omega)
      generalize nI (f0 + 128 * c0 + 2048 * d0 + 4096 * r0 + 8192 * l0) = X at *
      have e0 : mk67 (akV V e n p i) (4 * e + i) f0 (f0 + 0) 3 = akV V e n p i := by
        funext k a b
        exact if_neg (by omega)
      obtain ⟨m2, g2, q1, q2, q3, q4⟩ := inner i f0 c0 (akV V e n p i) X (by omega) hfc x1 x2 c0 0 g m1 (by omega) (by omega) (by rw [e0]; exact h1) h2
      rw [show (0 : Int32) = nI 0 from rfl, q2]
      obtain ⟨g2, rfl⟩ : ∃ g', g2 = g' + 3 := ⟨g2 - 3, by omega⟩
      have v3 := akV_step (V := V) (e := e) (n := n) (p := p) (show i < 4 by omega) he ef ec hfc ed er
      have u64 : (nI d0 = 1) = (nI d0 ≠ 0) := nI_one d0 hd
      have u65 : (nI r0 = 1) = (nI r0 ≠ 0) := nI_one r0 hr
      have three : ∀ (V3 : Vt) (k : Nat) (q : Prop) [Decidable q], (if q then uV V3 k (4 * e + i) 0 3 else V3) = (if q ∧ V3 k (4 * e + i) 0 ≠ 3 then uV V3 k (4 * e + i) 0 3 else V3) := by
        intro V3 k q _
        by_cases z : q
        · by_cases z3 : V3 k (4 * e + i) 0 = 3
          · rw [if_pos z, if_neg (fun y => y.2 z3), ← z3, uV_self]
          · rw [if_pos z, if_pos ⟨z, z3⟩]
        · rw [if_neg z, if_neg (fun y => z y.1)]
      have st139 : ∀ (m3 : Mm) (V3 : Vt), RM m3 V3 → FS sMl m m3 → ∃ m4, b_M_acks_139 (g2 + 2) 98 (nI e) (nI p) (nI i) (nI (4 * e + i)) X m3 = b_M_acks_158 (g2 + 1) 98 (nI e) (nI p) (nI i) m4 ∧ RM m4 (if nI r0 ≠ 0 ∧ V3 65 (4 * e + i) 0 ≠ 3 then uV V3 65 (4 * e + i) 0 3 else V3) ∧ FS sMl m m4 := by
        intro m3 V3 h3 hF
        rw [b_M_acks_139_eq, x4, ← three]
        simp only [u65]
        by_cases z1 : nI r0 = 0
        · rw [if_neg (fun y => y z1), if_neg (fun y => y z1)]
          exact ⟨m3, rfl, h3, hF⟩
        · rw [if_pos z1, ab_ix_nI ha (by decide), if_pos z1]
          simp only [ob_s, lt_eq]
          exact ⟨_, rfl, nu65 h3 ha rfl rfl 3, FS_tr hF (FS_uI (by unfold sMl; omega))⟩
      have v64 : mk67 (akV V e n p i) (4 * e + i) f0 (f0 + c0) 3 64 (4 * e + i) 0 = akV V e n p i 64 (4 * e + i) 0 := if_neg (by omega)
      have v65 : mk67 (akV V e n p i) (4 * e + i) f0 (f0 + c0) 3 65 (4 * e + i) 0 = akV V e n p i 65 (4 * e + i) 0 := if_neg (by omega)
      have st81 : ∃ m3, b_M_acks_81 (g2 + 3) 98 (nI e) (nI p) (nI i) (nI (4 * e + i)) X (nI c0) m2 = b_M_acks_139 (g2 + 2) 98 (nI e) (nI p) (nI i) (nI (4 * e + i)) X m3 ∧ RM m3 (if nI d0 ≠ 0 ∧ akV V e n p i 64 (4 * e + i) 0 ≠ 3 then uV (mk67 (akV V e n p i) (4 * e + i) f0 (f0 + c0) 3) 64 (4 * e + i) 0 3 else mk67 (akV V e n p i) (4 * e + i) f0 (f0 + c0) 3) ∧ FS sMl m m3 := by
        rw [b_M_acks_81_eq, x2, if_pos (Int32.le_refl _), x3, ← v64, ← three]
        simp only [u64]
        by_cases z1 : nI d0 = 0
        · rw [if_neg (fun y => y z1), if_neg (fun y => y z1)]
          exact ⟨m2, rfl, q3, q4⟩
        · rw [if_pos z1, ab_ix_nI ha (by decide), if_pos z1]
          simp only [ob_s, lt_eq]
          exact ⟨_, rfl, nu64 q3 ha rfl rfl 3, FS_tr q4 (FS_uI (by unfold sMl; omega))⟩
      obtain ⟨m3, s1, s2, s3⟩ := st81
      obtain ⟨m4, t1, t2, t3⟩ := st139 m3 _ s2 s3
      have v65' : (if nI d0 ≠ 0 ∧ akV V e n p i 64 (4 * e + i) 0 ≠ 3 then uV (mk67 (akV V e n p i) (4 * e + i) f0 (f0 + c0) 3) 64 (4 * e + i) 0 3 else mk67 (akV V e n p i) (4 * e + i) f0 (f0 + c0) 3) 65 (4 * e + i) 0 = akV V e n p i 65 (4 * e + i) 0 := by
        split
        · rw [uV_k _ _ _ _ _ (by omega)]; exact v65
        · exact v65
      rw [v65', mk1_ev (akV V e n p i) (4 * e + i) f0 c0 (nI d0) (nI r0) 3, v3] at t2
      rw [s1, t1, b_M_acks_158_eq]
      simp only [ob_s, lt_eq]
      rw [nI_1]
      exact ih (i + 1) g2 m4 (by omega) (by omega) t2 t3
  have h1 : RM (ab_uI m 162 (98 + 30) p 1) (uV V 68 p 0 3) := RM_68 h rfl rfl rfl
  have k24 := n24 h1 he (p := 98 + 21) rfl rfl
  rw [uV_k _ _ _ _ _ (by omega)] at k24
  have start : ∃ m1 g, 49000 < g ∧ b_M_acks_0 50000 98 (nI e) (nI p) m = b_M_acks_54 g 98 (nI e) (nI p) 0 m1 ∧ RM m1 (akV V e n p 0) ∧ FS sMl m m1 := by
    have q : ∀ f u, b_M_acks_44 (f + 1) 98 (nI e) (nI p) (98 + 21) (nI e) u (ab_uI m 162 (98 + 30) p 1) = b_M_acks_54 f 98 (nI e) (nI p) 0 (ab_uI (ab_uI (ab_uI m 162 (98 + 30) p 1) 153 (98 + 21) e u) 156 (98 + 24) e 0) := by
      intro f u
      rw [b_M_acks_44_eq, ab_ix_nI he (by decide)]
      simp only [ob_s, lt_eq]
    refine ⟨_, 49998, by omega, ?_, ?_, FS_tr (FS_tr (FS_uI (k := 162) (p := 98 + 30) (b := p) (x := 1) (by unfold sMl; omega)) (FS_uI (k := 153) (p := 98 + 21) (b := e) (x := if V 24 e 0 < nI n then nI n else V 24 e 0) (by unfold sMl; omega))) (FS_uI (k := 156) (p := 98 + 24) (b := e) (x := 0) (by unfold sMl; omega))⟩
    · rw [b_M_acks_0_eq, ab_ix_nI hp0 (by decide), ab_ix_nI he (by decide)]
      simp only [ob_s, lt_eq]
      rw [k24, hsub, q, q]
      by_cases z : V 24 e 0 < nI n
      · rw [if_neg (by grind), if_pos z]
      · rw [if_pos (by grind), if_neg z]
    · have := nu23 (nu24 h1 he (p := 98 + 21) (j := e) rfl rfl (if V 24 e 0 < nI n then nI n else V 24 e 0)) he (p := 98 + 24) (j := e) rfl rfl 0
      have ev : uV (uV (uV V 68 p 0 3) 24 e 0 (if V 24 e 0 < nI n then nI n else V 24 e 0)) 23 e 0 0 = akV V e n p 0 := by
        funext k a b
        unfold uV akV
        have : ¬ (a / 4 = e ∧ a % 4 < 0) := by omega
        grind
      rw [ev] at this
      exact this
  obtain ⟨m1, g, hg, s1, s2, s3⟩ := start
  obtain ⟨m', e1, e2, e3⟩ := loop 4 0 g m1 (by omega) (by omega) s2 s3
  refine ⟨m', ?_, e2, e3⟩
  rw [r_M_acks_eq, s1]
  exact congrArg ab_rV e1
end
