section
/-! The packet that is being made. -/
/-- the class's record of it -/
def Pk (m : Mm) (S : Nat) (V : Vt) (a : Nat) : Prop := ∀ k b, TS k b → m.1 k (S + ofk k) b = V k a b
/-- the model's -/
def PM (m : Mm) (V : Vt) (a : Nat) : Prop := m.1 164 130 a = V 70 a 0 ∧ ∀ s, s < 4 → m.1 165 131 (4 * a + s) = enc (V 77 a s) (V 78 a s) (V 79 a s) (V 80 a s) (V 76 a s)
theorem TS_k {k b : Nat} (h : TS k b) : 68 ≤ k ∧ k ≤ 80 := by
  unfold TS at h
  omega
theorem Sa_pk {V : Vt} {k a b : Nat} {x : Int32} (t : TS k b) (n : Nat) : Sa (uV V k a b x) n ↔ Sa V n := Sa_uV (by have := TS_k t; omega) n
theorem Wok_pk {V : Vt} {W : Nat → Nat} {n k a b : Nat} {x : Int32} (t : TS k b) (h : Wok V W n) : Wok (uV V k a b x) W n := Wok_uV (by have := TS_k t; omega) h
theorem RC_pk {m : Mm} {V : Vt} {w W : Nat → Nat} (h : RC m V w W) {k a b S p : Nat} {x : Int32} (t : TS k b) (hp : p = S + ofk k) (ha : ¬ Sa V a) (hS : ∀ a', Sa V a' → W a' ≠ S) : RC (ab_uI m k p b x) (uV V k a b x) w W := by
  subst hp
  obtain ⟨h1, h2, h3, h4, h5, h6, h7⟩ := h
  have tk := TS_k t
  refine ⟨fun k' a' b' t' => ?_, h2, fun a' ha' hl => ?_, fun a' ha' => ?_, fun e he => ?_, h6, Wok_pk t h7⟩
  · have := Ts_k t'
    rw [uI_r _ _ _ _ _ _ _ _ (by omega), uV_k _ _ _ _ _ (by omega)]; exact h1 k' a' b' t'
  · rw [uV_k _ _ _ _ _ (by omega)] at hl
    rw [uI_r _ _ _ _ _ _ _ _ (by omega), uI_r _ _ _ _ _ _ _ _ (by omega), uV_k _ _ _ _ _ (by omega), uV_k _ _ _ _ _ (by omega)]
    refine ⟨(h3 a' ha' hl).1, (h3 a' ha' hl).2.1, fun b' hb => ?_⟩
    rw [uI_r _ _ _ _ _ _ _ _ (by omega), uV_k _ _ _ _ _ (by omega)]
    exact (h3 a' ha' hl).2.2 b' hb
  · have sa := (Sa_pk t a').mp ha'
    refine ⟨(h4 a' sa).1, fun k' b' t' => ?_⟩
    have ne := hS a' sa
    have na : a' ≠ a := fun y => ha (y ▸ sa)
    rw [uI_1, if_neg (fun y => by have y1 := y.1; have y2 := y.2.1; rw [y1] at y2; omega), uV_a _ _ _ _ _ na]
    exact (h4 a' sa).2 k' b' t'
  · rw [uI_r _ _ _ _ _ _ _ _ (by omega)]; exact h5 e he
theorem Pk_pk {m : Mm} {V : Vt} {k a b S p : Nat} {x : Int32} (h : Pk m S V a) (t : TS k b) (hp : p = S + ofk k) : Pk (ab_uI m k p b x) S (uV V k a b x) a := by
  subst hp
  intro k' b' t'
  rw [uI_1]
  unfold uV
  by_cases y : k' = k ∧ b' = b
  · obtain ⟨rfl, rfl⟩ := y
    rw [if_pos ⟨rfl, rfl, rfl⟩, if_pos ⟨rfl, rfl, rfl⟩]
  · rw [if_neg (fun z => y ⟨z.1, z.2.2⟩), if_neg (fun z => y ⟨z.1, z.2.2⟩)]
    exact h k' b' t'
theorem Pk_uV {m : Mm} {V : Vt} {k a b c S : Nat} {x : Int32} (h : Pk m S V a) (hk : k < 68) : Pk m S (uV V k c b x) a := by
  intro k' b' t'
  have := TS_k t'
  rw [uV_k _ _ _ _ _ (by omega)]
  exact h k' b' t'
theorem Pk_FS {T : Nat → Prop} {m m' : Mm} {V : Vt} {a S : Nat} (h : Pk m S V a) (hF : FS T m m') (hT : ∀ r, T r → r < 68 ∨ 80 < r) : Pk m' S V a := by
  intro k' b' t'
  have := TS_k t'
  rw [FS_g hF _ _ _ (fun y => by have := hT k' y; omega)]
  exact h k' b' t'
theorem PM_FS {T : Nat → Prop} {m m' : Mm} {V : Vt} {a : Nat} (h : PM m V a) (hF : FS T m m') (h1 : ¬ T 164) (h2 : ¬ T 165) : PM m' V a :=
  ⟨by rw [FS_g hF _ _ _ h1]; exact h.1, fun s hs => by rw [FS_g hF _ _ _ h2]; exact h.2 s hs⟩
theorem PM_uV {m : Mm} {V : Vt} {k a b c : Nat} {x : Int32} (h : PM m V a) (hk : k < 68) : PM m (uV V k c b x) a := by
  refine ⟨by rw [uV_k _ _ _ _ _ (by omega)]; exact h.1, fun s hs => ?_⟩
  rw [uV_k _ _ _ _ _ (by omega), uV_k _ _ _ _ _ (by omega), uV_k _ _ _ _ _ (by omega), uV_k _ _ _ _ _ (by omega), uV_k _ _ _ _ _ (by omega)]
  exact h.2 s hs
/-- the view of a packet that was not sent is free -/
theorem RM_na {m : Mm} {V : Vt} (h : RM m V) {k a b : Nat} {x : Int32} (t : TS k b) (ha : ¬ Sa V a) : RM m (uV V k a b x) := by
  obtain ⟨h1, h2, h3, h4, h5⟩ := h
  have tk := TS_k t
  have u : ∀ k' a' b', k' < 68 → uV V k a b x k' a' b' = V k' a' b' := fun k' a' b' q => uV_k _ _ _ _ _ (by omega)
  refine ⟨fun k' a' b' t' z' => ?_, ?_, fun e' he' => ?_, fun a' ha' hl => ?_, fun a' ha' => ?_⟩
  · rw [u _ _ _ (Ts_k t').1]; exact h1 k' a' b' t' z'
  · rw [u 5 _ _ (by omega), u 6 _ _ (by omega), u 7 _ _ (by omega)]; exact h2
  · rw [u 41 _ _ (by omega), u 42 _ _ (by omega), u 8 _ _ (by omega), u 25 _ _ (by omega), u 22 _ _ (by omega), u 26 _ _ (by omega)]; exact h3 e' he'
  · rw [u 5 _ _ (by omega)] at hl
    rw [u 11 _ _ (by omega), u 12 _ _ (by omega)]
    refine ⟨(h4 a' ha' hl).1, (h4 a' ha' hl).2.1, fun b' hb hc => ?_⟩
    rw [u 13 _ _ (by omega)]
    exact (h4 a' ha' hl).2.2 b' hb hc
  · have sa := (Sa_pk t a').mp ha'
    have na : a' ≠ a := fun y => ha (y ▸ sa)
    have g := h5 a' sa
    rw [uV_a _ _ _ _ _ na, uV_a _ _ _ _ _ na, uV_a _ _ _ _ _ na]
    refine ⟨g.1, g.2.1, g.2.2.1, fun s hs => ?_⟩
    rw [uV_a _ _ _ _ _ na, uV_a _ _ _ _ _ na, uV_a _ _ _ _ _ na, uV_a _ _ _ _ _ na, uV_a _ _ _ _ _ na]
    exact g.2.2.2 s hs
/-- the model may write its record of it -/
theorem RM_pw {m : Mm} {V : Vt} (h : RM m V) {r p a j : Nat} {x : Int32} (hr : (162 ≤ r ∧ r ≤ 164 ∧ j = a) ∨ (r = 165 ∧ j / 4 = a)) (ha : ¬ Sa V a) : RM (ab_uI m r p j x) V := by
  obtain ⟨h1, h2, h3, h4, h5⟩ := h
  refine ⟨fun k' a' b' t' z' => ?_, ?_, fun e' he' => ?_, fun a' ha' hl => ?_, fun a' ha' => ?_⟩
  · have := mr_in k' (Ts_k t').1
    rw [uI_r _ _ _ _ _ _ _ _ (by omega)]; exact h1 k' a' b' t' z'
  · rw [uI_r _ _ _ _ _ _ _ _ (by omega), uI_r _ _ _ _ _ _ _ _ (by omega), uI_r _ _ _ _ _ _ _ _ (by omega)]; exact h2
  · rw [uI_r _ _ _ _ _ _ _ _ (by omega), uI_r _ _ _ _ _ _ _ _ (by omega), uI_r _ _ _ _ _ _ _ _ (by omega), uI_r _ _ _ _ _ _ _ _ (by omega)]; exact h3 e' he'
  · rw [uI_r _ _ _ _ _ _ _ _ (by omega), uI_r _ _ _ _ _ _ _ _ (by omega)]
    refine ⟨(h4 a' ha' hl).1, (h4 a' ha' hl).2.1, fun b' hb hc => ?_⟩
    rw [uI_r _ _ _ _ _ _ _ _ (by omega)]
    exact (h4 a' ha' hl).2.2 b' hb hc
  · have na : a' ≠ a := fun y => ha (y ▸ ha')
    have g := h5 a' ha'
    rw [uI_1, if_neg (by omega), uI_1, if_neg (by omega), uI_1, if_neg (by omega)]
    refine ⟨g.1, g.2.1, g.2.2.1, fun s hs => ?_⟩
    rw [uI_1, if_neg (by omega)]
    exact g.2.2.2 s hs
theorem s_room {q : Nat} {x : Int32} {L : List Nat} {m : Mm} {n : Nat} (h : WC m q x L) (hL : L.length ≤ 38) (hn : n < 100) : r_Row_hasRoomFor q (nI n) m = some (ib (L.length + n ≤ 38), m) := by
  rw [r_Row_hasRoomFor_eq, b_Row_hasRoomFor_0_eq, r_Row_roomLeft_eq, b_Row_roomLeft_0_eq, h.1, rI_some]
  simp only [ob_s]
  unfold ib
  by_cases y : L.length + n ≤ 38
  · rw [if_neg (by clear h; grind [nI_T]), if_pos y, bo_1, ob_s, rI_some]
  · rw [if_pos (by clear h; grind [nI_T]), if_neg y, bo_0, ob_s, rI_some]
theorem t_fitL {L : List Nat} {m : Mm} {n : Nat} (h : ML m L) (hL : L.length ≤ 47) (hn : n < 100) : r_M_fits 98 (nI n) m = some (ib (L.length + n ≤ 37), m) := by
  rw [r_M_fits_eq, b_M_fits_0_eq, h.1, nI_add]
  unfold ib
  by_cases y : L.length + n ≤ 37
  · rw [if_neg (by clear h; grind [nI_T]), if_pos y, bo_1, ob_s, rI_some]
  · rw [if_pos (by clear h; grind [nI_T]), if_neg y, bo_0, ob_s, rI_some]
end
