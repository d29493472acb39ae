section
/-! What the class's memory and the model's hold: one view V of both. -/
abbrev Vt : Type := Nat → Nat → Nat → Int32
def uV (V : Vt) (k a b : Nat) (x : Int32) : Vt := fun k' a' b' => if k' = k ∧ a' = a ∧ b' = b then x else V k' a' b'
theorem uV_s (V : Vt) (k a b : Nat) (x : Int32) : uV V k a b x k a b = x := if_pos ⟨rfl, rfl, rfl⟩
theorem uV_k (V : Vt) (k a b : Nat) (x : Int32) {k' a' b' : Nat} (h : k' ≠ k) : uV V k a b x k' a' b' = V k' a' b' := if_neg fun z => h z.1
theorem uV_a (V : Vt) (k a b : Nat) (x : Int32) {k' a' b' : Nat} (h : a' ≠ a) : uV V k a b x k' a' b' = V k' a' b' := if_neg fun z => h z.2.1
def Ps (k a : Nat) : Nat :=
  if k < 8 then 0 else if k = 14 then 5 else if k < 29 then 6 + 30 * a else if k = 30 then 7 + 30 * a else if k = 31 then 8 + 30 * a else if k < 45 then 12 + 30 * a
  else if k < 53 then 14 + 30 * (a / 4) + 2 * (a % 4) else if k = 53 then 15 + 30 * (a / 4) + 2 * (a % 4) else if k < 56 then 22 + 30 * a
  else if k < 66 then 24 + 30 * (a / 4) + 3 * (a % 4) else if k = 66 then 25 + 30 * (a / 4) + 3 * (a % 4) else 26 + 30 * (a / 4) + 3 * (a % 4)
def Ts (k a b : Nat) : Prop :=
  (5 ≤ k ∧ k ≤ 7 ∧ a = 0 ∧ b = 0) ∨ (k = 14 ∧ a = 0 ∧ b < 37) ∨ (21 ≤ k ∧ k ≤ 28 ∧ a < 2 ∧ b = 0) ∨ (k = 30 ∧ a < 2 ∧ b = 0) ∨ (k = 31 ∧ a < 2 ∧ b < 320) ∨ (41 ≤ k ∧ k ≤ 44 ∧ a < 2 ∧ b = 0)
  ∨ (47 ≤ k ∧ k ≤ 52 ∧ a < 8 ∧ b = 0) ∨ (k = 53 ∧ a < 8 ∧ b < 64) ∨ (k = 55 ∧ a < 2 ∧ b = 0) ∨ (59 ≤ k ∧ k ≤ 65 ∧ a < 8 ∧ b = 0) ∨ ((k = 66 ∨ k = 67) ∧ a < 8 ∧ b < 64)
theorem Ts_k {k a b : Nat} (h : Ts k a b) : k < 68 ∧ k ≠ 8 ∧ k ≠ 11 ∧ k ≠ 12 ∧ k ≠ 13 ∧ k ≠ 15 ∧ ¬ (32 ≤ k ∧ k ≤ 39) := by
  unfold Ts at h
  omega
theorem Ps_inj {k a b a' b' : Nat} (h : Ts k a b) (h' : Ts k a' b') (e : Ps k a = Ps k a') : a = a' := by
  unfold Ts at h h'
  have q : ∀ c, Ps k c = if k < 8 then 0 else if k = 14 then 5 else if k < 29 then 6 + 30 * c else if k = 30 then 7 + 30 * c else if k = 31 then 8 + 30 * c else if k < 45 then 12 + 30 * c
    else if k < 53 then 14 + 30 * (c / 4) + 2 * (c % 4) else if k = 53 then 15 + 30 * (c / 4) + 2 * (c % 4) else if k < 56 then 22 + 30 * c
    else if k < 66 then 24 + 30 * (c / 4) + 3 * (c % 4) else if k = 66 then 25 + 30 * (c / 4) + 3 * (c % 4) else 26 + 30 * (c / 4) + 3 * (c % 4) := fun c => rfl
  rw [q, q] at e
  rcases h with h | h | h | h | h | h | h | h | h | h | h
  · omega
  · omega
  · rw [if_neg (by omega), if_neg (by omega), if_pos (by omega), if_neg (by omega), if_neg (by omega), if_pos (by omega)] at e; omega
  · rw [if_neg (by omega), if_neg (by omega), if_neg (by omega), if_pos (by omega), if_neg (by omega), if_neg (by omega), if_neg (by omega), if_pos (by omega)] at e; omega
  · rw [if_neg (by omega), if_neg (by omega), if_neg (by omega), if_neg (by omega), if_pos (by omega), if_neg (by omega), if_neg (by omega), if_neg (by omega), if_neg (by omega), if_pos (by omega)] at e; omega
  · rw [if_neg (by omega), if_neg (by omega), if_neg (by omega), if_neg (by omega), if_neg (by omega), if_pos (by omega), if_neg (by omega), if_neg (by omega), if_neg (by omega), if_neg (by omega), if_neg (by omega), if_pos (by omega)] at e; omega
  · rw [if_neg (by omega), if_neg (by omega), if_neg (by omega), if_neg (by omega), if_neg (by omega), if_neg (by omega), if_pos (by omega), if_neg (by omega), if_neg (by omega), if_neg (by omega), if_neg (by omega), if_neg (by omega), if_neg (by omega), if_pos (by omega)] at e; omega
  · rw [if_neg (by omega), if_neg (by omega), if_neg (by omega), if_neg (by omega), if_neg (by omega), if_neg (by omega), if_neg (by omega), if_pos (by omega), if_neg (by omega), if_neg (by omega), if_neg (by omega), if_neg (by omega), if_neg (by omega), if_neg (by omega), if_neg (by omega), if_pos (by omega)] at e; omega
  · rw [if_neg (by omega), if_neg (by omega), if_neg (by omega), if_neg (by omega), if_neg (by omega), if_neg (by omega), if_neg (by omega), if_neg (by omega), if_pos (by omega), if_neg (by omega), if_neg (by omega), if_neg (by omega), if_neg (by omega), if_neg (by omega), if_neg (by omega), if_neg (by omega), if_neg (by omega), if_pos (by omega)] at e; omega
  · rw [if_neg (by omega), if_neg (by omega), if_neg (by omega), if_neg (by omega), if_neg (by omega), if_neg (by omega), if_neg (by omega), if_neg (by omega), if_neg (by omega), if_pos (by omega), if_neg (by omega), if_neg (by omega), if_neg (by omega), if_neg (by omega), if_neg (by omega), if_neg (by omega), if_neg (by omega), if_neg (by omega), if_neg (by omega), if_pos (by omega)] at e; omega
  · rcases h.1 with rfl | rfl
    · simp at e; omega
    · simp at e; omega
/-- a packet that was sent -/
def Sa (V : Vt) (a : Nat) : Prop := a < 1120 ∧ a % 560 < 512 ∧ nI (a % 560) < V 21 (a / 560) 0
def TS (k b : Nat) : Prop := ((k = 68 ∨ k = 69 ∨ k = 70) ∧ b = 0) ∨ (76 ≤ k ∧ k ≤ 80 ∧ b < 4)
def ofk (k : Nat) : Nat := if k < 71 then 0 else k - 75
def wok (w : Nat → Nat) : Prop := (∀ a, a < 16 → 66 ≤ w a ∧ w a < 98 ∧ w a % 2 = 0) ∧ ∀ a b, a < 16 → b < 16 → w a = w b → a = b
def Wok (V : Vt) (W : Nat → Nat) (n : Nat) : Prop := (∀ a, Sa V a → 139 ≤ W a ∧ W a + 6 ≤ n) ∧ ∀ a b, Sa V a → Sa V b → a ≠ b → W a + 6 ≤ W b ∨ W b + 6 ≤ W a
def RC (m : Mm) (V : Vt) (w W : Nat → Nat) : Prop :=
  (∀ k a b, Ts k a b → m.1 k (Ps k a) b = V k a b) ∧
  (∀ a, a < 16 → m.2.2.1 9 2 a = some (w a)) ∧
  (∀ a, a < 16 → nI a < V 5 0 0 → m.1 11 (w a) 0 = V 11 a 0 ∧ m.1 12 (w a) 0 = V 12 a 0 ∧ ∀ b, b < 40 → m.1 13 (w a + 1) b = V 13 a b) ∧
  (∀ a, Sa V a → m.2.2.1 39 (11 + 30 * (a / 560)) (a % 560) = some (W a) ∧ ∀ k b, TS k b → m.1 k (W a + ofk k) b = V k a b) ∧
  (∀ e, e < 2 → m.1 15 (6 + 30 * e) 0 = nI e) ∧ wok w ∧ Wok V W m.2.2.2.1.length
def mr (k : Nat) : Nat := match k with
  | 14 => 169 | 21 => 151 | 22 => 154 | 23 => 156 | 24 => 153 | 27 => 160 | 28 => 159 | 30 => 152 | 31 => 161 | 43 => 150 | 44 => 157 | 47 => 145 | 48 => 143 | 49 => 144 | 50 => 146 | 51 => 147 | 52 => 148 | 53 => 142
  | 55 => 149 | 59 => 135 | 60 => 136 | 61 => 139 | 62 => 140 | 63 => 141 | 64 => 137 | 65 => 138 | 66 => 133 | 67 => 134 | _ => 0
def ms (k : Nat) : Nat := if k = 31 then 320 else if k = 53 ∨ k = 66 ∨ k = 67 then 64 else 1
theorem ms_inj {k a b a' b' : Nat} (h : Ts k a b) (h' : Ts k a' b') (e : ms k * a + b = ms k * a' + b') : a = a' ∧ b = b' := by
  unfold Ts at h h'
  unfold ms at e
  (repeat' split at e) <;> omega
theorem mr_inj : ∀ k, k < 68 → ∀ k', k' < 68 → mr k ≠ 0 → mr k = mr k' → k = k' := by decide +kernel
theorem mr_in : ∀ k, k < 68 → mr k = 0 ∨ (133 ≤ mr k ∧ mr k ≤ 169 ∧ mr k ≠ 155 ∧ mr k ≠ 158 ∧ ¬ (162 ≤ mr k ∧ mr k ≤ 168)) := by decide +kernel
/-- what the model says of a packet's fate -/
def fs (x : Int32) : Int32 := if x = 1 then 0 else if x = 3 then 1 else 2
def RM (m : Mm) (V : Vt) : Prop :=
  (∀ k a b, Ts k a b → mr k ≠ 0 → m.1 (mr k) (mr k - 34) (ms k * a + b) = V k a b) ∧
  (m.1 118 98 0 = V 5 0 0 ∧ m.1 126 98 0 = V 6 0 0 ∧ m.1 83 98 0 = V 7 0 0) ∧
  (∀ e, e < 2 → m.1 81 98 0 = V 41 e 0 ∧ m.1 82 98 0 = V 42 e 0 ∧ m.1 155 121 e = V 8 e 0 - V 25 e 0 ∧ (V 22 e 0 = -1 → m.1 158 124 e = V 26 e 0)) ∧
  (∀ a, a < 16 → nI a < V 5 0 0 → m.1 166 132 (42 * a) = V 12 a 0 ∧ m.1 166 132 (42 * a + 1) = V 11 a 0 ∧ ∀ b, b < 40 → nI b < V 11 a 0 → m.1 166 132 (42 * a + 2 + b) = V 13 a b) ∧
  (∀ a, Sa V a → m.1 162 128 a = fs (V 68 a 0) ∧ m.1 163 129 a = V 69 a 0 ∧ m.1 164 130 a = V 70 a 0 ∧ ∀ s, s < 4 → m.1 165 131 (4 * a + s) = enc (V 77 a s) (V 78 a s) (V 79 a s) (V 80 a s) (V 76 a s))
/-- the registers of the class stay -/
def FC (m m' : Mm) : Prop := (∀ r, r < 81 → m'.1 r = m.1 r) ∧ m'.2 = m.2
/-- the registers of the model stay -/
def FM (m m' : Mm) : Prop := ∀ r, 81 ≤ r → m'.1 r = m.1 r
theorem FC_rfl (m : Mm) : FC m m := ⟨fun _ _ => rfl, rfl⟩
theorem FM_rfl (m : Mm) : FM m m := fun _ _ => rfl
theorem FC_tr {a b c : Mm} (h : FC a b) (h' : FC b c) : FC a c := ⟨fun r hr => (h'.1 r hr).trans (h.1 r hr), h'.2.trans h.2⟩
theorem FM_tr {a b c : Mm} (h : FM a b) (h' : FM b c) : FM a c := fun r hr => (h' r hr).trans (h r hr)
theorem FC_uI {m : Mm} {k p b : Nat} {x : Int32} (h : 81 ≤ k) : FC m (ab_uI m k p b x) := by
  refine ⟨fun r hr => ?_, rfl⟩
  funext p' j'
  exact uI_r m k p b x r p' j' (by omega)
theorem FM_uI {m : Mm} {k p b : Nat} {x : Int32} (h : k < 81) : FM m (ab_uI m k p b x) := by
  intro r hr
  funext p' j'
  exact uI_r m k p b x r p' j' (by omega)
theorem FM_uR {m : Mm} {k p b : Nat} {x : Option Nat} : FM m (ab_uR m k p b x) := fun _ _ => rfl
theorem RC_FC {m m' : Mm} {V : Vt} {w W : Nat → Nat} (h : RC m V w W) (f : FC m m') : RC m' V w W := by
  obtain ⟨h1, h2, h3, h4, h5, h6, h7⟩ := h
  obtain ⟨f1, f2⟩ := f
  refine ⟨fun k a b t => ?_, fun a ha => ?_, fun a ha hl => ?_, fun a ha => ⟨?_, fun k b t => ?_⟩, fun e he => ?_, h6, ?_⟩
  · rw [f1 k (by have := Ts_k t; omega)]; exact h1 k a b t
  · rw [f2]; exact h2 a ha
  · rw [f1 11 (by omega), f1 12 (by omega), f1 13 (by omega)]; exact h3 a ha hl
  · rw [f2]; exact (h4 a ha).1
  · rw [f1 k (by unfold TS at t; omega)]; exact (h4 a ha).2 k b t
  · rw [f1 15 (by omega)]; exact h5 e he
  · rw [f2]; exact h7
theorem RM_FM {m m' : Mm} {V : Vt} (h : RM m V) (f : FM m m') : RM m' V := by
  obtain ⟨h1, h2, h3, h4, h5⟩ := h
  refine ⟨fun k a b t z => ?_, ?_, fun e he => ?_, fun a ha hl => ?_, fun a ha => ?_⟩
  · rw [f (mr k) (by have := mr_in k (Ts_k t).1; omega)]; exact h1 k a b t z
  · rw [f 118 (by omega), f 126 (by omega), f 83 (by omega)]; exact h2
  · rw [f 81 (by omega), f 82 (by omega), f 155 (by omega), f 158 (by omega)]; exact h3 e he
  · rw [f 166 (by omega)]; exact h4 a ha hl
  · rw [f 162 (by omega), f 163 (by omega), f 164 (by omega), f 165 (by omega)]; exact h5 a ha
/-- scratch of the class -/
def Sc (k : Nat) : Prop := 32 ≤ k ∧ k ≤ 38
theorem RC_sc {m : Mm} {V : Vt} {w W : Nat → Nat} (h : RC m V w W) {k p b : Nat} {x : Int32} (hk : Sc k) : RC (ab_uI m k p b x) V w W := by
  unfold Sc at hk
  obtain ⟨h1, h2, h3, h4, h5, h6, h7⟩ := h
  refine ⟨fun k' a' b' t => ?_, h2, fun a' ha hl => ?_, fun a' ha => ⟨(h4 a' ha).1, fun k' b' t => ?_⟩, fun e he => ?_, h6, h7⟩
  · rw [uI_r _ _ _ _ _ _ _ _ (by have := Ts_k t; omega)]; exact h1 k' a' b' t
  · rw [uI_r _ _ _ _ _ _ _ _ (by omega), uI_r _ _ _ _ _ _ _ _ (by omega)]
    refine ⟨(h3 a' ha hl).1, (h3 a' ha hl).2.1, fun b' hb => ?_⟩
    rw [uI_r _ _ _ _ _ _ _ _ (by omega)]
    exact (h3 a' ha hl).2.2 b' hb
  · rw [uI_r _ _ _ _ _ _ _ _ (by unfold TS at t; omega)]; exact (h4 a' ha).2 k' b' t
  · rw [uI_r _ _ _ _ _ _ _ _ (by omega)]; exact h5 e he
/-- the spare row is not seen -/
theorem RC_sp {m : Mm} {V : Vt} {w W : Nat → Nat} (h : RC m V w W) {k p b : Nat} {x : Int32} (hk : k = 11 ∨ k = 12 ∨ k = 13) (hp : ∀ a, a < 16 → nI a < V 5 0 0 → p ≠ w a ∧ p ≠ w a + 1) : RC (ab_uI m k p b x) V w W := by
  obtain ⟨h1, h2, h3, h4, h5, h6, h7⟩ := h
  refine ⟨fun k' a' b' t => ?_, h2, fun a' ha hl => ?_, fun a' ha => ⟨(h4 a' ha).1, fun k' b' t => ?_⟩, fun e he => ?_, h6, h7⟩
  · rw [uI_r _ _ _ _ _ _ _ _ (by have := Ts_k t; omega)]; exact h1 k' a' b' t
  · have hw := hp a' ha hl
    rw [uI_1, if_neg (by omega), uI_1, if_neg (by omega)]
    refine ⟨(h3 a' ha hl).1, (h3 a' ha hl).2.1, fun b' hb => ?_⟩
    rw [uI_1, if_neg (by omega)]
    exact (h3 a' ha hl).2.2 b' hb
  · rw [uI_r _ _ _ _ _ _ _ _ (by unfold TS at t; omega)]; exact (h4 a' ha).2 k' b' t
  · rw [uI_r _ _ _ _ _ _ _ _ (by omega)]; exact h5 e he
theorem Sa_uV {V : Vt} {k a b : Nat} {x : Int32} (hk : k ≠ 21) (n : Nat) : Sa (uV V k a b x) n ↔ Sa V n := by
  unfold Sa
  rw [uV_k _ _ _ _ _ (Ne.symm hk)]
theorem Wok_uV {V : Vt} {W : Nat → Nat} {n k a b : Nat} {x : Int32} (hk : k ≠ 21) (h : Wok V W n) : Wok (uV V k a b x) W n :=
  ⟨fun c hc => h.1 c ((Sa_uV hk c).mp hc), fun c d hc hd => h.2 c d ((Sa_uV hk c).mp hc) ((Sa_uV hk d).mp hd)⟩
theorem RC_uI {m : Mm} {V : Vt} {w W : Nat → Nat} (h : RC m V w W) {k a b p : Nat} {x : Int32} (t : Ts k a b) (hp : p = Ps k a) (hk : k ≠ 21) (hk5 : k ≠ 5) : RC (ab_uI m k p b x) (uV V k a b x) w W := by
  subst hp
  obtain ⟨h1, h2, h3, h4, h5, h6, h7⟩ := h
  have tk := Ts_k t
  refine ⟨fun k' a' b' t' => ?_, h2, fun a' ha hl => ?_, fun a' ha => ?_, fun e he => ?_, h6, Wok_uV hk h7⟩
  · by_cases e : k' = k
    · subst e
      rw [uI_1]
      unfold uV
      by_cases e1 : a' = a ∧ b' = b
      · rw [if_pos ⟨rfl, by rw [e1.1], e1.2⟩, if_pos ⟨rfl, e1.1, e1.2⟩]
      · rw [if_neg (fun z => e1 ⟨Ps_inj t' t z.2.1, z.2.2⟩), if_neg (fun z => e1 ⟨z.2.1, z.2.2⟩)]
        exact h1 k' a' b' t'
    · rw [uI_r _ _ _ _ _ _ _ _ e, uV_k _ _ _ _ _ e]; exact h1 k' a' b' t'
  · rw [uV_k _ _ _ _ _ (by omega)] at hl
    rw [uI_r _ _ _ _ _ _ _ _ (by omega), uI_r _ _ _ _ _ _ _ _ (by omega), uV_k _ _ _ _ _ (by omega), uV_k _ _ _ _ _ (by omega)]
    refine ⟨(h3 a' ha hl).1, (h3 a' ha hl).2.1, fun b' hb => ?_⟩
    rw [uI_r _ _ _ _ _ _ _ _ (by omega), uV_k _ _ _ _ _ (by omega)]
    exact (h3 a' ha hl).2.2 b' hb
  · have ha := (Sa_uV hk a').mp ha
    refine ⟨(h4 a' ha).1, fun k' b' t' => ?_⟩
    have : k' ≠ k := by unfold TS at t'; omega
    rw [uI_r _ _ _ _ _ _ _ _ this, uV_k _ _ _ _ _ this]; exact (h4 a' ha).2 k' b' t'
  · rw [uI_r _ _ _ _ _ _ _ _ (by omega)]; exact h5 e he
theorem RM_uI {m : Mm} {V : Vt} (h : RM m V) {k a b r p j : Nat} {x : Int32} (t : Ts k a b) (hr : r = mr k) (hp : p = mr k - 34) (hj : j = ms k * a + b) (hz : mr k ≠ 0) (hk : k ≠ 21) (hk2 : k ≠ 22 ∨ x ≠ -1) : RM (ab_uI m r p j x) (uV V k a b x) := by
  subst hr hp hj
  obtain ⟨h1, h2, h3, h4, h5⟩ := h
  have tk := Ts_k t
  have mk := mr_in k tk.1
  have k5 : k ≠ 5 ∧ k ≠ 6 ∧ k ≠ 7 ∧ k ≠ 25 ∧ k ≠ 26 ∧ k ≠ 41 ∧ k ≠ 42 := by
    refine ⟨?_, ?_, ?_, ?_, ?_, ?_, ?_⟩ <;> (rintro rfl; exact hz rfl)
  refine ⟨fun k' a' b' t' z' => ?_, ?_, fun e he => ?_, fun a' ha hl => ?_, fun a' ha => ?_⟩
  · by_cases e : k' = k
    · subst e
      rw [uI_1]
      unfold uV
      by_cases e1 : a' = a ∧ b' = b
      · rw [if_pos ⟨rfl, rfl, by rw [e1.1, e1.2]⟩, if_pos ⟨rfl, e1.1, e1.2⟩]
      · rw [if_neg (fun z => e1 (ms_inj t' t z.2.2)), if_neg (fun z => e1 ⟨z.2.1, z.2.2⟩)]
        exact h1 k' a' b' t' z'
    · rw [uI_r _ _ _ _ _ _ _ _ (fun q => e (mr_inj k' (Ts_k t').1 k tk.1 z' q)), uV_k _ _ _ _ _ e]; exact h1 k' a' b' t' z'
  · rw [uI_r _ _ _ _ _ _ _ _ (by omega), uI_r _ _ _ _ _ _ _ _ (by omega), uI_r _ _ _ _ _ _ _ _ (by omega), uV_k _ _ _ _ _ (by omega), uV_k _ _ _ _ _ (by omega), uV_k _ _ _ _ _ (by omega)]; exact h2
  · rw [uI_r _ _ _ _ _ _ _ _ (by omega), uI_r _ _ _ _ _ _ _ _ (by omega), uI_r _ _ _ _ _ _ _ _ (by omega), uI_r _ _ _ _ _ _ _ _ (by omega), uV_k _ _ _ _ _ (by omega), uV_k _ _ _ _ _ (by omega), uV_k _ _ _ _ _ (by omega), uV_k _ _ _ _ _ (by omega), uV_k V k a b x (k' := 26) (by omega)]
    refine ⟨(h3 e he).1, (h3 e he).2.1, (h3 e he).2.2.1, fun q => ?_⟩
    by_cases e2 : k = 22 ∧ a = e ∧ b = 0
    · obtain ⟨rfl, rfl, rfl⟩ := e2
      rw [uV_s] at q
      rcases hk2 with hk2 | hk2
      · exact (hk2 rfl).elim
      · exact (hk2 q).elim
    · unfold uV at q
      rw [if_neg (by omega)] at q
      exact (h3 e he).2.2.2 q
  · rw [uV_k _ _ _ _ _ (by omega)] at hl
    rw [uI_r _ _ _ _ _ _ _ _ (by omega), uI_r _ _ _ _ _ _ _ _ (by omega), uV_k _ _ _ _ _ (by omega), uV_k _ _ _ _ _ (by omega)]
    refine ⟨(h4 a' ha hl).1, (h4 a' ha hl).2.1, fun b' hb hc => ?_⟩
    rw [uI_r _ _ _ _ _ _ _ _ (by omega), uV_k _ _ _ _ _ (by omega)]
    exact (h4 a' ha hl).2.2 b' hb hc
  · have ha := (Sa_uV hk a').mp ha
    have h6 := h5 a' ha
    rw [uI_r _ _ _ _ _ _ _ _ (by omega), uI_r _ _ _ _ _ _ _ _ (by omega), uI_r _ _ _ _ _ _ _ _ (by omega), uV_k _ _ _ _ _ (by omega), uV_k _ _ _ _ _ (by omega), uV_k _ _ _ _ _ (by omega)]
    refine ⟨h6.1, h6.2.1, h6.2.2.1, fun s hs => ?_⟩
    rw [uI_r _ _ _ _ _ _ _ _ (by omega), uV_k _ _ _ _ _ (by omega), uV_k _ _ _ _ _ (by omega), uV_k _ _ _ _ _ (by omega), uV_k _ _ _ _ _ (by omega), uV_k _ _ _ _ _ (by omega)]
    exact h6.2.2.2 s hs
/-- scratch of the model -/
def Sm (r : Nat) : Prop := r < 81 ∨ r = 84 ∨ (119 ≤ r ∧ r ≤ 132 ∧ r ≠ 126) ∨ r = 167 ∨ r = 168 ∨ 170 ≤ r
theorem RM_sm {m : Mm} {V : Vt} (h : RM m V) {k p b : Nat} {x : Int32} (hk : Sm k) : RM (ab_uI m k p b x) V := by
  unfold Sm at hk
  obtain ⟨h1, h2, h3, h4, h5⟩ := h
  refine ⟨fun k' a' b' t' z' => ?_, ?_, fun e he => ?_, fun a' ha hl => ?_, fun a' ha => ?_⟩
  · have := mr_in k' (Ts_k t').1
    rw [uI_r _ _ _ _ _ _ _ _ (by omega)]; exact h1 k' a' b' t' z'
  · rw [uI_r _ _ _ _ _ _ _ _ (by omega), uI_r _ _ _ _ _ _ _ _ (by omega), uI_r _ _ _ _ _ _ _ _ (by omega)]; exact h2
  · rw [uI_r _ _ _ _ _ _ _ _ (by omega), uI_r _ _ _ _ _ _ _ _ (by omega), uI_r _ _ _ _ _ _ _ _ (by omega), uI_r _ _ _ _ _ _ _ _ (by omega)]; exact h3 e he
  · rw [uI_r _ _ _ _ _ _ _ _ (by omega), uI_r _ _ _ _ _ _ _ _ (by omega)]
    refine ⟨(h4 a' ha hl).1, (h4 a' ha hl).2.1, fun b' hb hc => ?_⟩
    rw [uI_r _ _ _ _ _ _ _ _ (by omega)]
    exact (h4 a' ha hl).2.2 b' hb hc
  · have h6 := h5 a' ha
    rw [uI_r _ _ _ _ _ _ _ _ (by omega), uI_r _ _ _ _ _ _ _ _ (by omega), uI_r _ _ _ _ _ _ _ _ (by omega)]
    refine ⟨h6.1, h6.2.1, h6.2.2.1, fun s hs => ?_⟩
    rw [uI_r _ _ _ _ _ _ _ _ (by omega)]
    exact h6.2.2.2 s hs
end
