section
/-! A new packet's record. -/
/-- the fields of the packet a are free -/
def FV (V V' : Vt) (a : Nat) : Prop := ∀ k a' b, (k < 68 ∨ a' ≠ a) → V' k a' b = V k a' b
theorem Sa_FV {V V' : Vt} {a : Nat} (h : FV V V' a) (a' : Nat) : Sa V' a' ↔ Sa V a' := by
  unfold Sa
  rw [h 21 _ _ (.inl (by omega))]
theorem RC_FV {m : Mm} {V V' : Vt} {w W : Nat → Nat} {a : Nat} (h : RC m V w W) (hv : FV V V' a) (ha : ¬ Sa V a) : RC m V' w W := by
  obtain ⟨h1, h2, h3, h4, h5, h6, h7⟩ := h
  have o : ∀ k a' b, k < 68 → V' k a' b = V k a' b := fun k a' b q => hv k a' b (.inl q)
  refine ⟨fun k' a' b' t => ?_, h2, fun a' ha' hl => ?_, fun a' ha' => ?_, h5, h6, ?_⟩
  · rw [o _ _ _ (Ts_k t).1]
    exact h1 k' a' b' t
  · rw [o _ _ _ (by omega)] at hl
    rw [o _ _ _ (by omega), o _ _ _ (by omega)]
    refine ⟨(h3 a' ha' hl).1, (h3 a' ha' hl).2.1, fun b hb => ?_⟩
    rw [o _ _ _ (by omega)]
    exact (h3 a' ha' hl).2.2 b hb
  · have sa := (Sa_FV hv a').mp ha'
    refine ⟨(h4 a' sa).1, fun k' b' t => ?_⟩
    rw [hv _ _ _ (.inr (fun y => ha (y ▸ sa)))]
    exact (h4 a' sa).2 k' b' t
  · exact ⟨fun x hx => h7.1 x ((Sa_FV hv x).mp hx), fun x y hx hy => h7.2 x y ((Sa_FV hv x).mp hx) ((Sa_FV hv y).mp hy)⟩
theorem RM_FV {m : Mm} {V V' : Vt} {a : Nat} (h : RM m V) (hv : FV V V' a) (ha : ¬ Sa V a) : RM m V' := by
  obtain ⟨h1, h2, h3, h4, h5⟩ := h
  have o : ∀ k a' b, k < 68 → V' k a' b = V k a' b := fun k a' b q => hv k a' b (.inl q)
  refine ⟨fun k' a' b' t z => ?_, ?_, fun e he => ?_, fun a' ha' hl => ?_, fun a' ha' => ?_⟩
  · rw [o _ _ _ (Ts_k t).1]
    exact h1 k' a' b' t z
  · rw [o _ _ _ (by omega), o _ _ _ (by omega), o _ _ _ (by omega)]
    exact h2
  · rw [o _ _ _ (by omega), o _ _ _ (by omega), o _ _ _ (by omega), o _ _ _ (by omega), o _ _ _ (by omega), o _ _ _ (by omega)]
    exact h3 e he
  · rw [o _ _ _ (by omega)] at hl
    rw [o _ _ _ (by omega), o _ _ _ (by omega)]
    refine ⟨(h4 a' ha' hl).1, (h4 a' ha' hl).2.1, fun b hb hc => ?_⟩
    rw [o _ _ _ (by omega)]
    exact (h4 a' ha' hl).2.2 b hb hc
  · have sa := (Sa_FV hv a').mp ha'
    have ne : a' ≠ a := fun y => ha (y ▸ sa)
    rw [hv _ _ _ (.inr ne), hv _ _ _ (.inr ne), hv _ _ _ (.inr ne)]
    refine ⟨(h5 a' sa).1, (h5 a' sa).2.1, (h5 a' sa).2.2.1, fun s hs => ?_⟩
    rw [hv _ _ _ (.inr ne), hv _ _ _ (.inr ne), hv _ _ _ (.inr ne), hv _ _ _ (.inr ne), hv _ _ _ (.inr ne)]
    exact (h5 a' sa).2.2.2 s hs
theorem Iv_FV {c : Nat} {V V' : Vt} {a : Nat} (h : Iv c V) (hv : FV V V' a) (ha : ¬ Sa V a) : Iv c V' := by
  obtain ⟨i1, i2, i3, i4, i5, i6⟩ := h
  have o : ∀ k a' b, k < 68 → V' k a' b = V k a' b := fun k a' b q => hv k a' b (.inl q)
  refine ⟨fun a ha => ?_, fun a ha => ?_, fun e he => ?_, ?_, fun a ha hl => ?_, fun a' ha' => ?_⟩
  · have := i1 a ha
    unfold IO at *
    simp only [o 59 _ _ (by omega), o 60 _ _ (by omega), o 61 _ _ (by omega), o 62 _ _ (by omega), o 64 _ _ (by omega), o 66 _ _ (by omega), o 67 _ _ (by omega)]
    exact this
  · have := i2 a ha
    unfold IN at *
    simp only [o 47 _ _ (by omega), o 48 _ _ (by omega), o 49 _ _ (by omega), o 50 _ _ (by omega), o 51 _ _ (by omega), o 52 _ _ (by omega), o 53 _ _ (by omega)]
    exact this
  · have := i3 e he
    unfold IE hb at *
    simp only [o 21 _ _ (by omega), o 22 _ _ (by omega), o 23 _ _ (by omega), o 24 _ _ (by omega), o 25 _ _ (by omega), o 26 _ _ (by omega), o 30 _ _ (by omega), o 31 _ _ (by omega), o 41 _ _ (by omega), o 42 _ _ (by omega), o 43 _ _ (by omega), o 44 _ _ (by omega), o 55 _ _ (by omega), o 7 _ _ (by omega), o 8 _ _ (by omega), o 28 _ _ (by omega)]
    exact this
  · unfold IX at *
    simp only [o 5 _ _ (by omega), o 6 _ _ (by omega), o 7 _ _ (by omega), o 14 _ _ (by omega)]
    exact i4
  · rw [o _ _ _ (by omega)] at hl
    have := i5 a ha hl
    unfold IR at *
    simp only [o 11 _ _ (by omega), o 12 _ _ (by omega), o 13 _ _ (by omega)]
    exact this
  · have sa := (Sa_FV hv a').mp ha'
    have ne : a' ≠ a := fun y => ha (y ▸ sa)
    have n : ∀ k b, V' k a' b = V k a' b := fun k b => hv k a' b (.inr ne)
    have := i6 a' sa
    unfold IS at *
    simp only [n, o 60 _ _ (by omega), o 62 _ _ (by omega)]
    exact this
def frF (k : Nat) : Int32 := if k = 68 then 1 else if k = 70 ∨ k = 76 then -1 else 0
def frV (V : Vt) (a : Nat) : Vt := fun k a' b => if a' = a ∧ 68 ≤ k then frF k else V k a' b
theorem FV_fr (V : Vt) (a : Nat) : FV V (frV V a) a := fun k a' b h => if_neg (by omega)
theorem fr_s {V : Vt} {a k b : Nat} (h : 68 ≤ k) : frV V a k a b = frF k := if_pos ⟨rfl, h⟩
/-- the class's memory behind 'new Sent()' -/
def M0 (m : Mm) : Mm := ab_ks (snt_m m.2.2.2.1.length (ab_ap m 82)) ((snt_m m.2.2.2.1.length (ab_ap m 82)).2.2.2.1.set m.2.2.2.1.length 22)
theorem M0_1 (m : Mm) (r p j : Nat) : (M0 m).1 r p j = if r = 76 ∧ p = m.2.2.2.1.length + 1 ∧ 0 ≤ j ∧ j < 4 then -1 else if r = 70 ∧ p = m.2.2.2.1.length ∧ j = 0 then -1 else if r = 68 ∧ p = m.2.2.2.1.length ∧ j = 0 then 1 else m.1 r p j := rfl
theorem M0_r (m : Mm) {r p j : Nat} (h : r < 71) : (M0 m).2.2.1 r p j = m.2.2.1 r p j := by
  show (if r = 75 ∧ p = m.2.2.2.1.length ∧ j = 0 then some (m.2.2.2.1.length + 5) else if r = 74 ∧ p = m.2.2.2.1.length ∧ j = 0 then some (m.2.2.2.1.length + 4) else if r = 73 ∧ p = m.2.2.2.1.length ∧ j = 0 then some (m.2.2.2.1.length + 3) else if r = 72 ∧ p = m.2.2.2.1.length ∧ j = 0 then some (m.2.2.2.1.length + 2) else if r = 71 ∧ p = m.2.2.2.1.length ∧ j = 0 then some (m.2.2.2.1.length + 1) else m.2.2.1 r p j) = _
  rw [if_neg (by omega), if_neg (by omega), if_neg (by omega), if_neg (by omega), if_neg (by omega)]
theorem M0_l (m : Mm) : (M0 m).2.2.2.1.length = m.2.2.2.1.length + 6 := by
  show ((m.2.2.2.1 ++ [82] ++ [23] ++ [24] ++ [25] ++ [26] ++ [27]).set m.2.2.2.1.length 22).length = _
  rw [List.length_set]
  simp only [List.length_append, List.length_cons, List.length_nil]
theorem FM_M0 (m : Mm) : FM m (M0 m) := by
  intro r hr
  funext p j
  rw [M0_1, if_neg (by omega), if_neg (by omega), if_neg (by omega)]
theorem RC_M0 {m : Mm} {V : Vt} {w W : Nat → Nat} (h : RC m V w W) : RC (M0 m) V w W := by
  obtain ⟨h1, h2, h3, h4, h5, h6, h7⟩ := h
  have k : ∀ r p j, r < 68 → (M0 m).1 r p j = m.1 r p j := fun r p j hr => by rw [M0_1, if_neg (by omega), if_neg (by omega), if_neg (by omega)]
  refine ⟨fun k' a' b' t => ?_, fun a ha => ?_, fun a' ha' hl => ?_, fun a' ha' => ⟨?_, fun k' b' t => ?_⟩, fun e he => ?_, h6, ?_⟩
  · rw [k _ _ _ (Ts_k t).1]
    exact h1 k' a' b' t
  · rw [M0_r m (by omega)]
    exact h2 a ha
  · rw [k _ _ _ (by omega), k _ _ _ (by omega)]
    refine ⟨(h3 a' ha' hl).1, (h3 a' ha' hl).2.1, fun b hb => ?_⟩
    rw [k _ _ _ (by omega)]
    exact (h3 a' ha' hl).2.2 b hb
  · rw [M0_r m (by omega)]
    exact (h4 a' ha').1
  · have wl := (h7.1 a' ha').2
    have tk := TS_k t
    have ok : ofk k' ≤ 5 := by
      unfold ofk
      split <;> omega
    rw [M0_1, if_neg (by omega), if_neg (by omega), if_neg (by omega)]
    exact (h4 a' ha').2 k' b' t
  · rw [k _ _ _ (by omega)]
    exact h5 e he
  · rw [M0_l]
    exact ⟨fun x hx => ⟨(h7.1 x hx).1, by have := (h7.1 x hx).2; omega⟩, h7.2⟩
/-- nothing lies behind the memory's end -/
def Zr (m : Mm) : Prop := ∀ r q j, m.2.2.2.1.length ≤ q → m.1 r q j = 0
theorem Pk_M0 {m : Mm} {V : Vt} {a : Nat} (hz : Zr m) : Pk (M0 m) m.2.2.2.1.length (frV V a) a := by
  intro k b t
  have tk := TS_k t
  rw [fr_s tk.1, M0_1]
  unfold frF
  unfold TS at t
  rcases t with ⟨y, rfl⟩ | ⟨y1, y2, y3⟩
  · have o : ofk k = 0 := by
      unfold ofk
      rw [if_pos (by omega)]
    rw [o, Nat.add_zero]
    rcases y with rfl | rfl | rfl
    · rw [if_neg (by omega), if_neg (by omega), if_pos ⟨rfl, rfl, rfl⟩, if_pos rfl]
    · rw [if_neg (by omega), if_neg (by omega), if_neg (by omega), if_neg (by omega), if_neg (by omega)]
      exact hz _ _ _ (Nat.le_refl _)
    · rw [if_neg (by omega), if_pos ⟨rfl, rfl, rfl⟩, if_neg (by omega), if_pos (.inl rfl)]
  · have o : ofk k = k - 75 := by
      unfold ofk
      rw [if_neg (by omega)]
    rw [o]
    by_cases z : k = 76
    · subst z
      rw [if_pos ⟨rfl, rfl, by omega, y3⟩, if_neg (by omega), if_pos (.inr rfl)]
    · rw [if_neg (by omega), if_neg (by omega), if_neg (by omega), if_neg (by omega), if_neg (by omega)]
      exact hz _ _ _ (by omega)
theorem F2_fr {V : Vt} {a : Nat} : F2 (frV V a) a := by
  intro s hs
  rw [fr_s (by omega), fr_s (by omega), fr_s (by omega), fr_s (by omega), fr_s (by omega)]
  decide
/-- the model begins a packet -/
theorem t_s0 {m : Mm} {V : Vt} {e N a : Nat} (h : RM m V) (he : e < 2) (hN : N < 512) (h21 : V 21 e 0 = nI N) (haa : a = 560 * e + N) (ha : ¬ Sa V a) : ∃ mm, r_M_send 98 (nI e) m = ab_rI (b_M_send_46 49995 98 (nI e) (nI a) 0 (nI 4) mm) ∧ RM mm V ∧ RM mm (frV V a) ∧ PM mm (frV V a) a ∧ ML mm [] ∧ FC m mm := by
  have ha5 : a < 1120 := by omega
  have k1 : ∀ m', RM m' V → m'.1 151 (98 + 19) e = nI N := fun m' h' => (n21 h' he (p := 98 + 19) rfl rfl).trans h21
  have h1 : RM (ab_uI m 84 98 0 0) V := RM_sm h (by unfold Sm; omega)
  have h2 : RM (ab_uI (ab_uI (ab_uI m 84 98 0 0) 125 98 0 0) 164 (98 + 32) a (-1)) V := RM_pw (RM_sm h1 (by unfold Sm; omega)) (a := a) (.inl ⟨by omega, by omega, rfl⟩) ha
  have f2 : FC m (ab_uI (ab_uI (ab_uI m 84 98 0 0) 125 98 0 0) 164 (98 + 32) a (-1)) := FC_tr (FC_tr (FC_uI (by omega)) (FC_uI (by omega))) (FC_uI (by omega))
  have q1 : (ab_uI (ab_uI (ab_uI m 84 98 0 0) 125 98 0 0) 164 (98 + 32) a (-1)).1 164 130 a = -1 := uI_s _ _ _ _ _
  have q2 : (ab_uI (ab_uI (ab_uI m 84 98 0 0) 125 98 0 0) 164 (98 + 32) a (-1)).1 125 98 0 = 0 := by
    rw [uI_r _ _ _ _ _ _ _ _ (by omega), uI_s]
  have run : r_M_send 98 (nI e) m = ab_rI (b_M_send_46 49999 98 (nI e) (nI a) 0 (nI 0) (ab_uI (ab_uI (ab_uI m 84 98 0 0) 125 98 0 0) 164 (98 + 32) a (-1))) := by
    rw [r_M_send_eq, b_M_send_0_eq]
    simp only [lt_eq]
    rw [t_in]
    simp only [ob_s, ib_if]
    rw [if_pos (show (0 : Int32) ≤ nI e ∧ nI e ≤ 1 by clear h h1 h2 f2 q1 q2 k1 h21 ha; grind [nI_T]), ab_ix_nI he (by decide)]
    simp only [ob_s]
    rw [k1 _ h1, nI_560, ← haa, ab_ix_nI ha5 (by decide)]
    simp only [ob_s]
    rfl
  revert h2 f2 q1 q2 run
  generalize ab_uI (ab_uI (ab_uI m 84 98 0 0) 125 98 0 0) 164 (98 + 32) a (-1) = M
  intro h2 f2 q1 q2 run
  have loop : ∀ (j i f : Nat) (M1 : Mm), i + j = 4 → RM M1 V → FC m M1 → M1.1 164 130 a = -1 → M1.1 125 98 0 = 0 → (∀ s, s < i → M1.1 165 131 (4 * a + s) = 0) → ∃ mm, b_M_send_46 (f + j) 98 (nI e) (nI a) 0 (nI i) M1 = b_M_send_46 f 98 (nI e) (nI a) 0 (nI 4) mm ∧ RM mm V ∧ FC m mm ∧ mm.1 164 130 a = -1 ∧ mm.1 125 98 0 = 0 ∧ (∀ s, s < 4 → mm.1 165 131 (4 * a + s) = 0) := by
    intro j
    induction j with
    | zero =>
      intro i f M1 hi a1 a2 a3 a4 a5
      obtain rfl : i = 4 := by omega
      exact ⟨M1, rfl, a1, a2, a3, a4, a5⟩
    | succ j ih =>
      intro i f M1 hi a1 a2 a3 a4 a5
      have st : b_M_send_46 (f + (j + 1)) 98 (nI e) (nI a) 0 (nI i) M1 = b_M_send_46 (f + j) 98 (nI e) (nI a) 0 (nI (i + 1)) (ab_uI M1 165 (98 + 33) (4 * a + i) 0) := by
        rw [show f + (j + 1) = f + j + 1 from rfl, b_M_send_46_eq, if_neg (by clear ih a1 a2 a3 a4 a5 h h1 h2 f2 q1 q2 run k1 h21 ha; grind [nI_T]), nI4a, ab_ix_nI (show 4 * a + i < 4480 by omega) (by decide)]
        simp only [ob_s, lt_eq]
        rw [nI_1]
      rw [st]
      refine ih (i + 1) f _ (by omega) (RM_pw a1 (a := a) (.inr ⟨rfl, by omega⟩) ha) (FC_tr a2 (FC_uI (by omega))) ?_ ?_ ?_
      · rw [uI_r _ _ _ _ _ _ _ _ (by omega)]
        exact a3
      · rw [uI_r _ _ _ _ _ _ _ _ (by omega)]
        exact a4
      · intro s hs
        rw [uI_1]
        by_cases z : s = i
        · rw [if_pos ⟨rfl, rfl, by omega⟩]
        · rw [if_neg (by omega)]
          exact a5 s (by omega)
  obtain ⟨mm, b1, b2, b3, b4, b5, b6⟩ := loop 4 0 49995 M (by omega) h2 f2 q1 q2 (fun s hs => by omega)
  refine ⟨mm, by rw [run]; exact congrArg ab_rI b1, b2, RM_FV b2 (FV_fr V a) ha, ⟨by rw [b4, fr_s (by omega)]; rfl, fun s hs => ?_⟩, ⟨b5, fun j hj => absurd hj (Nat.not_lt_zero _)⟩, b3⟩
  rw [b6 s hs, fr_s (by omega), fr_s (by omega), fr_s (by omega), fr_s (by omega), fr_s (by omega)]
  exact enc0.symm
end
