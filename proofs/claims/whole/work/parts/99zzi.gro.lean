section
/-! How much a call makes. -/
def Gr (m m' : Mm) : Prop := m.2.2.2.1.length ≤ m'.2.2.2.1.length ∧ ab_gc m' ≤ ab_gc m + 6 ∧ ab_gs KT m' ≤ ab_gs KT m + 28
theorem Gr_kp {m m' : Mm} (h : ab_kp m m') : Gr m m' := by
  unfold ab_kp at h
  unfold Gr ab_gc ab_gs
  rw [h]
  omega
theorem Gr_kp2 {m m' m'' : Mm} (h : Gr m m') (h' : ab_kp m' m'') : Gr m m'' := by
  unfold ab_kp at h'
  unfold Gr ab_gc ab_gs at *
  rw [h']
  exact h
theorem kq_Row_begin {a : Nat} {b c : Int32} {m m' : Mm} (h : r_Row_begin a b c m = some m') : ab_kp m m' := kp_Row_begin (av := [.inr (.inr (4, some a)), .inl b, .inl c]) (by simp only [c_Row_begin, if_true, Option.bind_some]; exact h)
theorem kq_End_isOpen {a : Nat} {m : Mm} {r : Int32 × Mm} (h : r_End_isOpen a m = some r) : ab_kp m r.2 := kp_End_isOpen (av := [.inr (.inr (7, some a))]) (by simp only [c_End_isOpen, if_true, Option.bind_some]; exact h)
theorem kq_End_putClose {a b : Nat} {m m' : Mm} (h : r_End_putClose a b m = some m') : ab_kp m m' := kp_End_putClose (av := [.inr (.inr (7, some a)), .inr (.inr (4, some b))]) (by simp only [c_End_putClose, if_true, Option.bind_some]; exact h)
theorem kq_End_putFrames {a b c : Nat} {m m' : Mm} (h : r_End_putFrames a b c m = some m') : ab_kp m m' := kp_End_putFrames (av := [.inr (.inr (7, some a)), .inr (.inr (4, some b)), .inr (.inr (22, some c))]) (by simp only [c_End_putFrames, if_true, Option.bind_some]; exact h)
theorem kq_Row_roomLeft {a : Nat} {m : Mm} {r : Int32 × Mm} (h : r_Row_roomLeft a m = some r) : ab_kp m r.2 := kp_Row_roomLeft (av := [.inr (.inr (4, some a))]) (by simp only [c_Row_roomLeft, if_true, Option.bind_some]; exact h)
theorem kq_Row_seal {a : Nat} {b : Int32} {m m' : Mm} (h : r_Row_seal a b m = some m') : ab_kp m m' := kp_Row_seal (av := [.inr (.inr (4, some a)), .inl b]) (by simp only [c_Row_seal, if_true, Option.bind_some]; exact h)
theorem kq_Otf_mark {a b : Nat} {c : Int32} {m m' : Mm} (h : r_Otf_mark a b c m = some m') : ab_kp m m' := kp_Otf_mark (av := [.inr (.inr (17, some a)), .inr (.inr (22, some b)), .inl c]) (by simp only [c_Otf_mark, if_true, Option.bind_some]; exact h)
theorem kq_t {a b c : Mm} (h : ab_kp a b) (h' : ab_kp b c) : ab_kp a c := h'.trans h
theorem mk_67 {f v0 v1 v3 : Nat} {v2 : Int32} {M r : Mm} {x : Option AV} (h : b_End_makePacket_67 (f + 2) v0 v1 v2 v3 M = some (.inl (x, r))) : ab_kp M r := by
  rw [b_End_makePacket_67_eq] at h
  obtain ⟨z1, e1, h⟩ := Option.bind_eq_some_iff.mp h
  have q1 := kq_Row_roomLeft e1
  split at h
  · have h := Sum.inl.inj (Option.some.inj h)
    have h := congrArg Prod.snd h
    dsimp only at h
    rw [← h]
    exact q1
  · obtain ⟨m2, e2, h⟩ := Option.bind_eq_some_iff.mp h
    obtain ⟨m3, e3, h⟩ := Option.bind_eq_some_iff.mp h
    obtain ⟨i4, e4, h⟩ := Option.bind_eq_some_iff.mp h
    have q3 := kq_t (kq_t q1 (kq_Row_seal e2)) (kq_Otf_mark e3)
    simp only [lt_eq] at h
    split at h
    · rw [b_End_makePacket_132_eq] at h
      have h := congrArg Prod.snd (Sum.inl.inj (Option.some.inj h))
      dsimp only at h
      rw [← h]
      exact q3
    · obtain ⟨y, e5, h⟩ := Option.bind_eq_some_iff.mp h
      rw [b_End_makePacket_132_eq] at h
      have h := congrArg Prod.snd (Sum.inl.inj (Option.some.inj h))
      dsimp only at h
      rw [← h]
      exact q3
theorem mk_34 {f v0 v1 v3 : Nat} {v2 : Int32} {M r : Mm} {x : Option AV} (h : b_End_makePacket_34 (f + 3) v0 v1 v2 v3 M = some (.inl (x, r))) : ab_kp M r := by
  rw [b_End_makePacket_34_eq] at h
  obtain ⟨m1, e1, h⟩ := Option.bind_eq_some_iff.mp h
  obtain ⟨z2, e2, h⟩ := Option.bind_eq_some_iff.mp h
  have q := kq_t (kq_Row_begin e1) (kq_End_isOpen e2)
  split at h
  · obtain ⟨m3, e3, h⟩ := Option.bind_eq_some_iff.mp h
    exact kq_t (kq_t q (kq_End_putClose e3)) (mk_67 h)
  · obtain ⟨m3, e3, h⟩ := Option.bind_eq_some_iff.mp h
    exact kq_t (kq_t q (kq_End_putFrames e3)) (mk_67 h)
theorem mk_0 {v0 v1 : Nat} {v2 : Int32} {m m' : Mm} {x : Option AV} (h : b_End_makePacket_0 50000 v0 v1 v2 m = some (.inl (x, m'))) : m' = m := by
  have h26 : ∀ f, b_End_makePacket_26 (f + 1) v0 v1 v2 m = some (.inl (x, m')) → False := by
    intro f h
    rw [b_End_makePacket_26_eq] at h
    simp only [lt_eq] at h
    obtain ⟨m3, e3, h⟩ := Option.bind_eq_some_iff.mp h
    cases h
  rw [b_End_makePacket_0_eq, r_End_isOpen_spec] at h
  by_cases h1 : (512 : Int32) ≤ m.1 21 v0 0
  · rw [if_pos h1] at h
    exact (congrArg Prod.snd (Sum.inl.inj (Option.some.inj h))).symm
  · rw [if_neg h1] at h
    have h : (if (if m.1 22 v0 0 = -1 then (1 : Int32) else 0) = 0 then (if m.1 28 v0 0 = 0 then some (Sum.inl (some (Sum.inl (-1 : Int32)), m)) else b_End_makePacket_26 49999 v0 v1 v2 m) else b_End_makePacket_26 49999 v0 v1 v2 m) = some (.inl (x, m')) := h
    by_cases h2 : (if m.1 22 v0 0 = -1 then (1 : Int32) else 0) = 0
    · rw [if_pos h2] at h
      by_cases h3 : m.1 28 v0 0 = 0
      · rw [if_pos h3] at h
        exact (congrArg Prod.snd (Sum.inl.inj (Option.some.inj h))).symm
      · rw [if_neg h3] at h
        exact (h26 49998 h).elim
    · rw [if_neg h2] at h
      exact (h26 49998 h).elim
theorem gr_mk {v0 v1 : Nat} {v2 : Int32} {m : Mm} {r : Int32 × Mm} (h : r_End_makePacket v0 v1 v2 m = some r) : Gr m r.2 := by
  rw [r_End_makePacket_eq] at h
  split at h
  · rename_i v m' hb
    have e := Option.some.inj h
    subst e
    rw [mk_0 hb]
    exact Gr_kp rfl
  · rename_i x1 x2 x3 m1 hb
    have hc := mkp_stop hb
    simp only [Prod.mk.injEq] at hc
    obtain ⟨-, -, -, rfl⟩ := hc
    have h2 := mk_34 (f := 49997) (ab_rI_inv h)
    obtain ⟨-, -, -, g1, g2⟩ := snt_rk (cl := CL) (m := m)
    refine Gr_kp2 (m' := ab_ks (snt_m m.2.2.2.1.length (ab_ap m 82)) ((snt_m m.2.2.2.1.length (ab_ap m 82)).2.2.2.1.set m.2.2.2.1.length 22)) ?_ h2
    have hat : (snt_m m.2.2.2.1.length (ab_ap m 82)).2.2.2.1 = m.2.2.2.1 ++ [82, 23, 24, 25, 26, 27] := by
      show m.2.2.2.1 ++ [82] ++ [23] ++ [24] ++ [25] ++ [26] ++ [27] = _
      simp
    have hj : (snt_m m.2.2.2.1.length (ab_ap m 82)).2.2.2.2 = m.2.2.2.2 := rfl
    have hs : ((m.2.2.2.1 ++ [82, 23, 24, 25, 26, 27]).map (ab_len KT)).sum = (m.2.2.2.1.map (ab_len KT)).sum + 28 := by
      rw [List.map_append, List.sum_append]
      rfl
    unfold Gr ab_gc ab_gs ab_ks
    dsimp only
    rw [g1, g2, hat, hj, hs, List.length_append]
    simp only [List.length_cons, List.length_nil]
    omega
  · cases h
theorem gr_X_send {v0 : Nat} {v1 : Int32} {m : Mm} {r : Int32 × Mm} (h : r_X_send v0 v1 m = some r) : Gr m r.2 := by
  have h50 : ∀ (f : Nat) (u : Int32) (E : Nat) (q : Option Nat) (r : Int32 × Mm), ab_rI (b_X_send_50 (f + 1) v0 u E q m) = some r → Gr m r.2 := by
    intro f u E q r h
    have h := ab_rI_inv h
    rw [b_X_send_50_eq] at h
    obtain ⟨z, e1, h⟩ := Option.bind_eq_some_iff.mp h
    obtain ⟨q1, -, e1⟩ := Option.bind_eq_some_iff.mp e1
    have g := gr_mk e1
    split at h
    · have h := congrArg Prod.snd (Sum.inl.inj (Option.some.inj h))
      dsimp only at h
      rw [← h]
      exact g
    · split at h
      · have h := congrArg Prod.snd (Sum.inl.inj (Option.some.inj h))
        dsimp only at h
        rw [← h]
        exact g
      · simp only [lt_eq] at h
        have h := congrArg Prod.snd (Sum.inl.inj (Option.some.inj h))
        dsimp only at h
        rw [← h]
        exact Gr_kp2 g rfl
  have h23 : ∀ (f : Nat) (u : Int32), ab_rI (b_X_send_23 (f + 2) v0 v1 u m) = some r → Gr m r.2 := by
    intro f u h
    rw [b_X_send_23_eq] at h
    cases e : ab_ix v1 2 with
    | none => rw [e] at h; cases h
    | some i =>
      rw [e] at h
      simp only [ob_s] at h
      split at h
      · exact h50 _ _ _ _ _ h
      · cases e2 : ab_ix (m.1 5 v0 0) 16 with
        | none => rw [e2] at h; cases h
        | some i2 =>
          rw [e2] at h
          simp only [ob_s] at h
          exact h50 _ _ _ _ _ h
  rw [r_X_send_eq, b_X_send_0_eq, s_isEnd] at h
  simp only [ob_s] at h
  split at h
  · rw [rI_some] at h
    cases h
    exact Gr_kp rfl
  · split at h
    · exact h23 _ _ h
    · exact h23 _ _ h
end
