section
/-! The law, whole. -/
set_option maxRecDepth 100000 in
theorem whole_start {p : Program} {e : Env} {s : State} {m : MethodId} {below : List Frame} {meth : Method} {c : Code} (l : Launch) (hl : l.flags = flags0) {b L : Nat} {xs : Nat → Int32} (hL : L ≤ 3074) (C0 : lw_At p s m meth c b L xs) : W p l e room_1 s m #[Value.ref b] below meth c s.heap [] 0 0 (lw_Z below #[Value.ref b] s) (entryFrame m ([Value.ref b] : List Value).toArray 7) := by
  have C1 := C0
  obtain ⟨hx, hb, hr, hml, hown, hts, hXs, hbl, hlocks, hgv⟩ := C1
  have htg : ∀ w ∈ ab_gW, w.before #[Value.ref b] s = true := fun w h => hts w (List.mem_filter.mp h).1
  have hX := bg_X hts
  obtain ⟨D, hK0⟩ := bg_K hts
  have hA : ∀ q : Nat, s.heap.size ≤ q → (fun q => s.heap.size ≤ q) q := fun q h => h
  have hG : 601024 ≤ 0 + room_1.cells := by decide
  have hHs : 7293000 ≤ 0 + room_1.slots := by decide
  have hsc : ∀ z, some (L, xs) = some z → va_X b z.1 z.2 s s.heap ∧ b < s.heap.size ∧ ¬ (fun q => s.heap.size ≤ q) b := fun z hz => by
    cases hz
    exact ⟨hXs, hbl, Nat.not_le.mpr hbl⟩
  obtain ⟨x, y, hrun⟩ := run_a (sL := L) (sX := xs) hL 0
  obtain ⟨g1, g2, g3, g4, g5⟩ := lm_rk x y
  have hloop : lg_W p l e s m below meth c b L xs D (43, LW 0 (nI 2), [], ab_ks (lm x y) fks) := by
    have f1 := fks_len
    have f2 := fks_sum
    have e0 : (lm x y).2.2.2.2 = (0, 0) := by
      rw [lm_2 x y]
      decide +kernel
    have c1 : ab_gc (ab_ks (lm x y) fks) = 139 := by
      show fks.length + (lm x y).2.2.2.2.1 = 139
      rw [e0, f1]
      rfl
    have c2 : ab_gs KT (ab_ks (lm x y) fks) ≤ 100000 := by
      show (fks.map (ab_len KT)).sum + (lm x y).2.2.2.2.2 ≤ 100000
      rw [e0]
      exact f2
    exact lg_loop hl C0 hK0 hL 512 0 2 _ (by omega) (by omega) (by omega) (St_lm x y fks) (by show 139 ≤ fks.length; rw [f1]; omega) (by rw [c1]; omega) (by omega)
  have h43 : lg_W p l e s m below meth c b L xs D (43, [some (.inr (.inr (0, some 0))), some (.inr (.inr (69, some 0))), some (.inr (.inr (83, some 98))), some (.inr (.inr (68, some 138))), some (.inl 2), none, none], [], lm x y) := by
    refine ab_relab (L' := LW 0 (nI 2)) (S' := []) (fun ad ac _ => g1 ad ac) g2 g3 g4 g5 (fun i k h => by cases h) ⟨rfl, fun i v' hv' => ?_⟩ ⟨fun _ => rfl, fun _ v hv => by cases hv⟩ hloop
    match i, hv' with
    | 0, hv' => exact ⟨v', hv', fun _ => rfl, fun _ => by cases hv'; rfl⟩
    | 1, hv' => cases hv'; exact ⟨_, rfl, fun _ => rfl, fun _ => ab_vvo fun q hq => by cases hq; exact ⟨by decide, by decide +kernel⟩⟩
    | 2, hv' => cases hv'; exact ⟨_, rfl, fun _ => rfl, fun _ => ab_vvo fun q hq => by cases hq; exact ⟨by decide, by decide +kernel⟩⟩
    | 3, hv' => cases hv'; exact ⟨_, rfl, fun _ => rfl, fun _ => ab_vvo fun q hq => by cases hq; exact ⟨by decide, by decide +kernel⟩⟩
    | 4, hv' => cases hv'; exact ⟨_, rfl, fun _ => rfl, fun _ => trivial⟩
    | 5, hv' => cases hv'
    | 6, hv' => cases hv'
    | i + 7, hv' => cases hv'
  have hw0 : lg_W p l e s m below meth c b L xs D (0, ab_L0 7 [.inr (.inr (0, some 0))], [], mem0) := by
    refine ab_soundQ (own := R_law) (cc := code) hX hx hb htg hown hK0 KT_0 KT_nd KT_k3 hA hG hHs hsc hlocks (ρ := .inr (43, [some (.inr (.inr (0, some 0))), some (.inr (.inr (69, some 0))), some (.inr (.inr (83, some 98))), some (.inr (.inr (68, some 138))), some (.inl 2), none, none], [], lm x y)) (fun r m' h => by cases h) (fun c' hc' => by cases hc'; exact h43) (fun pc q hq => ?_) (fun pc q hq hi => ?_) 50000 0 _ [] mem0 hrun
    · rw [hr]
      exact E_Law_a meth.name pc q hq
    · exact cl_Law_a l L xs pc q hq hi p e room_1 s m _ below meth c _ D b _ _ _ _ _ _ _ _ _ hX hx hb hml htg hown hK0 hA hG hHs rfl rfl hsc
  rw [lg_entry_eq]
  have hl0 := lv_entry [Value.ref b] (n := 7) (Nat.le_of_ble_eq_true rfl)
  refine hw0.2.2 (fun _ => 0) (fun _ => 0) (lg_sl [Value.ref b] ++ List.replicate (7 - (lg_sl [Value.ref b]).length) Slot.unset).toArray s.heap [] 0 0 ⟨fun k q h => (by cases h), ⟨fun i j p q h => (by cases h), fun k q h => (by cases h)⟩, va_S.rf, fun q k r len t k' a st h => (by cases h), ok_mem0, fun q h => (by cases h), fun i k h => (by cases h), rfl, rfl⟩ ⟨rfl, ⟨hl0.1, hl0.2.1, fun q hq => ?_⟩, fun i v hv => ?_, fun v hv => by cases hv⟩
  · obtain ⟨v, h1, h2⟩ := ab_mem_al.mp hq
    rw [h2, List.getElem?_toArray]
    exact (ab_L0_at (av := [.inr (.inr (0, some 0))]) (ad := fun _ => 0) (b := b) h1).2
  · have h1 := (ab_L0_at (ad := fun _ => 0) (b := b) hv).1
    cases List.mem_singleton.mp h1
    rfl
end
