section
/-! One round of the loop. -/
theorem kq_M_write {q : Nat} {v0 v1 v2 : Int32} {l : Int64} {m : Mm} {r : Int32 × Mm} (h : r_M_write q v0 v1 v2 l m = some r) : ab_kp m r.2 := kp_M_write (av := [.inr (.inr (28, some q)), .inl v0, .inl v1, .inl v2, .inr (.inl l)]) (by simp only [c_M_write, if_true, Option.bind_some]; exact h)
theorem kq_X_finish {q : Nat} {v0 v1 : Int32} {m : Mm} {r : Int32 × Mm} (h : r_X_finish q v0 v1 m = some r) : ab_kp m r.2 := kp_X_finish (av := [.inr (.inr (1, some q)), .inl v0, .inl v1]) (by simp only [c_X_finish, if_true, Option.bind_some]; exact h)
theorem kq_M_finish {q : Nat} {v0 v1 : Int32} {m : Mm} {r : Int32 × Mm} (h : r_M_finish q v0 v1 m = some r) : ab_kp m r.2 := kp_M_finish (av := [.inr (.inr (28, some q)), .inl v0, .inl v1]) (by simp only [c_M_finish, if_true, Option.bind_some]; exact h)
theorem kq_X_reset {q : Nat} {v0 v1 : Int32} {m : Mm} {r : Int32 × Mm} (h : r_X_reset q v0 v1 m = some r) : ab_kp m r.2 := kp_X_reset (av := [.inr (.inr (1, some q)), .inl v0, .inl v1]) (by simp only [c_X_reset, if_true, Option.bind_some]; exact h)
theorem kq_M_reset {q : Nat} {v0 v1 : Int32} {m : Mm} {r : Int32 × Mm} (h : r_M_reset q v0 v1 m = some r) : ab_kp m r.2 := kp_M_reset (av := [.inr (.inr (28, some q)), .inl v0, .inl v1]) (by simp only [c_M_reset, if_true, Option.bind_some]; exact h)
theorem kq_M_read {q : Nat} {v0 v1 : Int32} {m : Mm} {r : Int32 × Mm} (h : r_M_read q v0 v1 m = some r) : ab_kp m r.2 := kp_M_read (av := [.inr (.inr (28, some q)), .inl v0, .inl v1]) (by simp only [c_M_read, if_true, Option.bind_some]; exact h)
theorem kq_X_close {q : Nat} {v0 v1 : Int32} {m : Mm} {r : Int32 × Mm} (h : r_X_close q v0 v1 m = some r) : ab_kp m r.2 := kp_X_close (av := [.inr (.inr (1, some q)), .inl v0, .inl v1]) (by simp only [c_X_close, if_true, Option.bind_some]; exact h)
theorem kq_M_close {q : Nat} {v0 v1 : Int32} {m : Mm} {r : Int32 × Mm} (h : r_M_close q v0 v1 m = some r) : ab_kp m r.2 := kp_M_close (av := [.inr (.inr (28, some q)), .inl v0, .inl v1]) (by simp only [c_M_close, if_true, Option.bind_some]; exact h)
theorem kq_M_send {q : Nat} {v0 : Int32} {m : Mm} {r : Int32 × Mm} (h : r_M_send q v0 m = some r) : ab_kp m r.2 := kp_M_send (av := [.inr (.inr (28, some q)), .inl v0]) (by simp only [c_M_send, if_true, Option.bind_some]; exact h)
theorem kq_X_deliver {q : Nat} {v0 : Int32} {m : Mm} {r : Int32 × Mm} (h : r_X_deliver q v0 m = some r) : ab_kp m r.2 := kp_X_deliver (av := [.inr (.inr (1, some q)), .inl v0]) (by simp only [c_X_deliver, if_true, Option.bind_some]; exact h)
theorem kq_M_deliver {q : Nat} {v0 : Int32} {m : Mm} {r : Int32 × Mm} (h : r_M_deliver q v0 m = some r) : ab_kp m r.2 := kp_M_deliver (av := [.inr (.inr (28, some q)), .inl v0]) (by simp only [c_M_deliver, if_true, Option.bind_some]; exact h)
theorem kq_X_lose {q : Nat} {v0 : Int32} {m : Mm} {r : Int32 × Mm} (h : r_X_lose q v0 m = some r) : ab_kp m r.2 := kp_X_lose (av := [.inr (.inr (1, some q)), .inl v0]) (by simp only [c_X_lose, if_true, Option.bind_some]; exact h)
theorem kq_M_lose {q : Nat} {v0 : Int32} {m : Mm} {r : Int32 × Mm} (h : r_M_lose q v0 m = some r) : ab_kp m r.2 := kp_M_lose (av := [.inr (.inr (28, some q)), .inl v0]) (by simp only [c_M_lose, if_true, Option.bind_some]; exact h)
theorem kq_X_copy {q : Nat} {v0 : Int32} {m : Mm} {r : Int32 × Mm} (h : r_X_copy q v0 m = some r) : ab_kp m r.2 := kp_X_copy (av := [.inr (.inr (1, some q)), .inl v0]) (by simp only [c_X_copy, if_true, Option.bind_some]; exact h)
theorem kq_M_copy {q : Nat} {v0 : Int32} {m : Mm} {r : Int32 × Mm} (h : r_M_copy q v0 m = some r) : ab_kp m r.2 := kp_M_copy (av := [.inr (.inr (28, some q)), .inl v0]) (by simp only [c_M_copy, if_true, Option.bind_some]; exact h)
theorem kq_X_spoil {q : Nat} {v0 v1 v2 : Int32} {m : Mm} {r : Int32 × Mm} (h : r_X_spoil q v0 v1 v2 m = some r) : ab_kp m r.2 := kp_X_spoil (av := [.inr (.inr (1, some q)), .inl v0, .inl v1, .inl v2]) (by simp only [c_X_spoil, if_true, Option.bind_some]; exact h)
theorem kq_M_spoil {q : Nat} {v0 v1 v2 : Int32} {m : Mm} {r : Int32 × Mm} (h : r_M_spoil q v0 v1 v2 m = some r) : ab_kp m r.2 := kp_M_spoil (av := [.inr (.inr (28, some q)), .inl v0, .inl v1, .inl v2]) (by simp only [c_M_spoil, if_true, Option.bind_some]; exact h)
theorem kq_X_raw {q : Nat} {v0 : Int32} {l : Int64} {m : Mm} {r : Int32 × Mm} (h : r_X_raw q v0 l m = some r) : ab_kp m r.2 := kp_X_raw (av := [.inr (.inr (1, some q)), .inl v0, .inr (.inl l)]) (by simp only [c_X_raw, if_true, Option.bind_some]; exact h)
theorem kq_M_raw {q : Nat} {v0 : Int32} {l : Int64} {m : Mm} {r : Int32 × Mm} (h : r_M_raw q v0 l m = some r) : ab_kp m r.2 := kp_M_raw (av := [.inr (.inr (28, some q)), .inl v0, .inr (.inl l)]) (by simp only [c_M_raw, if_true, Option.bind_some]; exact h)
theorem kq_X_craft {q : Nat} {v0 v1 : Int32} {m : Mm} {r : Int32 × Mm} (h : r_X_craft q v0 v1 m = some r) : ab_kp m r.2 := kp_X_craft (av := [.inr (.inr (1, some q)), .inl v0, .inl v1]) (by simp only [c_X_craft, if_true, Option.bind_some]; exact h)
theorem kq_M_craft {q : Nat} {v0 v1 : Int32} {m : Mm} {r : Int32 × Mm} (h : r_M_craft q v0 v1 m = some r) : ab_kp m r.2 := kp_M_craft (av := [.inr (.inr (28, some q)), .inl v0, .inl v1]) (by simp only [c_M_craft, if_true, Option.bind_some]; exact h)
theorem kq_X_tick {q : Nat} {m : Mm} {r : Int32 × Mm} (h : r_X_tick q m = some r) : ab_kp m r.2 := kp_X_tick (av := [.inr (.inr (1, some q))]) (by simp only [c_X_tick, if_true, Option.bind_some]; exact h)
theorem kq_M_tick {q : Nat} {m : Mm} {r : Int32 × Mm} (h : r_M_tick q m = some r) : ab_kp m r.2 := kp_M_tick (av := [.inr (.inr (28, some q))]) (by simp only [c_M_tick, if_true, Option.bind_some]; exact h)
theorem kq_X_packets {q : Nat} {m : Mm} {r : Int32 × Mm} (h : r_X_packets q m = some r) : ab_kp m r.2 := kp_X_packets (av := [.inr (.inr (1, some q))]) (by simp only [c_X_packets, if_true, Option.bind_some]; exact h)
theorem kq_M_packets {q : Nat} {m : Mm} {r : Int32 × Mm} (h : r_M_packets q m = some r) : ab_kp m r.2 := kp_M_packets (av := [.inr (.inr (28, some q))]) (by simp only [c_M_packets, if_true, Option.bind_some]; exact h)
theorem kq_X_packet {q : Nat} {v0 v1 : Int32} {m : Mm} {r : Int32 × Mm} (h : r_X_packet q v0 v1 m = some r) : ab_kp m r.2 := kp_X_packet (av := [.inr (.inr (1, some q)), .inl v0, .inl v1]) (by simp only [c_X_packet, if_true, Option.bind_some]; exact h)
theorem kq_M_packet {q : Nat} {v0 v1 : Int32} {m : Mm} {r : Int32 × Mm} (h : r_M_packet q v0 v1 m = some r) : ab_kp m r.2 := kp_M_packet (av := [.inr (.inr (28, some q)), .inl v0, .inl v1]) (by simp only [c_M_packet, if_true, Option.bind_some]; exact h)
theorem kq_X_closed {q : Nat} {v0 : Int32} {m : Mm} {r : Int32 × Mm} (h : r_X_closed q v0 m = some r) : ab_kp m r.2 := kp_X_closed (av := [.inr (.inr (1, some q)), .inl v0]) (by simp only [c_X_closed, if_true, Option.bind_some]; exact h)
theorem kq_M_closed {q : Nat} {v0 : Int32} {m : Mm} {r : Int32 × Mm} (h : r_M_closed q v0 m = some r) : ab_kp m r.2 := kp_M_closed (av := [.inr (.inr (28, some q)), .inl v0]) (by simp only [c_M_closed, if_true, Option.bind_some]; exact h)
theorem kq_X_about {q : Nat} {v0 v1 : Int32} {m : Mm} {r : Int32 × Mm} (h : r_X_about q v0 v1 m = some r) : ab_kp m r.2 := kp_X_about (av := [.inr (.inr (1, some q)), .inl v0, .inl v1]) (by simp only [c_X_about, if_true, Option.bind_some]; exact h)
theorem kq_M_about {q : Nat} {v0 v1 : Int32} {m : Mm} {r : Int32 × Mm} (h : r_M_about q v0 v1 m = some r) : ab_kp m r.2 := kp_M_about (av := [.inr (.inr (28, some q)), .inl v0, .inl v1]) (by simp only [c_M_about, if_true, Option.bind_some]; exact h)
theorem kq_X_stream {q : Nat} {v0 v1 v2 : Int32} {m : Mm} {r : Int32 × Mm} (h : r_X_stream q v0 v1 v2 m = some r) : ab_kp m r.2 := kp_X_stream (av := [.inr (.inr (1, some q)), .inl v0, .inl v1, .inl v2]) (by simp only [c_X_stream, if_true, Option.bind_some]; exact h)
theorem kq_M_stream {q : Nat} {v0 v1 v2 : Int32} {m : Mm} {r : Int32 × Mm} (h : r_M_stream q v0 v1 v2 m = some r) : ab_kp m r.2 := kp_M_stream (av := [.inr (.inr (28, some q)), .inl v0, .inl v1, .inl v2]) (by simp only [c_M_stream, if_true, Option.bind_some]; exact h)
set_option maxRecDepth 100000 in
theorem kx_X_write {v0 : Nat} {v1 v2 v3 : Int32} {v4 : Int64} {m m1 : Mm} {pc : Nat} (h : xs (b_X_write_0 50000 v0 v1 v2 v3 v4 m) pc = some m1) : ab_kp m m1 := by
  obtain ⟨L, h⟩ := xs_inv h
  have hV : ∀ a av m m', eV_X_write a av m = some m' → ab_kp m m' := ab_ev_all (P := fun _ m r => ab_kp m r) [(31, c_Out_append)] (List.forall_mem_cons.mpr ⟨fun av m r h => kp_Out_append h, fun q hq => by cases hq⟩)
  have hI : ∀ a av m q, eI_X_write a av m = some q → ab_kp m q.2 := ab_ev_all (P := fun _ (m : Mm) (r : Int32 × Mm) => ab_kp m r.2) [(84, c_X_isStream), (85, c_X_isCallBytes), (67, c_End_isOpen), (30, c_Out_isGrowing)] (List.forall_mem_cons.mpr ⟨fun av m r h => kp_X_isStream h, List.forall_mem_cons.mpr ⟨fun av m r h => kp_X_isCallBytes h, List.forall_mem_cons.mpr ⟨fun av m r h => kp_End_isOpen h, List.forall_mem_cons.mpr ⟨fun av m r h => kp_Out_isGrowing h, fun q hq => by cases hq⟩⟩⟩⟩)
  exact ab_kprel (ρ := .inr (pc, L, [], m1)) (ab_tab_isn (t := t_X_write) (by decide +kernel)) hV hI h
set_option maxRecDepth 100000 in
theorem kx_X_read {v0 : Nat} {v1 v2 : Int32} {m m1 : Mm} {pc : Nat} (h : xs (b_X_read_0 50000 v0 v1 v2 m) pc = some m1) : ab_kp m m1 := by
  obtain ⟨L, h⟩ := xs_inv h
  have hV : ∀ a av m m', eV_X_read a av m = some m' → ab_kp m m' := ab_ev_all (P := fun _ m r => ab_kp m r) [] (fun q hq => by cases hq)
  have hI : ∀ a av m q, eI_X_read a av m = some q → ab_kp m q.2 := ab_ev_all (P := fun _ (m : Mm) (r : Int32 × Mm) => ab_kp m r.2) [(84, c_X_isStream), (48, c_Inc_ready), (58, c_Int_takeByte)] (List.forall_mem_cons.mpr ⟨fun av m r h => kp_X_isStream h, List.forall_mem_cons.mpr ⟨fun av m r h => kp_Inc_ready h, List.forall_mem_cons.mpr ⟨fun av m r h => kp_Int_takeByte h, fun q hq => by cases hq⟩⟩⟩)
  exact ab_kprel (ρ := .inr (pc, L, [], m1)) (ab_tab_isn (t := t_X_read) (by decide +kernel)) hV hI h
theorem Gr_th {m m' : Mm} (h : ab_kp m m') : Gr m (th_b m') := by
  unfold ab_kp at h
  unfold Gr ab_gc ab_gs th_b
  rw [h]
  dsimp only
  omega
theorem gr_Law_write {v0 v6 : Nat} {v1 v2 v3 : Int32} {v4 : Int64} {m : Mm} {r : Int32 × Mm} (h : r_Law_write v0 v1 v2 v3 v4 v6 m = some r) : Gr m r.2 := by
  rw [r_Law_write_eq] at h
  split at h
  · rename_i r0 hr
    cases h
    exact Gr_kp (kp_Law_wr (av := [.inr (.inr (1, some v0)), .inl v1, .inl v2, .inl v3, .inr (.inl v4), .inr (.inr (68, some v6))]) (by simp only [c_Law_wr, if_true, Option.bind_some]; exact hr))
  · split at h
    · rename_i m1 hr
      cases h
      exact Gr_th (kx_X_write hr)
    · split at h
      · rename_i m1 hr
        cases h
        exact Gr_th (kx_X_write hr)
      · cases h
theorem gr_Law_read {v0 v3 : Nat} {v1 v2 : Int32} {m : Mm} {r : Int32 × Mm} (h : r_Law_read v0 v1 v2 v3 m = some r) : Gr m r.2 := by
  rw [r_Law_read_eq] at h
  split at h
  · rename_i r0 hr
    cases h
    exact Gr_kp (kp_Law_rr (av := [.inr (.inr (1, some v0)), .inl v1, .inl v2, .inr (.inr (68, some v3))]) (by simp only [c_Law_rr, if_true, Option.bind_some]; exact hr))
  · split at h
    · rename_i m1 hr
      cases h
      exact Gr_th (kx_X_read hr)
    · split at h
      · rename_i m1 hr
        cases h
        exact Gr_th (kx_X_read hr)
      · split at h
        · rename_i m1 hr
          cases h
          exact Gr_th (kx_X_read hr)
        · split at h
          · rename_i m1 hr
            cases h
            exact Gr_th (kx_X_read hr)
          · cases h
theorem lg_refl (x : Int64) : lg_cmp x x = 0 := by
  unfold lg_cmp
  simp
def LW (v0 : Nat) (x : Int32) : List (Option AV) := [some (.inr (.inr (0, some v0))), some (.inr (.inr (1, some 0))), some (.inr (.inr (28, some 98))), some (.inr (.inr (68, some 138))), some (.inl x), none, none]
theorem it_end {sL : Nat} {sX : Nat → Int32} {f v0 i : Nat} {m : Mm} (hL : sL ≤ 3074) (hi : i ≤ 3080) (h : sL < i + 6) : b_Law_b_43 sL sX (f + 1) v0 0 98 138 (nI i) m = some (.inr (886, LW v0 (nI i), [], m)) := by
  rw [b_Law_b_43_eq, if_pos (show Int32.ofNat sL - 6 < nI i from by
    rw [show Int32.ofNat sL = nI sL from rfl]
    grind [nI_T])]
  rfl
theorem it_880 {sL : Nat} {sX : Nat → Int32} {f v0 i : Nat} {m : Mm} : b_Law_b_880 sL sX (f + 1) v0 0 98 138 (nI i) m = some (.inr (43, LW v0 (nI (i + 6)), [], m)) := by
  rw [b_Law_b_880_eq, lt_eq, show (6 : Int32) = nI 6 from rfl, nI_add]
  rfl
theorem it_go {sL : Nat} {sX : Nat → Int32} {c v0 i : Nat} {m : Mm} (hL : sL ≤ 3074) (hi : i + 6 ≤ sL) (h : St c m) (hc : c < 512) (hz : Zr m) (hn : 139 ≤ m.2.2.2.1.length) : ∃ m', b_Law_b_43 sL sX 50000 v0 0 98 138 (nI i) m = some (.inr (43, LW v0 (nI (i + 6)), [], m')) ∧ St (c + 1) m' ∧ Gr m m' := by
  have ix : ∀ k, k < 6 → ab_ix (nI i + nI k) sL = some (i + k) := by
    intro k hk
    rw [nI_add]
    exact ab_ix_nI (by omega) (by omega)
  have x0 : ab_ix (nI i) sL = some i := ab_ix_nI (by omega) (by omega)
  have x1 : ab_ix (nI i + 1) sL = some (i + 1) := ix 1 (by omega)
  have x2 : ab_ix (nI i + 2) sL = some (i + 2) := ix 2 (by omega)
  have x3 : ab_ix (nI i + 3) sL = some (i + 3) := ix 3 (by omega)
  have x4 : ab_ix (nI i + 4) sL = some (i + 4) := ix 4 (by omega)
  have x5 : ab_ix (nI i + 5) sL = some (i + 5) := ix 5 (by omega)
  rw [b_Law_b_43_eq, if_neg (show ¬ Int32.ofNat sL - 6 < nI i from by
    rw [show Int32.ofNat sL = nI sL from rfl]
    clear ix x0 x1 x2 x3 x4 x5 h hz
    grind [nI_T]), x0, ob_s]
  by_cases k0 : sX i &&& 31 = 0
  · rw [if_pos k0]
    obtain ⟨z, e1, z', e2, e3, e4, st⟩ := J_write h hc (sX (i + 1)) (sX (i + 2)) (sX (i + 3)) (((sX (i + 4)).toInt64 <<< ((32 : Int32).toInt64 &&& 63)) ||| ((sX (i + 5)).toInt64 &&& Int64.ofNat 4294967295))
    rw [x1, x2, x3, x4, x5, ob_s, ob_s, ob_s, ob_s, ob_s, e1, ob_s, ob_s, ob_s, ob_s, ob_s, ob_s, e2, ob_s, t_thrown, ob_s, if_pos e3]
    have fin : b_Law_b_269 sL sX 49999 v0 0 98 138 (nI i) z'.2 = some (.inr (43, LW v0 (nI (i + 6)), [], z'.2)) := by
      rw [b_Law_b_269_eq, it_880]
    by_cases q : z.1 = 0
    · rw [if_pos q, show ab_ix (0 : Int32) 1 = some 0 from by decide, ob_s, e4 q, if_pos (lg_refl _), fin]
      exact ⟨_, rfl, st, Gr_kp2 (gr_Law_write e1) (kq_M_write e2)⟩
    · rw [if_neg q, fin]
      exact ⟨_, rfl, st, Gr_kp2 (gr_Law_write e1) (kq_M_write e2)⟩
  rw [if_neg k0]
  by_cases k1 : sX i &&& 31 = 1
  · rw [if_pos k1]
    obtain ⟨z, e1, z', e2, e3, st⟩ := J_finish h hc (sX (i + 1)) (sX (i + 2))
    rw [x1, x2, ob_s, ob_s, e1, ob_s, ob_s, ob_s, e2, ob_s, if_pos e3, it_880]
    exact ⟨_, rfl, st, Gr_kp2 (Gr_kp (kq_X_finish e1)) (kq_M_finish e2)⟩
  rw [if_neg k1]
  by_cases k2 : sX i &&& 31 = 2
  · rw [if_pos k2]
    obtain ⟨z, e1, z', e2, e3, st⟩ := J_reset h hc (sX (i + 1)) (sX (i + 2))
    rw [x1, x2, ob_s, ob_s, e1, ob_s, ob_s, ob_s, e2, ob_s, if_pos e3, it_880]
    exact ⟨_, rfl, st, Gr_kp2 (Gr_kp (kq_X_reset e1)) (kq_M_reset e2)⟩
  rw [if_neg k2]
  by_cases k3 : sX i &&& 31 = 3
  · rw [if_pos k3]
    obtain ⟨z, e1, z', e2, e3, e4, st⟩ := J_read h hc (sX (i + 1)) (sX (i + 2))
    rw [x1, x2, ob_s, ob_s, e1, ob_s, ob_s, ob_s, e2, ob_s, t_thrown, ob_s, if_pos e3]
    have fin : b_Law_b_411 sL sX 49999 v0 0 98 138 (nI i) z'.2 = some (.inr (43, LW v0 (nI (i + 6)), [], z'.2)) := by
      rw [b_Law_b_411_eq, it_880]
    by_cases q : z.1 = 0
    · rw [if_pos q, show ab_ix (0 : Int32) 1 = some 0 from by decide, ob_s, e4 q, if_pos (lg_refl _), fin]
      exact ⟨_, rfl, st, Gr_kp2 (gr_Law_read e1) (kq_M_read e2)⟩
    · rw [if_neg q, fin]
      exact ⟨_, rfl, st, Gr_kp2 (gr_Law_read e1) (kq_M_read e2)⟩
  rw [if_neg k3]
  by_cases k4 : sX i &&& 31 = 4
  · rw [if_pos k4]
    obtain ⟨z, e1, z', e2, e3, st⟩ := J_close h hc (sX (i + 1)) (sX (i + 2))
    rw [x1, x2, ob_s, ob_s, e1, ob_s, ob_s, ob_s, e2, ob_s, if_pos e3, it_880]
    exact ⟨_, rfl, st, Gr_kp2 (Gr_kp (kq_X_close e1)) (kq_M_close e2)⟩
  rw [if_neg k4]
  by_cases k5 : sX i &&& 31 = 5
  · rw [if_pos k5]
    obtain ⟨z, e1, z', e2, e3, st⟩ := J_send h hc hz hn (sX (i + 1))
    rw [x1, ob_s, e1, ob_s, ob_s, e2, ob_s, if_pos e3, it_880]
    exact ⟨_, rfl, st, Gr_kp2 (gr_X_send e1) (kq_M_send e2)⟩
  rw [if_neg k5]
  by_cases k6 : sX i &&& 31 = 6
  · rw [if_pos k6]
    obtain ⟨z, e1, z', e2, e3, st⟩ := J_deliver h hc (sX (i + 1))
    rw [x1, ob_s, e1, ob_s, ob_s, e2, ob_s, if_pos e3, it_880]
    exact ⟨_, rfl, st, Gr_kp2 (Gr_kp (kq_X_deliver e1)) (kq_M_deliver e2)⟩
  rw [if_neg k6]
  by_cases k7 : sX i &&& 31 = 7
  · rw [if_pos k7]
    obtain ⟨z, e1, z', e2, e3, st⟩ := J_lose h hc (sX (i + 1))
    rw [x1, ob_s, e1, ob_s, ob_s, e2, ob_s, if_pos e3, it_880]
    exact ⟨_, rfl, st, Gr_kp2 (Gr_kp (kq_X_lose e1)) (kq_M_lose e2)⟩
  rw [if_neg k7]
  by_cases k8 : sX i &&& 31 = 8
  · rw [if_pos k8]
    obtain ⟨z, e1, z', e2, e3, st⟩ := J_copy h hc (sX (i + 1))
    rw [x1, ob_s, e1, ob_s, ob_s, e2, ob_s, if_pos e3, it_880]
    exact ⟨_, rfl, st, Gr_kp2 (Gr_kp (kq_X_copy e1)) (kq_M_copy e2)⟩
  rw [if_neg k8]
  by_cases k9 : sX i &&& 31 = 9
  · rw [if_pos k9]
    obtain ⟨z, e1, z', e2, e3, st⟩ := J_spoil h hc (sX (i + 1)) (sX (i + 2)) (sX (i + 3))
    rw [x1, x2, x3, ob_s, ob_s, ob_s, e1, ob_s, ob_s, ob_s, ob_s, e2, ob_s, if_pos e3, it_880]
    exact ⟨_, rfl, st, Gr_kp2 (Gr_kp (kq_X_spoil e1)) (kq_M_spoil e2)⟩
  rw [if_neg k9]
  by_cases k10 : sX i &&& 31 = 10
  · rw [if_pos k10]
    obtain ⟨z, e1, z', e2, e3, st⟩ := J_raw h hc (sX (i + 1)) (((sX (i + 2)).toInt64 <<< ((32 : Int32).toInt64 &&& 63)) ||| ((sX (i + 3)).toInt64 &&& Int64.ofNat 4294967295))
    rw [x1, x2, x3, ob_s, ob_s, ob_s, e1, ob_s, ob_s, ob_s, ob_s, e2, ob_s, if_pos e3, it_880]
    exact ⟨_, rfl, st, Gr_kp2 (Gr_kp (kq_X_raw e1)) (kq_M_raw e2)⟩
  rw [if_neg k10]
  by_cases k11 : sX i &&& 31 = 11
  · rw [if_pos k11]
    obtain ⟨z, e1, z', e2, e3, st⟩ := J_craft h hc (sX (i + 1)) (sX (i + 2))
    rw [x1, x2, ob_s, ob_s, e1, ob_s, ob_s, ob_s, e2, ob_s, if_pos e3, it_880]
    exact ⟨_, rfl, st, Gr_kp2 (Gr_kp (kq_X_craft e1)) (kq_M_craft e2)⟩
  rw [if_neg k11]
  by_cases k12 : sX i &&& 31 = 12
  · rw [if_pos k12]
    obtain ⟨z, e1, z', e2, e3, st⟩ := J_tick h hc 
    rw [e1, ob_s, e2, ob_s, if_pos e3, it_880]
    exact ⟨_, rfl, st, Gr_kp2 (Gr_kp (kq_X_tick e1)) (kq_M_tick e2)⟩
  rw [if_neg k12]
  by_cases k13 : sX i &&& 31 = 13
  · rw [if_pos k13]
    obtain ⟨z, e1, z', e2, e3, st⟩ := J_packets h hc 
    rw [e1, ob_s, e2, ob_s, if_pos e3, it_880]
    exact ⟨_, rfl, st, Gr_kp2 (Gr_kp (kq_X_packets e1)) (kq_M_packets e2)⟩
  rw [if_neg k13]
  by_cases k14 : sX i &&& 31 = 14
  · rw [if_pos k14]
    obtain ⟨z, e1, z', e2, e3, st⟩ := J_packet h hc (sX (i + 1)) (sX (i + 2))
    rw [x1, x2, ob_s, ob_s, e1, ob_s, ob_s, ob_s, e2, ob_s, if_pos e3, it_880]
    exact ⟨_, rfl, st, Gr_kp2 (Gr_kp (kq_X_packet e1)) (kq_M_packet e2)⟩
  rw [if_neg k14]
  by_cases k15 : sX i &&& 31 = 15
  · rw [if_pos k15]
    obtain ⟨z, e1, z', e2, e3, st⟩ := J_closed h hc (sX (i + 1))
    rw [x1, ob_s, e1, ob_s, ob_s, e2, ob_s, if_pos e3, it_880]
    exact ⟨_, rfl, st, Gr_kp2 (Gr_kp (kq_X_closed e1)) (kq_M_closed e2)⟩
  rw [if_neg k15]
  by_cases k16 : sX i &&& 31 = 16
  · rw [if_pos k16]
    obtain ⟨z, e1, z', e2, e3, st⟩ := J_about h hc (sX (i + 1)) (sX (i + 2))
    rw [x1, x2, ob_s, ob_s, e1, ob_s, ob_s, ob_s, e2, ob_s, if_pos e3, it_880]
    exact ⟨_, rfl, st, Gr_kp2 (Gr_kp (kq_X_about e1)) (kq_M_about e2)⟩
  rw [if_neg k16]
  by_cases k17 : sX i &&& 31 = 17
  · rw [if_pos k17]
    obtain ⟨z, e1, z', e2, e3, st⟩ := J_stream h hc (sX (i + 1)) (sX (i + 2)) (sX (i + 3))
    rw [x1, x2, x3, ob_s, ob_s, ob_s, e1, ob_s, ob_s, ob_s, ob_s, e2, ob_s, if_pos e3, it_880]
    exact ⟨_, rfl, st, Gr_kp2 (Gr_kp (kq_X_stream e1)) (kq_M_stream e2)⟩
  rw [if_neg k17]
  rw [it_880]
  exact ⟨_, rfl, St_more h (by omega) (by omega), Gr_kp rfl⟩
end
