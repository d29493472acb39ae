section
/-! The law's write and read, whole. -/
theorem ni_Law_wp : ∀ (pc : Nat) (q : Ent), i_Law_wp pc = some q → ab_inv q.1 = false := by
  intro pc q hq
  cases hi : ab_inv q.1 with
  | false => rfl
  | true =>
    have hm : pc ∈ cs_Law_wp := ab_tab_cs (t := t_Law_wp) (by decide +kernel) hq hi
    cases hm
theorem ni_Law_rp : ∀ (pc : Nat) (q : Ent), i_Law_rp pc = some q → ab_inv q.1 = false := by
  intro pc q hq
  cases hi : ab_inv q.1 with
  | false => rfl
  | true =>
    have hm : pc ∈ cs_Law_rp := ab_tab_cs (t := t_Law_rp) (by decide +kernel) hq hi
    cases hm
noncomputable def r_Law_write : Nat → Int32 → Int32 → Int32 → Int64 → Nat → Mm → Option (Int32 × Mm) := ab_seal fun v0 v1 v2 v3 v4 v6 m => (match r_Law_wr v0 v1 v2 v3 v4 v6 m with | some r => some r | none => (match xs (b_X_write_0 50000 v0 v1 v2 v3 v4 m) 15 with | some m1 => some (1, th_b m1) | none => (match xs (b_X_write_0 50000 v0 v1 v2 v3 v4 m) 71 with | some m1 => some (2, th_b m1) | none => none)))
theorem r_Law_write_eq (v0 : Nat) (v1 : Int32) (v2 : Int32) (v3 : Int32) (v4 : Int64) (v6 : Nat) (m : Mm) : r_Law_write v0 v1 v2 v3 v4 v6 m = (match r_Law_wr v0 v1 v2 v3 v4 v6 m with | some r => some r | none => (match xs (b_X_write_0 50000 v0 v1 v2 v3 v4 m) 15 with | some m1 => some (1, th_b m1) | none => (match xs (b_X_write_0 50000 v0 v1 v2 v3 v4 m) 71 with | some m1 => some (2, th_b m1) | none => none))) := by
  unfold r_Law_write
  rw [ab_seal_eq]
noncomputable def c_Law_write : List AV → Mm → Option (Int32 × Mm) := fun av m => match av with
  | [.inr (.inr (kv0, ov0)), .inl v1, .inl v2, .inl v3, .inr (.inl v4), .inr (.inr (kv6, ov6))] => if kv0 = 1 then (if kv6 = 68 then (ov0.bind fun v0 => ov6.bind fun v6 => r_Law_write v0 v1 v2 v3 v4 v6 m) else none) else none
  | _ => none
theorem c_Law_write_inv {av : List AV} {m : Mm} {r : Int32 × Mm} (h : c_Law_write av m = some r) : ∃ (v0 : Nat) (v1 : Int32) (v2 : Int32) (v3 : Int32) (v4 : Int64) (v6 : Nat), av = [.inr (.inr (1, some v0)), .inl v1, .inl v2, .inl v3, .inr (.inl v4), .inr (.inr (68, some v6))] ∧ r_Law_write v0 v1 v2 v3 v4 v6 m = some r := by
  unfold c_Law_write at h
  split at h
  · rename_i kv0 ov0 v1 v2 v3 v4 kv6 ov6
    by_cases hkv0 : kv0 = 1
    case neg => rw [if_neg hkv0] at h; cases h
    rw [if_pos hkv0] at h
    subst hkv0
    by_cases hkv6 : kv6 = 68
    case neg => rw [if_neg hkv6] at h; cases h
    rw [if_pos hkv6] at h
    subst hkv6
    obtain ⟨v0, hev0, h⟩ := Option.bind_eq_some_iff.mp h
    obtain ⟨v6, hev6, h⟩ := Option.bind_eq_some_iff.mp h
    subst hev0
    subst hev6
    exact ⟨v0, v1, v2, v3, v4, v6, rfl, h⟩
  · cases h
set_option maxRecDepth 100000 in
theorem cm_Law_write (l : Launch) (hl : l.flags = flags0) {av : List AV} {m : Mm} {r : Int32 × Mm} (h0 : c_Law_write av m = some r) : av.length = 6 ∧ ab_nos av ∧ lw_Met l y_Law_wr (Cond.codeWith y_Law_wr method_3_code 8 (some .int) [(0, 14, 17, 13), (0, 14, 21, 15)] :: ab_gW) 7 126 av m (some (.inl r.1)) r.2 := by
  obtain ⟨v0, v1, v2, v3, v4, v6, hav, h⟩ := c_Law_write_inv h0
  rw [r_Law_write_eq] at h
  subst hav
  refine ⟨rfl, (by intro v hv q e; subst e; simp at hv), ?_⟩
  split at h
  · rename_i r0 hr
    cases h
    have hk : ab_kp m r.2 := kp_Law_wr (av := [.inr (.inr (1, some v0)), .inl v1, .inl v2, .inl v3, .inr (.inl v4), .inr (.inr (68, some v6))]) (by simp only [c_Law_wr, if_true, Option.bind_some]; exact hr)
    rw [r_Law_wr_eq] at hr
    exact lw_met (by decide +kernel) E_Law_wr (cl_Law_wr l) (ab_kp_mono hk) (Nat.le_of_ble_eq_true rfl) (ab_rI_inv hr)
  · split at h
    · rename_i m1 hr
      cases h
      exact lw_thr (yx := y_X_write) (bx := prog_1_method_2_code) (mL := 7) (frx := 6) (lox := 100) (pc := 9) (idx := 7) (hpc := 17) (j := 7) (n := 1) (nas := 4) (b' := 5) (retx := some .int) (f := 49999 + 1) (ns := ["java/lang/IllegalArgumentException", "java/lang/IllegalStateException"]) (by decide +kernel) E_Law_wp ni_Law_wp (Nat.le_of_ble_eq_true rfl) (b_Law_wp_0_eq 49999 v0 v1 v2 v3 v4 v6 m) rfl rfl (Nat.le_of_ble_eq_true rfl) (tm_X_write_15 l hl hr).2 (fun _ _ _ h => h) cw_X_write.1 cw_X_write.2.1 (ab_gW_in 845 (by decide +kernel) rfl) is_X_write sl_X_write cw_X_write.2.2 (by decide) (by decide) (by decide +kernel) (by decide +kernel) rfl (fun s hT => ⟨⟨by decide, by decide⟩, by decide, ab_gW_in 843 (by decide +kernel) rfl, Or.inl ⟨rfl, rfl⟩⟩) (by decide) (by decide +kernel) (by decide +kernel) rfl (by decide +kernel)
    · split at h
      · rename_i m1 hr
        cases h
        exact lw_thr (yx := y_X_write) (bx := prog_1_method_2_code) (mL := 7) (frx := 6) (lox := 100) (pc := 9) (idx := 7) (hpc := 21) (j := 7) (n := 2) (nas := 4) (b' := 5) (retx := some .int) (f := 49999 + 1) (ns := ["java/lang/IllegalArgumentException", "java/lang/IllegalStateException"]) (by decide +kernel) E_Law_wp ni_Law_wp (Nat.le_of_ble_eq_true rfl) (b_Law_wp_0_eq 49999 v0 v1 v2 v3 v4 v6 m) rfl rfl (Nat.le_of_ble_eq_true rfl) (tm_X_write_71 l hl hr).2 (fun _ _ _ h => h) cw_X_write.1 cw_X_write.2.1 (ab_gW_in 845 (by decide +kernel) rfl) is_X_write sl_X_write cw_X_write.2.2 (by decide) (by decide) (by decide +kernel) (by decide +kernel) rfl (fun s hT => ⟨⟨by decide, by decide⟩, by decide, ab_gW_in 843 (by decide +kernel) rfl, Or.inr ⟨hT.2 _ (by decide), ⟨⟨by decide, by decide⟩, by decide, ab_gW_in 844 (by decide +kernel) rfl, Or.inl ⟨rfl, rfl⟩⟩⟩⟩) (by decide) (by decide +kernel) (by decide +kernel) rfl (by decide +kernel)
      · cases h
noncomputable def r_Law_read : Nat → Int32 → Int32 → Nat → Mm → Option (Int32 × Mm) := ab_seal fun v0 v1 v2 v3 m => (match r_Law_rr v0 v1 v2 v3 m with | some r => some r | none => (match xs (b_X_read_0 50000 v0 v1 v2 m) 8 with | some m1 => some (1, th_b m1) | none => (match xs (b_X_read_0 50000 v0 v1 v2 m) 38 with | some m1 => some (2, th_b m1) | none => (match xs (b_X_read_0 50000 v0 v1 v2 m) 57 with | some m1 => some (3, th_b m1) | none => (match xs (b_X_read_0 50000 v0 v1 v2 m) 72 with | some m1 => some (4, th_b m1) | none => none)))))
theorem r_Law_read_eq (v0 : Nat) (v1 : Int32) (v2 : Int32) (v3 : Nat) (m : Mm) : r_Law_read v0 v1 v2 v3 m = (match r_Law_rr v0 v1 v2 v3 m with | some r => some r | none => (match xs (b_X_read_0 50000 v0 v1 v2 m) 8 with | some m1 => some (1, th_b m1) | none => (match xs (b_X_read_0 50000 v0 v1 v2 m) 38 with | some m1 => some (2, th_b m1) | none => (match xs (b_X_read_0 50000 v0 v1 v2 m) 57 with | some m1 => some (3, th_b m1) | none => (match xs (b_X_read_0 50000 v0 v1 v2 m) 72 with | some m1 => some (4, th_b m1) | none => none))))) := by
  unfold r_Law_read
  rw [ab_seal_eq]
noncomputable def c_Law_read : List AV → Mm → Option (Int32 × Mm) := fun av m => match av with
  | [.inr (.inr (kv0, ov0)), .inl v1, .inl v2, .inr (.inr (kv3, ov3))] => if kv0 = 1 then (if kv3 = 68 then (ov0.bind fun v0 => ov3.bind fun v3 => r_Law_read v0 v1 v2 v3 m) else none) else none
  | _ => none
theorem c_Law_read_inv {av : List AV} {m : Mm} {r : Int32 × Mm} (h : c_Law_read av m = some r) : ∃ (v0 : Nat) (v1 : Int32) (v2 : Int32) (v3 : Nat), av = [.inr (.inr (1, some v0)), .inl v1, .inl v2, .inr (.inr (68, some v3))] ∧ r_Law_read v0 v1 v2 v3 m = some r := by
  unfold c_Law_read at h
  split at h
  · rename_i kv0 ov0 v1 v2 kv3 ov3
    by_cases hkv0 : kv0 = 1
    case neg => rw [if_neg hkv0] at h; cases h
    rw [if_pos hkv0] at h
    subst hkv0
    by_cases hkv3 : kv3 = 68
    case neg => rw [if_neg hkv3] at h; cases h
    rw [if_pos hkv3] at h
    subst hkv3
    obtain ⟨v0, hev0, h⟩ := Option.bind_eq_some_iff.mp h
    obtain ⟨v3, hev3, h⟩ := Option.bind_eq_some_iff.mp h
    subst hev0
    subst hev3
    exact ⟨v0, v1, v2, v3, rfl, h⟩
  · cases h
set_option maxRecDepth 100000 in
theorem cm_Law_read (l : Launch) (hl : l.flags = flags0) {av : List AV} {m : Mm} {r : Int32 × Mm} (h0 : c_Law_read av m = some r) : av.length = 4 ∧ ab_nos av ∧ lw_Met l y_Law_rr (Cond.codeWith y_Law_rr method_4_code 5 (some .int) [(0, 10, 13, 13), (0, 10, 17, 15), (0, 10, 21, 21), (0, 10, 25, 23)] :: ab_gW) 7 123 av m (some (.inl r.1)) r.2 := by
  obtain ⟨v0, v1, v2, v3, hav, h⟩ := c_Law_read_inv h0
  rw [r_Law_read_eq] at h
  subst hav
  refine ⟨rfl, (by intro v hv q e; subst e; simp at hv), ?_⟩
  split at h
  · rename_i r0 hr
    cases h
    have hk : ab_kp m r.2 := kp_Law_rr (av := [.inr (.inr (1, some v0)), .inl v1, .inl v2, .inr (.inr (68, some v3))]) (by simp only [c_Law_rr, if_true, Option.bind_some]; exact hr)
    rw [r_Law_rr_eq] at hr
    exact lw_met (by decide +kernel) E_Law_rr (cl_Law_rr l) (ab_kp_mono hk) (Nat.le_of_ble_eq_true rfl) (ab_rI_inv hr)
  · split at h
    · rename_i m1 hr
      cases h
      exact lw_thr (yx := y_X_read) (bx := prog_1_method_5_code) (mL := 4) (frx := 6) (lox := 100) (pc := 5) (idx := 17) (hpc := 13) (j := 4) (n := 1) (nas := 2) (b' := 3) (retx := some .int) (f := 49999 + 1) (ns := ["java/lang/IllegalArgumentException", "java/lang/IllegalStateException", "java/lang/UnsupportedOperationException", "java/util/NoSuchElementException"]) (by decide +kernel) E_Law_rp ni_Law_rp (Nat.le_of_ble_eq_true rfl) (b_Law_rp_0_eq 49999 v0 v1 v2 v3 m) rfl rfl (Nat.le_of_ble_eq_true rfl) (tm_X_read_8 l hl hr).2 (fun _ _ _ h => h) cw_X_read.1 cw_X_read.2.1 (ab_gW_in 938 (by decide +kernel) rfl) is_X_read sl_X_read cw_X_read.2.2 (by decide) (by decide) (by decide +kernel) (by decide +kernel) rfl (fun s hT => ⟨⟨by decide, by decide⟩, by decide, ab_gW_in 843 (by decide +kernel) rfl, Or.inl ⟨rfl, rfl⟩⟩) (by decide) (by decide +kernel) (by decide +kernel) rfl (by decide +kernel)
    · split at h
      · rename_i m1 hr
        cases h
        exact lw_thr (yx := y_X_read) (bx := prog_1_method_5_code) (mL := 4) (frx := 6) (lox := 100) (pc := 5) (idx := 17) (hpc := 17) (j := 4) (n := 2) (nas := 2) (b' := 3) (retx := some .int) (f := 49999 + 1) (ns := ["java/lang/IllegalArgumentException", "java/lang/IllegalStateException", "java/lang/UnsupportedOperationException", "java/util/NoSuchElementException"]) (by decide +kernel) E_Law_rp ni_Law_rp (Nat.le_of_ble_eq_true rfl) (b_Law_rp_0_eq 49999 v0 v1 v2 v3 m) rfl rfl (Nat.le_of_ble_eq_true rfl) (tm_X_read_38 l hl hr).2 (fun _ _ _ h => h) cw_X_read.1 cw_X_read.2.1 (ab_gW_in 938 (by decide +kernel) rfl) is_X_read sl_X_read cw_X_read.2.2 (by decide) (by decide) (by decide +kernel) (by decide +kernel) rfl (fun s hT => ⟨⟨by decide, by decide⟩, by decide, ab_gW_in 843 (by decide +kernel) rfl, Or.inr ⟨hT.2 _ (by decide), ⟨⟨by decide, by decide⟩, by decide, ab_gW_in 844 (by decide +kernel) rfl, Or.inl ⟨rfl, rfl⟩⟩⟩⟩) (by decide) (by decide +kernel) (by decide +kernel) rfl (by decide +kernel)
      · split at h
        · rename_i m1 hr
          cases h
          exact lw_thr (yx := y_X_read) (bx := prog_1_method_5_code) (mL := 4) (frx := 6) (lox := 100) (pc := 5) (idx := 17) (hpc := 21) (j := 4) (n := 3) (nas := 2) (b' := 3) (retx := some .int) (f := 49999 + 1) (ns := ["java/lang/IllegalArgumentException", "java/lang/IllegalStateException", "java/lang/UnsupportedOperationException", "java/util/NoSuchElementException"]) (by decide +kernel) E_Law_rp ni_Law_rp (Nat.le_of_ble_eq_true rfl) (b_Law_rp_0_eq 49999 v0 v1 v2 v3 m) rfl rfl (Nat.le_of_ble_eq_true rfl) (tm_X_read_57 l hl hr).2 (fun _ _ _ h => h) cw_X_read.1 cw_X_read.2.1 (ab_gW_in 938 (by decide +kernel) rfl) is_X_read sl_X_read cw_X_read.2.2 (by decide) (by decide) (by decide +kernel) (by decide +kernel) rfl (fun s hT => ⟨⟨by decide, by decide⟩, by decide, ab_gW_in 843 (by decide +kernel) rfl, Or.inr ⟨hT.2 _ (by decide), ⟨⟨by decide, by decide⟩, by decide, ab_gW_in 844 (by decide +kernel) rfl, Or.inr ⟨hT.2 _ (by decide), ⟨⟨by decide, by decide⟩, by decide, ab_gW_in 936 (by decide +kernel) rfl, Or.inl ⟨rfl, rfl⟩⟩⟩⟩⟩⟩) (by decide) (by decide +kernel) (by decide +kernel) rfl (by decide +kernel)
        · split at h
          · rename_i m1 hr
            cases h
            exact lw_thr (yx := y_X_read) (bx := prog_1_method_5_code) (mL := 4) (frx := 6) (lox := 100) (pc := 5) (idx := 17) (hpc := 25) (j := 4) (n := 4) (nas := 2) (b' := 3) (retx := some .int) (f := 49999 + 1) (ns := ["java/lang/IllegalArgumentException", "java/lang/IllegalStateException", "java/lang/UnsupportedOperationException", "java/util/NoSuchElementException"]) (by decide +kernel) E_Law_rp ni_Law_rp (Nat.le_of_ble_eq_true rfl) (b_Law_rp_0_eq 49999 v0 v1 v2 v3 m) rfl rfl (Nat.le_of_ble_eq_true rfl) (tm_X_read_72 l hl hr).2 (fun _ _ _ h => h) cw_X_read.1 cw_X_read.2.1 (ab_gW_in 938 (by decide +kernel) rfl) is_X_read sl_X_read cw_X_read.2.2 (by decide) (by decide) (by decide +kernel) (by decide +kernel) rfl (fun s hT => ⟨⟨by decide, by decide⟩, by decide, ab_gW_in 843 (by decide +kernel) rfl, Or.inr ⟨hT.2 _ (by decide), ⟨⟨by decide, by decide⟩, by decide, ab_gW_in 844 (by decide +kernel) rfl, Or.inr ⟨hT.2 _ (by decide), ⟨⟨by decide, by decide⟩, by decide, ab_gW_in 936 (by decide +kernel) rfl, Or.inr ⟨hT.2 _ (by decide), ⟨⟨by decide, by decide⟩, by decide, ab_gW_in 937 (by decide +kernel) rfl, Or.inl ⟨rfl, rfl⟩⟩⟩⟩⟩⟩⟩⟩) (by decide) (by decide +kernel) (by decide +kernel) rfl (by decide +kernel)
          · cases h
end
