section
/-! X.write and X.read where they throw. -/
def xs (o : Option Rs) (pc : Nat) : Option Mm := match o with
  | some (.inr (q, _, [], m)) => bif Nat.beq q pc then some m else none
  | _ => none
theorem xs_inv {o : Option Rs} {pc : Nat} {m : Mm} (h : xs o pc = some m) : ∃ L, o = some (.inr (pc, L, [], m)) := by
  unfold xs at h
  split at h
  · rename_i q L m'
    cases hb : Nat.beq q pc with
    | true => rw [hb] at h; cases h; exact ⟨L, by rw [Nat.eq_of_beq_eq_true hb]⟩
    | false => rw [hb] at h; cases h
  · cases h
set_option maxRecDepth 100000 in
theorem tm_X_write_15 (l : Launch) (hl : l.flags = flags0) {v0 : Nat} {v1 : Int32} {v2 : Int32} {v3 : Int32} {v4 : Int64} {m m1 : Mm} (h : xs (b_X_write_0 50000 v0 v1 v2 v3 v4 m) 15 = some m1) : ab_kp m m1 ∧ th_Met l y_X_write (Cond.code y_X_write prog_1_method_2_code 7 (some .int) :: ab_gW) 6 100 [.inr (.inr (1, some v0)), .inl v1, .inl v2, .inl v3, .inr (.inl v4)] m "java/lang/IllegalArgumentException" (th_b m1) := by
  obtain ⟨L, h⟩ := xs_inv h
  have hV : ∀ a av m m', eV_X_write a av m = some m' → ab_kp m m' := ab_ev_all (P := fun _ m r => ab_kp m r) [(31, c_Out_append)] (List.forall_mem_cons.mpr ⟨fun av m r h => kp_Out_append h, fun q hq => by cases hq⟩)
  have hI : ∀ a av m q, eI_X_write a av m = some q → ab_kp m q.2 := ab_ev_all (P := fun _ (m : Mm) (r : Int32 × Mm) => ab_kp m r.2) [(84, c_X_isStream), (85, c_X_isCallBytes), (67, c_End_isOpen), (30, c_Out_isGrowing)] (List.forall_mem_cons.mpr ⟨fun av m r h => kp_X_isStream h, List.forall_mem_cons.mpr ⟨fun av m r h => kp_X_isCallBytes h, List.forall_mem_cons.mpr ⟨fun av m r h => kp_End_isOpen h, List.forall_mem_cons.mpr ⟨fun av m r h => kp_Out_isGrowing h, fun q hq => by cases hq⟩⟩⟩⟩)
  have hk : ab_kp m m1 := ab_kprel (ρ := .inr (15, L, [], m1)) (ab_tab_isn (t := t_X_write) (by decide +kernel)) hV hI h
  exact ⟨hk, th_met (names := ["java/lang/RuntimeException", "java/lang/Exception"]) (ik := 41) (ic := 43) (pc := 15) hl (by decide +kernel) E_X_write (cl_X_write l) (ab_kp_mono hk) (Nat.le_of_ble_eq_true rfl) h thw_IA (ab_gW_in 849 (by decide +kernel) rfl) (ab_gW_in 75 (by decide +kernel) rfl) (by decide +kernel) (by decide +kernel) (by decide +kernel) (by decide +kernel) (by decide +kernel) (by decide +kernel) (by decide) (by decide)⟩
set_option maxRecDepth 100000 in
theorem tm_X_write_71 (l : Launch) (hl : l.flags = flags0) {v0 : Nat} {v1 : Int32} {v2 : Int32} {v3 : Int32} {v4 : Int64} {m m1 : Mm} (h : xs (b_X_write_0 50000 v0 v1 v2 v3 v4 m) 71 = some m1) : ab_kp m m1 ∧ th_Met l y_X_write (Cond.code y_X_write prog_1_method_2_code 7 (some .int) :: ab_gW) 6 100 [.inr (.inr (1, some v0)), .inl v1, .inl v2, .inl v3, .inr (.inl v4)] m "java/lang/IllegalStateException" (th_b m1) := by
  obtain ⟨L, h⟩ := xs_inv h
  have hV : ∀ a av m m', eV_X_write a av m = some m' → ab_kp m m' := ab_ev_all (P := fun _ m r => ab_kp m r) [(31, c_Out_append)] (List.forall_mem_cons.mpr ⟨fun av m r h => kp_Out_append h, fun q hq => by cases hq⟩)
  have hI : ∀ a av m q, eI_X_write a av m = some q → ab_kp m q.2 := ab_ev_all (P := fun _ (m : Mm) (r : Int32 × Mm) => ab_kp m r.2) [(84, c_X_isStream), (85, c_X_isCallBytes), (67, c_End_isOpen), (30, c_Out_isGrowing)] (List.forall_mem_cons.mpr ⟨fun av m r h => kp_X_isStream h, List.forall_mem_cons.mpr ⟨fun av m r h => kp_X_isCallBytes h, List.forall_mem_cons.mpr ⟨fun av m r h => kp_End_isOpen h, List.forall_mem_cons.mpr ⟨fun av m r h => kp_Out_isGrowing h, fun q hq => by cases hq⟩⟩⟩⟩)
  have hk : ab_kp m m1 := ab_kprel (ρ := .inr (71, L, [], m1)) (ab_tab_isn (t := t_X_write) (by decide +kernel)) hV hI h
  exact ⟨hk, th_met (names := ["java/lang/RuntimeException", "java/lang/Exception"]) (ik := 67) (ic := 69) (pc := 71) hl (by decide +kernel) E_X_write (cl_X_write l) (ab_kp_mono hk) (Nat.le_of_ble_eq_true rfl) h thw_IS (ab_gW_in 913 (by decide +kernel) rfl) (ab_gW_in 76 (by decide +kernel) rfl) (by decide +kernel) (by decide +kernel) (by decide +kernel) (by decide +kernel) (by decide +kernel) (by decide +kernel) (by decide) (by decide)⟩
set_option maxRecDepth 100000 in
theorem tm_X_read_8 (l : Launch) (hl : l.flags = flags0) {v0 : Nat} {v1 : Int32} {v2 : Int32} {m m1 : Mm} (h : xs (b_X_read_0 50000 v0 v1 v2 m) 8 = some m1) : ab_kp m m1 ∧ th_Met l y_X_read (Cond.code y_X_read prog_1_method_5_code 4 (some .int) :: ab_gW) 6 100 [.inr (.inr (1, some v0)), .inl v1, .inl v2] m "java/lang/IllegalArgumentException" (th_b m1) := by
  obtain ⟨L, h⟩ := xs_inv h
  have hV : ∀ a av m m', eV_X_read a av m = some m' → ab_kp m m' := ab_ev_all (P := fun _ m r => ab_kp m r) [] (fun q hq => by cases hq)
  have hI : ∀ a av m q, eI_X_read a av m = some q → ab_kp m q.2 := ab_ev_all (P := fun _ (m : Mm) (r : Int32 × Mm) => ab_kp m r.2) [(84, c_X_isStream), (48, c_Inc_ready), (58, c_Int_takeByte)] (List.forall_mem_cons.mpr ⟨fun av m r h => kp_X_isStream h, List.forall_mem_cons.mpr ⟨fun av m r h => kp_Inc_ready h, List.forall_mem_cons.mpr ⟨fun av m r h => kp_Int_takeByte h, fun q hq => by cases hq⟩⟩⟩)
  have hk : ab_kp m m1 := ab_kprel (ρ := .inr (8, L, [], m1)) (ab_tab_isn (t := t_X_read) (by decide +kernel)) hV hI h
  exact ⟨hk, th_met (names := ["java/lang/RuntimeException", "java/lang/Exception"]) (ik := 41) (ic := 43) (pc := 8) hl (by decide +kernel) E_X_read (cl_X_read l) (ab_kp_mono hk) (Nat.le_of_ble_eq_true rfl) h thw_IA (ab_gW_in 849 (by decide +kernel) rfl) (ab_gW_in 75 (by decide +kernel) rfl) (by decide +kernel) (by decide +kernel) (by decide +kernel) (by decide +kernel) (by decide +kernel) (by decide +kernel) (by decide) (by decide)⟩
set_option maxRecDepth 100000 in
theorem tm_X_read_38 (l : Launch) (hl : l.flags = flags0) {v0 : Nat} {v1 : Int32} {v2 : Int32} {m m1 : Mm} (h : xs (b_X_read_0 50000 v0 v1 v2 m) 38 = some m1) : ab_kp m m1 ∧ th_Met l y_X_read (Cond.code y_X_read prog_1_method_5_code 4 (some .int) :: ab_gW) 6 100 [.inr (.inr (1, some v0)), .inl v1, .inl v2] m "java/lang/IllegalStateException" (th_b m1) := by
  obtain ⟨L, h⟩ := xs_inv h
  have hV : ∀ a av m m', eV_X_read a av m = some m' → ab_kp m m' := ab_ev_all (P := fun _ m r => ab_kp m r) [] (fun q hq => by cases hq)
  have hI : ∀ a av m q, eI_X_read a av m = some q → ab_kp m q.2 := ab_ev_all (P := fun _ (m : Mm) (r : Int32 × Mm) => ab_kp m r.2) [(84, c_X_isStream), (48, c_Inc_ready), (58, c_Int_takeByte)] (List.forall_mem_cons.mpr ⟨fun av m r h => kp_X_isStream h, List.forall_mem_cons.mpr ⟨fun av m r h => kp_Inc_ready h, List.forall_mem_cons.mpr ⟨fun av m r h => kp_Int_takeByte h, fun q hq => by cases hq⟩⟩⟩)
  have hk : ab_kp m m1 := ab_kprel (ρ := .inr (38, L, [], m1)) (ab_tab_isn (t := t_X_read) (by decide +kernel)) hV hI h
  exact ⟨hk, th_met (names := ["java/lang/RuntimeException", "java/lang/Exception"]) (ik := 67) (ic := 69) (pc := 38) hl (by decide +kernel) E_X_read (cl_X_read l) (ab_kp_mono hk) (Nat.le_of_ble_eq_true rfl) h thw_IS (ab_gW_in 913 (by decide +kernel) rfl) (ab_gW_in 76 (by decide +kernel) rfl) (by decide +kernel) (by decide +kernel) (by decide +kernel) (by decide +kernel) (by decide +kernel) (by decide +kernel) (by decide) (by decide)⟩
set_option maxRecDepth 100000 in
theorem tm_X_read_57 (l : Launch) (hl : l.flags = flags0) {v0 : Nat} {v1 : Int32} {v2 : Int32} {m m1 : Mm} (h : xs (b_X_read_0 50000 v0 v1 v2 m) 57 = some m1) : ab_kp m m1 ∧ th_Met l y_X_read (Cond.code y_X_read prog_1_method_5_code 4 (some .int) :: ab_gW) 6 100 [.inr (.inr (1, some v0)), .inl v1, .inl v2] m "java/lang/UnsupportedOperationException" (th_b m1) := by
  obtain ⟨L, h⟩ := xs_inv h
  have hV : ∀ a av m m', eV_X_read a av m = some m' → ab_kp m m' := ab_ev_all (P := fun _ m r => ab_kp m r) [] (fun q hq => by cases hq)
  have hI : ∀ a av m q, eI_X_read a av m = some q → ab_kp m q.2 := ab_ev_all (P := fun _ (m : Mm) (r : Int32 × Mm) => ab_kp m r.2) [(84, c_X_isStream), (48, c_Inc_ready), (58, c_Int_takeByte)] (List.forall_mem_cons.mpr ⟨fun av m r h => kp_X_isStream h, List.forall_mem_cons.mpr ⟨fun av m r h => kp_Inc_ready h, List.forall_mem_cons.mpr ⟨fun av m r h => kp_Int_takeByte h, fun q hq => by cases hq⟩⟩⟩)
  have hk : ab_kp m m1 := ab_kprel (ρ := .inr (57, L, [], m1)) (ab_tab_isn (t := t_X_read) (by decide +kernel)) hV hI h
  exact ⟨hk, th_met (names := ["java/lang/RuntimeException", "java/lang/Exception"]) (ik := 99) (ic := 101) (pc := 57) hl (by decide +kernel) E_X_read (cl_X_read l) (ab_kp_mono hk) (Nat.le_of_ble_eq_true rfl) h thw_UO (ab_gW_in 942 (by decide +kernel) rfl) (ab_gW_in 77 (by decide +kernel) rfl) (by decide +kernel) (by decide +kernel) (by decide +kernel) (by decide +kernel) (by decide +kernel) (by decide +kernel) (by decide) (by decide)⟩
set_option maxRecDepth 100000 in
theorem tm_X_read_72 (l : Launch) (hl : l.flags = flags0) {v0 : Nat} {v1 : Int32} {v2 : Int32} {m m1 : Mm} (h : xs (b_X_read_0 50000 v0 v1 v2 m) 72 = some m1) : ab_kp m m1 ∧ th_Met l y_X_read (Cond.code y_X_read prog_1_method_5_code 4 (some .int) :: ab_gW) 6 100 [.inr (.inr (1, some v0)), .inl v1, .inl v2] m "java/util/NoSuchElementException" (th_b m1) := by
  obtain ⟨L, h⟩ := xs_inv h
  have hV : ∀ a av m m', eV_X_read a av m = some m' → ab_kp m m' := ab_ev_all (P := fun _ m r => ab_kp m r) [] (fun q hq => by cases hq)
  have hI : ∀ a av m q, eI_X_read a av m = some q → ab_kp m q.2 := ab_ev_all (P := fun _ (m : Mm) (r : Int32 × Mm) => ab_kp m r.2) [(84, c_X_isStream), (48, c_Inc_ready), (58, c_Int_takeByte)] (List.forall_mem_cons.mpr ⟨fun av m r h => kp_X_isStream h, List.forall_mem_cons.mpr ⟨fun av m r h => kp_Inc_ready h, List.forall_mem_cons.mpr ⟨fun av m r h => kp_Int_takeByte h, fun q hq => by cases hq⟩⟩⟩)
  have hk : ab_kp m m1 := ab_kprel (ρ := .inr (72, L, [], m1)) (ab_tab_isn (t := t_X_read) (by decide +kernel)) hV hI h
  exact ⟨hk, th_met (names := ["java/lang/RuntimeException", "java/lang/Exception"]) (ik := 106) (ic := 108) (pc := 72) hl (by decide +kernel) E_X_read (cl_X_read l) (ab_kp_mono hk) (Nat.le_of_ble_eq_true rfl) h thw_NS (ab_gW_in 957 (by decide +kernel) rfl) (ab_gW_in 78 (by decide +kernel) rfl) (by decide +kernel) (by decide +kernel) (by decide +kernel) (by decide +kernel) (by decide +kernel) (by decide +kernel) (by decide) (by decide)⟩
end
