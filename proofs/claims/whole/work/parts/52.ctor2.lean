section
/-! StreamTransport$End.<init>(III)V -/
def y_End_init : MethodName := ⟨"StreamTransport$End", "<init>", "(III)V"⟩
def t_End_init (pc : Nat) : Option Ent :=
  bif Nat.blt pc 42 then
    (bif Nat.blt pc 20 then
      (bif Nat.blt pc 9 then
        (bif Nat.blt pc 4 then
          (bif Nat.blt pc 1 then
            (bif Nat.beq pc 0 then some (.aload_n 0, 0, 0, 0, 0) else none)
          else
            bif Nat.beq pc 1 then some (.invokespecial 3, 0, 1, 0, 0) else none)
        else
          bif Nat.blt pc 5 then
            (bif Nat.beq pc 4 then some (.aload_n 0, 0, 0, 0, 0) else none)
          else
            bif Nat.blt pc 8 then
              (bif Nat.beq pc 5 then some (.new 9, 74, 0, 0, 0) else none)
            else
              bif Nat.beq pc 8 then some (.dup, 0, 0, 1, 0) else none)
      else
        bif Nat.blt pc 15 then
          (bif Nat.blt pc 12 then
            (bif Nat.beq pc 9 then some (.invokespecial 11, 158, 1, 0, 0) else none)
          else
            bif Nat.beq pc 12 then some (.putfield 12, 0, 3, 1, 0) else none)
        else
          bif Nat.blt pc 16 then
            (bif Nat.beq pc 15 then some (.aload_n 0, 0, 0, 0, 0) else none)
          else
            bif Nat.blt pc 19 then
              (bif Nat.beq pc 16 then some (.new 18, 75, 0, 0, 0) else none)
            else
              bif Nat.beq pc 19 then some (.dup, 0, 0, 1, 0) else none)
    else
      bif Nat.blt pc 33 then
        (bif Nat.blt pc 26 then
          (bif Nat.blt pc 23 then
            (bif Nat.beq pc 20 then some (.invokespecial 20, 159, 1, 0, 0) else none)
          else
            bif Nat.beq pc 23 then some (.putfield 21, 0, 4, 1, 0) else none)
        else
          bif Nat.blt pc 27 then
            (bif Nat.beq pc 26 then some (.aload_n 0, 0, 0, 0, 0) else none)
          else
            bif Nat.blt pc 30 then
              (bif Nat.beq pc 27 then some (.sipush 512, 0, 0, 0, 512) else none)
            else
              bif Nat.beq pc 30 then some (.anewarray 25, 12, 0, 0, 0) else none)
      else
        bif Nat.blt pc 37 then
          (bif Nat.blt pc 36 then
            (bif Nat.beq pc 33 then some (.putfield 27, 0, 5, 1, 0) else none)
          else
            bif Nat.beq pc 36 then some (.aload_n 0, 0, 0, 0, 0) else none)
        else
          bif Nat.blt pc 38 then
            (bif Nat.beq pc 37 then some (.iconst (-1), 0, 0, 0, -1) else none)
          else
            bif Nat.blt pc 41 then
              (bif Nat.beq pc 38 then some (.putfield 31, 0, 7, 0, 0) else none)
            else
              bif Nat.beq pc 41 then some (.aload_n 0, 0, 0, 0, 0) else none)
  else
    bif Nat.blt pc 58 then
      (bif Nat.blt pc 51 then
        (bif Nat.blt pc 46 then
          (bif Nat.blt pc 43 then
            (bif Nat.beq pc 42 then some (.iconst (-1), 0, 0, 0, -1) else none)
          else
            bif Nat.beq pc 43 then some (.putfield 35, 0, 9, 0, 0) else none)
        else
          bif Nat.blt pc 47 then
            (bif Nat.beq pc 46 then some (.aload_n 0, 0, 0, 0, 0) else none)
          else
            bif Nat.blt pc 48 then
              (bif Nat.beq pc 47 then some (.iload_n 1, 1, 0, 0, 0) else none)
            else
              bif Nat.beq pc 48 then some (.putfield 38, 0, 0, 0, 0) else none)
      else
        bif Nat.blt pc 55 then
          (bif Nat.blt pc 52 then
            (bif Nat.beq pc 51 then some (.aload_n 0, 0, 0, 0, 0) else none)
          else
            bif Nat.beq pc 52 then some (.new 41, 76, 0, 0, 0) else none)
        else
          bif Nat.blt pc 56 then
            (bif Nat.beq pc 55 then some (.dup, 0, 0, 1, 0) else none)
          else
            bif Nat.blt pc 57 then
              (bif Nat.beq pc 56 then some (.iload_n 2, 2, 0, 0, 0) else none)
            else
              bif Nat.beq pc 57 then some (.iload_n 3, 3, 0, 0, 0) else none)
    else
      bif Nat.blt pc 69 then
        (bif Nat.blt pc 64 then
          (bif Nat.blt pc 61 then
            (bif Nat.beq pc 58 then some (.invokespecial 43, 161, 3, 0, 0) else none)
          else
            bif Nat.beq pc 61 then some (.putfield 46, 0, 1, 1, 0) else none)
        else
          bif Nat.blt pc 65 then
            (bif Nat.beq pc 64 then some (.aload_n 0, 0, 0, 0, 0) else none)
          else
            bif Nat.blt pc 68 then
              (bif Nat.beq pc 65 then some (.new 50, 79, 0, 0, 0) else none)
            else
              bif Nat.beq pc 68 then some (.dup, 0, 0, 1, 0) else none)
      else
        bif Nat.blt pc 71 then
          (bif Nat.blt pc 70 then
            (bif Nat.beq pc 69 then some (.iload_n 2, 2, 0, 0, 0) else none)
          else
            bif Nat.beq pc 70 then some (.iload_n 3, 3, 0, 0, 0) else none)
        else
          bif Nat.blt pc 74 then
            (bif Nat.beq pc 71 then some (.invokespecial 52, 163, 3, 0, 0) else none)
          else
            bif Nat.blt pc 77 then
              (bif Nat.beq pc 74 then some (.putfield 53, 0, 2, 1, 0) else none)
            else
              bif Nat.beq pc 77 then some (.return_, 0, 0, 0, 0) else none
def i_End_init : Nat → Option Ent := ab_tab 78 t_End_init
def h_End_init (pc : Nat) : Nat × List Bool := (0, [])
def s_End_init (pc : Nat) : List (Int32 × Nat) × Nat := ([], 0)
noncomputable def eV_End_init : Nat → List AV → Mm → Option Mm := ab_ev [(0, c_O), (158, c_Num_init), (159, c_Rdr_init), (161, c_Int_init), (163, c_Otf_init)]
noncomputable def eI_End_init : Nat → List AV → Mm → Option (Int32 × Mm) := ab_ev []
noncomputable def b_End_init_0 (f : Nat) (v0 : Nat) (v1 : Int32) (v2 : Int32) (v3 : Int32) (m : Mm) : Option Rs := ab_ex KT none s_End_init eV_End_init eI_End_init i_End_init h_End_init f 0 [some (.inr (.inr (73, some v0))), some (.inl v1), some (.inl v2), some (.inl v3)] [] m
set_option maxRecDepth 100000 in
set_option maxHeartbeats 4000000 in
theorem b_End_init_0_eq (f : Nat) (v0 : Nat) (v1 : Int32) (v2 : Int32) (v3 : Int32) (m : Mm) : b_End_init_0 (f + 1) v0 v1 v2 v3 m =
    ab_let m.2.2.2.1.length fun n2 =>
    ab_let (ab_ap m 74) fun m1 =>
    (r_Num_init n2 m1).bind fun m3 =>
    ab_let (ab_uR m3 18 v0 0 (some n2)) fun m4 =>
    ab_let m4.2.2.2.1.length fun n6 =>
    ab_let (ab_ap m4 75) fun m5 =>
    (r_Rdr_init n6 m5).bind fun m7 =>
    ab_let (ab_uR m7 19 v0 0 (some n6)) fun m8 =>
    if (512 : Int32) = Int32.ofNat 512 then
    ab_let m8.2.2.2.1.length fun n10 =>
    ab_let (ab_ap m8 12) fun m9 =>
    ab_let (ab_uR m9 20 v0 0 (some n10)) fun m11 =>
    ab_let (ab_uI m11 22 v0 0 (-1 : Int32)) fun m12 =>
    ab_let (ab_uI m12 24 v0 0 (-1 : Int32)) fun m13 =>
    ab_let (ab_uI m13 15 v0 0 v1) fun m14 =>
    ab_let m14.2.2.2.1.length fun n16 =>
    ab_let (ab_ap m14 76) fun m15 =>
    (r_Int_init n16 v2 v3 m15).bind fun m17 =>
    ab_let (ab_uR m17 16 v0 0 (some n16)) fun m18 =>
    ab_let m18.2.2.2.1.length fun n20 =>
    ab_let (ab_ap m18 79) fun m19 =>
    (r_Otf_init n20 v2 v3 m19).bind fun m21 =>
    ab_let (ab_uR m21 17 v0 0 (some n20)) fun m22 =>
    some (.inl (none, m22))
    else none := rfl
noncomputable def r_End_init : Nat → Int32 → Int32 → Int32 → Mm → Option Mm := ab_seal fun v0 v1 v2 v3 m => ab_rV (b_End_init_0 50000 v0 v1 v2 v3 m)
theorem r_End_init_eq (v0 : Nat) (v1 : Int32) (v2 : Int32) (v3 : Int32) (m : Mm) : r_End_init v0 v1 v2 v3 m = ab_rV (b_End_init_0 50000 v0 v1 v2 v3 m) := by
  unfold r_End_init
  rw [ab_seal_eq]
noncomputable def c_End_init : List AV → Mm → Option Mm := fun av m => match av with
  | [.inr (.inr (kv0, ov0)), .inl v1, .inl v2, .inl v3] => if kv0 = 73 then (ov0.bind fun v0 => r_End_init v0 v1 v2 v3 m) else none
  | _ => none
theorem c_End_init_inv {av : List AV} {m : Mm} {r : Mm} (h : c_End_init av m = some r) : ∃ (v0 : Nat) (v1 : Int32) (v2 : Int32) (v3 : Int32), av = [.inr (.inr (73, some v0)), .inl v1, .inl v2, .inl v3] ∧ r_End_init v0 v1 v2 v3 m = some r := by
  unfold c_End_init at h
  split at h
  · rename_i kv0 ov0 v1 v2 v3
    by_cases hkv0 : kv0 = 73
    case neg => rw [if_neg hkv0] at h; cases h
    rw [if_pos hkv0] at h
    subst hkv0
    obtain ⟨v0, hev0, h⟩ := Option.bind_eq_some_iff.mp h
    subst hev0
    exact ⟨v0, v1, v2, v3, rfl, h⟩
  · cases h
def cs_End_init : List Nat := [1, 9, 20, 58, 71]
set_option maxRecDepth 100000 in
theorem E_End_init : ∀ (pc : Nat) (q : Ent), i_End_init pc = some q → ab_E KT CL ab_gW "StreamTransport$End" "<init>" none prog_2_method_1_code s_End_init 4 pc q.1 q.2.1 q.2.2.1 q.2.2.2.1 q.2.2.2.2 := fun pc q hq =>
  ab_Eb_ok lc_End lj_End fl_End fpi_End nw_End na_End nq_End (ab_tab_all (t := t_End_init) (chk := fun pc q => ab_Eb none prog_2_method_1_code s_End_init 4 LC_End LJ_End FL_End FPi_End NW_End NA_End NQ_End pc q.1 q.2.1 q.2.2.1 q.2.2.2.1 q.2.2.2.2) (by decide +kernel) hq)
set_option maxRecDepth 100000 in
theorem mo_End_init {av : List AV} {m : Mm} {r : Mm} (h : c_End_init av m = some r) : ab_mo m r := by
  obtain ⟨v0, v1, v2, v3, -, h⟩ := c_End_init_inv h
  rw [r_End_init_eq] at h
  have hV : ∀ a av m m', eV_End_init a av m = some m' → ab_mo m m' := ab_ev_all (P := fun _ m r => ab_mo m r) [(0, c_O), (158, c_Num_init), (159, c_Rdr_init), (161, c_Int_init), (163, c_Otf_init)] (List.forall_mem_cons.mpr ⟨fun av m r h => ab_kp_mo (kp_O h), List.forall_mem_cons.mpr ⟨fun av m r h => mo_Num_init h, List.forall_mem_cons.mpr ⟨fun av m r h => mo_Rdr_init h, List.forall_mem_cons.mpr ⟨fun av m r h => mo_Int_init h, List.forall_mem_cons.mpr ⟨fun av m r h => mo_Otf_init h, fun q hq => by cases hq⟩⟩⟩⟩⟩)
  have hI : ∀ a av m q, eI_End_init a av m = some q → ab_mo m q.2 := ab_ev_all (P := fun _ (m : Mm) (r : Int32 × Mm) => ab_mo m r.2) [] (fun q hq => by cases hq)
  exact ab_morel (ρ := .inl (none, r)) hV hI (ab_rV_inv h)
set_option maxRecDepth 100000 in
theorem cl_End_init (l : Launch) : ∀ (pc : Nat) (q : Ent), i_End_init pc = some q → ab_inv q.1 = true → ab_CR l KT CL none ab_gW "StreamTransport$End" prog_2_method_1_code 4 3 67 eV_End_init eI_End_init pc q := by
  intro pc q hq hi
  have hm : pc ∈ cs_End_init := ab_tab_cs (t := t_End_init) (by decide +kernel) hq hi
  simp only [cs_End_init, List.mem_cons, List.not_mem_nil, or_false] at hm
  rcases hm with rfl | rfl | rfl | rfl | rfl
  · cases (Option.some.inj hq : ((.invokespecial 3, 0, 1, 0, 0) : Ent) = q)
    exact ab_crO (by decide +kernel) (ab_gW_in 120 (by decide +kernel) rfl) ab_oI ab_oC (by decide) (by decide) (fun av m m' h => c_O_inv h) (fun av m => rfl)
  · cases (Option.some.inj hq : ((.invokespecial 11, 158, 1, 0, 0) : Ent) = q)
    exact ab_crIN (by decide +kernel) cw_Num_init (by decide +kernel) is_Num_init rfl rfl (by decide) (fun av m m' h => cm_Num_init l h) (fun av m => rfl) KT_nd
  · cases (Option.some.inj hq : ((.invokespecial 20, 159, 1, 0, 0) : Ent) = q)
    exact ab_crIN (by decide +kernel) cw_Rdr_init (by decide +kernel) is_Rdr_init rfl rfl (by decide) (fun av m m' h => cm_Rdr_init l h) (fun av m => rfl) KT_nd
  · cases (Option.some.inj hq : ((.invokespecial 43, 161, 3, 0, 0) : Ent) = q)
    exact ab_crI (by decide +kernel) cw_Int_init (ab_gW_in 168 (by decide +kernel) rfl) is_Int_init rfl rfl (by decide) (fun av m m' h => cm_Int_init l h) (fun av m => rfl) KT_nd
  · cases (Option.some.inj hq : ((.invokespecial 52, 163, 3, 0, 0) : Ent) = q)
    exact ab_crI (by decide +kernel) cw_Otf_init (ab_gW_in 233 (by decide +kernel) rfl) is_Otf_init rfl rfl (by decide) (fun av m m' h => cm_Otf_init l h) (fun av m => rfl) KT_nd
theorem cw_End_init : ab_cw y_End_init prog_2_method_1_code 4 3 none := ⟨ab_gW_in 119 (by decide +kernel) rfl, ab_gW_in 63 (by decide +kernel) rfl, by decide +kernel, by decide +kernel, by decide +kernel⟩
theorem is_End_init : Cond.instanceMethod y_End_init ∈ ab_gW := ab_gW_in 118 (by decide +kernel) rfl
set_option maxRecDepth 100000 in
theorem cm_End_init (l : Launch) {av : List AV} {m : Mm} {r : Mm} (h0 : c_End_init av m = some r) : ∃ (k q : Nat) (av' : List AV), av = .inr (.inr (k, some q)) :: av' ∧ av'.length = 3 ∧ k ≠ 0 ∧ ab_nos av' ∧ ab_Met l KT CL y_End_init (Cond.code y_End_init prog_2_method_1_code 4 none :: ab_gW) 3 67 none av m none r := by
  obtain ⟨v0, v1, v2, v3, hav, h⟩ := c_End_init_inv h0
  rw [r_End_init_eq] at h
  have hmo : ab_mo m r := mo_End_init h0
  subst hav
  exact ⟨_, _, _, rfl, rfl, by decide, (by intro v hv q e; subst e; simp at hv), ab_met (by decide +kernel) KT_0 KT_nd KT_k3 E_End_init (cl_End_init l) hmo (Nat.le_of_ble_eq_true rfl) (ab_rV_inv h) (fun v hv => by cases hv)⟩
/-! StreamTransport.<init>(II)V -/
def y_X_init : MethodName := ⟨"StreamTransport", "<init>", "(II)V"⟩
def t_X_init (pc : Nat) : Option Ent :=
  bif Nat.blt pc 56 then
    (bif Nat.blt pc 29 then
      (bif Nat.blt pc 13 then
        (bif Nat.blt pc 5 then
          (bif Nat.blt pc 1 then
            (bif Nat.beq pc 0 then some (.aload_n 0, 0, 0, 0, 0) else none)
          else
            bif Nat.blt pc 4 then
              (bif Nat.beq pc 1 then some (.invokespecial 3, 0, 1, 0, 0) else none)
            else
              bif Nat.beq pc 4 then some (.aload_n 0, 0, 0, 0, 0) else none)
        else
          bif Nat.blt pc 9 then
            (bif Nat.blt pc 6 then
              (bif Nat.beq pc 5 then some (.iconst 2, 0, 0, 0, 2) else none)
            else
              bif Nat.beq pc 6 then some (.anewarray 9, 70, 0, 0, 0) else none)
          else
            bif Nat.blt pc 12 then
              (bif Nat.beq pc 9 then some (.putfield 11, 9, 0, 1, 0) else none)
            else
              bif Nat.beq pc 12 then some (.aload_n 0, 0, 0, 0, 0) else none)
      else
        bif Nat.blt pc 21 then
          (bif Nat.blt pc 15 then
            (bif Nat.beq pc 13 then some (.bipush 16, 0, 0, 0, 16) else none)
          else
            bif Nat.blt pc 18 then
              (bif Nat.beq pc 15 then some (.anewarray 15, 71, 0, 0, 0) else none)
            else
              bif Nat.beq pc 18 then some (.putfield 17, 9, 1, 1, 0) else none)
        else
          bif Nat.blt pc 25 then
            (bif Nat.blt pc 22 then
              (bif Nat.beq pc 21 then some (.aload_n 0, 0, 0, 0, 0) else none)
            else
              bif Nat.beq pc 22 then some (.new 15, 72, 0, 0, 0) else none)
          else
            bif Nat.blt pc 26 then
              (bif Nat.beq pc 25 then some (.dup, 0, 0, 1, 0) else none)
            else
              bif Nat.beq pc 26 then some (.invokespecial 21, 157, 1, 0, 0) else none)
    else
      bif Nat.blt pc 42 then
        (bif Nat.blt pc 35 then
          (bif Nat.blt pc 32 then
            (bif Nat.beq pc 29 then some (.putfield 22, 9, 2, 1, 0) else none)
          else
            bif Nat.blt pc 33 then
              (bif Nat.beq pc 32 then some (.aload_n 0, 0, 0, 0, 0) else none)
            else
              bif Nat.beq pc 33 then some (.bipush 37, 0, 0, 0, 37) else none)
        else
          bif Nat.blt pc 40 then
            (bif Nat.blt pc 37 then
              (bif Nat.beq pc 35 then some (.newarray .int, 6, 0, 0, 0) else none)
            else
              bif Nat.beq pc 37 then some (.putfield 26, 9, 3, 1, 0) else none)
          else
            bif Nat.blt pc 41 then
              (bif Nat.beq pc 40 then some (.iconst 0, 0, 0, 0, 0) else none)
            else
              bif Nat.beq pc 41 then some (.istore_n 3, 3, 0, 0, 0) else none)
      else
        bif Nat.blt pc 48 then
          (bif Nat.blt pc 44 then
            (bif Nat.blt pc 43 then
              (bif Nat.beq pc 42 then some (.iload_n 3, 3, 0, 0, 0) else none)
            else
              bif Nat.beq pc 43 then some (.iconst 2, 0, 0, 0, 2) else none)
          else
            bif Nat.blt pc 47 then
              (bif Nat.beq pc 44 then some (.if_icmp .ge (36), 80, 0, 0, 0) else none)
            else
              bif Nat.beq pc 47 then some (.aload_n 0, 0, 0, 0, 0) else none)
        else
          bif Nat.blt pc 52 then
            (bif Nat.blt pc 51 then
              (bif Nat.beq pc 48 then some (.getfield 11, 9, 0, 1, 0) else none)
            else
              bif Nat.beq pc 51 then some (.iload_n 3, 3, 0, 0, 0) else none)
          else
            bif Nat.blt pc 55 then
              (bif Nat.beq pc 52 then some (.new 9, 73, 0, 0, 0) else none)
            else
              bif Nat.beq pc 55 then some (.dup, 0, 0, 1, 0) else none)
  else
    bif Nat.blt pc 80 then
      (bif Nat.blt pc 65 then
        (bif Nat.blt pc 59 then
          (bif Nat.blt pc 57 then
            (bif Nat.beq pc 56 then some (.iload_n 3, 3, 0, 0, 0) else none)
          else
            bif Nat.blt pc 58 then
              (bif Nat.beq pc 57 then some (.iconst 4, 0, 0, 0, 4) else none)
            else
              bif Nat.beq pc 58 then some (.iload_n 1, 1, 0, 0, 0) else none)
        else
          bif Nat.blt pc 62 then
            (bif Nat.blt pc 61 then
              (bif Nat.beq pc 59 then some (.bipush 15, 0, 0, 0, 15) else none)
            else
              bif Nat.beq pc 61 then some (.iand, 0, 0, 0, 0) else none)
          else
            bif Nat.blt pc 63 then
              (bif Nat.beq pc 62 then some (.iadd, 0, 0, 0, 0) else none)
            else
              bif Nat.beq pc 63 then some (.bipush 8, 0, 0, 0, 8) else none)
      else
        bif Nat.blt pc 70 then
          (bif Nat.blt pc 68 then
            (bif Nat.blt pc 66 then
              (bif Nat.beq pc 65 then some (.iload_n 2, 2, 0, 0, 0) else none)
            else
              bif Nat.beq pc 66 then some (.bipush 31, 0, 0, 0, 31) else none)
          else
            bif Nat.blt pc 69 then
              (bif Nat.beq pc 68 then some (.iand, 0, 0, 0, 0) else none)
            else
              bif Nat.beq pc 69 then some (.iadd, 0, 0, 0, 0) else none)
        else
          bif Nat.blt pc 74 then
            (bif Nat.blt pc 73 then
              (bif Nat.beq pc 70 then some (.invokespecial 30, 165, 4, 0, 0) else none)
            else
              bif Nat.beq pc 73 then some (.aastore, 0, 0, 0, 0) else none)
          else
            bif Nat.blt pc 77 then
              (bif Nat.beq pc 74 then some (.iinc 3 1, 3, 0, 0, 1) else none)
            else
              bif Nat.beq pc 77 then some (.goto (-35), 42, 0, 0, 0) else none)
    else
      bif Nat.blt pc 92 then
        (bif Nat.blt pc 83 then
          (bif Nat.blt pc 81 then
            (bif Nat.beq pc 80 then some (.iconst 0, 0, 0, 0, 0) else none)
          else
            bif Nat.blt pc 82 then
              (bif Nat.beq pc 81 then some (.istore_n 3, 3, 0, 0, 0) else none)
            else
              bif Nat.beq pc 82 then some (.iload_n 3, 3, 0, 0, 0) else none)
        else
          bif Nat.blt pc 88 then
            (bif Nat.blt pc 85 then
              (bif Nat.beq pc 83 then some (.bipush 16, 0, 0, 0, 16) else none)
            else
              bif Nat.beq pc 85 then some (.if_icmp .ge (22), 107, 0, 0, 0) else none)
          else
            bif Nat.blt pc 89 then
              (bif Nat.beq pc 88 then some (.aload_n 0, 0, 0, 0, 0) else none)
            else
              bif Nat.beq pc 89 then some (.getfield 17, 9, 1, 1, 0) else none)
      else
        bif Nat.blt pc 100 then
          (bif Nat.blt pc 96 then
            (bif Nat.blt pc 93 then
              (bif Nat.beq pc 92 then some (.iload_n 3, 3, 0, 0, 0) else none)
            else
              bif Nat.beq pc 93 then some (.new 15, 72, 0, 0, 0) else none)
          else
            bif Nat.blt pc 97 then
              (bif Nat.beq pc 96 then some (.dup, 0, 0, 1, 0) else none)
            else
              bif Nat.beq pc 97 then some (.invokespecial 21, 157, 1, 0, 0) else none)
        else
          bif Nat.blt pc 104 then
            (bif Nat.blt pc 101 then
              (bif Nat.beq pc 100 then some (.aastore, 0, 0, 0, 0) else none)
            else
              bif Nat.beq pc 101 then some (.iinc 3 1, 3, 0, 0, 1) else none)
          else
            bif Nat.blt pc 107 then
              (bif Nat.beq pc 104 then some (.goto (-22), 82, 0, 0, 0) else none)
            else
              bif Nat.beq pc 107 then some (.return_, 0, 0, 0, 0) else none
def i_X_init : Nat → Option Ent := ab_tab 108 t_X_init
def h_X_init (pc : Nat) : Nat × List Bool := bif Nat.beq pc 42 then (1, [true, true, true, true]) else bif Nat.beq pc 82 then (1, [true, false, false, true]) else (0, [])
def s_X_init (pc : Nat) : List (Int32 × Nat) × Nat := ([], 0)
noncomputable def eV_X_init : Nat → List AV → Mm → Option Mm := ab_ev [(0, c_O), (157, c_Row_init), (165, c_End_init)]
noncomputable def eI_X_init : Nat → List AV → Mm → Option (Int32 × Mm) := ab_ev []
noncomputable def b_X_init_0 (f : Nat) (v0 : Nat) (v1 : Int32) (v2 : Int32) (m : Mm) : Option Rs := ab_ex KT none s_X_init eV_X_init eI_X_init i_X_init h_X_init f 0 [some (.inr (.inr (69, some v0))), some (.inl v1), some (.inl v2), none] [] m
noncomputable def b_X_init_42 (f : Nat) (v0 : Nat) (v1 : Int32) (v2 : Int32) (v3 : Int32) (m : Mm) : Option Rs := ab_ex KT none s_X_init eV_X_init eI_X_init i_X_init h_X_init f 42 [some (.inr (.inr (69, some v0))), some (.inl v1), some (.inl v2), some (.inl v3)] [] m
noncomputable def b_X_init_82 (f : Nat) (v0 : Nat) (v3 : Int32) (m : Mm) : Option Rs := ab_ex KT none s_X_init eV_X_init eI_X_init i_X_init h_X_init f 82 [some (.inr (.inr (69, some v0))), none, none, some (.inl v3)] [] m
set_option maxRecDepth 100000 in
set_option maxHeartbeats 4000000 in
theorem b_X_init_0_eq (f : Nat) (v0 : Nat) (v1 : Int32) (v2 : Int32) (m : Mm) : b_X_init_0 (f + 1) v0 v1 v2 m =
    if (2 : Int32) = Int32.ofNat 2 then
    ab_let m.2.2.2.1.length fun n2 =>
    ab_let (ab_ap m 70) fun m1 =>
    ab_let (ab_uR m1 1 v0 0 (some n2)) fun m3 =>
    if (16 : Int32) = Int32.ofNat 16 then
    ab_let m3.2.2.2.1.length fun n5 =>
    ab_let (ab_ap m3 71) fun m4 =>
    ab_let (ab_uR m4 2 v0 0 (some n5)) fun m6 =>
    ab_let m6.2.2.2.1.length fun n8 =>
    ab_let (ab_ap m6 72) fun m7 =>
    (r_Row_init n8 m7).bind fun m9 =>
    ab_let (ab_uR m9 3 v0 0 (some n8)) fun m10 =>
    if (37 : Int32) = Int32.ofNat 37 then
    ab_let m10.2.2.2.1.length fun n12 =>
    ab_let (ab_ap m10 6) fun m11 =>
    ab_let (ab_uR m11 4 v0 0 (some n12)) fun m13 =>
    b_X_init_42 f v0 v1 v2 (0 : Int32) m13
    else none
    else none
    else none := rfl
set_option maxRecDepth 100000 in
set_option maxHeartbeats 4000000 in
theorem b_X_init_42_eq (f : Nat) (v0 : Nat) (v1 : Int32) (v2 : Int32) (v3 : Int32) (m : Mm) : b_X_init_42 (f + 1) v0 v1 v2 v3 m =
    if (2 : Int32) ≤ v3 then
      b_X_init_82 f v0 (0 : Int32) m
    else
      ab_let m.2.2.2.1.length fun n2 =>
      ab_let (ab_ap m 73) fun m1 =>
      (r_End_init n2 v3 ((4 : Int32) + (v1 &&& (15 : Int32))) ((8 : Int32) + (v2 &&& (31 : Int32))) m1).bind fun m3 =>
      (m.2.2.1 1 v0 0).bind fun q4 =>
        (ab_ix v3 2).bind fun i5 =>
      ab_let (ab_uR m3 8 q4 i5 (some n2)) fun m6 =>
      ab_let (v3 + (1 : Int32)) fun x7 =>
      b_X_init_42 f v0 v1 v2 x7 m6 := rfl
set_option maxRecDepth 100000 in
set_option maxHeartbeats 4000000 in
theorem b_X_init_82_eq (f : Nat) (v0 : Nat) (v3 : Int32) (m : Mm) : b_X_init_82 (f + 1) v0 v3 m =
    if (16 : Int32) ≤ v3 then
      some (.inl (none, m))
    else
      ab_let m.2.2.2.1.length fun n2 =>
      ab_let (ab_ap m 72) fun m1 =>
      (r_Row_init n2 m1).bind fun m3 =>
      (m.2.2.1 2 v0 0).bind fun q4 =>
        (ab_ix v3 16).bind fun i5 =>
      ab_let (ab_uR m3 9 q4 i5 (some n2)) fun m6 =>
      ab_let (v3 + (1 : Int32)) fun x7 =>
      b_X_init_82 f v0 x7 m6 := rfl
noncomputable def r_X_init : Nat → Int32 → Int32 → Mm → Option Mm := ab_seal fun v0 v1 v2 m => ab_rV (b_X_init_0 50000 v0 v1 v2 m)
theorem r_X_init_eq (v0 : Nat) (v1 : Int32) (v2 : Int32) (m : Mm) : r_X_init v0 v1 v2 m = ab_rV (b_X_init_0 50000 v0 v1 v2 m) := by
  unfold r_X_init
  rw [ab_seal_eq]
noncomputable def c_X_init : List AV → Mm → Option Mm := fun av m => match av with
  | [.inr (.inr (kv0, ov0)), .inl v1, .inl v2] => if kv0 = 69 then (ov0.bind fun v0 => r_X_init v0 v1 v2 m) else none
  | _ => none
theorem c_X_init_inv {av : List AV} {m : Mm} {r : Mm} (h : c_X_init av m = some r) : ∃ (v0 : Nat) (v1 : Int32) (v2 : Int32), av = [.inr (.inr (69, some v0)), .inl v1, .inl v2] ∧ r_X_init v0 v1 v2 m = some r := by
  unfold c_X_init at h
  split at h
  · rename_i kv0 ov0 v1 v2
    by_cases hkv0 : kv0 = 69
    case neg => rw [if_neg hkv0] at h; cases h
    rw [if_pos hkv0] at h
    subst hkv0
    obtain ⟨v0, hev0, h⟩ := Option.bind_eq_some_iff.mp h
    subst hev0
    exact ⟨v0, v1, v2, rfl, h⟩
  · cases h
def cs_X_init : List Nat := [1, 26, 70, 97]
set_option maxRecDepth 100000 in
theorem E_X_init : ∀ (pc : Nat) (q : Ent), i_X_init pc = some q → ab_E KT CL ab_gW "StreamTransport" "<init>" none prog_1_method_1_code s_X_init 4 pc q.1 q.2.1 q.2.2.1 q.2.2.2.1 q.2.2.2.2 := fun pc q hq =>
  ab_Eb_ok lc_X lj_X fl_X fpi_X nw_X na_X nq_X (ab_tab_all (t := t_X_init) (chk := fun pc q => ab_Eb none prog_1_method_1_code s_X_init 4 LC_X LJ_X FL_X FPi_X NW_X NA_X NQ_X pc q.1 q.2.1 q.2.2.1 q.2.2.2.1 q.2.2.2.2) (by decide +kernel) hq)
set_option maxRecDepth 100000 in
theorem mo_X_init {av : List AV} {m : Mm} {r : Mm} (h : c_X_init av m = some r) : ab_mo m r := by
  obtain ⟨v0, v1, v2, -, h⟩ := c_X_init_inv h
  rw [r_X_init_eq] at h
  have hV : ∀ a av m m', eV_X_init a av m = some m' → ab_mo m m' := ab_ev_all (P := fun _ m r => ab_mo m r) [(0, c_O), (157, c_Row_init), (165, c_End_init)] (List.forall_mem_cons.mpr ⟨fun av m r h => ab_kp_mo (kp_O h), List.forall_mem_cons.mpr ⟨fun av m r h => mo_Row_init h, List.forall_mem_cons.mpr ⟨fun av m r h => mo_End_init h, fun q hq => by cases hq⟩⟩⟩)
  have hI : ∀ a av m q, eI_X_init a av m = some q → ab_mo m q.2 := ab_ev_all (P := fun _ (m : Mm) (r : Int32 × Mm) => ab_mo m r.2) [] (fun q hq => by cases hq)
  exact ab_morel (ρ := .inl (none, r)) hV hI (ab_rV_inv h)
set_option maxRecDepth 100000 in
theorem cl_X_init (l : Launch) : ∀ (pc : Nat) (q : Ent), i_X_init pc = some q → ab_inv q.1 = true → ab_CR l KT CL none ab_gW "StreamTransport" prog_1_method_1_code 4 4 90 eV_X_init eI_X_init pc q := by
  intro pc q hq hi
  have hm : pc ∈ cs_X_init := ab_tab_cs (t := t_X_init) (by decide +kernel) hq hi
  simp only [cs_X_init, List.mem_cons, List.not_mem_nil, or_false] at hm
  rcases hm with rfl | rfl | rfl | rfl
  · cases (Option.some.inj hq : ((.invokespecial 3, 0, 1, 0, 0) : Ent) = q)
    exact ab_crO (by decide +kernel) (ab_gW_in 87 (by decide +kernel) rfl) ab_oI ab_oC (by decide) (by decide) (fun av m m' h => c_O_inv h) (fun av m => rfl)
  · cases (Option.some.inj hq : ((.invokespecial 21, 157, 1, 0, 0) : Ent) = q)
    exact ab_crIN (by decide +kernel) cw_Row_init (by decide +kernel) is_Row_init rfl rfl (by decide) (fun av m m' h => cm_Row_init l h) (fun av m => rfl) KT_nd
  · cases (Option.some.inj hq : ((.invokespecial 30, 165, 4, 0, 0) : Ent) = q)
    exact ab_crI (by decide +kernel) cw_End_init (ab_gW_in 117 (by decide +kernel) rfl) is_End_init rfl rfl (by decide) (fun av m m' h => cm_End_init l h) (fun av m => rfl) KT_nd
  · cases (Option.some.inj hq : ((.invokespecial 21, 157, 1, 0, 0) : Ent) = q)
    exact ab_crIN (by decide +kernel) cw_Row_init (by decide +kernel) is_Row_init rfl rfl (by decide) (fun av m m' h => cm_Row_init l h) (fun av m => rfl) KT_nd
theorem cw_X_init : ab_cw y_X_init prog_1_method_1_code 4 2 none := ⟨ab_gW_in 86 (by decide +kernel) rfl, ab_gW_in 61 (by decide +kernel) rfl, by decide +kernel, by decide +kernel, by decide +kernel⟩
theorem is_X_init : Cond.instanceMethod y_X_init ∈ ab_gW := ab_gW_in 85 (by decide +kernel) rfl
set_option maxRecDepth 100000 in
theorem cm_X_init (l : Launch) {av : List AV} {m : Mm} {r : Mm} (h0 : c_X_init av m = some r) : ∃ (k q : Nat) (av' : List AV), av = .inr (.inr (k, some q)) :: av' ∧ av'.length = 2 ∧ k ≠ 0 ∧ ab_nos av' ∧ ab_Met l KT CL y_X_init (Cond.code y_X_init prog_1_method_1_code 4 none :: ab_gW) 4 90 none av m none r := by
  obtain ⟨v0, v1, v2, hav, h⟩ := c_X_init_inv h0
  rw [r_X_init_eq] at h
  have hmo : ab_mo m r := mo_X_init h0
  subst hav
  exact ⟨_, _, _, rfl, rfl, by decide, (by intro v hv q e; subst e; simp at hv), ab_met (by decide +kernel) KT_0 KT_nd KT_k3 E_X_init (cl_X_init l) hmo (Nat.le_of_ble_eq_true rfl) (ab_rV_inv h) (fun v hv => by cases hv)⟩
end
