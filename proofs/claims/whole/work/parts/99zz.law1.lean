section
def FLp_Law : List ((Nat × Nat × Nat) × Nat) := []
def FL_Law : List (Nat × Nat × Nat) := []
theorem fl_Law : ∀ q ∈ FL_Law, ab_fld CL ab_gW "StreamTransportLaw" q.1 q.2.1 q.2.2 := ab_flb_ok (own := "StreamTransportLaw") (l := FLp_Law) (by decide +kernel)
def FPnp_Law : List ((Nat × Nat × Nat) × Nat) := []
def FPn_Law : List (Nat × Nat × Nat) := []
theorem fpn_Law (nm : String) : ∀ q ∈ FPn_Law, ∃ ty, ab_fldp CL ab_gW "StreamTransportLaw" nm q.1 q.2.1 q.2.2 ty ∧ ∀ (k t r k' d' : Nat), ab_fs KT q.2.1 q.2.2 k = some (t, r, k', d') → (t = 0 → ty = .int) ∧ (t = 1 → ty = .boolean) ∧ (t = 2 → ((∃ n, ty = .object n) ∨ ∃ t, ty = .array t) ∧ k' ≠ 0) := ab_fpb_ok (own := "StreamTransportLaw") (nm := nm) (l := FPnp_Law) (ab_fpn_ok (by decide +kernel))
def FPip_Law : List ((Nat × Nat × Nat) × Nat) := []
def FPi_Law : List (Nat × Nat × Nat) := []
theorem fpi_Law : ∀ q ∈ FPi_Law, ∃ ty, ab_fldp CL ab_gW "StreamTransportLaw" "<init>" q.1 q.2.1 q.2.2 ty ∧ ∀ (k t r k' d' : Nat), ab_fs KT q.2.1 q.2.2 k = some (t, r, k', d') → (t = 0 → ty = .int) ∧ (t = 1 → ty = .boolean) ∧ (t = 2 → ((∃ n, ty = .object n) ∨ ∃ t, ty = .array t) ∧ k' ≠ 0) := ab_fpb_ok (own := "StreamTransportLaw") (nm := "<init>") (l := FPip_Law) (by decide +kernel)
def LCp_Law : List ((Nat × Int32) × Nat) := []
def LC_Law : List (Nat × Int32) := []
theorem lc_Law : ∀ q ∈ LC_Law, Cond.constant "StreamTransportLaw" q.1 q.2 ∈ ab_gW := ab_lcb (own := "StreamTransportLaw") (l := LCp_Law) (by decide +kernel)
def LJp_Law : List ((Nat × Nat) × Nat) := [((37, 4294967295), 1350)]
def LJ_Law : List (Nat × Nat) := [(37, 4294967295)]
theorem lj_Law : ∀ q ∈ LJ_Law, Cond.constantLong "StreamTransportLaw" q.1 (Int64.ofNat q.2) ∈ ab_gW := ab_ljb (own := "StreamTransportLaw") (l := LJp_Law) (by decide +kernel)
def NWp_Law : List ((Nat × Nat) × Nat × Nat × Nat) := [((8, 69), 82, 83, 61), ((34, 83), 980, 981, 71)]
def NW_Law : List (Nat × Nat) := [(8, 69), (34, 83)]
theorem nw_Law : ∀ q ∈ NW_Law, ab_newok KT CL ab_gW "StreamTransportLaw" q.1 q.2 := ab_nwb_ok (own := "StreamTransportLaw") (l := NWp_Law) (by decide +kernel)
def NQp_Law : List ((Nat × Nat) × Nat) := []
def NQ_Law : List (Nat × Nat) := []
theorem nq_Law : ∀ q ∈ NQ_Law, ab_nqok KT CL ab_gW "StreamTransportLaw" q.1 q.2 := ab_nqb_ok (own := "StreamTransportLaw") (l := NQp_Law) (by decide +kernel)
def NA_Law : List (Nat × Nat) := [(2, 68)]
theorem na_Law : ∀ q ∈ NA_Law, (q.1 = 0 → ab_naok KT CL ab_gW .int q.2) ∧ (q.1 = 1 → ab_naok KT CL ab_gW .boolean q.2) ∧ (q.1 = 2 → ab_naok KT CL ab_gW .long q.2) := ab_nab_ok (by decide +kernel)
/-! StreamTransportLaw.cell([II)I -/
def y_Law_cell : MethodName := ⟨"StreamTransportLaw", "cell", "([II)I"⟩
def t_Law_cell (pc : Nat) : Option Ent :=
  bif Nat.blt pc 7 then
    (bif Nat.blt pc 2 then
      (bif Nat.blt pc 1 then
        (bif Nat.beq pc 0 then some (.iload_n 1, 1, 0, 0, 0) else none)
      else
        bif Nat.beq pc 1 then some (.aload_n 0, 0, 0, 0, 0) else none)
    else
      bif Nat.blt pc 3 then
        (bif Nat.beq pc 2 then some (.arraylength, 0, 0, 0, 0) else none)
      else
        bif Nat.blt pc 6 then
          (bif Nat.beq pc 3 then some (.if_icmp .ge (9), 12, 0, 0, 0) else none)
        else
          bif Nat.beq pc 6 then some (.aload_n 0, 0, 0, 0, 0) else none)
  else
    bif Nat.blt pc 9 then
      (bif Nat.blt pc 8 then
        (bif Nat.beq pc 7 then some (.iload_n 1, 1, 0, 0, 0) else none)
      else
        bif Nat.beq pc 8 then some (.iaload, 0, 0, 0, 0) else none)
    else
      bif Nat.blt pc 12 then
        (bif Nat.beq pc 9 then some (.goto 4, 13, 0, 0, 0) else none)
      else
        bif Nat.blt pc 13 then
          (bif Nat.beq pc 12 then some (.iconst 0, 0, 0, 0, 0) else none)
        else
          bif Nat.beq pc 13 then some (.ireturn, 0, 0, 0, 0) else none
def i_Law_cell : Nat → Option Ent := ab_tab 14 t_Law_cell
def h_Law_cell (pc : Nat) : Nat × List Bool := (0, [])
def s_Law_cell (pc : Nat) : List (Int32 × Nat) × Nat := ([], 0)
noncomputable def eV_Law_cell (sL : Nat) (sX : Nat → Int32) : Nat → List AV → Mm → Option Mm := ab_ev []
noncomputable def eI_Law_cell (sL : Nat) (sX : Nat → Int32) : Nat → List AV → Mm → Option (Int32 × Mm) := ab_ev []
noncomputable def b_Law_cell_0 (sL : Nat) (sX : Nat → Int32) (f : Nat) (v0 : Nat) (v1 : Int32) (m : Mm) : Option Rs := ab_ex KT (some (sL, sX)) s_Law_cell (eV_Law_cell sL sX) (eI_Law_cell sL sX) i_Law_cell h_Law_cell f 0 [some (.inr (.inr (0, some v0))), some (.inl v1)] [] m
set_option maxRecDepth 100000 in
set_option maxHeartbeats 4000000 in
theorem b_Law_cell_0_eq (sL : Nat) (sX : Nat → Int32) (f : Nat) (v0 : Nat) (v1 : Int32) (m : Mm) : b_Law_cell_0 sL sX (f + 1) v0 v1 m =
    if (Int32.ofNat sL) ≤ v1 then
      some (.inl (some (.inl (0 : Int32)), m))
    else
      (ab_ix v1 sL).bind fun i1 =>
      some (.inl (some (.inl (sX i1)), m)) := rfl
noncomputable def r_Law_cell : Nat → (Nat → Int32) → Nat → Int32 → Mm → Option (Int32 × Mm) := ab_seal fun sL sX v0 v1 m => ab_rI (b_Law_cell_0 sL sX 50000 v0 v1 m)
theorem r_Law_cell_eq (sL : Nat) (sX : Nat → Int32) (v0 : Nat) (v1 : Int32) (m : Mm) : r_Law_cell sL sX v0 v1 m = ab_rI (b_Law_cell_0 sL sX 50000 v0 v1 m) := by
  unfold r_Law_cell
  rw [ab_seal_eq]
noncomputable def c_Law_cell (sL : Nat) (sX : Nat → Int32) : List AV → Mm → Option (Int32 × Mm) := fun av m => match av with
  | [.inr (.inr (kv0, ov0)), .inl v1] => if kv0 = 0 then (ov0.bind fun v0 => r_Law_cell sL sX v0 v1 m) else none
  | _ => none
theorem c_Law_cell_inv {sL : Nat} {sX : Nat → Int32} {av : List AV} {m : Mm} {r : Int32 × Mm} (h : c_Law_cell sL sX av m = some r) : ∃ (v0 : Nat) (v1 : Int32), av = [.inr (.inr (0, some v0)), .inl v1] ∧ r_Law_cell sL sX v0 v1 m = some r := by
  unfold c_Law_cell at h
  split at h
  · rename_i kv0 ov0 v1
    by_cases hkv0 : kv0 = 0
    case neg => rw [if_neg hkv0] at h; cases h
    rw [if_pos hkv0] at h
    subst hkv0
    obtain ⟨v0, hev0, h⟩ := Option.bind_eq_some_iff.mp h
    subst hev0
    exact ⟨v0, v1, rfl, h⟩
  · cases h
def cs_Law_cell : List Nat := []
set_option maxRecDepth 100000 in
theorem E_Law_cell : ∀ (pc : Nat) (q : Ent), i_Law_cell pc = some q → ab_E KT CL ab_gW "StreamTransportLaw" "cell" (some .int) method_2_code s_Law_cell 2 pc q.1 q.2.1 q.2.2.1 q.2.2.2.1 q.2.2.2.2 := fun pc q hq =>
  ab_Eb_ok lc_Law lj_Law fl_Law (fpn_Law "cell") nw_Law na_Law nq_Law (ab_tab_all (t := t_Law_cell) (chk := fun pc q => ab_Eb (some .int) method_2_code s_Law_cell 2 LC_Law LJ_Law FL_Law FPn_Law NW_Law NA_Law NQ_Law pc q.1 q.2.1 q.2.2.1 q.2.2.2.1 q.2.2.2.2) (by decide +kernel) hq)
set_option maxRecDepth 100000 in
theorem kp_Law_cell {sL : Nat} {sX : Nat → Int32} {av : List AV} {m : Mm} {r : Int32 × Mm} (h : c_Law_cell sL sX av m = some r) : ab_kp m r.2 := by
  obtain ⟨v0, v1, -, h⟩ := c_Law_cell_inv h
  rw [r_Law_cell_eq] at h
  have hV : ∀ a av m m', eV_Law_cell sL sX a av m = some m' → ab_kp m m' := ab_ev_all (P := fun _ m r => ab_kp m r) [] (fun q hq => by cases hq)
  have hI : ∀ a av m q, eI_Law_cell sL sX a av m = some q → ab_kp m q.2 := ab_ev_all (P := fun _ (m : Mm) (r : Int32 × Mm) => ab_kp m r.2) [] (fun q hq => by cases hq)
  exact ab_kprel (ρ := .inl (some (.inl r.1), r.2)) (ab_tab_isn (t := t_Law_cell) (by decide +kernel)) hV hI (ab_rI_inv h)
set_option maxRecDepth 100000 in
theorem cl_Law_cell (l : Launch) (sL : Nat) (sX : Nat → Int32) : ∀ (pc : Nat) (q : Ent), i_Law_cell pc = some q → ab_inv q.1 = true → ab_CR l KT CL (some (sL, sX)) ab_gW "StreamTransportLaw" method_2_code 2 0 0 (eV_Law_cell sL sX) (eI_Law_cell sL sX) pc q := by
  intro pc q hq hi
  have hm : pc ∈ cs_Law_cell := ab_tab_cs (t := t_Law_cell) (by decide +kernel) hq hi
  cases hm
theorem cw_Law_cell : ab_cw y_Law_cell method_2_code 2 2 (some .int) := ⟨ab_gW_in 839 (by decide +kernel) rfl, ab_gW_in 60 (by decide +kernel) rfl, by decide +kernel, by decide +kernel, by decide +kernel⟩
theorem st_Law_cell : Cond.static y_Law_cell ∈ ab_gW := ab_gW_in 838 (by decide +kernel) rfl
set_option maxRecDepth 100000 in
theorem cm_Law_cell (l : Launch) {sL : Nat} {sX : Nat → Int32} {av : List AV} {m : Mm} {r : Int32 × Mm} (h0 : c_Law_cell sL sX av m = some r) : av.length = 2 ∧ ab_Met l KT CL y_Law_cell (Cond.code y_Law_cell method_2_code 2 (some .int) :: ab_gW) 0 0 (some (sL, sX)) av m (some (.inl r.1)) r.2 := by
  have hmo : ab_mo m r.2 := ab_kp_mo (kp_Law_cell h0)
  obtain ⟨v0, v1, hav, h⟩ := c_Law_cell_inv h0
  rw [r_Law_cell_eq] at h
  subst hav
  exact ⟨rfl, ab_met (by decide +kernel) KT_0 KT_nd KT_k3 E_Law_cell (cl_Law_cell l sL sX) hmo (Nat.le_of_ble_eq_true rfl) (ab_rI_inv h) (fun v hv => by cases hv; exact ⟨_, rfl⟩)⟩
end
