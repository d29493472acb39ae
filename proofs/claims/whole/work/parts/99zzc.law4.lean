section
/-! The law's phases: the constructors, the loop. -/
theorem ab_crSs {l : Launch} {KT : List KS} {cl : List vw_C} {sc : Option (Nat × (Nat → Int32))} {own : String} {cc : ByteArray} {nL fr lo : Nat} {eV : Nat → List AV → Mm → Option Mm} {eI : Nat → List AV → Mm → Option (Int32 × Mm)} {pc idx a b' d n : Nat} {x : Int32} {y : MethodName} {bytes : ByteArray} {maxL fr' lo' : Nat} {ret : Option FieldType}
    (hdg : decode cc pc = .ok (.invokestatic idx, 3)) (hw : ab_cw y bytes maxL n ret) (hlk : Cond.methodLink own idx y ∈ ab_gW) (hst : Cond.static y ∈ ab_gW) (hR : fr' + 1 ≤ fr ∧ 8 + (maxL + 11) + lo' ≤ lo)
    (hMV : ∀ av m m', eV a av m = some m' → av.length = n ∧ ab_Met l KT cl y (Cond.code y bytes maxL ret :: ab_gW) fr' lo' sc av m none m')
    (hMI : ∀ av m r, eI a av m = some r → av.length = n ∧ ab_Met l KT cl y (Cond.code y bytes maxL ret :: ab_gW) fr' lo' sc av m (some (.inl r.1)) r.2)
    (hnd : ab_nd KT) : ab_CR l KT cl sc ab_gW own cc nL fr lo eV eI pc (.invokestatic idx, a, b', d, x) := by
  intro p e R s m0 args below meth cd Q D b A H0 ks0 g0 h0 G Hs ad0 ac0 hX hx hb hml hts hown hK0 hA hG hHs hfr hlo hsc
  subst hfr
  subst hlo
  refine ⟨fun L S m m' hwd he w => ?_, fun L S m r hwd he w => ?_⟩
  · obtain ⟨h2, hM⟩ := hMV _ _ _ he
    exact ab_cS (r := none) (sc' := sc) hX hx hb hml hts hown hK0 hnd hA hG hHs (Or.inr ⟨rfl, hsc⟩) rfl h2 hwd hM (fun v hv _ => hv) rfl (ab_gW_good hw.1) hw.2.1 hlk hst hw.2.2 hR hdg (fun v hv => by cases hv) w
  · obtain ⟨h2, hM⟩ := hMI _ _ _ he
    exact ab_cS (r := some (.inl r.1)) (sc' := sc) hX hx hb hml hts hown hK0 hnd hA hG hHs (Or.inr ⟨rfl, hsc⟩) rfl h2 hwd hM (fun v hv _ => hv) rfl (ab_gW_good hw.1) hw.2.1 hlk hst hw.2.2 hR hdg (fun v hv => by cases hv; exact ⟨_, rfl⟩) w
/-! StreamTransportLaw.law([I)Z -/
def y_Law_a : MethodName := ⟨"StreamTransportLaw", "law", "([I)Z"⟩
def t_Law_a (pc : Nat) : Option Ent :=
  bif Nat.blt pc 22 then
    (bif Nat.blt pc 10 then
      (bif Nat.blt pc 5 then
        (bif Nat.blt pc 3 then
          (bif Nat.beq pc 0 then some (.new 8, 69, 0, 0, 0) else none)
        else
          bif Nat.blt pc 4 then
            (bif Nat.beq pc 3 then some (.dup, 0, 0, 1, 0) else none)
          else
            bif Nat.beq pc 4 then some (.aload_n 0, 0, 0, 0, 0) else none)
      else
        bif Nat.blt pc 6 then
          (bif Nat.beq pc 5 then some (.iconst 0, 0, 0, 0, 0) else none)
        else
          bif Nat.blt pc 9 then
            (bif Nat.beq pc 6 then some (.invokestatic 25, 172, 2, 1, 0) else none)
          else
            bif Nat.beq pc 9 then some (.aload_n 0, 0, 0, 0, 0) else none)
    else
      bif Nat.blt pc 17 then
        (bif Nat.blt pc 11 then
          (bif Nat.beq pc 10 then some (.iconst 1, 0, 0, 0, 1) else none)
        else
          bif Nat.blt pc 14 then
            (bif Nat.beq pc 11 then some (.invokestatic 25, 172, 2, 1, 0) else none)
          else
            bif Nat.beq pc 14 then some (.invokespecial 31, 166, 3, 0, 0) else none)
      else
        bif Nat.blt pc 18 then
          (bif Nat.beq pc 17 then some (.astore_n 1, 1, 0, 0, 0) else none)
        else
          bif Nat.blt pc 21 then
            (bif Nat.beq pc 18 then some (.new 34, 83, 0, 0, 0) else none)
          else
            bif Nat.beq pc 21 then some (.dup, 0, 0, 1, 0) else none)
  else
    bif Nat.blt pc 32 then
      (bif Nat.blt pc 27 then
        (bif Nat.blt pc 23 then
          (bif Nat.beq pc 22 then some (.aload_n 0, 0, 0, 0, 0) else none)
        else
          bif Nat.blt pc 24 then
            (bif Nat.beq pc 23 then some (.iconst 0, 0, 0, 0, 0) else none)
          else
            bif Nat.beq pc 24 then some (.invokestatic 25, 172, 2, 1, 0) else none)
      else
        bif Nat.blt pc 28 then
          (bif Nat.beq pc 27 then some (.aload_n 0, 0, 0, 0, 0) else none)
        else
          bif Nat.blt pc 29 then
            (bif Nat.beq pc 28 then some (.iconst 1, 0, 0, 0, 1) else none)
          else
            bif Nat.beq pc 29 then some (.invokestatic 25, 172, 2, 1, 0) else none)
    else
      bif Nat.blt pc 37 then
        (bif Nat.blt pc 35 then
          (bif Nat.beq pc 32 then some (.invokespecial 36, 167, 3, 0, 0) else none)
        else
          bif Nat.blt pc 36 then
            (bif Nat.beq pc 35 then some (.astore_n 2, 2, 0, 0, 0) else none)
          else
            bif Nat.beq pc 36 then some (.iconst 1, 0, 0, 0, 1) else none)
      else
        bif Nat.blt pc 40 then
          (bif Nat.blt pc 39 then
            (bif Nat.beq pc 37 then some (.newarray .long, 68, 0, 0, 0) else none)
          else
            bif Nat.beq pc 39 then some (.astore_n 3, 3, 0, 0, 0) else none)
        else
          bif Nat.blt pc 41 then
            (bif Nat.beq pc 40 then some (.iconst 2, 0, 0, 0, 2) else none)
          else
            bif Nat.beq pc 41 then some (.istore 4, 4, 0, 0, 0) else none
def i_Law_a : Nat → Option Ent := ab_tab 888 t_Law_a
def h_Law_a (pc : Nat) : Nat × List Bool := bif Nat.beq pc 43 then (2, []) else (0, [])
def s_Law_a (pc : Nat) : List (Int32 × Nat) × Nat := ([], 0)
noncomputable def eV_Law_a (sL : Nat) (sX : Nat → Int32) : Nat → List AV → Mm → Option Mm := ab_ev [(166, c_X_init), (167, c_M_init)]
noncomputable def eI_Law_a (sL : Nat) (sX : Nat → Int32) : Nat → List AV → Mm → Option (Int32 × Mm) := ab_ev [(172, c_Law_cell sL sX)]
noncomputable def b_Law_a_0 (sL : Nat) (sX : Nat → Int32) (f : Nat) (v0 : Nat) (m : Mm) : Option Rs := ab_ex KT (some (sL, sX)) s_Law_a (eV_Law_a sL sX) (eI_Law_a sL sX) i_Law_a h_Law_a f 0 [some (.inr (.inr (0, some v0))), none, none, none, none, none, none] [] m
set_option maxRecDepth 100000 in
set_option maxHeartbeats 4000000 in
theorem b_Law_a_0_eq (sL : Nat) (sX : Nat → Int32) (f : Nat) (v0 : Nat) (m : Mm) : b_Law_a_0 sL sX (f + 1) v0 m =
    ab_let m.2.2.2.1.length fun n2 =>
    ab_let (ab_ap m 69) fun m1 =>
    (r_Law_cell sL sX v0 (0 : Int32) m1).bind fun z3 =>
    (r_Law_cell sL sX v0 (1 : Int32) z3.2).bind fun z4 =>
    (r_X_init n2 z3.1 z4.1 z4.2).bind fun m5 =>
    ab_let m5.2.2.2.1.length fun n7 =>
    ab_let (ab_ap m5 83) fun m6 =>
    (r_Law_cell sL sX v0 (0 : Int32) m6).bind fun z8 =>
    (r_Law_cell sL sX v0 (1 : Int32) z8.2).bind fun z9 =>
    (r_M_init n7 z8.1 z9.1 z9.2).bind fun m10 =>
    if (1 : Int32) = Int32.ofNat 1 then
    ab_let m10.2.2.2.1.length fun n12 =>
    ab_let (ab_ap m10 68) fun m11 =>
    some (.inr (43, [some (.inr (.inr (0, some v0))), some (.inr (.inr (69, some n2))), some (.inr (.inr (83, some n7))), some (.inr (.inr (68, some n12))), some (.inl (2 : Int32)), none, none], [], m11))
    else none := rfl
set_option maxRecDepth 100000 in
theorem E_Law_a (nm : String) : ∀ (pc : Nat) (q : Ent), i_Law_a pc = some q → ab_E KT CL ab_gW "StreamTransportLaw" nm (some .boolean) code s_Law_a 7 pc q.1 q.2.1 q.2.2.1 q.2.2.2.1 q.2.2.2.2 := fun pc q hq =>
  ab_Eb_ok lc_Law lj_Law fl_Law (fpn_Law nm) nw_Law na_Law nq_Law (ab_tab_all (t := t_Law_a) (chk := fun pc q => ab_Eb (some .boolean) code s_Law_a 7 LC_Law LJ_Law FL_Law FPn_Law NW_Law NA_Law NQ_Law pc q.1 q.2.1 q.2.2.1 q.2.2.2.1 q.2.2.2.2) (by decide +kernel) hq)
def cs_Law_a : List Nat := [6, 11, 14, 24, 29, 32]
set_option maxRecDepth 100000 in
theorem cl_Law_a (l : Launch) (sL : Nat) (sX : Nat → Int32) : ∀ (pc : Nat) (q : Ent), i_Law_a pc = some q → ab_inv q.1 = true → ab_CR l KT CL (some (sL, sX)) ab_gW "StreamTransportLaw" code 7 10 368 (eV_Law_a sL sX) (eI_Law_a sL sX) pc q := by
  intro pc q hq hi
  have hm : pc ∈ cs_Law_a := ab_tab_cs (t := t_Law_a) (by decide +kernel) hq hi
  simp only [cs_Law_a, List.mem_cons, List.not_mem_nil, or_false] at hm
  rcases hm with rfl | rfl | rfl | rfl | rfl | rfl
  · cases (Option.some.inj hq : ((.invokestatic 25, 172, 2, 1, 0) : Ent) = q)
    exact ab_crSs (by decide +kernel) cw_Law_cell (ab_gW_in 837 (by decide +kernel) rfl) st_Law_cell (by decide) (fun av m m' h => by cases h) (fun av m r h => cm_Law_cell l h) KT_nd
  · cases (Option.some.inj hq : ((.invokestatic 25, 172, 2, 1, 0) : Ent) = q)
    exact ab_crSs (by decide +kernel) cw_Law_cell (ab_gW_in 837 (by decide +kernel) rfl) st_Law_cell (by decide) (fun av m m' h => by cases h) (fun av m r h => cm_Law_cell l h) KT_nd
  · cases (Option.some.inj hq : ((.invokespecial 31, 166, 3, 0, 0) : Ent) = q)
    exact ab_crI (by decide +kernel) cw_X_init (ab_gW_in 84 (by decide +kernel) rfl) is_X_init rfl rfl (by decide) (fun av m m' h => cm_X_init l h) (fun av m => rfl) KT_nd
  · cases (Option.some.inj hq : ((.invokestatic 25, 172, 2, 1, 0) : Ent) = q)
    exact ab_crSs (by decide +kernel) cw_Law_cell (ab_gW_in 837 (by decide +kernel) rfl) st_Law_cell (by decide) (fun av m m' h => by cases h) (fun av m r h => cm_Law_cell l h) KT_nd
  · cases (Option.some.inj hq : ((.invokestatic 25, 172, 2, 1, 0) : Ent) = q)
    exact ab_crSs (by decide +kernel) cw_Law_cell (ab_gW_in 837 (by decide +kernel) rfl) st_Law_cell (by decide) (fun av m m' h => by cases h) (fun av m r h => cm_Law_cell l h) KT_nd
  · cases (Option.some.inj hq : ((.invokespecial 36, 167, 3, 0, 0) : Ent) = q)
    exact ab_crI (by decide +kernel) cw_M_init (ab_gW_in 982 (by decide +kernel) rfl) is_M_init rfl rfl (by decide) (fun av m m' h => cm_M_init l h) (fun av m => rfl) KT_nd
end
