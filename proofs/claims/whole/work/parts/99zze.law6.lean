section
def F_Law_b (pc : Nat) : Bool := match t_Law_b pc with
  | some q => ab_Eb (some .boolean) code s_Law_b 7 LC_Law LJ_Law FL_Law FPn_Law NW_Law NA_Law NQ_Law pc q.1 q.2.1 q.2.2.1 q.2.2.2.1 q.2.2.2.2
  | none => true
set_option maxRecDepth 100000 in
theorem F_Law_b_0 : (List.range 37).all (fun i => F_Law_b (0 + i)) = true := by decide +kernel
set_option maxRecDepth 100000 in
theorem F_Law_b_1 : (List.range 37).all (fun i => F_Law_b (37 + i)) = true := by decide +kernel
set_option maxRecDepth 100000 in
theorem F_Law_b_2 : (List.range 37).all (fun i => F_Law_b (74 + i)) = true := by decide +kernel
set_option maxRecDepth 100000 in
theorem F_Law_b_3 : (List.range 37).all (fun i => F_Law_b (111 + i)) = true := by decide +kernel
set_option maxRecDepth 100000 in
theorem F_Law_b_4 : (List.range 37).all (fun i => F_Law_b (148 + i)) = true := by decide +kernel
set_option maxRecDepth 100000 in
theorem F_Law_b_5 : (List.range 37).all (fun i => F_Law_b (185 + i)) = true := by decide +kernel
set_option maxRecDepth 100000 in
theorem F_Law_b_6 : (List.range 37).all (fun i => F_Law_b (222 + i)) = true := by decide +kernel
set_option maxRecDepth 100000 in
theorem F_Law_b_7 : (List.range 37).all (fun i => F_Law_b (259 + i)) = true := by decide +kernel
set_option maxRecDepth 100000 in
theorem F_Law_b_8 : (List.range 37).all (fun i => F_Law_b (296 + i)) = true := by decide +kernel
set_option maxRecDepth 100000 in
theorem F_Law_b_9 : (List.range 37).all (fun i => F_Law_b (333 + i)) = true := by decide +kernel
set_option maxRecDepth 100000 in
theorem F_Law_b_10 : (List.range 37).all (fun i => F_Law_b (370 + i)) = true := by decide +kernel
set_option maxRecDepth 100000 in
theorem F_Law_b_11 : (List.range 37).all (fun i => F_Law_b (407 + i)) = true := by decide +kernel
set_option maxRecDepth 100000 in
theorem F_Law_b_12 : (List.range 37).all (fun i => F_Law_b (444 + i)) = true := by decide +kernel
set_option maxRecDepth 100000 in
theorem F_Law_b_13 : (List.range 37).all (fun i => F_Law_b (481 + i)) = true := by decide +kernel
set_option maxRecDepth 100000 in
theorem F_Law_b_14 : (List.range 37).all (fun i => F_Law_b (518 + i)) = true := by decide +kernel
set_option maxRecDepth 100000 in
theorem F_Law_b_15 : (List.range 37).all (fun i => F_Law_b (555 + i)) = true := by decide +kernel
set_option maxRecDepth 100000 in
theorem F_Law_b_16 : (List.range 37).all (fun i => F_Law_b (592 + i)) = true := by decide +kernel
set_option maxRecDepth 100000 in
theorem F_Law_b_17 : (List.range 37).all (fun i => F_Law_b (629 + i)) = true := by decide +kernel
set_option maxRecDepth 100000 in
theorem F_Law_b_18 : (List.range 37).all (fun i => F_Law_b (666 + i)) = true := by decide +kernel
set_option maxRecDepth 100000 in
theorem F_Law_b_19 : (List.range 37).all (fun i => F_Law_b (703 + i)) = true := by decide +kernel
set_option maxRecDepth 100000 in
theorem F_Law_b_20 : (List.range 37).all (fun i => F_Law_b (740 + i)) = true := by decide +kernel
set_option maxRecDepth 100000 in
theorem F_Law_b_21 : (List.range 37).all (fun i => F_Law_b (777 + i)) = true := by decide +kernel
set_option maxRecDepth 100000 in
theorem F_Law_b_22 : (List.range 37).all (fun i => F_Law_b (814 + i)) = true := by decide +kernel
set_option maxRecDepth 100000 in
theorem F_Law_b_23 : (List.range 37).all (fun i => F_Law_b (851 + i)) = true := by decide +kernel
theorem F_Law_b_all : (List.range 888).all F_Law_b = true := by
  refine List.all_eq_true.mpr fun pc hpc => ?_
  have h := List.mem_range.mp hpc
  have g : ∀ k : Nat, (List.range 37).all (fun i => F_Law_b (k + i)) = true → k ≤ pc → pc < k + 37 → F_Law_b pc = true := fun k h1 h2 h3 => by
    have := List.all_eq_true.mp h1 (pc - k) (List.mem_range.mpr (by omega))
    rwa [Nat.add_sub_cancel' h2] at this
  by_cases h0 : pc < 37
  · exact g 0 F_Law_b_0 (by omega) (by omega)
  by_cases h1 : pc < 74
  · exact g 37 F_Law_b_1 (by omega) (by omega)
  by_cases h2 : pc < 111
  · exact g 74 F_Law_b_2 (by omega) (by omega)
  by_cases h3 : pc < 148
  · exact g 111 F_Law_b_3 (by omega) (by omega)
  by_cases h4 : pc < 185
  · exact g 148 F_Law_b_4 (by omega) (by omega)
  by_cases h5 : pc < 222
  · exact g 185 F_Law_b_5 (by omega) (by omega)
  by_cases h6 : pc < 259
  · exact g 222 F_Law_b_6 (by omega) (by omega)
  by_cases h7 : pc < 296
  · exact g 259 F_Law_b_7 (by omega) (by omega)
  by_cases h8 : pc < 333
  · exact g 296 F_Law_b_8 (by omega) (by omega)
  by_cases h9 : pc < 370
  · exact g 333 F_Law_b_9 (by omega) (by omega)
  by_cases h10 : pc < 407
  · exact g 370 F_Law_b_10 (by omega) (by omega)
  by_cases h11 : pc < 444
  · exact g 407 F_Law_b_11 (by omega) (by omega)
  by_cases h12 : pc < 481
  · exact g 444 F_Law_b_12 (by omega) (by omega)
  by_cases h13 : pc < 518
  · exact g 481 F_Law_b_13 (by omega) (by omega)
  by_cases h14 : pc < 555
  · exact g 518 F_Law_b_14 (by omega) (by omega)
  by_cases h15 : pc < 592
  · exact g 555 F_Law_b_15 (by omega) (by omega)
  by_cases h16 : pc < 629
  · exact g 592 F_Law_b_16 (by omega) (by omega)
  by_cases h17 : pc < 666
  · exact g 629 F_Law_b_17 (by omega) (by omega)
  by_cases h18 : pc < 703
  · exact g 666 F_Law_b_18 (by omega) (by omega)
  by_cases h19 : pc < 740
  · exact g 703 F_Law_b_19 (by omega) (by omega)
  by_cases h20 : pc < 777
  · exact g 740 F_Law_b_20 (by omega) (by omega)
  by_cases h21 : pc < 814
  · exact g 777 F_Law_b_21 (by omega) (by omega)
  by_cases h22 : pc < 851
  · exact g 814 F_Law_b_22 (by omega) (by omega)
  by_cases h23 : pc < 888
  · exact g 851 F_Law_b_23 (by omega) (by omega)
  omega
set_option maxRecDepth 100000 in
theorem E_Law_b (nm : String) : ∀ (pc : Nat) (q : Ent), i_Law_b pc = some q → ab_E KT CL ab_gW "StreamTransportLaw" nm (some .boolean) code s_Law_b 7 pc q.1 q.2.1 q.2.2.1 q.2.2.2.1 q.2.2.2.2 := fun pc q hq =>
  ab_Eb_ok lc_Law lj_Law fl_Law (fpn_Law nm) nw_Law na_Law nq_Law (ab_tab_all (t := t_Law_b) (chk := fun pc q => ab_Eb (some .boolean) code s_Law_b 7 LC_Law LJ_Law FL_Law FPn_Law NW_Law NA_Law NQ_Law pc q.1 q.2.1 q.2.2.1 q.2.2.2.1 q.2.2.2.2) F_Law_b_all hq)
end
