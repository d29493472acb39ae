/-! System.arraycopy between two arrays of kind 5 (the bytes of rows), all forty. -/
section
def ab_cp (m : Mm) (r p1 p2 n : Nat) : Mm := (fun r' p' j' => if r' = r ∧ p' = p2 ∧ j' < n then m.1 r p1 j' else m.1 r' p' j', m.2)
noncomputable def r_copy : Nat → Int32 → Nat → Int32 → Int32 → Mm → Option Mm := ab_seal fun p1 sp p2 dp n m => if sp = 0 ∧ dp = 0 ∧ n = 40 then some (ab_cp m 13 p1 p2 40) else none
theorem r_copy_eq (p1 : Nat) (sp : Int32) (p2 : Nat) (dp n : Int32) (m : Mm) : r_copy p1 sp p2 dp n m = if sp = 0 ∧ dp = 0 ∧ n = 40 then some (ab_cp m 13 p1 p2 40) else none := by
  unfold r_copy
  rw [ab_seal_eq]
noncomputable def c_copy : List AV → Mm → Option Mm := fun av m => match av with
  | [.inr (.inr (k1, o1)), .inl sp, .inr (.inr (k2, o2)), .inl dp, .inl n] => if k1 = 5 then (if k2 = 5 then (o1.bind fun p1 => o2.bind fun p2 => r_copy p1 sp p2 dp n m) else none) else none
  | _ => none
theorem c_copy_inv {av : List AV} {m m' : Mm} (h : c_copy av m = some m') : ∃ p1 p2 : Nat, av = [.inr (.inr (5, some p1)), .inl 0, .inr (.inr (5, some p2)), .inl 0, .inl 40] ∧ m' = ab_cp m 13 p1 p2 40 := by
  unfold c_copy at h
  split at h
  · rename_i k1 o1 sp k2 o2 dp n
    by_cases h1 : k1 = 5
    case neg => rw [if_neg h1] at h; cases h
    rw [if_pos h1] at h
    by_cases h2 : k2 = 5
    case neg => rw [if_neg h2] at h; cases h
    rw [if_pos h2] at h
    obtain ⟨p1, e1, h⟩ := Option.bind_eq_some_iff.mp h
    obtain ⟨p2, e2, h⟩ := Option.bind_eq_some_iff.mp h
    rw [r_copy_eq] at h
    by_cases h3 : sp = 0 ∧ dp = 0 ∧ n = 40
    case neg => rw [if_neg h3] at h; cases h
    rw [if_pos h3] at h
    have h9 := (Option.some.inj h).symm
    obtain ⟨h4, h5, h6⟩ := h3
    exact ⟨p1, p2, by rw [h1, h2, e1, e2, h4, h5, h6], h9⟩
  · cases h
theorem kp_copy {av : List AV} {m m' : Mm} (h : c_copy av m = some m') : ab_kp m m' := by
  obtain ⟨p1, p2, -, rfl⟩ := c_copy_inv h
  rfl
theorem ab_ce_cp {ad ac : Nat → Nat} {m : Mm} {r p1 p2 n : Nat} (q k : Nat) (h : q ≠ p2) : ab_ce KT ad ac (ab_cp m r p1 p2 n) q k = ab_ce KT ad ac m q k := by
  have e1 : ∀ r' j', (ab_cp m r p1 p2 n).1 r' q j' = m.1 r' q j' := fun r' j' => by simp [ab_cp, h]
  have e2 : ∀ r', (ab_cp m r p1 p2 n).1 r' q = m.1 r' q := fun r' => funext fun j' => e1 r' j'
  have ef : ∀ f, ab_fv ad (ab_cp m r p1 p2 n) q f = ab_fv ad m q f := by
    intro f
    unfold ab_fv
    split <;> first | rw [e1] | rfl
  unfold ab_ce
  split
  · first | rfl | (congr 2; exact List.map_congr_left fun f _ => ef f)
  · congr 3
    unfold ab_av
    split <;> first | rw [e2] | rfl
  · rfl
theorem ab_ok_cp {m : Mm} {r p1 p2 n : Nat} (h : ab_ok KT m) (hq : p2 < m.2.2.2.1.length) : ab_ok KT (ab_cp m r p1 p2 n) := by
  refine ⟨h.1, h.2.1, h.2.2.1, h.2.2.2.1, fun r' q' j' hl => ?_⟩
  have h1 := h.2.2.2.2 r' q' j' hl
  have hne : q' ≠ p2 := by
    have : m.2.2.2.1.length ≤ q' := hl
    omega
  refine ⟨?_, h1.2⟩
  show (if r' = r ∧ q' = p2 ∧ j' < n then m.1 r p1 j' else m.1 r' q' j') = 0
  rw [if_neg (fun z => hne z.2.1)]
  exact h1.1
theorem ab_crC {l : Launch} {sc : Option (Nat × (Nat → Int32))} {own : String} {cc : ByteArray} {nL fr lo : Nat} {eV : Nat → List AV → Mm → Option Mm} {eI : Nat → List AV → Mm → Option (Int32 × Mm)} {pc idx a d : Nat} {x : Int32}
    (hdg : decode cc pc = .ok (.invokestatic idx, 3)) (hlk : Cond.methodLink own idx arraycopyName ∈ ab_gW) (hna : Cond.native arraycopyName ∈ ab_gW) (hst : Cond.static arraycopyName ∈ ab_gW) (hini : Cond.initialized "java/lang/System" ∈ ab_gW) (hfr : 1 ≤ fr) (hlo : 8 + (nativeFrameWords "java/lang/System" "arraycopy" 5 + 11) ≤ lo)
    (hMV : ∀ av m m', eV a av m = some m' → c_copy av m = some m') (hMI : ∀ av m, eI a av m = none) : ab_CR l KT CL sc ab_gW own cc nL fr lo eV eI pc (.invokestatic idx, a, 5, d, x) := by
  intro p e R s m0 args below meth cd Q D b A H0 ks0 g0 h0 G Hs ad0 ac0 hX hx hb hml hts hown hK0 hA hG hHs hfr2 hlo2 hsc
  refine ⟨fun L S m m' hwd he w => ?_, fun L S m r hwd he w => ?_⟩
  · obtain ⟨p1, p2, h1, rfl⟩ := c_copy_inv (hMV _ _ _ he)
    have h1 : (S.take 5).reverse = [.inr (.inr (5, some p1)), .inl 0, .inr (.inr (5, some p2)), .inl 0, .inl 40] := h1
    have hS : S = .inl 40 :: .inl 0 :: .inr (.inr (5, some p2)) :: .inl 0 :: .inr (.inr (5, some p1)) :: S.drop 5 := by
      have := ab_args h1
      simpa using this
    have hm1 : Sum.inr (Sum.inr (5, some p1)) ∈ S := ab_argsm h1 (by simp)
    have hm2 : Sum.inr (Sum.inr (5, some p2)) ∈ S := ab_argsm h1 (by simp)
    refine ⟨w.1, w.2.1, fun ad ac ls H locs cells slots hI hF => ?_⟩
    have k1 : m.2.2.2.1[p1]? = some 5 := ab_ref (hF.2.2.2 _ hm1) (by decide)
    have k2 : m.2.2.2.1[p2]? = some 5 := ab_ref (hF.2.2.2 _ hm2) (by decide)
    have hKT : KT[5]? = some (.inr (13, 40, 0, 0, 0, 0)) := rfl
    have hK : va_K D CL [(ac p1, .int), (ac p2, .int)] s := (ab_K1 hK0 hI.2.2.2.1 k1 hKT).app (ab_K1 hK0 hI.2.2.2.1 k2 hKT)
    have hroom := ab_room (m0 := m0) (b := b) (S := S.drop 5) (pc := pc) (ad := ad) (ls := ls) (st := S.map (ab_v ad b)) hwd
    have hr2 : ((S.drop 5).map (ab_v ad b) |>.map fun v => v.category).sum ≤ 8 := by
      have e0 : 2 * (F0 m0 pc ls (S.map (ab_v ad b))).monitorRoom = 0 := rfl
      omega
    have hset : (ab_w KT ad ac m).set p2 (ad p2, .inl (ac p2, 40, .inl (va_cpy (m.1 13 p1) (m.1 13 p2) 0 0 40))) = ab_w KT ad ac (ab_cp m 13 p1 p2 40) := by
      refine ab_w_set (m := m) (m' := ab_cp m 13 p1 p2 40) k2 rfl ?_ (fun q' k' h => ab_ce_cp q' k' h)
      have e1 : va_cpy (m.1 13 p1) (m.1 13 p2) 0 0 40 = (ab_cp m 13 p1 p2 40).1 13 p2 := by
        funext j
        by_cases hj : j < 40
        · rw [pk_cpy_in (Nat.zero_le _) (by omega)]
          simp [ab_cp, hj]
        · rw [pk_cpy_out (Or.inr (by omega))]
          simp [ab_cp, hj]
      rw [e1]
      simp [ab_ce, hKT, ab_av]
    have hgoal : W p l e R s m0 args below meth cd H locs cells slots Q (F0 m0 pc ls (.int 40 :: .int 0 :: .ref (ad p2) :: .int 0 :: .ref (ad p1) :: (S.drop 5).map (ab_v ad b))) := by
      refine va_copyi (D := D) (cl := CL) (ty := .int) hx hb (by rw [hml]; exact hF.2.1.1.symm) hown (hts _ hlk) (hts _ hna) (hts _ hst) (hts _ hini) hK hI.1 hI.2.1 hI.2.2.1 p1 p2 0 1 (ab_warr k1 hKT) (ab_warr k2 hKT) rfl rfl rfl (by decide) (by decide) (by decide) (by decide) (by decide) (fun i hi => rfl) (by omega) (by omega) hdg ?_
      intro H1 locs1 hP1 hD1 hS1
      have hP1 : va_P D CL ((ab_w KT ad ac m).set p2 (ad p2, .inl (ac p2, 40, .inl (va_cpy (m.1 13 p1) (m.1 13 p2) 0 0 40)))) H1 := hP1
      have hD1 : va_D A ((ab_w KT ad ac m).set p2 (ad p2, .inl (ac p2, 40, .inl (va_cpy (m.1 13 p1) (m.1 13 p2) 0 0 40)))) := hD1
      rw [hset] at hP1 hD1
      exact ab_after (m := m) (m' := ab_cp m 13 p1 p2 40) rfl (ab_ok_cp hI.2.2.2.2.1 (List.getElem?_eq_some_iff.mp k2).1) hI hF w (fun v hv => List.mem_of_mem_drop hv) hP1 hD1 hS1
    have hmap : S.map (ab_v ad b) = .int 40 :: .int 0 :: .ref (ad p2) :: .int 0 :: .ref (ad p1) :: (S.drop 5).map (ab_v ad b) := by
      conv => lhs; rw [hS]
      rfl
    show W p l e R s m0 args below meth cd H locs cells slots Q (F0 m0 pc ls (S.map (ab_v ad b)))
    rw [hmap]
    exact hgoal
  · have h9 := hMI (S.take 5).reverse m
    have he : eI a (S.take 5).reverse m = some r := he
    rw [h9] at he
    cases he
end
