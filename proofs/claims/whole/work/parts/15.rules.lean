/-! Rules of call sites by their callees' contracts. -/
section
variable {l : Launch} {KT : List KS} {cl : List vw_C} {sc : Option (Nat × (Nat → Int32))} {own : String} {cc : ByteArray} {nL fr lo : Nat} {eV : Nat → List AV → Mm → Option Mm} {eI : Nat → List AV → Mm → Option (Int32 × Mm)} {pc idx a b' d n : Nat} {x : Int32} {y : MethodName} {bytes : ByteArray} {maxL fr' lo' : Nat} {ret : Option FieldType}
/-- no script among the arguments -/
def ab_nos (av : List AV) : Prop := ∀ v ∈ av, ∀ q, v ≠ .inr (.inr (0, some q))
theorem ab_nos_vv {ks : List Nat} {av : List AV} (h : ab_nos av) (v : AV) (hv : ab_vv sc ks v) (hm : v ∈ av) : ab_vv none ks v := by
  match v, hv, hm with
  | .inl x, _, _ => trivial
  | .inr (.inl x), _, _ => trivial
  | .inr (.inr (k, none)), _, _ => trivial
  | .inr (.inr (k, some q)), hv, hm =>
    have hk : k ≠ 0 := fun z => h _ hm q (by rw [z])
    exact ab_vvo fun q' hq' => by cases hq'; exact ⟨hk, ab_ref hv hk⟩
/-- what is known of a callee: its words -/
def ab_cw (y : MethodName) (bytes : ByteArray) (maxL n : Nat) (ret : Option FieldType) : Prop := Cond.code y bytes maxL ret ∈ ab_gW ∧ Cond.initialized y.cls ∈ ab_gW ∧ (y.cls ≠ "java/lang/invoke/MethodHandle" ∧ y.cls ≠ "java/lang/invoke/VarHandle" ∧ (parseMethodDescriptor y.desc).map (fun d => d.parameters.length) = some n)

theorem ab_crV {C : String} (hdg : decode cc pc = .ok (.invokevirtual idx, 3)) (hw : ab_cw y bytes maxL n ret) (hlk : Cond.methodLink own idx y ∈ ab_gW) (hins : Cond.instanceMethod y ∈ ab_gW) (hsel : Cond.selects C y y ∈ ab_gW) (hR : fr' + 1 ≤ fr ∧ 8 + (maxL + 11) + lo' ≤ lo)
    (hMV : ∀ av m m', eV a av m = some m' → ∃ (k q : Nat) (av' : List AV) (ci : Nat) (fs : List (Nat × Nat × Nat × Nat)) (z : vw_C), av = .inr (.inr (k, some q)) :: av' ∧ av'.length = n ∧ k ≠ 0 ∧ KT[k]? = some (.inl (ci, fs)) ∧ cl[ci]? = some z ∧ z.1 = C ∧ ab_nos av' ∧ ab_Met l KT cl y (Cond.code y bytes maxL ret :: ab_gW) fr' lo' none av m none m')
    (hMI : ∀ av m r, eI a av m = some r → ∃ (k q : Nat) (av' : List AV) (ci : Nat) (fs : List (Nat × Nat × Nat × Nat)) (z : vw_C), av = .inr (.inr (k, some q)) :: av' ∧ av'.length = n ∧ k ≠ 0 ∧ KT[k]? = some (.inl (ci, fs)) ∧ cl[ci]? = some z ∧ z.1 = C ∧ ab_nos av' ∧ ab_Met l KT cl y (Cond.code y bytes maxL ret :: ab_gW) fr' lo' none av m (some (.inl r.1)) r.2)
    (hnd : ab_nd KT) : ab_CR l KT cl sc ab_gW own cc nL fr lo eV eI pc (.invokevirtual idx, a, b', d, x) := by
  intro p e R s m0 args below meth cd Q D b A H0 ks0 g0 h0 G Hs ad0 ac0 hX hx hb hml hts hown hK0 hA hG hHs hfr hlo hsc
  subst hfr
  subst hlo
  refine ⟨fun L S m m' hwd he w => ?_, fun L S m r hwd he w => ?_⟩
  · obtain ⟨k, q, av', ci, fs, z, h1, h2, h3, h4, h5, h6, h7, hM⟩ := hMV _ _ _ he
    subst h6
    rw [h1] at hM
    exact ab_cV (r := none) (sc' := none) hX hx hb hml hts hown hK0 hnd hA hG hHs (Or.inl rfl) h1 h3 h4 h5 h2 hwd hM (fun v hv hm => ab_nos_vv h7 v hv hm) rfl (ab_gW_good hw.1) hw.2.1 hlk hins hsel hw.2.2 hR hdg (fun v hv => by cases hv) w
  · obtain ⟨k, q, av', ci, fs, z, h1, h2, h3, h4, h5, h6, h7, hM⟩ := hMI _ _ _ he
    subst h6
    rw [h1] at hM
    exact ab_cV (r := some (.inl r.1)) (sc' := none) hX hx hb hml hts hown hK0 hnd hA hG hHs (Or.inl rfl) h1 h3 h4 h5 h2 hwd hM (fun v hv hm => ab_nos_vv h7 v hv hm) rfl (ab_gW_good hw.1) hw.2.1 hlk hins hsel hw.2.2 hR hdg (fun v hv => by cases hv; exact ⟨_, rfl⟩) w
theorem ab_crI (hdg : decode cc pc = .ok (.invokespecial idx, 3)) (hw : ab_cw y bytes maxL n ret) (hlk : Cond.methodLink own idx y ∈ ab_gW) (hins : Cond.instanceMethod y ∈ ab_gW) (hyn : y.name = "<init>") (hret : ret = none) (hR : fr' + 1 ≤ fr ∧ 8 + (maxL + 11) + lo' ≤ lo)
    (hMV : ∀ av m m', eV a av m = some m' → ∃ (k q : Nat) (av' : List AV), av = .inr (.inr (k, some q)) :: av' ∧ av'.length = n ∧ k ≠ 0 ∧ ab_nos av' ∧ ab_Met l KT cl y (Cond.code y bytes maxL ret :: ab_gW) fr' lo' none av m none m')
    (hMI : ∀ av m, eI a av m = none)
    (hnd : ab_nd KT) : ab_CR l KT cl sc ab_gW own cc nL fr lo eV eI pc (.invokespecial idx, a, b', d, x) := by
  intro p e R s m0 args below meth cd Q D b A H0 ks0 g0 h0 G Hs ad0 ac0 hX hx hb hml hts hown hK0 hA hG hHs hfr hlo hsc
  subst hfr
  subst hlo
  subst hret
  refine ⟨fun L S m m' hwd he w => ?_, fun L S m r hwd he w => ?_⟩
  · obtain ⟨k, q, av', h1, h2, h3, h7, hM⟩ := hMV _ _ _ he
    rw [h1] at hM
    exact ab_cI (sc' := none) hX hx hb hml hts hown hK0 hnd hA hG hHs (Or.inl rfl) h1 h3 h2 hwd hM (fun v hv hm => ab_nos_vv h7 v hv hm) rfl (ab_gW_good hw.1) hw.2.1 hlk hins hyn hw.2.2 hR hdg w
  · have h9 := hMI (S.take b').reverse m
    have he : eI a (S.take b').reverse m = some r := he
    rw [h9] at he
    cases he
theorem ab_crIN (hdg : decode cc pc = .ok (.invokespecial idx, 3)) (hw : ab_cw y bytes maxL n ret) (hlk : (own, idx, y) ∈ ab_gN) (hins : Cond.instanceMethod y ∈ ab_gW) (hyn : y.name = "<init>") (hret : ret = none) (hR : fr' + 1 ≤ fr ∧ 8 + (maxL + 11) + lo' ≤ lo)
    (hMV : ∀ av m m', eV a av m = some m' → ∃ (k q : Nat) (av' : List AV), av = .inr (.inr (k, some q)) :: av' ∧ av'.length = n ∧ k ≠ 0 ∧ ab_nos av' ∧ ab_Met l KT cl y (Cond.code y bytes maxL ret :: ab_gW) fr' lo' none av m none m')
    (hMI : ∀ av m, eI a av m = none)
    (hnd : ab_nd KT) : ab_CR l KT cl sc ab_gW own cc nL fr lo eV eI pc (.invokespecial idx, a, b', d, x) := by
  intro p e R s m0 args below meth cd Q D b A H0 ks0 g0 h0 G Hs ad0 ac0 hX hx hb hml hts hown hK0 hA hG hHs hfr hlo hsc
  subst hfr
  subst hlo
  subst hret
  refine ⟨fun L S m m' hwd he w => ?_, fun L S m r hwd he w => ?_⟩
  · obtain ⟨k, q, av', h1, h2, h3, h7, hM⟩ := hMV _ _ _ he
    rw [h1] at hM
    exact ab_cIN (sc' := none) hX hx hb hml hts hown hK0 hnd hA hG hHs (Or.inl rfl) h1 h3 h2 hwd hM (fun v hv hm => ab_nos_vv h7 v hv hm) rfl (ab_gW_good hw.1) hw.2.1 hlk hins hyn hw.2.2 hR hdg w
  · have h9 := hMI (S.take b').reverse m
    have he : eI a (S.take b').reverse m = some r := he
    rw [h9] at he
    cases he
theorem ab_crS (hdg : decode cc pc = .ok (.invokestatic idx, 3)) (hw : ab_cw y bytes maxL n ret) (hlk : Cond.methodLink own idx y ∈ ab_gW) (hst : Cond.static y ∈ ab_gW) (hR : fr' + 1 ≤ fr ∧ 8 + (maxL + 11) + lo' ≤ lo)
    (hMV : ∀ av m m', eV a av m = some m' → av.length = n ∧ ab_nos av ∧ ab_Met l KT cl y (Cond.code y bytes maxL ret :: ab_gW) fr' lo' none av m none m')
    (hMI : ∀ av m r, eI a av m = some r → av.length = n ∧ ab_nos av ∧ ab_Met l KT cl y (Cond.code y bytes maxL ret :: ab_gW) fr' lo' none av m (some (.inl r.1)) r.2)
    (hnd : ab_nd KT) : ab_CR l KT cl sc ab_gW own cc nL fr lo eV eI pc (.invokestatic idx, a, b', d, x) := by
  intro p e R s m0 args below meth cd Q D b A H0 ks0 g0 h0 G Hs ad0 ac0 hX hx hb hml hts hown hK0 hA hG hHs hfr hlo hsc
  subst hfr
  subst hlo
  refine ⟨fun L S m m' hwd he w => ?_, fun L S m r hwd he w => ?_⟩
  · obtain ⟨h2, h7, hM⟩ := hMV _ _ _ he
    exact ab_cS (r := none) (sc' := none) hX hx hb hml hts hown hK0 hnd hA hG hHs (Or.inl rfl) rfl h2 hwd hM (fun v hv hm => ab_nos_vv h7 v hv hm) rfl (ab_gW_good hw.1) hw.2.1 hlk hst hw.2.2 hR hdg (fun v hv => by cases hv) w
  · obtain ⟨h2, h7, hM⟩ := hMI _ _ _ he
    exact ab_cS (r := some (.inl r.1)) (sc' := none) hX hx hb hml hts hown hK0 hnd hA hG hHs (Or.inl rfl) rfl h2 hwd hM (fun v hv hm => ab_nos_vv h7 v hv hm) rfl (ab_gW_good hw.1) hw.2.1 hlk hst hw.2.2 hR hdg (fun v hv => by cases hv; exact ⟨_, rfl⟩) w
theorem ab_crSN (hdg : decode cc pc = .ok (.invokestatic idx, 3)) (hw : ab_cw y bytes maxL n ret) (hlk : (own, idx, y) ∈ ab_gN) (hst : Cond.static y ∈ ab_gW) (hR : fr' + 1 ≤ fr ∧ 8 + (maxL + 11) + lo' ≤ lo)
    (hMV : ∀ av m m', eV a av m = some m' → av.length = n ∧ ab_nos av ∧ ab_Met l KT cl y (Cond.code y bytes maxL ret :: ab_gW) fr' lo' none av m none m')
    (hMI : ∀ av m r, eI a av m = some r → av.length = n ∧ ab_nos av ∧ ab_Met l KT cl y (Cond.code y bytes maxL ret :: ab_gW) fr' lo' none av m (some (.inl r.1)) r.2)
    (hnd : ab_nd KT) : ab_CR l KT cl sc ab_gW own cc nL fr lo eV eI pc (.invokestatic idx, a, b', d, x) := by
  intro p e R s m0 args below meth cd Q D b A H0 ks0 g0 h0 G Hs ad0 ac0 hX hx hb hml hts hown hK0 hA hG hHs hfr hlo hsc
  subst hfr
  subst hlo
  refine ⟨fun L S m m' hwd he w => ?_, fun L S m r hwd he w => ?_⟩
  · obtain ⟨h2, h7, hM⟩ := hMV _ _ _ he
    exact ab_cSN (r := none) (sc' := none) hX hx hb hml hts hown hK0 hnd hA hG hHs (Or.inl rfl) rfl h2 hwd hM (fun v hv hm => ab_nos_vv h7 v hv hm) rfl (ab_gW_good hw.1) hw.2.1 hlk hst hw.2.2 hR hdg (fun v hv => by cases hv) w
  · obtain ⟨h2, h7, hM⟩ := hMI _ _ _ he
    exact ab_cSN (r := some (.inl r.1)) (sc' := none) hX hx hb hml hts hown hK0 hnd hA hG hHs (Or.inl rfl) rfl h2 hwd hM (fun v hv hm => ab_nos_vv h7 v hv hm) rfl (ab_gW_good hw.1) hw.2.1 hlk hst hw.2.2 hR hdg (fun v hv => by cases hv; exact ⟨_, rfl⟩) w
/-- Object's constructor -/
theorem ab_crO (hdg : decode cc pc = .ok (.invokespecial idx, 3)) (hlk : Cond.methodLink own idx objectInit ∈ ab_gW) (hins : Cond.instanceMethod objectInit ∈ ab_gW) (hcode : Cond.code objectInit ⟨#[0xb1]⟩ 1 none ∈ ab_gW) (hfr : 1 ≤ fr) (hlo : 20 ≤ lo)
    (hMV : ∀ av m m', eV a av m = some m' → m' = m ∧ ∃ k q : Nat, av = [.inr (.inr (k, some q))]) (hMI : ∀ av m, eI a av m = none) : ab_CR l KT cl sc ab_gW own cc nL fr lo eV eI pc (.invokespecial idx, a, b', d, x) := by
  intro p e R s m0 args below meth cd Q D b A H0 ks0 g0 h0 G Hs ad0 ac0 hX hx hb hml hts hown hK0 hA hG hHs hfr2 hlo2 hsc
  refine ⟨fun L S m m' hwd he w => ?_, fun L S m r hwd he w => ?_⟩
  · obtain ⟨rfl, k, q, h1⟩ := hMV _ _ _ he
    have hS : S = .inr (.inr (k, some q)) :: S.drop b' := by
      have h2 : (S.take b').reverse = [.inr (.inr (k, some q))] := h1
      have := ab_args h2
      simpa using this
    refine ⟨w.1, w.2.1, fun ad ac ls H locs cells slots hI hF => ?_⟩
    have hroom := ab_room (m0 := m0) (b := b) (S := S.drop b') (pc := pc) (ad := ad) (ls := ls) (st := S.map (ab_v ad b)) hwd
    have hmr : (F0 m0 pc ls (S.map (ab_v ad b))).monitorRoom = 0 := rfl
    refine W.objInit (g := F0 m0 pc ls (S.map (ab_v ad b))) (a := if k = 0 then b else ad q) (rest := (S.drop b').map (ab_v ad b)) hx hb hown (hts _ hlk) (hts _ hins) (hts _ hcode) rfl (by rw [hml]; exact hF.2.1.1) (by
      show S.map (ab_v ad b) = _
      conv => lhs; rw [hS]
      rfl) hdg (by omega) (by rw [hlo2]; omega) ?_
    refine w.2.2 ad ac ls H locs cells slots hI ⟨hF.1, hF.2.1, hF.2.2.1, fun v hv => hF.2.2.2 v (List.mem_of_mem_drop hv)⟩
  · have h9 := hMI (S.take b').reverse m
    have he : eI a (S.take b').reverse m = some r := he
    rw [h9] at he
    cases he
end
