/-! Other kinds for the same cells; a method that is walked in two runs. -/
section
variable {p : Program} {l : Launch} {e : Env} {R : Room} {s : State} {m0 : MethodId} {args : Array Value} {below : List Frame} {meth : Method} {cd : Code} {Q : State → Prop} {cc : ByteArray}
variable {cl : List vw_C} {D : va_G} {sc : Option (Nat × (Nat → Int32))} {b : Nat} {A : Nat → Prop} {H0 : Heap} {ks0 : List Nat} {g0 h0 nL G Hs : Nat} {ad0 ac0 : Nat → Nat}
/-- the same memory under other kinds -/
def ab_ks (m : Mm) (ks : List Nat) : Mm := (m.1, m.2.1, m.2.2.1, ks, m.2.2.2.2)
theorem ab_relab {pc : Nat} {L L' : List (Option AV)} {S S' : List AV} {m : Mm} {ks' : List Nat}
    (hw : ∀ ad ac, ab_ok KT m → ab_w KT ad ac (ab_ks m ks') = ab_w KT ad ac m) (hK : ∀ ac U, ab_K KT cl ac m.2.2.2.1 U → ab_K KT cl ac ks' U) (hok : ab_ok KT m → ab_ok KT (ab_ks m ks')) (hgc : ks'.length = m.2.2.2.1.length) (hgs : (ks'.map (ab_len KT)).sum = (m.2.2.2.1.map (ab_len KT)).sum)
    (hk0 : ∀ (i k : Nat), ks0[i]? = some k → m.2.2.2.1[i]? = some k → ks'[i]? = some k)
    (hL : L'.length = L.length ∧ ∀ (i : Nat) (v' : AV), L'[i]? = some (some v') → ∃ v, L[i]? = some (some v) ∧ (∀ ad, ab_v ad b v' = ab_v ad b v) ∧ (ab_vv sc m.2.2.2.1 v → ab_vv sc ks' v'))
    (hS : (∀ ad, S'.map (ab_v ad b) = S.map (ab_v ad b)) ∧ ((∀ v ∈ S, ab_vv sc m.2.2.2.1 v) → ∀ v ∈ S', ab_vv sc ks' v))
    (w : ab_W p l e R s m0 args below meth cd Q KT cl D sc b A H0 ks0 g0 h0 nL G Hs ad0 ac0 (pc, L', S', ab_ks m ks')) : ab_W p l e R s m0 args below meth cd Q KT cl D sc b A H0 ks0 g0 h0 nL G Hs ad0 ac0 (pc, L, S, m) := by
  have egc : ab_gc (ab_ks m ks') = ab_gc m := by
    show ks'.length + m.2.2.2.2.1 = m.2.2.2.1.length + m.2.2.2.2.1
    rw [hgc]
  have egs : ab_gs KT (ab_ks m ks') = ab_gs KT m := by
    show (ks'.map (ab_len KT)).sum + m.2.2.2.2.2 = (m.2.2.2.1.map (ab_len KT)).sum + m.2.2.2.2.2
    rw [hgs]
  have w1 : ab_gc (ab_ks m ks') ≤ G := w.1
  have w2 : ab_gs KT (ab_ks m ks') ≤ Hs := w.2.1
  refine ⟨by rw [egc] at w1; exact w1, by rw [egs] at w2; exact w2, fun ad ac ls H locs cells slots hI hF => ?_⟩
  obtain ⟨hP, hD, hSS, hKA, hok0, hext, hn0, hc1, hc2⟩ := hI
  have hww := hw ad ac hok0
  have k := w.2.2 ad ac ls H locs cells slots ⟨?_, ?_, hSS, hK ac s hKA, hok hok0, hext, fun i k h => hk0 i k h (hn0 i k h), hc1.trans egc.symm, hc2.trans egs.symm⟩ ⟨hL.1.trans hF.1, ?_, ?_, hS.2 hF.2.2.2⟩
  · have e : List.map (ab_v ad b) ((pc, L', S', ab_ks m ks') : Cf).2.2.1 = S.map (ab_v ad b) := hS.1 ad
    rw [e] at k
    exact k
  · show va_P D cl (ab_w KT ad ac (ab_ks m ks')) H
    rw [hww]; exact hP
  · show va_D A (ab_w KT ad ac (ab_ks m ks'))
    rw [hww]; exact hD
  · refine ab_L_of hF.2.1 fun i v' hv' => ?_
    obtain ⟨v, h1, h2, h3⟩ := hL.2 i v' hv'
    rw [h2 ad]
    exact ab_mem_al.mpr ⟨v, h1, rfl⟩
  · intro i v' hv'
    obtain ⟨v, h1, h2, h3⟩ := hL.2 i v' hv'
    exact h3 (hF.2.2.1 i v h1)
/-- a method in two runs: the first stops, its cells get other kinds, the second ends -/
theorem ab_met2 {y : MethodName} {maxL fr lo f f' pc1 : Nat} {ret : Option FieldType} {gW : List Cond} {av : List AV} {m m1 m' : Mm} {ks' : List Nat} {r : Option AV} {L1 L1' : List (Option AV)} {S1 S1' : List AV}
    {sw : Nat → List (Int32 × Nat) × Nat} {eV : Nat → List AV → Mm → Option Mm} {eI : Nat → List AV → Mm → Option (Int32 × Mm)} {ins : Nat → Option Ent} {hd : Nat → Nat × List Bool}
    (hy : plainFor y = true) (h00 : KT[0]? = some (.inr (0, 0, 9, 0, 0, 0))) (hnd : ab_nd KT) (hk3 : ab_k3 KT cl)
    (hE : ∀ (pc : Nat) (q : Ent), ins pc = some q → ab_E KT cl gW y.cls y.name ret cc sw maxL pc q.1 q.2.1 q.2.2.1 q.2.2.2.1 q.2.2.2.2)
    (hcl : ∀ (pc : Nat) (q : Ent), ins pc = some q → ab_inv q.1 = true → ab_CR l KT cl none gW y.cls cc maxL fr lo eV eI pc q)
    (hmono : ab_gc m ≤ ab_gc m' ∧ ab_gs KT m ≤ ab_gs KT m') (hlen : (ab_ent av).length ≤ maxL)
    (hrun : ab_ex KT none sw eV eI ins hd f 0 (ab_L0 maxL av) [] m = some (.inr (pc1, L1, S1, m1)))
    (hw : ∀ ad ac, ab_ok KT m1 → ab_w KT ad ac (ab_ks m1 ks') = ab_w KT ad ac m1) (hK : ∀ ac U, ab_K KT cl ac m1.2.2.2.1 U → ab_K KT cl ac ks' U) (hok : ab_ok KT m1 → ab_ok KT (ab_ks m1 ks')) (hgc : ks'.length = m1.2.2.2.1.length) (hgs : (ks'.map (ab_len KT)).sum = (m1.2.2.2.1.map (ab_len KT)).sum)
    (hk0 : ∀ (i k : Nat), m.2.2.2.1[i]? = some k → m1.2.2.2.1[i]? = some k → ks'[i]? = some k)
    (hL : ∀ b : Nat, L1'.length = L1.length ∧ ∀ (i : Nat) (v' : AV), L1'[i]? = some (some v') → ∃ v, L1[i]? = some (some v) ∧ (∀ ad, ab_v ad b v' = ab_v ad b v) ∧ (ab_vv none m1.2.2.2.1 v → ab_vv none ks' v'))
    (hS : ∀ b : Nat, (∀ ad, S1'.map (ab_v ad b) = S1.map (ab_v ad b)) ∧ ((∀ v ∈ S1, ab_vv none m1.2.2.2.1 v) → ∀ v ∈ S1', ab_vv none ks' v))
    (hrun2 : ab_ex KT none sw eV eI ins hd f' pc1 L1' S1' (ab_ks m1 ks') = some (.inl (r, m'))) :
    ab_Met l KT cl y (Cond.code y cc maxL ret :: gW) fr lo none av m r m' := by
  refine ⟨hmono.1, hmono.2, fun D ad ac b sz => ?_⟩
  refine va_MetF (cc := cc) (maxL := maxL) (ret := ret) hy rfl ?_
  intro p e s m0 args below meth c s₁ B hml hv
  obtain ⟨rfl, hsz, hP, hD0, hK0, hKA, hok0, hvv, hX, hsc⟩ := hv
  have hts := atoms_spec (ws := Cond.code y cc maxL ret :: gW) B.pre
  have hown : s.vm.findClass y.cls = some m0.cls := findClass_of_methodNamed B.named
  have hnm : meth.name = y.name := (name_of_methodNamed B.named B.method).1
  have hret := B.returns
  subst hsz
  have hD := hD0.self (sz := s.heap.size)
  have hA : ∀ q : Nat, s.heap.size ≤ q → va_A (ab_w KT ad ac m) s.heap.size q := fun q h => Or.inr h
  have hl := lv_entry (av.map (ab_v ad b)) (n := maxL) (by rw [← (ab_ent_sl ad b av).1]; exact hlen)
  rw [lg_entry_eq]
  have hret2 : ∀ (r2 : Option AV) (m2 : Mm), (Sum.inl (r, m') : Rs) = .inl (r2, m2) → (ab_gc m' - ab_gc m) + ab_gc m = ab_gc m2 ∧ (ab_gs KT m' - ab_gs KT m) + ab_gs KT m = ab_gs KT m2 ∧ ab_gc m2 ≤ ab_gc m' ∧ ab_gs KT m2 ≤ ab_gs KT m' ∧ ∀ (ad' ac' : Nat → Nat) (H : Heap) (locs : List Loc) (cells slots : Nat) (t : State), ab_I KT cl D s (va_A (ab_w KT ad ac m) s.heap.size) s.heap m.2.2.2.1 ad ac (ab_gc m) (ab_gs KT m) ad' ac' m2 H locs cells slots → (∀ v, r2 = some v → ab_vv none m2.2.2.2.1 v) → t.heap = H → s.WarmedH t.vm → ab_Qc KT cl D none b ad ac m s.heap.size r m' (av.map (ab_v ad b)).toArray s (.returned (r2.map (ab_v ad' b))) t := by
    intro r2 m2 hρ
    simp only [Sum.inl.injEq, Prod.mk.injEq] at hρ
    obtain ⟨rfl, rfl⟩ := hρ
    refine ⟨by omega, by omega, Nat.le_refl _, Nat.le_refl _, fun ad' ac' H locs cells slots t hI hvv' ht hW => ?_⟩
    obtain ⟨hP', hD', hS', hKA', hok', hext', hn0', -, -⟩ := hI
    exact ⟨ad', ac', hext', rfl, by rw [ht]; exact hP', hD', ab_K_moved hW.alike hKA', hok', hn0', hvv', hS'.F ht⟩
  have hEE : ∀ (pc : Nat) (q : Ent), ins pc = some q → ab_E KT cl gW y.cls meth.name meth.sig.returnType cc sw maxL pc q.1 q.2.1 q.2.2.1 q.2.2.2.1 q.2.2.2.2 := fun pc q hq => by
    have h := hE pc q hq
    rw [hnm, hret]
    exact h
  have hC : ∀ (pc : Nat) (q : Ent) (hq : ins pc = some q) (hi : ab_inv q.1 = true), _ := fun pc q hq hi => hcl pc q hq hi p e (headSpec (Cond.code y cc maxL ret :: gW) { frames := fr, cells := ab_gc m' - ab_gc m, slots := ab_gs KT m' - ab_gs KT m, locals := lo }).room s m0 (av.map (ab_v ad b)).toArray below meth c (MQ below (ab_Qc KT cl D none b ad ac m s.heap.size r m') (av.map (ab_v ad b)).toArray s (ab_gc m' - ab_gc m) (ab_gs KT m' - ab_gs KT m) (va_A (ab_w KT ad ac m) s.heap.size)) D b (va_A (ab_w KT ad ac m) s.heap.size) s.heap m.2.2.2.1 (ab_gc m) (ab_gs KT m) (ab_gc m') (ab_gs KT m') ad ac hX B.exec B.bytes hml (fun w h => hts w (List.mem_cons_of_mem _ h)) hown hK0 hA (by show ab_gc m' ≤ ab_gc m + (ab_gc m' - ab_gc m); omega) (by show ab_gs KT m' ≤ ab_gs KT m + (ab_gs KT m' - ab_gs KT m); omega) rfl rfl hsc
  have hw2 := ab_sound (p := p) (l := l) (e := e) (R := (headSpec (Cond.code y cc maxL ret :: gW) { frames := fr, cells := ab_gc m' - ab_gc m, slots := ab_gs KT m' - ab_gs KT m, locals := lo }).room) (below := below) (meth := meth) (cd := c) (KT := KT) (cl := cl) (D := D) (sc := none) (b := b) (A := va_A (ab_w KT ad ac m) s.heap.size) (H0 := s.heap) (ks0 := m.2.2.2.1) (g0 := ab_gc m) (h0 := ab_gs KT m) (nL := maxL) (G := ab_gc m') (Hs := ab_gs KT m') (ad0 := ad) (ac0 := ac) (Ts := gW) (own := y.cls)
    hX B.exec B.bytes (fun w h => hts w (List.mem_cons_of_mem _ h)) hown hK0 h00 hnd hk3 hA (by show ab_gc m' ≤ ab_gc m + (ab_gc m' - ab_gc m); omega) (by show ab_gs KT m' ≤ ab_gs KT m + (ab_gs KT m' - ab_gs KT m); omega) hsc B.notSynchronized
    (Qc := ab_Qc KT cl D none b ad ac m s.heap.size r m') (free := va_A (ab_w KT ad ac m) s.heap.size) (mc := ab_gc m' - ab_gc m) (ms := ab_gs KT m' - ab_gs KT m) (fun q h => h) (ρ := .inl (r, m')) hret2 (fun c' h => by cases h) hEE hC f' _ _ _ _ hrun2
  have hw1 := ab_relab (ks0 := m.2.2.2.1) hw hK hok hgc hgs hk0 (hL b) (hS b) hw2
  have hw0 := ab_sound (p := p) (l := l) (e := e) (R := (headSpec (Cond.code y cc maxL ret :: gW) { frames := fr, cells := ab_gc m' - ab_gc m, slots := ab_gs KT m' - ab_gs KT m, locals := lo }).room) (below := below) (meth := meth) (cd := c) (KT := KT) (cl := cl) (D := D) (sc := none) (b := b) (A := va_A (ab_w KT ad ac m) s.heap.size) (H0 := s.heap) (ks0 := m.2.2.2.1) (g0 := ab_gc m) (h0 := ab_gs KT m) (nL := maxL) (G := ab_gc m') (Hs := ab_gs KT m') (ad0 := ad) (ac0 := ac) (Ts := gW) (own := y.cls)
    hX B.exec B.bytes (fun w h => hts w (List.mem_cons_of_mem _ h)) hown hK0 h00 hnd hk3 hA (by show ab_gc m' ≤ ab_gc m + (ab_gc m' - ab_gc m); omega) (by show ab_gs KT m' ≤ ab_gs KT m + (ab_gs KT m' - ab_gs KT m); omega) hsc B.notSynchronized
    (Qc := ab_Qc KT cl D none b ad ac m s.heap.size r m') (free := va_A (ab_w KT ad ac m) s.heap.size) (mc := ab_gc m' - ab_gc m) (ms := ab_gs KT m' - ab_gs KT m) (fun q h => h) (ρ := .inr (pc1, L1, S1, m1)) (fun r2 m2 h => by cases h) (fun c' h => by cases h; exact hw1) hEE hC f _ _ _ _ hrun
  refine hw0.2.2 ad ac _ s.heap [] 0 0 ⟨hP, hD, va_S.rf, hKA, hok0, fun _ _ => ⟨rfl, rfl⟩, fun _ _ h => h, Nat.zero_add _, Nat.zero_add _⟩ ⟨?_, ?_, ?_, fun v hv => by cases hv⟩
  · show (ab_L0 maxL av).length = maxL
    unfold ab_L0
    rw [List.length_append, List.length_replicate]
    omega
  · refine ⟨hl.1, hl.2.1, fun q hq => ?_⟩
    obtain ⟨v, h1, h2⟩ := ab_mem_al.mp hq
    rw [h2, List.getElem?_toArray]
    exact (ab_L0_at h1).2
  · intro i v hv
    exact hvv v (ab_L0_at (ad := ad) (b := b) hv).1
end
