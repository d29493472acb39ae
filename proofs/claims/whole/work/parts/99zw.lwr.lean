section
/-! A method with handlers that returns. -/
theorem lw_met {l : Launch} {y : MethodName} {cc : ByteArray} {maxL fr lo f : Nat} {ret : Option FieldType} {hs : List (Nat × Nat × Nat × Nat)} {av : List AV} {m m' : Mm} {r : Option AV}
    {sw : Nat → List (Int32 × Nat) × Nat} {eV : Nat → List AV → Mm → Option Mm} {eI : Nat → List AV → Mm → Option (Int32 × Mm)} {ins : Nat → Option Ent} {hd : Nat → Nat × List Bool}
    (hy : plainFor y = true)
    (hE : ∀ (pc : Nat) (q : Ent), ins pc = some q → ab_E KT CL ab_gW y.cls y.name ret cc sw maxL pc q.1 q.2.1 q.2.2.1 q.2.2.2.1 q.2.2.2.2)
    (hcl : ∀ (pc : Nat) (q : Ent), ins pc = some q → ab_inv q.1 = true → ab_CR l KT CL none ab_gW y.cls cc maxL fr lo eV eI pc q)
    (hmono : ab_gc m ≤ ab_gc m' ∧ ab_gs KT m ≤ ab_gs KT m') (hlen : (ab_ent av).length ≤ maxL)
    (hrun : ab_ex KT none sw eV eI ins hd f 0 (ab_L0 maxL av) [] m = some (.inl (r, m'))) :
    lw_Met l y (Cond.codeWith y cc maxL ret hs :: ab_gW) fr lo av m r m' := by
  refine ⟨hmono.1, hmono.2, fun D ad ac b sz => ?_⟩
  have hm1 := hmono.1
  have hm2 := hmono.2
  refine MetFree.of_bodySF (code := cc) (maxLocals := maxL) (ret := ret) hy ?_ ?_
  · intro args s m h hn
    obtain ⟨m', meth, c, h0, h1, h2, h3, h4, -, h5, h6, -⟩ := Cond.codeWith_spec (atoms_spec (ws := Cond.codeWith y cc maxL ret hs :: ab_gW) h _ List.mem_cons_self)
    cases hn.symm.trans h0
    exact ⟨meth, c, h1, h2, h3, h4, h5, h6⟩
  · intro p e s m0 args below meth c s₁ B hml hv _
    obtain ⟨⟨rfl, hsz, hP, hD0, hK0, hKA, hok, hvv, hX, hsc⟩, hTT, hRR⟩ := hv
    have hts := atoms_spec (ws := Cond.codeWith y cc maxL ret hs :: ab_gW) B.pre
    have htg : ∀ w ∈ ab_gW, w.before (av.map (ab_v ad b)).toArray s = true := fun w h => hts w (List.mem_cons_of_mem _ h)
    have hown : s.vm.findClass y.cls = some m0.cls := findClass_of_methodNamed B.named
    have hnm : meth.name = y.name := (name_of_methodNamed B.named B.method).1
    have hret' := B.returns
    subst hsz
    have hD := hD0.self (sz := s.heap.size)
    have hA : ∀ q : Nat, s.heap.size ≤ q → va_A (ab_w KT ad ac m) s.heap.size q := fun q h => Or.inr h
    have hl0 := lv_entry (av.map (ab_v ad b)) (n := maxL) (by rw [← (ab_ent_sl ad b av).1]; exact hlen)
    have hh0 : s₁.heap = s.heap := by rw [B.state]; rfl
    have hw0 := ab_sound (p := p) (l := l) (e := e) (R := (headSpec (Cond.codeWith y cc maxL ret hs :: ab_gW) { frames := fr, cells := ab_gc m' - ab_gc m, slots := ab_gs KT m' - ab_gs KT m, locals := lo }).room) (below := below) (meth := meth) (cd := c) (KT := KT) (cl := CL) (D := D) (sc := none) (b := b) (A := va_A (ab_w KT ad ac m) s.heap.size) (H0 := s.heap) (ks0 := m.2.2.2.1) (g0 := ab_gc m) (h0 := ab_gs KT m) (nL := maxL) (G := ab_gc m') (Hs := ab_gs KT m') (ad0 := ad) (ac0 := ac) (Ts := ab_gW) (own := y.cls)
      hX B.exec B.bytes htg hown hK0 KT_0 KT_nd KT_k3 hA (by show ab_gc m' ≤ ab_gc m + (ab_gc m' - ab_gc m); omega) (by show ab_gs KT m' ≤ ab_gs KT m + (ab_gs KT m' - ab_gs KT m); omega) hsc B.notSynchronized
      (Qc := ab_Qc KT CL D none b ad ac m s.heap.size r m') (free := va_A (ab_w KT ad ac m) s.heap.size) (mc := ab_gc m' - ab_gc m) (ms := ab_gs KT m' - ab_gs KT m) (fun q h => h) (ρ := .inl (r, m')) ?_ (fun c' h => by cases h) (fun pc q hq => ?_) (fun pc q hq hi => ?_) f _ _ _ _ hrun
    · rw [lg_entry_eq]
      have kk := hw0.2.2 ad ac (lg_sl (av.map (ab_v ad b)) ++ List.replicate (maxL - (lg_sl (av.map (ab_v ad b))).length) Slot.unset).toArray s.heap [] 0 0 ⟨hP, hD, va_S.rf, hKA, hok, fun _ _ => ⟨rfl, rfl⟩, fun _ _ h => h, Nat.zero_add _, Nat.zero_add _⟩ ⟨?_, ?_, ?_, fun v hv => by cases hv⟩
      · obtain ⟨t, a1, o, b1, b2, b3, b4⟩ := kk s₁ hh0 (Stand.of_body B)
        exact ⟨t, o, a1, b1, b2, b3, b4⟩
      · show (ab_L0 maxL av).length = maxL
        unfold ab_L0
        rw [List.length_append, List.length_replicate]
        omega
      · refine ⟨hl0.1, hl0.2.1, fun q hq => ?_⟩
        obtain ⟨v, h1, h2⟩ := ab_mem_al.mp hq
        rw [h2, List.getElem?_toArray]
        exact (ab_L0_at h1).2
      · intro i v hv
        exact hvv v (ab_L0_at (ad := ad) (b := b) hv).1
    · intro r' m2 hρ
      simp only [Sum.inl.injEq, Prod.mk.injEq] at hρ
      obtain ⟨rfl, rfl⟩ := hρ
      refine ⟨by omega, by omega, Nat.le_refl _, Nat.le_refl _, fun ad' ac' H locs cells slots t hI hvv' ht hW => ?_⟩
      obtain ⟨hP', hD', hS', hKA', hok', hext', hn0', -, -⟩ := hI
      refine ⟨ad', ac', hext', rfl, by rw [ht]; exact hP', hD', ab_K_moved hW.alike hKA', hok', hn0', hvv', hS'.F ht⟩
    · have h := hE pc q hq
      rw [hnm, hret']
      exact h
    · exact hcl pc q hq hi p e _ s m0 _ below meth c _ D b _ _ _ _ _ _ _ ad ac hX B.exec B.bytes hml htg hown hK0 hA (by show ab_gc m' ≤ ab_gc m + (ab_gc m' - ab_gc m); omega) (by show ab_gs KT m' ≤ ab_gs KT m + (ab_gs KT m' - ab_gs KT m); omega) rfl rfl hsc
end
