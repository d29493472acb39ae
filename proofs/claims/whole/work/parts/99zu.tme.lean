section
/-! A method's contract out of a run that stops where it throws. -/
/-- a cell of six slots that nobody keeps -/
def th_b (m : Mm) : Mm := (m.1, m.2.1, m.2.2.1, m.2.2.2.1, m.2.2.2.2.1 + 1, m.2.2.2.2.2 + 6)
theorem th_gc (m : Mm) : ab_gc (th_b m) = ab_gc m + 1 := rfl
theorem th_gs (m : Mm) : ab_gs KT (th_b m) = ab_gs KT m + 6 := rfl
def th_Qc (D : va_G) (b : Nat) (ad ac : Nat → Nat) (m : Mm) (sz : Nat) (cls : String) (m' : Mm) : Array Value → State → Outcome → State → Prop := fun a st o t =>
  (∃ (x : Nat) (ce : Cell), o = .threw x ∧ st.heap.size ≤ x ∧ t.heap[x]? = some ce ∧ ce.vm = .none ∧ st.vm.findClass cls = some ce.cls) ∧ ab_Qc KT CL D none b ad ac m sz none m' a st (.returned none) t
def th_Met (l : Launch) (y : MethodName) (ws : List Cond) (fr lo : Nat) (av : List AV) (m : Mm) (cls : String) (m' : Mm) : Prop :=
  ab_gc m ≤ ab_gc m' ∧ ab_gs KT m ≤ ab_gs KT m' ∧ ∀ (D : va_G) (ad ac : Nat → Nat) (b sz : Nat), MetFree l y (headSpec ws { frames := fr, cells := ab_gc m' - ab_gc m, slots := ab_gs KT m' - ab_gs KT m, locals := lo })
    (fun a st => ab_Pc KT CL D none b ad ac m sz av a st ∧ th_T st ∧ th_R st) (fun _ _ _ _ _ => True)
    (fun a st o t => th_Qc D b ad ac m sz cls m' a st o t ∧ ∃ L, FrameEndT st o t L (ab_gc m' - ab_gc m) (ab_gs KT m' - ab_gs KT m) ∧ ∀ q ∈ L, va_A (ab_w KT ad ac m) sz q.base)
theorem vp_vm (cA : ClassId) (a : vp_A) : (vp_cell cA a).vm = .none := by
  obtain ⟨n, z⟩ := a
  rcases z with f | f | f | f | f <;> rfl
/-- a cell of the world holds no statics -/
theorem va_nost {D : va_G} {cl : List vw_C} {ws : va_W} {H : Heap} (hP : va_P D cl ws H) {k q : Nat} {z : va_E} (h : ws[k]? = some (q, z)) {cell : Cell} (hc : H[q]? = some cell) : cell.vm.isStatics = false := by
  have g := hP k _ h
  unfold va_at at g
  cases z with
  | inl a =>
    have g : H[q]? = some (vp_cell a.1 a.2) := g
    cases hc.symm.trans g
    rw [vp_vm]
    rfl
  | inr o =>
    obtain ⟨r, -, ce, g1, -, g3, -⟩ := g
    cases hc.symm.trans g1
    rw [g3]
    rfl
theorem th_met {l : Launch} {y : MethodName} {cc : ByteArray} {maxL fr lo f : Nat} {ret : Option FieldType} {av : List AV} {m m1 : Mm} {L1 : List (Option AV)} {cls : String} {names : List String} {ik ic pc : Nat}
    {sw : Nat → List (Int32 × Nat) × Nat} {eV : Nat → List AV → Mm → Option Mm} {eI : Nat → List AV → Mm → Option (Int32 × Mm)} {ins : Nat → Option Ent} {hd : Nat → Nat × List Bool}
    (hl : l.flags = flags0) (hy : plainFor y = true)
    (hE : ∀ (pc : Nat) (q : Ent), ins pc = some q → ab_E KT CL ab_gW y.cls y.name ret cc sw maxL pc q.1 q.2.1 q.2.2.1 q.2.2.2.1 q.2.2.2.2)
    (hcl : ∀ (pc : Nat) (q : Ent), ins pc = some q → ab_inv q.1 = true → ab_CR l KT CL none ab_gW y.cls cc maxL fr lo eV eI pc q)
    (hmono : ab_gc m ≤ ab_gc m1 ∧ ab_gs KT m ≤ ab_gs KT m1) (hlen : (ab_ent av).length ≤ maxL)
    (hrun : ab_ex KT none sw eV eI ins hd f 0 (ab_L0 maxL av) [] m = some (.inr (pc, L1, [], m1)))
    (hw : ∀ w ∈ Bundle.ownAtoms0 y.cls ic cls names, w ∈ ab_gW ∨ w ∈ th_S ∨ w ∈ th_F) (hck : Cond.classLink y.cls ik cls ∈ ab_gW) (hini : Cond.initialized cls ∈ ab_gW) (hfit : Bundle.fit cls = true) (hfits : ∀ n ∈ names, Bundle.fit n = true)
    (d0 : decode cc pc = .ok (.new ik, 3)) (d3 : decode cc (pc + 3) = .ok (.dup, 1)) (d4 : decode cc (pc + 4) = .ok (.invokespecial ic, 3)) (d7 : decode cc (pc + 7) = .ok (.athrow, 1)) (hRf : names.length + 3 < fr) (hRl : 13 * (names.length + 1) + 42 ≤ lo) :
    th_Met l y (Cond.code y cc maxL ret :: ab_gW) fr lo av m cls (th_b m1) := by
  have g1 := th_gc m1
  have g2 := th_gs m1
  have hm1 := hmono.1
  have hm2 := hmono.2
  refine ⟨by omega, by omega, fun D ad ac b sz => ?_⟩
  refine MetFree.of_bodySF (code := cc) (maxLocals := maxL) (ret := ret) hy ?_ ?_
  · intro args s m h hn
    obtain ⟨meth, c, h1, h2, h3, h4, h5, h6, -, -⟩ := Cond.code_spec hn (atoms_spec (ws := Cond.code y cc maxL ret :: ab_gW) h _ List.mem_cons_self)
    exact ⟨meth, c, h1, h2, h3, h4, h5, h6⟩
  · intro p e s m0 args below meth c s₁ B hml hv _
    obtain ⟨⟨rfl, hsz, hP, hD0, hK0, hKA, hok, hvv, hX, hsc⟩, hTT, hRR⟩ := hv
    have hts := atoms_spec (ws := Cond.code y cc maxL ret :: ab_gW) B.pre
    have hown : s.vm.findClass y.cls = some m0.cls := findClass_of_methodNamed B.named
    have hnm : meth.name = y.name := (name_of_methodNamed B.named B.method).1
    have hret := B.returns
    have hno := B.noHandlers (hts _ List.mem_cons_self)
    subst hsz
    have hD := hD0.self (sz := s.heap.size)
    have hA : ∀ q : Nat, s.heap.size ≤ q → va_A (ab_w KT ad ac m) s.heap.size q := fun q h => Or.inr h
    have hl0 := lv_entry (av.map (ab_v ad b)) (n := maxL) (by rw [← (ab_ent_sl ad b av).1]; exact hlen)
    have hh0 : s₁.heap = s.heap := by rw [B.state]; rfl
    have hw0 := ab_soundQ (p := p) (l := l) (e := e) (R := (headSpec (Cond.code y cc maxL ret :: ab_gW) { frames := fr, cells := ab_gc (th_b m1) - ab_gc m, slots := ab_gs KT (th_b m1) - ab_gs KT m, locals := lo }).room) (below := below) (meth := meth) (cd := c) (KT := KT) (cl := CL) (D := D) (sc := none) (b := b) (A := va_A (ab_w KT ad ac m) s.heap.size) (H0 := s.heap) (ks0 := m.2.2.2.1) (g0 := ab_gc m) (h0 := ab_gs KT m) (nL := maxL) (G := ab_gc (th_b m1)) (Hs := ab_gs KT (th_b m1)) (ad0 := ad) (ac0 := ac) (Ts := ab_gW) (own := y.cls)
      (Q := fun t => ∃ o, t.status = .running ∧ Ended t below o ∧ (th_Qc D b ad ac m s.heap.size cls (th_b m1) (av.map (ab_v ad b)).toArray s o t ∧ ∃ L, FrameEndT s o t L (ab_gc (th_b m1) - ab_gc m) (ab_gs KT (th_b m1) - ab_gs KT m) ∧ ∀ q ∈ L, va_A (ab_w KT ad ac m) s.heap.size q.base))
      hX B.exec B.bytes (fun w h => hts w (List.mem_cons_of_mem _ h)) hown hK0 KT_0 KT_nd KT_k3 hA (by show ab_gc (th_b m1) ≤ ab_gc m + (ab_gc (th_b m1) - ab_gc m); omega) (by show ab_gs KT (th_b m1) ≤ ab_gs KT m + (ab_gs KT (th_b m1) - ab_gs KT m); omega) hsc B.notSynchronized
      (ρ := .inr (pc, L1, [], m1)) (fun r m' h => by cases h) ?_ (fun pc q hq => ?_) (fun pc q hq hi => ?_) f _ _ _ _ hrun
    · rw [lg_entry_eq]
      have k := hw0.2.2 ad ac (lg_sl (av.map (ab_v ad b)) ++ List.replicate (maxL - (lg_sl (av.map (ab_v ad b))).length) Slot.unset).toArray s.heap [] 0 0 ⟨hP, hD, va_S.rf, hKA, hok, fun _ _ => ⟨rfl, rfl⟩, fun _ _ h => h, Nat.zero_add _, Nat.zero_add _⟩ ⟨?_, ?_, ?_, fun v hv => by cases hv⟩
      · obtain ⟨t, a1, o, b1, b2, b3⟩ := k s₁ hh0 (Stand.of_body B)
        exact ⟨t, o, a1, b1, b2, b3⟩
      · show (ab_L0 maxL av).length = maxL
        unfold ab_L0
        rw [List.length_append, List.length_replicate]
        omega
      · refine ⟨hl0.1, hl0.2.1, fun q hq => ?_⟩
        obtain ⟨v, h1, h2⟩ := ab_mem_al.mp hq
        rw [h2, List.getElem?_toArray]
        exact (ab_L0_at h1).2
      · intro i v hv
        exact hvv v (ab_L0_at (ad := ad) (b := b) hv).1
    · intro c' hc'
      cases hc'
      refine ⟨?_, ?_, fun ad' ac' ls H locs cells slots hI hF => ?_⟩
      · show ab_gc m1 ≤ ab_gc (th_b m1)
        omega
      · show ab_gs KT m1 ≤ ab_gs KT (th_b m1)
        omega
      obtain ⟨hP', hD', hS', hKA', hok', hext', hn0', e1, e2⟩ := hI
      have e1 : cells + ab_gc m = ab_gc m1 := e1
      have e2 : slots + ab_gs KT m = ab_gs KT m1 := e2
      have stat : ∀ (q : Nat) (cell : Cell), s.heap[q]? = some cell → cell.vm.isStatics = true → H[q]? = some cell := by
        intro q cell h1 h2
        have hq : q < s.heap.size := (Array.getElem?_eq_some_iff.mp h1).1
        rw [hS'.2.1 q hq ?_]
        · exact h1
        · rintro (⟨k, z, hk⟩ | hk)
          · have := va_nost hP hk h1
            rw [h2] at this
            cases this
          · omega
      refine th_throw (own := y.cls) (cls := cls) (names := names) (ik := ik) (ic := ic) hl B.exec B.bytes B.notSynchronized hown (fun w h => hts w (List.mem_cons_of_mem _ h)) hTT (fun U hU hW => th_R.moved hW (fun q cell h1 h2 => by rw [hU]; exact stat q cell h1 h2) hRR _) hw hck hini hfit hfits (by rw [hml]; exact hF.2.1.1) d0 d3 d4 d7 ?_ ?_ ?_ hRf hRl ?_
      · intro x hx
        rw [Array.isEmpty_iff.mp hno] at hx
        cases hx
      · show cells + 1 ≤ ab_gc (th_b m1) - ab_gc m
        omega
      · show slots + 6 ≤ ab_gs KT (th_b m1) - ab_gs KT m
        omega
      · intro U u1 u2 u3 u4 u5 ⟨ce, u6, u7, u8⟩
        have hk : ∀ (i : Nat) (x : Nat × va_E), (ab_w KT ad' ac' m1)[i]? = some x → U.heap[x.1]? = H[x.1]? := fun i x hx => u5 x.1 ((hP' i x hx).lt)
        refine ⟨.threw H.size, u1, u2, ⟨⟨H.size, ce, rfl, hS'.1, u6, u8, u7⟩, ad', ac', hext', rfl, hP'.kept hk, hD', ab_K_moved u3.alike hKA', hok', hn0', (fun v hv => by cases hv), ?_, ?_⟩, locs, ⟨⟨_, rfl⟩, u3, ?_⟩, hS'.2.2⟩
        · have : H.size < U.heap.size := (Array.getElem?_eq_some_iff.mp u6).1
          have := hS'.1
          omega
        · intro q h1 h2
          rw [u5 q (Nat.lt_of_lt_of_le h1 hS'.1)]
          exact hS'.2.1 q h1 h2
        · have a1 : ab_gc (th_b m1) - ab_gc m = cells + 1 := by omega
          have a2 : ab_gs KT (th_b m1) - ab_gs KT m = slots + 6 := by omega
          rw [a1, a2]
          exact u4
    · have h := hE pc q hq
      rw [hnm, hret]
      exact h
    · exact hcl pc q hq hi p e _ s m0 _ below meth c _ D b _ _ _ _ _ _ _ ad ac hX B.exec B.bytes hml (fun w h => hts w (List.mem_cons_of_mem _ h)) hown hK0 hA (by show ab_gc (th_b m1) ≤ ab_gc m + (ab_gc (th_b m1) - ab_gc m); omega) (by show ab_gs KT (th_b m1) ≤ ab_gs KT m + (ab_gs KT (th_b m1) - ab_gs KT m); omega) rfl rfl hsc
end
