section
/-! A method that catches what its callee throws. -/
def lw_Met (l : Launch) (y : MethodName) (ws : List Cond) (fr lo : Nat) (av : List AV) (m : Mm) (r : Option AV) (m' : Mm) : Prop :=
  ab_gc m ≤ ab_gc m' ∧ ab_gs KT m ≤ ab_gs KT m' ∧ ∀ (D : va_G) (ad ac : Nat → Nat) (b sz : Nat), MetFree l y (headSpec ws { frames := fr, cells := ab_gc m' - ab_gc m, slots := ab_gs KT m' - ab_gs KT m, locals := lo })
    (fun a st => ab_Pc KT CL D none b ad ac m sz av a st ∧ th_T st ∧ th_R st) (fun _ _ _ _ _ => True)
    (fun a st o t => ab_Qc KT CL D none b ad ac m sz r m' a st o t ∧ ∃ L, FrameEnd st o t L (ab_gc m' - ab_gc m) (ab_gs KT m' - ab_gs KT m) ∧ ∀ q ∈ L, va_A (ab_w KT ad ac m) sz q.base)
/-- the handlers: those before are of other classes -/
def ct_ok (own cls : String) (s : State) (pc : Nat) : List (Nat × Nat × Nat × Nat) → List String → Nat → Prop
  | (a, b, h0, ct) :: t, n :: ns, h => (a ≤ pc ∧ pc < b) ∧ ct ≠ 0 ∧ Cond.classLink own ct n ∈ ab_gW ∧ ((n = cls ∧ h0 = h) ∨ (th_na (cls, n) s ∧ ct_ok own cls s pc t ns h))
  | _, _, _ => False
theorem ct_chain {e : Env} {s : State} {f : JFrame} {a : Addr} {own cls : String} {args : Array Value} {ce : Cell} (hpl : e.platform.magicAccessors = ({} : Platform).magicAccessors) (hown : s.vm.findClass own = some f.method.cls) (hts : ∀ w ∈ ab_gW, w.before args s = true)
    (hself : (Cond.castable cls cls).before args s = true) (hcls : s.vm.findClass cls = some ce.cls) (hvm : ce.vm = .none) : ∀ (es : List ExceptionTableEntry) (ns : List String) (h : Nat) (T : State), s.WarmedH T.vm → T.heap[a]? = some ce →
      ct_ok own cls s f.pc (es.map (fun h => (h.startPc, h.endPc, h.handlerPc, h.catchType))) ns h → ∃ vm', s.WarmedH vm' ∧ ct_F e T f a es (.found h) vm' := by
  intro es
  induction es with
  | nil => intro ns h T hW hc hok; cases ns <;> exact hok.elim
  | cons x t ih =>
    intro ns h T hW hc hok
    cases ns with
    | nil => exact hok.elim
    | cons n ns =>
      obtain ⟨h1, h2, h3, h4⟩ := hok
      obtain ⟨cX, hf, hcl⟩ := Cond.classLink_spec hown (hts _ h3) e.platform hpl
      obtain ⟨g1, g2, -⟩ := State.classEntry (e := e) hW hcl
      have hcov : covers x f.pc = true := by
        show (decide (x.startPc ≤ f.pc) && decide (f.pc < x.endPc)) = true
        rw [decide_eq_true h1.1, decide_eq_true h1.2]
        rfl
      have hsz : (T.vm.noted f.method.cls x.catchType (.cls cX)).classes.size ≤ T.vm.classes.size := by
        rw [g2.2.1, hW.2.1]
        exact Nat.le_refl _
      have hobj : ∀ k, ce.vm ≠ .statics k := fun k hk => by rw [hvm] at hk; cases hk
      have hk1 : ∃ k, (T.vm.noted f.method.cls x.catchType (.cls cX)).classes[ce.cls]? = some k := by
        obtain ⟨k, hk⟩ := Vm.classAt_of_findClass hcls
        obtain ⟨k', hk', -⟩ := g2.alike.2.2 _ _ hk
        exact ⟨k', hk'⟩
      have hk2 : ∃ k, (T.vm.noted f.method.cls x.catchType (.cls cX)).classes[cX]? = some k := by
        obtain ⟨k, hk⟩ := Vm.classAt_of_findClass hf
        obtain ⟨k', hk', -⟩ := g2.alike.2.2 _ _ hk
        exact ⟨k', hk'⟩
      rcases h4 with ⟨rfl, rfl⟩ | ⟨h4, h5⟩
      · obtain ⟨c1, c2, a1, a2, a3⟩ := Cond.castable_spec hself
        cases a1.symm.trans hcls
        cases a2.symm.trans hcls
        cases hf.symm.trans hcls
        exact ⟨_, g2, ct_found hcov h2 g1 hsz hc hobj hk1 hk2 (by rw [g2.alike.assignable]; exact a3)⟩
      · obtain ⟨c1, c2, a1, a2, a3⟩ := h4
        cases a1.symm.trans hcls
        cases a2.symm.trans hf
        obtain ⟨vm', b1, b2⟩ := ih ns h (T.setVm (T.vm.noted f.method.cls x.catchType (.cls cX))) g2 hc h5
        exact ⟨vm', b1, ct_pass hcov h2 g1 hsz hc hobj hk1 hk2 (by rw [g2.alike.assignable]; exact a3) b2⟩
theorem lw_thr {l : Launch} {y yx : MethodName} {cc bx : ByteArray} {maxL mL fr lo frx lox f pc idx n hpc j nas b' : Nat} {k : Int32} {ret retx : Option FieldType} {av avx : List AV} {m m1 : Mm} {L1 : List (Option AV)} {S1 : List AV} {q : Nat} {cls : String} {hs : List (Nat × Nat × Nat × Nat)} {ns : List String}
    {sw : Nat → List (Int32 × Nat) × Nat} {eV : Nat → List AV → Mm → Option Mm} {eI : Nat → List AV → Mm → Option (Int32 × Mm)} {ins : Nat → Option Ent} {hd : Nat → Nat × List Bool}
    (hy : plainFor y = true)
    (hE : ∀ (pc : Nat) (q : Ent), ins pc = some q → ab_E KT CL ab_gW y.cls y.name ret cc sw maxL pc q.1 q.2.1 q.2.2.1 q.2.2.2.1 q.2.2.2.2)
    (hni : ∀ (pc : Nat) (q : Ent), ins pc = some q → ab_inv q.1 = false)
    (hlen : (ab_ent av).length ≤ maxL)
    (hrun : ab_ex KT none sw eV eI ins hd f 0 (ab_L0 maxL av) [] m = some (.inr (pc, L1, S1, m)))
    (hav : (S1.take b').reverse = .inr (.inr (1, some q)) :: avx) (hn : avx.length = nas) (hwd : ab_wd (S1.drop b') ≤ 8)
    (hM : th_Met l yx (Cond.code yx bx mL retx :: ab_gW) frx lox (.inr (.inr (1, some q)) :: avx) m cls m1) (hvs : ∀ v ∈ avx, ∀ ks, ab_vv none ks v → ab_vv none ks v)
    (hcode : Cond.code yx bx mL retx ∈ ab_gW) (hini : Cond.initialized yx.cls ∈ ab_gW) (hlk : Cond.methodLink y.cls idx yx ∈ ab_gW) (hins : Cond.instanceMethod yx ∈ ab_gW) (hsel : Cond.selects "StreamTransport" yx yx ∈ ab_gW)
    (hdx : yx.cls ≠ "java/lang/invoke/MethodHandle" ∧ yx.cls ≠ "java/lang/invoke/VarHandle" ∧ (parseMethodDescriptor yx.desc).map (fun d => d.parameters.length) = some nas) (hRf : frx + 1 ≤ fr) (hRl : 8 + (mL + 11) + lox ≤ lo)
    (hdg : decode cc pc = .ok (.invokevirtual idx, 3)) (hself : Cond.castable cls cls ∈ th_F) (hret : ret = some .int)
    (hct : ∀ s : State, th_T s → ct_ok y.cls cls s pc hs ns hpc) (hj : j < maxL) (d1 : decode cc hpc = .ok (.astore j, 2)) (d2 : decode cc (hpc + 2) = .ok (.iconst n, 1)) (hk : Int32.ofInt n = k) (d3 : decode cc (hpc + 3) = .ok (.ireturn, 1)) :
    lw_Met l y (Cond.codeWith y cc maxL ret hs :: ab_gW) fr lo av m (some (.inl k)) m1 := by
  refine ⟨hM.1, hM.2.1, fun D ad ac b sz => ?_⟩
  have hm1 := hM.1
  have hm2 := hM.2.1
  refine MetFree.of_bodySF (code := cc) (maxLocals := maxL) (ret := ret) hy ?_ ?_
  · intro args s m h hn
    obtain ⟨m', meth, c, h0, h1, h2, h3, h4, -, h5, h6, -⟩ := Cond.codeWith_spec (atoms_spec (ws := Cond.codeWith y cc maxL ret hs :: ab_gW) h _ List.mem_cons_self)
    cases hn.symm.trans h0
    exact ⟨meth, c, h1, h2, h3, h4, h5, h6⟩
  · intro p e s m0 args below meth c s₁ B hml hv _
    obtain ⟨⟨rfl, hsz, hP, hD0, hK0, hKA, hok, hvv, hX, hsc⟩, hTT, hRR⟩ := hv
    have hts := atoms_spec (ws := Cond.codeWith y cc maxL ret hs :: ab_gW) B.pre
    have htg : ∀ w ∈ ab_gW, w.before (av.map (ab_v ad b)).toArray s = true := fun w h => hts w (List.mem_cons_of_mem _ h)
    have hown : s.vm.findClass y.cls = some m0.cls := findClass_of_methodNamed B.named
    have hnm : meth.name = y.name := (name_of_methodNamed B.named B.method).1
    have hret' := B.returns
    have htab : c.exceptionTable.toList.map (fun h => (h.startPc, h.endPc, h.handlerPc, h.catchType)) = hs := by
      obtain ⟨m', meth', c', h0, h1, h2, h3, h4, h5, -⟩ := Cond.codeWith_spec (hts _ List.mem_cons_self)
      cases B.named.symm.trans h0
      cases B.method.symm.trans h1
      cases (Stand.of_body B).code.symm.trans h2
      exact h5
    subst hsz
    have hD := hD0.self (sz := s.heap.size)
    have hA : ∀ q : Nat, s.heap.size ≤ q → va_A (ab_w KT ad ac m) s.heap.size q := fun q h => Or.inr h
    have hl0 := lv_entry (av.map (ab_v ad b)) (n := maxL) (by rw [← (ab_ent_sl ad b av).1]; exact hlen)
    have hh0 : s₁.heap = s.heap := by rw [B.state]; rfl
    have hw0 := ab_soundQ (p := p) (l := l) (e := e) (R := (headSpec (Cond.codeWith y cc maxL ret hs :: ab_gW) { frames := fr, cells := ab_gc m1 - ab_gc m, slots := ab_gs KT m1 - ab_gs KT m, locals := lo }).room) (below := below) (meth := meth) (cd := c) (KT := KT) (cl := CL) (D := D) (sc := none) (b := b) (A := va_A (ab_w KT ad ac m) s.heap.size) (H0 := s.heap) (ks0 := m.2.2.2.1) (g0 := ab_gc m) (h0 := ab_gs KT m) (nL := maxL) (G := ab_gc m1) (Hs := ab_gs KT m1) (ad0 := ad) (ac0 := ac) (Ts := ab_gW) (own := y.cls)
      (Q := MQ below (ab_Qc KT CL D none b ad ac m s.heap.size (some (.inl k)) m1) (av.map (ab_v ad b)).toArray s (ab_gc m1 - ab_gc m) (ab_gs KT m1 - ab_gs KT m) (va_A (ab_w KT ad ac m) s.heap.size))
      hX B.exec B.bytes htg hown hK0 KT_0 KT_nd KT_k3 hA (by show ab_gc m1 ≤ ab_gc m + (ab_gc m1 - ab_gc m); omega) (by show ab_gs KT m1 ≤ ab_gs KT m + (ab_gs KT m1 - ab_gs KT m); omega) hsc B.notSynchronized
      (ρ := .inr (pc, L1, S1, m)) (fun r m' h => by cases h) ?_ (fun pc q hq => ?_) (fun pc q hq hi => by rw [hni pc q hq] at hi; cases hi) f _ _ _ _ hrun
    · rw [lg_entry_eq]
      have kk := hw0.2.2 ad ac (lg_sl (av.map (ab_v ad b)) ++ List.replicate (maxL - (lg_sl (av.map (ab_v ad b))).length) Slot.unset).toArray s.heap [] 0 0 ⟨hP, hD, va_S.rf, hKA, hok, fun _ _ => ⟨rfl, rfl⟩, fun _ _ h => h, Nat.zero_add _, Nat.zero_add _⟩ ⟨?_, ?_, ?_, fun v hv => by cases hv⟩
      · obtain ⟨t, a1, o, b1, b2, b3, b4⟩ := kk s₁ hh0 (Stand.of_body B)
        exact ⟨t, o, a1, b1, b2, b3, b4⟩
      · show (ab_L0 maxL av).length = maxL
        unfold ab_L0
        rw [List.length_append, List.length_replicate]
        omega
      · refine ⟨hl0.1, hl0.2.1, fun q hq => ?_⟩
        obtain ⟨v, h1, h2⟩ := ab_mem_al.mp hq
        rw [h2, List.getElem?_toArray]
        exact (ab_L0_at h1).2
      · intro i v hv
        exact hvv v (ab_L0_at (ad := ad) (b := b) hv).1
    · intro c' hc'
      cases hc'
      refine ⟨hm1, hm2, fun ad' ac' ls H locs cells slots hI hF => ?_⟩
      have hI0 := hI
      obtain ⟨hP', hD', hS', hKA', hok', hext', hn0', e1, e2⟩ := hI
      have e1 : cells + ab_gc m = ab_gc m := e1
      have e2 : slots + ab_gs KT m = ab_gs KT m := e2
      have c0 : cells = 0 := by omega
      have s0 : slots = 0 := by omega
      subst c0 s0
      have hS1 := ab_args hav
      have hmem : ∀ v ∈ Sum.inr (Sum.inr (1, some q)) :: avx, v ∈ S1 := fun v hv => ab_argsm hav hv
      have hq1 : m.2.2.2.1[q]? = some 1 := ab_ref (hF.2.2.2 _ (hmem _ List.mem_cons_self)) (by decide)
      have hvv' : ∀ v ∈ Sum.inr (Sum.inr (1, some q)) :: avx, ab_vv none m.2.2.2.1 v := fun v hv => hF.2.2.2 v (hmem v hv)
      have stat : ∀ (q : Nat) (cell : Cell), s.heap[q]? = some cell → cell.vm.isStatics = true → H[q]? = some cell := by
        intro q cell h1 h2
        have hq : q < s.heap.size := (Array.getElem?_eq_some_iff.mp h1).1
        rw [hS'.2.1 q hq ?_]
        · exact h1
        · rintro (⟨k, z, hk⟩ | hk)
          · have := va_nost hP hk h1
            rw [h2] at this
            cases this
          · omega
      have hAA : ∀ q, va_A (ab_w KT ad' ac' m) H.size q → va_A (ab_w KT ad ac m) s.heap.size q := by
        rintro q (⟨k, z, hk⟩ | hq)
        · exact hD'.2 k _ hk
        · exact hA q (Nat.le_trans hS'.1 hq)
      have hpre := ab_start (sc := none) (b := b) (sc' := none) hX hK0 (.inl rfl) hA hI0 hvv'
      have hpre2 : ∀ U : State, U.heap = H → s.WarmedH U.vm → ab_Pc KT CL D none b ad' ac' m H.size (.inr (.inr (1, some q)) :: avx) (List.map (ab_v ad' b) (Sum.inr (Sum.inr (1, some q)) :: avx)).toArray U ∧ th_T U ∧ th_R U := fun U hU hW => ⟨hpre U hU hW, th_T.warm hW hTT, th_R.moved hW (fun q cell h1 h2 => by rw [hU]; exact stat q cell h1 h2) hRR #[]⟩
      have hmap : List.map (ab_v ad' b) (Sum.inr (Sum.inr (1, some q)) :: avx) = .ref (ad' q) :: avx.map (ab_v ad' b) := by
        show ab_v ad' b (.inr (.inr (1, some q))) :: _ = _
        rw [ab_vr (by decide)]
      rw [hmap] at hpre2
      have hGI : GoodIn ab_gW (Cond.code yx bx mL retx :: ab_gW) := ab_gW_good hcode
      have hpay := pay_in (ws := Cond.code yx bx mL retx :: ab_gW) htg hGI
      intro T hT X
      have hK : BackT l (headSpec (Cond.codeWith y cc maxL ret hs :: ab_gW) { frames := fr, cells := ab_gc m1 - ab_gc m, slots := ab_gs KT m1 - ab_gs KT m, locals := lo }).room p e below s (av.map (ab_v ad b)).toArray yx 3 8
          (fun A a => A.cells + (ab_gc m1 - ab_gc m) ≤ ab_gc m1 - ab_gc m ∧ A.slots + (ab_gs KT m1 - ab_gs KT m) ≤ ab_gs KT m1 - ab_gs KT m ∧ (ab_Pc KT CL D none b ad' ac' m H.size (.inr (.inr (1, some q)) :: avx) a A.U ∧ th_T A.U ∧ th_R A.U))
          (fun A a v B' => ∃ (g : JFrame) (mk : MethodId) (t : State) (L : List Loc), B'.U.heap = t.heap ∧ B'.U.vm = t.vm ∧ th_Qc D b ad' ac' m H.size cls m1 a (A.U.calling g mk a) (.threw v) t ∧ B'.locs = A.locs ++ L ∧ (∀ q ∈ L, va_A (ab_w KT ad' ac' m) H.size q.base) ∧ B'.cells = A.cells + (ab_gc m1 - ab_gc m) ∧ B'.slots = A.slots + (ab_gs KT m1 - ab_gs KT m)) := by
        refine BackT.of_free (S := headSpec (Cond.code yx bx mL retx :: ab_gW) { frames := frx, cells := ab_gc m1 - ab_gc m, slots := ab_gs KT m1 - ab_gs KT m, locals := lox }) (bytes := bx) (maxL := mL) (ret := retx)
          (E := fun a st o t L k n => k = ab_gc m1 - ab_gc m ∧ n = ab_gs KT m1 - ab_gs KT m ∧ ∀ q ∈ L, va_A (ab_w KT ad' ac' m) H.size q.base) (hM.2.2 D ad' ac' b H.size) hRf hRl ?_ ?_ (fun _ _ _ _ _ _ _ _ _ => trivial) ?_ ?_
        · intro m meth c A a X hp
          exact ⟨atoms_intro fun w hw => hpay w hw _ _ X.warmed, hpay _ List.mem_cons_self _ _ X.warmed, word_at X.warmed (good_of_word (List.mem_filter.mp hini).2) (htg _ hini), hp.1, hp.2.1⟩
        · intro m meth c A a g mk X hp
          exact ⟨ab_blind _ _ _ _ hp.2.2.1, th_T.warm (s := A.U) (U := A.U.calling g mk a) (State.WarmedH.refl A.U) hp.2.2.2.1, th_R.moved (s := A.U) (U := A.U.calling g mk a) (State.WarmedH.refl A.U) (fun q cell h1 _ => h1) hp.2.2.2.2 #[]⟩
        · intro a st o t ⟨hq, L, hF, hL⟩
          exact ⟨L, _, _, hF, rfl, rfl, hL⟩
        · intro m meth c A a g mk v t L k n X hp hq hF ⟨e1, e2, hL⟩
          subst e1; subst e2
          exact ⟨g, mk, t, L, rfl, rfl, hq.1, rfl, hL, rfl, rfl⟩
      obtain ⟨cellB, hcB, hoB, hclB⟩ := va_recv (q0 := q) hK0 hP' (ci := 9) rfl (ab_wobj hq1 rfl)
      obtain ⟨mk, methM, hnamed, hmethM, hstM, habM⟩ := Cond.instanceMethod_spec (htg _ hins)
      obtain ⟨methM', cM, hmethM', -, -, -, -, -, -, hsigM⟩ := Cond.code_spec hnamed (htg _ hcode)
      cases hmethM.symm.trans hmethM'
      obtain ⟨c2, r2, m2, q1, q2, q3, q4, kP, hkP, hkPi⟩ := Cond.selects_spec (htg _ hsel)
      have hcls : s.vm.findClass "StreamTransport" = some cellB.cls := hclB
      cases hcls.symm.trans q1
      cases (State.methodFound?_of_named hnamed ⟨hdx.1, hdx.2.1⟩).symm.trans q2
      cases hnamed.symm.trans q3
      have hselP : selectMethod e.platform s.vm cellB.cls mk = .method mk := by rw [Launch.admits_selectMethod X.admits]; exact q4
      have hstk : (F0 m0 pc ls (S1.map (ab_v ad' b))).stack = (avx.map (ab_v ad' b)).reverse ++ .ref (ad' q) :: (S1.drop b').map (ab_v ad' b) := by
        show S1.map (ab_v ad' b) = _
        conv => lhs; rw [hS1]
        rw [List.reverse_cons, List.map_append, List.map_append, List.map_reverse]
        show _ ++ [ab_v ad' b (.inr (.inr (1, some q)))] ++ _ = _
        rw [ab_vr (by decide)]
        simp
      obtain ⟨vm₁, X₁, hstep₁⟩ := X.invokevirtual B.exec hown (htg _ hlk) hnamed hmethM hstM hkP hkPi ⟨hdx.1, hdx.2.1⟩ (a := ad' q) (cell := cellB) (by rw [hT]; exact hcB)
        (fun z h => by rw [h] at hoB; cases hoB) hselP hmethM habM hkP hkPi (g := F0 m0 pc ls (S1.map (ab_v ad' b))) rfl (argsL := avx.map (ab_v ad' b)) (rest := (S1.drop b').map (ab_v ad' b)) (by
          have h2 := hdx.2.2
          rw [hsigM] at h2
          rw [List.length_map, hn]
          exact (Option.some.inj h2).symm) hstk (by rw [B.bytes]; exact hdg)
      obtain ⟨x, ⟨U', l2, c2', s2⟩, X', ⟨g', mk', t, L, z1, z2, hq, h1, hL, h2, h3⟩, hsteps⟩ := hK m0 meth c ⟨T.setVm vm₁, locs, 0, 0⟩ { F0 m0 pc ls (S1.map (ab_v ad' b)) with stack := (S1.drop b').map (ab_v ad' b) } (.invokevirtual idx) mk (.ref (ad' q) :: avx.map (ab_v ad' b)).toArray X₁ rfl (by show ls.size = c.maxLocals; rw [hml]; exact hF.2.1.1) (by rw [B.bytes]; exact hdg) (ab_room hwd) (X₁.named hnamed) ⟨by show 0 + _ ≤ _; omega, by show 0 + _ ≤ _; omega, hpre2 (T.setVm vm₁) hT X₁.warmed⟩
      dsimp only [Pt.U, Pt.locs, Pt.cells, Pt.slots] at X' z1 z2 h1 h2 h3 hsteps
      subst h1; subst h2; subst h3
      obtain ⟨⟨x', ce, hx', hxs, hce, hcv, hcc⟩, ad'', ac'', had, -, hP2, hD2, hK2, hok2, hpre3, -, hz, hkz⟩ := hq
      cases hx'
      have hcc' : s.vm.findClass cls = some ce.cls := by
        have : ((T.setVm vm₁).calling g' mk' (Value.ref (ad' q) :: avx.map (ab_v ad' b)).toArray).vm.findClass cls = s.vm.findClass cls := X₁.warmed.alike.findClass cls none
        rw [← this]
        exact hcc
      have hpl : e.platform.magicAccessors = ({} : Platform).magicAccessors := by rw [X.admits.platform]
      have hT' : ((T.setVm vm₁).calling g' mk' (Value.ref (ad' q) :: avx.map (ab_v ad' b)).toArray).heap = H := hT
      rw [hT'] at hz hkz
      obtain ⟨vm', v1, v2⟩ := ct_chain (e := e) (s := s) (f := { F0 m0 pc ls (S1.map (ab_v ad' b)) with stack := (S1.drop b').map (ab_v ad' b) }) (a := x) (own := y.cls) (cls := cls) (args := (av.map (ab_v ad b)).toArray) (ce := ce) hpl hown htg (hTT.any _ _ hself) hcc' hcv c.exceptionTable.toList ns hpc ((U'.setTop { F0 m0 pc ls (S1.map (ab_v ad' b)) with stack := (S1.drop b').map (ab_v ad' b) }).pushFrame (.throwing x)) (by rw [Stand.throwing_vm]; exact X'.warmed) (by rw [Stand.throwing_heap, z1]; exact hce) (by rw [htab]; exact hct s hTT)
      have W1 : W p l e (headSpec (Cond.codeWith y cc maxL ret hs :: ab_gW) { frames := fr, cells := ab_gc m1 - ab_gc m, slots := ab_gs KT m1 - ab_gs KT m, locals := lo }).room s m0 (av.map (ab_v ad b)).toArray below meth c U'.heap (locs ++ L) (0 + (ab_gc m1 - ab_gc m)) (0 + (ab_gs KT m1 - ab_gs KT m)) (MQ below (ab_Qc KT CL D none b ad ac m s.heap.size (some (.inl k)) m1) (av.map (ab_v ad b)).toArray s (ab_gc m1 - ab_gc m) (ab_gs KT m1 - ab_gs KT m) (va_A (ab_w KT ad ac m) s.heap.size)) (F0 m0 hpc ls [.ref x]) := by
        rw [Nat.zero_add, Nat.zero_add]
        refine lv_astore B.exec B.bytes d1 hF.2.1 hj rfl fun ls' _ => ?_
        refine lv_iconst B.exec B.bytes d2 hk ?_
        refine W.iret B.exec B.bytes (hret'.trans hret) ?_ ?_ d3 B.notSynchronized
        · intro t0 ht0 hW0
          refine ⟨ad'', ac'', fun i hi => ⟨(had i hi).1.trans (hext' i hi).1, (had i hi).2.trans (hext' i hi).2⟩, rfl, by rw [ht0, z1]; exact hP2, hD2.weaken (fun _ _ _ h => hAA _ h), ab_K_moved (alike_of (s := s) (by rw [← z2]; exact X'.warmed) hW0) hK2, hok2, hpre3, (fun v hv => by cases hv; trivial), ?_, ?_⟩
          · rw [ht0, z1]
            exact Nat.le_trans hS'.1 hz
          · intro i h1 h2
            rw [ht0, z1, hkz i (Nat.lt_of_lt_of_le h1 hS'.1) (fun z => h2 (hAA i z))]
            exact hS'.2.1 i h1 h2
        · intro z hz'
          rcases List.mem_append.mp hz' with h | h
          · exact hS'.2.2 z h
          · exact hAA _ (hL z h)
      obtain ⟨t2, a1, b1⟩ := W1 (U'.setVm vm') rfl (X'.noted v1)
      exact ⟨t2, hstep₁ _ fun acts => by
        rw [doInvoke_state]
        exact hsteps.trans (ct_caught (g := { F0 m0 pc ls (S1.map (ab_v ad' b)) with stack := (S1.drop b').map (ab_v ad' b) }) X'.here X'.method' X'.code v2 a1), b1⟩
    · have h := hE pc q hq
      rw [hnm, hret']
      exact h
end
