section
/-! A call of a method with handlers. -/
theorem lw_good {y : MethodName} {cc : ByteArray} {maxL : Nat} {ret : Option FieldType} {hs : List (Nat × Nat × Nat × Nat)} (h : Cond.codeWith y cc maxL ret hs ∈ ab_gW) : GoodIn ab_gW (Cond.codeWith y cc maxL ret hs :: ab_gW) := by
  intro w hw
  rcases List.mem_cons.mp hw with rfl | hw
  · exact ⟨h, good_of_word (List.mem_filter.mp h).2⟩
  · exact ⟨hw, good_of_word (List.mem_filter.mp hw).2⟩
variable {p : Program} {l : Launch} {e : Env} {R : Room} {s : State} {m0 : MethodId} {args : Array Value} {below : List Frame} {meth : Method} {cd : Code} {Q : State → Prop} {cc : ByteArray}
variable {D : va_G} {sc : Option (Nat × (Nat → Int32))} {b : Nat} {A : Nat → Prop} {H0 : Heap} {ks0 : List Nat} {g0 h0 nL G Hs : Nat} {ad0 ac0 : Nat → Nat} {own : String}
theorem lw_cS {y : MethodName} {bytes : ByteArray} {ret : Option FieldType} {hs : List (Nat × Nat × Nat × Nat)} {maxL fr lo idx b' pc n : Nat} {L : List (Option AV)} {S av : List AV} {m m' : Mm} {r : Option AV}
    (hTT : th_T s) (hRR : th_R s) (hstat : ∀ (q : Nat) (cell : Cell), s.heap[q]? = some cell → cell.vm.isStatics = true → H0[q]? = some cell ∧ q < H0.size ∧ ¬ A q)
    (hX : ab_X s) (hx : p.tables.exec = Jvm.exec) (hb : cd.code = cc) (hml : cd.maxLocals = nL) (hts : ∀ w ∈ ab_gW, w.before args s = true) (hown : s.vm.findClass own = some m0.cls) (hK0 : va_K D CL [] s) (hA : ∀ q, H0.size ≤ q → A q) (hG : G ≤ g0 + R.cells) (hHs : Hs ≤ h0 + R.slots)
    (hav : (S.take b').reverse = av) (hn : av.length = n) (hwd : ab_wd (S.drop b') ≤ 8)
    (hM : lw_Met l y (Cond.codeWith y bytes maxL ret hs :: ab_gW) fr lo av m r m') (hnos : ab_nos av)
    (hcode : Cond.codeWith y bytes maxL ret hs ∈ ab_gW) (hini : Cond.initialized y.cls ∈ ab_gW) (hlk : Cond.methodLink own idx y ∈ ab_gW) (hst : Cond.static y ∈ ab_gW)
    (hd : y.cls ≠ "java/lang/invoke/MethodHandle" ∧ y.cls ≠ "java/lang/invoke/VarHandle" ∧ (parseMethodDescriptor y.desc).map (fun d => d.parameters.length) = some n) (hR : fr + 1 ≤ R.frames ∧ 8 + (maxL + 11) + lo ≤ R.locals)
    (hdg : decode cc pc = .ok (.invokestatic idx, 3)) (hrv : ∀ v, r = some v → ∃ x, v = .inl x)
    (w : ab_W p l e R s m0 args below meth cd Q KT CL D sc b A H0 ks0 g0 h0 nL G Hs ad0 ac0 (pc + 3, L, r.toList ++ S.drop b', m')) : ab_W p l e R s m0 args below meth cd Q KT CL D sc b A H0 ks0 g0 h0 nL G Hs ad0 ac0 (pc, L, S, m) := by
  have hS := ab_args hav
  have hmem : ∀ v ∈ av, v ∈ S := fun v hv => ab_argsm hav hv
  refine ⟨Nat.le_trans hM.1 w.1, Nat.le_trans hM.2.1 w.2.1, fun ad ac ls H locs cells slots hI hF => ?_⟩
  have w1 : ab_gc m' ≤ G := w.1
  have w2 : ab_gs KT m' ≤ Hs := w.2.1
  have c1 : cells + g0 = ab_gc m := hI.2.2.2.2.2.2.2.1
  have c2 : slots + h0 = ab_gs KT m := hI.2.2.2.2.2.2.2.2
  have g1 := hM.1
  have g2 := hM.2.1
  have hvv : ∀ v ∈ av, ab_vv none m.2.2.2.1 v := fun v hv => ab_nos_vv hnos v (hF.2.2.2 v (hmem v hv)) hv
  have hpre := ab_start (sc := sc) (b := b) (sc' := none) hX hK0 (Or.inl rfl) hA hI hvv
  have hS' := hI.2.2.1
  have hpay := pay_in (ws := Cond.codeWith y bytes maxL ret hs :: ab_gW) hts (lw_good hcode)
  have hpre2 : ∀ U : State, U.heap = H → s.WarmedH U.vm → ab_Pc KT CL D none b ad ac m H.size av (av.map (ab_v ad b)).toArray U ∧ th_T U ∧ th_R U := fun U hU hW => ⟨hpre U hU hW, th_T.warm hW hTT, th_R.moved hW (fun q cell h1 h2 => by
    obtain ⟨k1, k2, k3⟩ := hstat q cell h1 h2
    rw [hU, hS'.2.1 q k2 k3]
    exact k1) hRR #[]⟩
  have hrun : va_Run p l e R s m0 args below meth cd H locs cells slots (ab_gc m' - ab_gc m) (ab_gs KT m' - ab_gs KT m) (F0 m0 pc ls (S.map (ab_v ad b))) ((S.drop b').map (ab_v ad b)) (ab_Qc KT CL D none b ad ac m H.size r m' (av.map (ab_v ad b)).toArray) (va_A (ab_w KT ad ac m) H.size) := by
    intro T hT X
    have hK : Back l R p e below s args y 3 8
        (fun Z a => Z.cells + (ab_gc m' - ab_gc m) ≤ R.cells ∧ Z.slots + (ab_gs KT m' - ab_gs KT m) ≤ R.slots ∧ (ab_Pc KT CL D none b ad ac m H.size av a Z.U ∧ th_T Z.U ∧ th_R Z.U))
        (fun Z a v B' => ∃ (g : JFrame) (mk : MethodId) (t : State) (L : List Loc), B'.U.heap = t.heap ∧ B'.U.vm = t.vm ∧ ab_Qc KT CL D none b ad ac m H.size r m' a (Z.U.calling g mk a) (.returned v) t ∧ B'.locs = Z.locs ++ L ∧ (∀ q ∈ L, va_A (ab_w KT ad ac m) H.size q.base) ∧ B'.cells = Z.cells + (ab_gc m' - ab_gc m) ∧ B'.slots = Z.slots + (ab_gs KT m' - ab_gs KT m)) := by
      refine Back.of_freeWith (handlers := hs) (S := headSpec (Cond.codeWith y bytes maxL ret hs :: ab_gW) { frames := fr, cells := ab_gc m' - ab_gc m, slots := ab_gs KT m' - ab_gs KT m, locals := lo }) (bytes := bytes) (maxL := maxL) (ret := ret)
        (E := fun a st o t L k n => k = ab_gc m' - ab_gc m ∧ n = ab_gs KT m' - ab_gs KT m ∧ ∀ q ∈ L, va_A (ab_w KT ad ac m) H.size q.base) (hM.2.2 D ad ac b H.size) hR.1 hR.2 ?_ ?_ (fun _ _ _ _ _ _ _ _ _ => trivial) ?_ ?_
      · intro m meth c Z a X hp
        exact ⟨atoms_intro fun w hw => hpay w hw _ _ X.warmed, hpay _ List.mem_cons_self _ _ X.warmed, word_at X.warmed (good_of_word (List.mem_filter.mp hini).2) (hts _ hini), hp.1, hp.2.1⟩
      · intro m meth c Z a g mk X hp
        exact ⟨ab_blind _ _ _ _ hp.2.2.1, th_T.warm (s := Z.U) (U := Z.U.calling g mk a) (State.WarmedH.refl Z.U) hp.2.2.2.1, th_R.moved (s := Z.U) (U := Z.U.calling g mk a) (State.WarmedH.refl Z.U) (fun q cell h1 _ => h1) hp.2.2.2.2 #[]⟩
      · intro a st o t ⟨hq, L, hF, hL⟩
        exact ⟨L, _, _, hF, rfl, rfl, hL⟩
      · intro m meth c Z a g mk v t L k n X hp hq hF ⟨e1, e2, hL⟩
        subst e1; subst e2
        exact ⟨g, mk, t, L, rfl, rfl, hq.1, rfl, hL, rfl, rfl⟩
    obtain ⟨mk, methM, cM, hnamed, hmethM, -, -, -, -, -, -, hsigM⟩ := Cond.codeWith_spec (hts _ hcode)
    have hstatic : methM.isStatic = true := Cond.static_spec hnamed hmethM (hts _ hst)
    obtain ⟨kP, hkP, -⟩ := className_of_methodNamed hnamed
    have hinitP : kP.init = .initialized := Cond.initialized_spec (findClass_of_methodNamed hnamed) hkP (hts _ hini)
    have hstk : (F0 m0 pc ls (S.map (ab_v ad b))).stack = (av.map (ab_v ad b)).reverse ++ (S.drop b').map (ab_v ad b) := by
      show S.map (ab_v ad b) = _
      conv => lhs; rw [hS]
      rw [List.map_append, List.map_reverse]
    obtain ⟨vm₁, X₁, hstep₁⟩ := X.invokestatic hx hown (hts _ hlk) hnamed hmethM hstatic hkP hinitP ⟨hd.1, hd.2.1⟩ (g := F0 m0 pc ls (S.map (ab_v ad b))) rfl (argsL := av.map (ab_v ad b)) (rest := (S.drop b').map (ab_v ad b)) (by
      have h2 := hd.2.2
      rw [hsigM] at h2
      rw [List.length_map, hn]
      exact (Option.some.inj h2).symm) hstk (by rw [hb]; exact hdg)
    obtain ⟨v, ⟨U', l2, c2', s2⟩, X', ⟨g', mk', t, L', z1, z2, hq, h1, hL, h2, h3⟩, hsteps⟩ := hK m0 meth cd ⟨T.setVm vm₁, locs, cells, slots⟩ { F0 m0 pc ls (S.map (ab_v ad b)) with stack := (S.drop b').map (ab_v ad b) } (.invokestatic idx) mk (av.map (ab_v ad b)).toArray X₁ rfl (by show ls.size = cd.maxLocals; rw [hml]; exact hF.2.1.1) (by rw [hb]; exact hdg) (ab_room hwd) (X₁.named hnamed) ⟨by show cells + _ ≤ _; omega, by show slots + _ ≤ _; omega, hpre2 (T.setVm vm₁) hT X₁.warmed⟩
    dsimp only [Pt.U, Pt.locs, Pt.cells, Pt.slots] at X' z1 z2 h1 h2 h3 hsteps
    subst h1; subst h2; subst h3
    exact ⟨v, (T.setVm vm₁).calling g' mk' (av.map (ab_v ad b)).toArray, t, U', L', hT, X', hL, z1, z2, hq, fun target h => hstep₁ _ fun acts => by rw [doInvoke_state]; exact hsteps.trans h⟩
  exact ab_go KT_nd hA hrun hM.1 hM.2.1 hI hF (fun v hv => List.mem_of_mem_drop hv) hrv w
end
