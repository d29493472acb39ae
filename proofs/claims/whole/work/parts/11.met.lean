/-! Contracts by runs of the small machine; calls by contracts. -/
section
def ab_Pc (KT : List KS) (cl : List vw_C) (D : va_G) (sc : Option (Nat × (Nat → Int32))) (b : Nat) (ad ac : Nat → Nat) (m : Mm) (sz : Nat) (av : List AV) : Array Value → State → Prop :=
  va_Pc (av.map (ab_v ad b)) (fun U => U.heap.size = sz ∧ va_P D cl (ab_w KT ad ac m) U.heap ∧ va_D (fun _ => True) (ab_w KT ad ac m) ∧ va_K D cl [] U ∧ ab_K KT cl ac m.2.2.2.1 U ∧ ab_ok KT m ∧ (∀ v ∈ av, ab_vv sc m.2.2.2.1 v) ∧ ab_X U ∧ ∀ z, sc = some z → va_X b z.1 z.2 U U.heap ∧ b < U.heap.size ∧ ¬ va_A (ab_w KT ad ac m) U.heap.size b)
def ab_Qc (KT : List KS) (cl : List vw_C) (D : va_G) (sc : Option (Nat × (Nat → Int32))) (b : Nat) (ad ac : Nat → Nat) (m : Mm) (sz : Nat) (r : Option AV) (m' : Mm) : Array Value → State → Outcome → State → Prop := fun _ st o t =>
  ∃ ad' ac' : Nat → Nat, (∀ q, q < m.2.2.2.1.length → ad' q = ad q ∧ ac' q = ac q) ∧ o = .returned (r.map (ab_v ad' b)) ∧ va_P D cl (ab_w KT ad' ac' m') t.heap ∧ va_D (va_A (ab_w KT ad ac m) sz) (ab_w KT ad' ac' m') ∧ ab_K KT cl ac' m'.2.2.2.1 t ∧ ab_ok KT m' ∧
    (∀ (i k : Nat), m.2.2.2.1[i]? = some k → m'.2.2.2.1[i]? = some k) ∧ (∀ v, r = some v → ab_vv sc m'.2.2.2.1 v) ∧ va_F (va_A (ab_w KT ad ac m) sz) st t
def ab_Met (l : Launch) (KT : List KS) (cl : List vw_C) (y : MethodName) (ws : List Cond) (fr lo : Nat) (sc : Option (Nat × (Nat → Int32))) (av : List AV) (m : Mm) (r : Option AV) (m' : Mm) : Prop :=
  ab_gc m ≤ ab_gc m' ∧ ab_gs KT m ≤ ab_gs KT m' ∧ ∀ (D : va_G) (ad ac : Nat → Nat) (b sz : Nat), Met l y ws { frames := fr, cells := ab_gc m' - ab_gc m, slots := ab_gs KT m' - ab_gs KT m, locals := lo } (ab_Pc KT cl D sc b ad ac m sz av) (ab_Qc KT cl D sc b ad ac m sz r m') (ab_gc m' - ab_gc m) (ab_gs KT m' - ab_gs KT m) (va_A (ab_w KT ad ac m) sz)
theorem ab_K_moved {KT : List KS} {cl : List vw_C} {ac : Nat → Nat} {ks : List Nat} {u U : State} (hvm : u.vm.Alike U.vm) (h : ab_K KT cl ac ks u) : ab_K KT cl ac ks U := fun q k r len t k' a st h1 h2 =>
  ⟨arrOfT_moved hvm (h q k r len t k' a st h1 h2).1, (h q k r len t k' a st h1 h2).2.moved hvm⟩
theorem ab_blind {KT : List KS} {cl : List vw_C} {D : va_G} {sc : Option (Nat × (Nat → Int32))} {b : Nat} {ad ac : Nat → Nat} {m : Mm} {sz : Nat} {av : List AV} : FrameBlind (ab_Pc KT cl D sc b ad ac m sz av) := by
  intro a U g mk h
  obtain ⟨q0, q1, qP, qD, qK, qA, qo, qv, qx, qs⟩ := h
  exact ⟨q0, q1, qP, qD, va_K.moved (u := U) (U := U.calling g mk a) (Vm.Alike.refl U.vm) qK, ab_K_moved (u := U) (U := U.calling g mk a) (Vm.Alike.refl U.vm) qA, qo, qv, ab_X.same (u := U) (U := U.calling g mk a) rfl qx, fun z hz => ⟨va_X.moved (u := U) (U := U.calling g mk a) (Vm.Alike.refl U.vm) (qs z hz).1, (qs z hz).2⟩⟩
section
variable {p : Program} {l : Launch} {e : Env} {R : Room} {s : State} {m0 : MethodId} {args : Array Value} {below : List Frame} {meth : Method} {cd : Code} {Q : State → Prop} {cc : ByteArray}
variable {KT : List KS} {cl : List vw_C} {D : va_G} {sc : Option (Nat × (Nat → Int32))} {b : Nat} {A : Nat → Prop} {H0 : Heap} {ks0 : List Nat} {g0 h0 nL G Hs : Nat} {ad0 ac0 : Nat → Nat} {Ts : List Cond} {own : String}
/-- behind a call -/
theorem ab_go {sc' : Option (Nat × (Nat → Int32))} {pc : Nat} {ad ac : Nat → Nat} {ls : Array Slot} {H : Heap} {locs : List Loc} {cells slots : Nat} {L : List (Option AV)} {S Sr : List AV} {m m' : Mm} {r : Option AV} {arr : Array Value} (hnd : ab_nd KT) (hA : ∀ q, H0.size ≤ q → A q)
    (hr : va_Run p l e R s m0 args below meth cd H locs cells slots (ab_gc m' - ab_gc m) (ab_gs KT m' - ab_gs KT m) (F0 m0 pc ls (S.map (ab_v ad b))) (Sr.map (ab_v ad b)) (ab_Qc KT cl D sc' b ad ac m H.size r m' arr) (va_A (ab_w KT ad ac m) H.size))
    (hgc : ab_gc m ≤ ab_gc m') (hgs : ab_gs KT m ≤ ab_gs KT m') (hI : ab_I KT cl D s A H0 ks0 ad0 ac0 g0 h0 ad ac m H locs cells slots) (hF : ab_F sc b ad m.2.2.2.1 nL ls L S) (hSr : ∀ v ∈ Sr, v ∈ S) (hrv : ∀ v, r = some v → ∃ x, v = .inl x)
    (w : ab_W p l e R s m0 args below meth cd Q KT cl D sc b A H0 ks0 g0 h0 nL G Hs ad0 ac0 (pc + 3, L, r.toList ++ Sr, m')) : W p l e R s m0 args below meth cd H locs cells slots Q (F0 m0 pc ls (S.map (ab_v ad b))) := by
  obtain ⟨hP, hD, hS, hKA, hok, hext, hn0, hce1, hcs1⟩ := hI
  intro T hT X
  obtain ⟨v, st₀, t, T', L', e0, X', hL', e1, e2, ⟨ad', ac', had, hv, hP', hD', hK', hok', hpre, hrvv, hz, hk⟩, st⟩ := hr T hT X
  have hv2 : v = r.map (ab_v ad' b) := by
    simp only [Outcome.returned.injEq] at hv
    exact hv
  subst hv2
  rw [e0] at hz hk
  have hAA : ∀ q, va_A (ab_w KT ad ac m) H.size q → A q := by
    rintro q (⟨k, z, hk⟩ | hq)
    · exact hD.2 k _ hk
    · exact hA q (Nat.le_trans hS.1 hq)
  have hlen : ∀ {q : Nat}, q < ks0.length → q < m.2.2.2.1.length := fun {q} hq => (List.getElem?_eq_some_iff.mp (hn0 q _ (List.getElem?_eq_getElem hq))).1
  obtain ⟨hF2, hmap⟩ := ab_F_ad (sc := sc) (b := b) (nL := nL) (ks' := m'.2.2.2.1) (⟨hF.1, hF.2.1, hF.2.2.1, fun v hv => hF.2.2.2 v (hSr v hv)⟩ : ab_F sc b ad m.2.2.2.1 nL ls L Sr) (fun i hi => (had i hi).1) hpre
  have k := w.2.2 ad' ac' ls T'.heap (locs ++ L') (cells + (ab_gc m' - ab_gc m)) (slots + (ab_gs KT m' - ab_gs KT m)) ⟨?_, hD'.weaken (fun _ _ _ h => hAA _ h), ?_, ?_, hok', ?_, ?_, ?_, ?_⟩ ⟨hF2.1, hF2.2.1, hF2.2.2.1, ?_⟩
  · obtain ⟨t2, a1, b1⟩ := k T' rfl X'
    refine ⟨t2, st t2 ?_, b1⟩
    have e : List.map (ab_v ad' b) ((pc + 3, L, r.toList ++ Sr, m') : Cf).2.2.1 = (r.map (ab_v ad' b)).toList ++ Sr.map (ab_v ad b) := by
      show List.map (ab_v ad' b) (r.toList ++ Sr) = _
      rw [List.map_append, hmap]
      cases r <;> rfl
    rw [e] at a1
    exact a1
  · rw [e1]; exact hP'
  · refine ⟨Nat.le_trans hS.1 (by rw [e1]; exact hz), fun q h1 h2 => ?_, fun q hq => ?_⟩
    · rw [e1, hk q (Nat.lt_of_lt_of_le h1 hS.1) (fun z => h2 (hAA q z))]
      exact hS.2.1 q h1 h2
    · rcases List.mem_append.mp hq with h | h
      · exact hS.2.2 q h
      · exact hAA _ (hL' q h)
  · exact ab_K_moved (by have := X'.warmed.alike.symm; rw [e2] at this; exact this) hK'
  · intro q hq
    rw [(had q (hlen hq)).1, (had q (hlen hq)).2]
    exact hext q hq
  · exact fun i k h => hpre i k (hn0 i k h)
  · show cells + (ab_gc m' - ab_gc m) + g0 = ab_gc m'
    omega
  · show slots + (ab_gs KT m' - ab_gs KT m) + h0 = ab_gs KT m'
    omega
  · intro v hv
    rcases List.mem_append.mp hv with h | h
    · rw [Option.mem_toList] at h
      obtain ⟨x, rfl⟩ := hrv v h
      trivial
    · exact hF2.2.2.2 v h
/-- the start of a callee -/
theorem ab_start {sc' : Option (Nat × (Nat → Int32))} {ad ac : Nat → Nat} {H : Heap} {locs : List Loc} {cells slots : Nat} {m : Mm} {av : List AV} (hX : ab_X s) (hK0 : va_K D cl [] s) (hsc : sc' = none ∨ (sc' = sc ∧ ∀ z, sc = some z → va_X b z.1 z.2 s H0 ∧ b < H0.size ∧ ¬ A b)) (hA : ∀ q, H0.size ≤ q → A q) (hI : ab_I KT cl D s A H0 ks0 ad0 ac0 g0 h0 ad ac m H locs cells slots) (hvv : ∀ v ∈ av, ab_vv sc' m.2.2.2.1 v) :
    ∀ U : State, U.heap = H → s.WarmedH U.vm → ab_Pc KT cl D sc' b ad ac m H.size av (av.map (ab_v ad b)).toArray U := by
  intro U hU hW
  obtain ⟨hP, hD, hS, hKA, hok, hext, hn0, hce1, hcs1⟩ := hI
  refine ⟨rfl, by rw [hU], by rw [hU]; exact hP, hD.weaken (fun _ _ _ _ => trivial), va_K.moved hW.alike hK0, ab_K_moved hW.alike hKA, hok, hvv, hX.warm hW, fun z hz => ?_⟩
  rcases hsc with h1 | ⟨h1, h2⟩
  · rw [h1] at hz; cases hz
  · subst h1
    obtain ⟨g1, g2, g3⟩ := h2 z hz
    rw [hU]
    refine ⟨?_, Nat.lt_of_lt_of_le g2 hS.1, ?_⟩
    · exact va_X.moved hW.alike (g1.kept (hS.2.1 b g2 g3))
    · rintro (⟨k, z, hk⟩ | hq)
      · exact g3 (hD.2 k _ hk)
      · exact absurd (Nat.lt_of_lt_of_le g2 hS.1) (Nat.not_lt.mpr hq)
theorem ab_room {S : List AV} {pc : Nat} {ad : Nat → Nat} {ls : Array Slot} {st : List Value} (h : ab_wd S ≤ 8) : 2 * (F0 m0 pc ls st).monitorRoom + ((S.map (ab_v ad b)).map fun v => v.category).sum ≤ 8 := by
  have e : (S.map (ab_v ad b)).map (fun v => v.category) = S.map ab_w1 := by
    rw [List.map_map]
    apply List.map_congr_left
    intro v _
    match v with
    | .inl x => rfl
    | .inr (.inl x) => rfl
    | .inr (.inr (k, none)) => rfl
    | .inr (.inr (k, some q)) => rfl
  show 2 * 0 + _ ≤ 8
  rw [e]
  unfold ab_wd at h
  omega
theorem ab_args {S : List AV} {b' : Nat} {av : List AV} (h : (S.take b').reverse = av) : S = av.reverse ++ S.drop b' := by
  rw [← h, List.reverse_reverse, List.take_append_drop]
theorem ab_argsm {S : List AV} {b' : Nat} {av : List AV} {v : AV} (h : (S.take b').reverse = av) (hv : v ∈ av) : v ∈ S := by
  rw [← h, List.mem_reverse] at hv
  exact List.mem_of_mem_take hv
theorem ab_cV {sc' : Option (Nat × (Nat → Int32))} {y : MethodName} {wsy wsy' : List Cond} {bytes : ByteArray} {ret : Option FieldType} {maxL fr lo idx b' pc k q ci n : Nat} {fs : List (Nat × Nat × Nat × Nat)} {z : vw_C} {L : List (Option AV)} {S av : List AV} {m m' : Mm} {r : Option AV}
    (hX : ab_X s) (hx : p.tables.exec = Jvm.exec) (hb : cd.code = cc) (hml : cd.maxLocals = nL) (hts : ∀ w ∈ Ts, w.before args s = true) (hown : s.vm.findClass own = some m0.cls) (hK0 : va_K D cl [] s) (hnd : ab_nd KT) (hA : ∀ q, H0.size ≤ q → A q) (hG : G ≤ g0 + R.cells) (hHs : Hs ≤ h0 + R.slots)
    (hsc : sc' = none ∨ (sc' = sc ∧ ∀ z, sc = some z → va_X b z.1 z.2 s H0 ∧ b < H0.size ∧ ¬ A b))
    (hav : (S.take b').reverse = .inr (.inr (k, some q)) :: av) (hk0 : k ≠ 0) (hKT : KT[k]? = some (.inl (ci, fs))) (hcl : cl[ci]? = some z) (hn : av.length = n) (hwd : ab_wd (S.drop b') ≤ 8)
    (hM : ab_Met l KT cl y wsy fr lo sc' (.inr (.inr (k, some q)) :: av) m r m') (hvs : ∀ v, ab_vv sc m.2.2.2.1 v → v ∈ av → ab_vv sc' m.2.2.2.1 v)
    (hw : wsy = Cond.code y bytes maxL ret :: wsy') (hGI : GoodIn Ts wsy) (hini : Cond.initialized y.cls ∈ Ts) (hlk : Cond.methodLink own idx y ∈ Ts) (hins : Cond.instanceMethod y ∈ Ts) (hsel : Cond.selects z.1 y y ∈ Ts)
    (hd : y.cls ≠ "java/lang/invoke/MethodHandle" ∧ y.cls ≠ "java/lang/invoke/VarHandle" ∧ (parseMethodDescriptor y.desc).map (fun d => d.parameters.length) = some n) (hR : fr + 1 ≤ R.frames ∧ 8 + (maxL + 11) + lo ≤ R.locals)
    (hdg : decode cc pc = .ok (.invokevirtual idx, 3)) (hrv : ∀ v, r = some v → ∃ x, v = .inl x)
    (w : ab_W p l e R s m0 args below meth cd Q KT cl D sc b A H0 ks0 g0 h0 nL G Hs ad0 ac0 (pc + 3, L, r.toList ++ S.drop b', m')) : ab_W p l e R s m0 args below meth cd Q KT cl D sc b A H0 ks0 g0 h0 nL G Hs ad0 ac0 (pc, L, S, m) := by
  have hS := ab_args hav
  have hmem : ∀ v ∈ Sum.inr (Sum.inr (k, some q)) :: av, v ∈ S := fun v hv => ab_argsm hav hv
  refine ⟨Nat.le_trans hM.1 w.1, Nat.le_trans hM.2.1 w.2.1, fun ad ac ls H locs cells slots hI hF => ?_⟩
  have w1 : ab_gc m' ≤ G := w.1
  have w2 : ab_gs KT m' ≤ Hs := w.2.1
  have c1 : cells + g0 = ab_gc m := hI.2.2.2.2.2.2.2.1
  have c2 : slots + h0 = ab_gs KT m := hI.2.2.2.2.2.2.2.2
  have g1 := hM.1
  have g2 := hM.2.1
  have hq : m.2.2.2.1[q]? = some k := ab_ref (hF.2.2.2 _ (hmem _ List.mem_cons_self)) hk0
  have hvv : ∀ v ∈ Sum.inr (Sum.inr (k, some q)) :: av, ab_vv sc' m.2.2.2.1 v := ab_c1 (ab_vvo fun q' hq' => by cases hq'; exact ⟨hk0, hq⟩) (fun v hv => hvs v (hF.2.2.2 v (hmem v (List.mem_cons_of_mem _ hv))) hv)
  have hpre := ab_start (sc' := sc') hX hK0 hsc hA hI hvv
  have hmap : List.map (ab_v ad b) (Sum.inr (Sum.inr (k, some q)) :: av) = .ref (ad q) :: av.map (ab_v ad b) := by
    show ab_v ad b (.inr (.inr (k, some q))) :: _ = _
    rw [ab_vr hk0]
  rw [hmap] at hpre
  have hrun := va_runV (p := p) (e := e) (R := R) (below := below) (meth := meth) (locs := locs) (cells := cells) (slots := slots) (rest := (S.drop b').map (ab_v ad b)) (g := F0 m0 pc ls (S.map (ab_v ad b))) ⟨hx, hb, hml, hown, hts⟩ (hM.2.2 D ad ac b H.size)
    ⟨callB_of (R := R) (bytes := bytes) (maxL := maxL) (ret := ret) (rm := { frames := fr, cells := ab_gc m' - ab_gc m, slots := ab_gs KT m' - ab_gs KT m, locals := lo }) (mc := ab_gc m' - ab_gc m) (ms := ab_gs KT m' - ab_gs KT m) n hts hGI hw rfl rfl (hts _ hini) (hts _ hlk) hd hR, hts _ hins, hts _ hsel⟩
    ⟨ab_blind, va_recv hK0 hI.1 hcl (ab_wobj hq hKT), hpre⟩ rfl (by rw [List.length_map]; exact hn) hF.2.1.1 (by
      show S.map (ab_v ad b) = _
      conv => lhs; rw [hS]
      rw [List.reverse_cons, List.map_append, List.map_append, List.map_reverse]
      show _ ++ [ab_v ad b (.inr (.inr (k, some q)))] ++ _ = _
      rw [ab_vr hk0]
      simp) (ab_room hwd) hdg ⟨by omega, by omega⟩
  exact ab_go hnd hA hrun hM.1 hM.2.1 hI hF (fun v hv => List.mem_of_mem_drop hv) hrv w
theorem ab_cI {sc' : Option (Nat × (Nat → Int32))} {y : MethodName} {wsy wsy' : List Cond} {bytes : ByteArray} {maxL fr lo idx b' pc k q n : Nat} {L : List (Option AV)} {S av : List AV} {m m' : Mm}
    (hX : ab_X s) (hx : p.tables.exec = Jvm.exec) (hb : cd.code = cc) (hml : cd.maxLocals = nL) (hts : ∀ w ∈ Ts, w.before args s = true) (hown : s.vm.findClass own = some m0.cls) (hK0 : va_K D cl [] s) (hnd : ab_nd KT) (hA : ∀ q, H0.size ≤ q → A q) (hG : G ≤ g0 + R.cells) (hHs : Hs ≤ h0 + R.slots)
    (hsc : sc' = none ∨ (sc' = sc ∧ ∀ z, sc = some z → va_X b z.1 z.2 s H0 ∧ b < H0.size ∧ ¬ A b))
    (hav : (S.take b').reverse = .inr (.inr (k, some q)) :: av) (hk0 : k ≠ 0) (hn : av.length = n) (hwd : ab_wd (S.drop b') ≤ 8)
    (hM : ab_Met l KT cl y wsy fr lo sc' (.inr (.inr (k, some q)) :: av) m none m') (hvs : ∀ v, ab_vv sc m.2.2.2.1 v → v ∈ av → ab_vv sc' m.2.2.2.1 v)
    (hw : wsy = Cond.code y bytes maxL none :: wsy') (hGI : GoodIn Ts wsy) (hini : Cond.initialized y.cls ∈ Ts) (hlk : Cond.methodLink own idx y ∈ Ts) (hins : Cond.instanceMethod y ∈ Ts) (hy : y.name = "<init>")
    (hd : y.cls ≠ "java/lang/invoke/MethodHandle" ∧ y.cls ≠ "java/lang/invoke/VarHandle" ∧ (parseMethodDescriptor y.desc).map (fun d => d.parameters.length) = some n) (hR : fr + 1 ≤ R.frames ∧ 8 + (maxL + 11) + lo ≤ R.locals)
    (hdg : decode cc pc = .ok (.invokespecial idx, 3))
    (w : ab_W p l e R s m0 args below meth cd Q KT cl D sc b A H0 ks0 g0 h0 nL G Hs ad0 ac0 (pc + 3, L, S.drop b', m')) : ab_W p l e R s m0 args below meth cd Q KT cl D sc b A H0 ks0 g0 h0 nL G Hs ad0 ac0 (pc, L, S, m) := by
  have hS := ab_args hav
  have hmem : ∀ v ∈ Sum.inr (Sum.inr (k, some q)) :: av, v ∈ S := fun v hv => ab_argsm hav hv
  refine ⟨Nat.le_trans hM.1 w.1, Nat.le_trans hM.2.1 w.2.1, fun ad ac ls H locs cells slots hI hF => ?_⟩
  have w1 : ab_gc m' ≤ G := w.1
  have w2 : ab_gs KT m' ≤ Hs := w.2.1
  have c1 : cells + g0 = ab_gc m := hI.2.2.2.2.2.2.2.1
  have c2 : slots + h0 = ab_gs KT m := hI.2.2.2.2.2.2.2.2
  have g1 := hM.1
  have g2 := hM.2.1
  have hq : m.2.2.2.1[q]? = some k := ab_ref (hF.2.2.2 _ (hmem _ List.mem_cons_self)) hk0
  have hvv : ∀ v ∈ Sum.inr (Sum.inr (k, some q)) :: av, ab_vv sc' m.2.2.2.1 v := ab_c1 (ab_vvo fun q' hq' => by cases hq'; exact ⟨hk0, hq⟩) (fun v hv => hvs v (hF.2.2.2 v (hmem v (List.mem_cons_of_mem _ hv))) hv)
  have hpre := ab_start (sc' := sc') hX hK0 hsc hA hI hvv
  have hmap : List.map (ab_v ad b) (Sum.inr (Sum.inr (k, some q)) :: av) = .ref (ad q) :: av.map (ab_v ad b) := by
    show ab_v ad b (.inr (.inr (k, some q))) :: _ = _
    rw [ab_vr hk0]
  rw [hmap] at hpre
  have hrun := va_runI (p := p) (e := e) (R := R) (below := below) (meth := meth) (locs := locs) (cells := cells) (slots := slots) (rest := (S.drop b').map (ab_v ad b)) (g := F0 m0 pc ls (S.map (ab_v ad b))) ⟨hx, hb, hml, hown, hts⟩ (hM.2.2 D ad ac b H.size)
    ⟨callB_of (R := R) (bytes := bytes) (maxL := maxL) (ret := none) (rm := { frames := fr, cells := ab_gc m' - ab_gc m, slots := ab_gs KT m' - ab_gs KT m, locals := lo }) (mc := ab_gc m' - ab_gc m) (ms := ab_gs KT m' - ab_gs KT m) n hts hGI hw rfl rfl (hts _ hini) (hts _ hlk) hd hR, hy, hts _ hins⟩
    ⟨ab_blind, hpre⟩ rfl (by rw [List.length_map]; exact hn) hF.2.1.1 (by
      show S.map (ab_v ad b) = _
      conv => lhs; rw [hS]
      rw [List.reverse_cons, List.map_append, List.map_append, List.map_reverse]
      show _ ++ [ab_v ad b (.inr (.inr (k, some q)))] ++ _ = _
      rw [ab_vr hk0]
      simp) (ab_room hwd) hdg ⟨by omega, by omega⟩
  exact ab_go (r := none) hnd hA hrun hM.1 hM.2.1 hI hF (fun v hv => List.mem_of_mem_drop hv) (fun v hv => by cases hv) w
theorem ab_cS {sc' : Option (Nat × (Nat → Int32))} {y : MethodName} {wsy wsy' : List Cond} {bytes : ByteArray} {ret : Option FieldType} {maxL fr lo idx b' pc n : Nat} {L : List (Option AV)} {S av : List AV} {m m' : Mm} {r : Option AV}
    (hX : ab_X s) (hx : p.tables.exec = Jvm.exec) (hb : cd.code = cc) (hml : cd.maxLocals = nL) (hts : ∀ w ∈ Ts, w.before args s = true) (hown : s.vm.findClass own = some m0.cls) (hK0 : va_K D cl [] s) (hnd : ab_nd KT) (hA : ∀ q, H0.size ≤ q → A q) (hG : G ≤ g0 + R.cells) (hHs : Hs ≤ h0 + R.slots)
    (hsc : sc' = none ∨ (sc' = sc ∧ ∀ z, sc = some z → va_X b z.1 z.2 s H0 ∧ b < H0.size ∧ ¬ A b))
    (hav : (S.take b').reverse = av) (hn : av.length = n) (hwd : ab_wd (S.drop b') ≤ 8)
    (hM : ab_Met l KT cl y wsy fr lo sc' av m r m') (hvs : ∀ v, ab_vv sc m.2.2.2.1 v → v ∈ av → ab_vv sc' m.2.2.2.1 v)
    (hw : wsy = Cond.code y bytes maxL ret :: wsy') (hGI : GoodIn Ts wsy) (hini : Cond.initialized y.cls ∈ Ts) (hlk : Cond.methodLink own idx y ∈ Ts) (hst : Cond.static y ∈ Ts)
    (hd : y.cls ≠ "java/lang/invoke/MethodHandle" ∧ y.cls ≠ "java/lang/invoke/VarHandle" ∧ (parseMethodDescriptor y.desc).map (fun d => d.parameters.length) = some n) (hR : fr + 1 ≤ R.frames ∧ 8 + (maxL + 11) + lo ≤ R.locals)
    (hdg : decode cc pc = .ok (.invokestatic idx, 3)) (hrv : ∀ v, r = some v → ∃ x, v = .inl x)
    (w : ab_W p l e R s m0 args below meth cd Q KT cl D sc b A H0 ks0 g0 h0 nL G Hs ad0 ac0 (pc + 3, L, r.toList ++ S.drop b', m')) : ab_W p l e R s m0 args below meth cd Q KT cl D sc b A H0 ks0 g0 h0 nL G Hs ad0 ac0 (pc, L, S, m) := by
  have hS := ab_args hav
  have hmem : ∀ v ∈ av, v ∈ S := fun v hv => ab_argsm hav hv
  refine ⟨Nat.le_trans hM.1 w.1, Nat.le_trans hM.2.1 w.2.1, fun ad ac ls H locs cells slots hI hF => ?_⟩
  have w1 : ab_gc m' ≤ G := w.1
  have w2 : ab_gs KT m' ≤ Hs := w.2.1
  have c1 : cells + g0 = ab_gc m := hI.2.2.2.2.2.2.2.1
  have c2 : slots + h0 = ab_gs KT m := hI.2.2.2.2.2.2.2.2
  have g1 := hM.1
  have g2 := hM.2.1
  have hvv : ∀ v ∈ av, ab_vv sc' m.2.2.2.1 v := fun v hv => hvs v (hF.2.2.2 v (hmem v hv)) hv
  have hpre := ab_start (sc' := sc') hX hK0 hsc hA hI hvv
  have hrun := va_runS (p := p) (e := e) (R := R) (below := below) (meth := meth) (locs := locs) (cells := cells) (slots := slots) (rest := (S.drop b').map (ab_v ad b)) (g := F0 m0 pc ls (S.map (ab_v ad b))) ⟨hx, hb, hml, hown, hts⟩ (hM.2.2 D ad ac b H.size)
    ⟨callB_of (R := R) (bytes := bytes) (maxL := maxL) (ret := ret) (rm := { frames := fr, cells := ab_gc m' - ab_gc m, slots := ab_gs KT m' - ab_gs KT m, locals := lo }) (mc := ab_gc m' - ab_gc m) (ms := ab_gs KT m' - ab_gs KT m) n hts hGI hw rfl rfl (hts _ hini) (hts _ hlk) hd hR, hts _ hst⟩
    ⟨ab_blind, hpre⟩ rfl (by rw [List.length_map]; exact hn) hF.2.1.1 (by
      show S.map (ab_v ad b) = _
      conv => lhs; rw [hS]
      rw [List.map_append, List.map_reverse]) (ab_room hwd) hdg ⟨by omega, by omega⟩
  exact ab_go hnd hA hrun hM.1 hM.2.1 hI hF (fun v hv => List.mem_of_mem_drop hv) hrv w
theorem ab_cIN {sc' : Option (Nat × (Nat → Int32))} {y : MethodName} {wsy wsy' : List Cond} {bytes : ByteArray} {maxL fr lo idx b' pc k q n : Nat} {L : List (Option AV)} {S av : List AV} {m m' : Mm}
    (hX : ab_X s) (hx : p.tables.exec = Jvm.exec) (hb : cd.code = cc) (hml : cd.maxLocals = nL) (hts : ∀ w ∈ Ts, w.before args s = true) (hown : s.vm.findClass own = some m0.cls) (hK0 : va_K D cl [] s) (hnd : ab_nd KT) (hA : ∀ q, H0.size ≤ q → A q) (hG : G ≤ g0 + R.cells) (hHs : Hs ≤ h0 + R.slots)
    (hsc : sc' = none ∨ (sc' = sc ∧ ∀ z, sc = some z → va_X b z.1 z.2 s H0 ∧ b < H0.size ∧ ¬ A b))
    (hav : (S.take b').reverse = .inr (.inr (k, some q)) :: av) (hk0 : k ≠ 0) (hn : av.length = n) (hwd : ab_wd (S.drop b') ≤ 8)
    (hM : ab_Met l KT cl y wsy fr lo sc' (.inr (.inr (k, some q)) :: av) m none m') (hvs : ∀ v, ab_vv sc m.2.2.2.1 v → v ∈ av → ab_vv sc' m.2.2.2.1 v)
    (hw : wsy = Cond.code y bytes maxL none :: wsy') (hGI : GoodIn Ts wsy) (hini : Cond.initialized y.cls ∈ Ts) (hlk : (own, idx, y) ∈ ab_gN) (hins : Cond.instanceMethod y ∈ Ts) (hy : y.name = "<init>")
    (hd : y.cls ≠ "java/lang/invoke/MethodHandle" ∧ y.cls ≠ "java/lang/invoke/VarHandle" ∧ (parseMethodDescriptor y.desc).map (fun d => d.parameters.length) = some n) (hR : fr + 1 ≤ R.frames ∧ 8 + (maxL + 11) + lo ≤ R.locals)
    (hdg : decode cc pc = .ok (.invokespecial idx, 3))
    (w : ab_W p l e R s m0 args below meth cd Q KT cl D sc b A H0 ks0 g0 h0 nL G Hs ad0 ac0 (pc + 3, L, S.drop b', m')) : ab_W p l e R s m0 args below meth cd Q KT cl D sc b A H0 ks0 g0 h0 nL G Hs ad0 ac0 (pc, L, S, m) := by
  have hS := ab_args hav
  have hmem : ∀ v ∈ Sum.inr (Sum.inr (k, some q)) :: av, v ∈ S := fun v hv => ab_argsm hav hv
  refine ⟨Nat.le_trans hM.1 w.1, Nat.le_trans hM.2.1 w.2.1, fun ad ac ls H locs cells slots hI hF => ?_⟩
  have w1 : ab_gc m' ≤ G := w.1
  have w2 : ab_gs KT m' ≤ Hs := w.2.1
  have c1 : cells + g0 = ab_gc m := hI.2.2.2.2.2.2.2.1
  have c2 : slots + h0 = ab_gs KT m := hI.2.2.2.2.2.2.2.2
  have g1 := hM.1
  have g2 := hM.2.1
  have hq : m.2.2.2.1[q]? = some k := ab_ref (hF.2.2.2 _ (hmem _ List.mem_cons_self)) hk0
  have hvv : ∀ v ∈ Sum.inr (Sum.inr (k, some q)) :: av, ab_vv sc' m.2.2.2.1 v := ab_c1 (ab_vvo fun q' hq' => by cases hq'; exact ⟨hk0, hq⟩) (fun v hv => hvs v (hF.2.2.2 v (hmem v (List.mem_cons_of_mem _ hv))) hv)
  have hpre := ab_start (sc' := sc') hX hK0 hsc hA hI hvv
  have hmap : List.map (ab_v ad b) (Sum.inr (Sum.inr (k, some q)) :: av) = .ref (ad q) :: av.map (ab_v ad b) := by
    show ab_v ad b (.inr (.inr (k, some q))) :: _ = _
    rw [ab_vr hk0]
  rw [hmap] at hpre
  have hrun := va_runIN (host := "StreamTransport") (index := idx) (maxL := maxL) (bytes := bytes) (p := p) (e := e) (R := R) (below := below) (meth := meth) (locs := locs) (cells := cells) (slots := slots) (rest := (S.drop b').map (ab_v ad b)) (g := F0 m0 pc ls (S.map (ab_v ad b))) ⟨hx, hb, hml, hown, hts⟩ (hM.2.2 D ad ac b H.size)
    ⟨va_cnB (R := R) (host := "StreamTransport") (bytes := bytes) (maxL := maxL) (ret := none) (rm := { frames := fr, cells := ab_gc m' - ab_gc m, slots := ab_gs KT m' - ab_gs KT m, locals := lo }) (mc := ab_gc m' - ab_gc m) (ms := ab_gs KT m' - ab_gs KT m) n hts hGI hw rfl rfl (hX.1 _ hlk) (hts _ hini) hd hR, hy, hts _ hins⟩
    ⟨ab_blind, hpre⟩ rfl (by rw [List.length_map]; exact hn) hF.2.1.1 (by
      show S.map (ab_v ad b) = _
      conv => lhs; rw [hS]
      rw [List.reverse_cons, List.map_append, List.map_append, List.map_reverse]
      show _ ++ [ab_v ad b (.inr (.inr (k, some q)))] ++ _ = _
      rw [ab_vr hk0]
      simp) (ab_room hwd) hdg ⟨by omega, by omega⟩
  exact ab_go (r := none) hnd hA hrun hM.1 hM.2.1 hI hF (fun v hv => List.mem_of_mem_drop hv) (fun v hv => by cases hv) w
theorem ab_cSN {sc' : Option (Nat × (Nat → Int32))} {y : MethodName} {wsy wsy' : List Cond} {bytes : ByteArray} {ret : Option FieldType} {maxL fr lo idx b' pc n : Nat} {L : List (Option AV)} {S av : List AV} {m m' : Mm} {r : Option AV}
    (hX : ab_X s) (hx : p.tables.exec = Jvm.exec) (hb : cd.code = cc) (hml : cd.maxLocals = nL) (hts : ∀ w ∈ Ts, w.before args s = true) (hown : s.vm.findClass own = some m0.cls) (hK0 : va_K D cl [] s) (hnd : ab_nd KT) (hA : ∀ q, H0.size ≤ q → A q) (hG : G ≤ g0 + R.cells) (hHs : Hs ≤ h0 + R.slots)
    (hsc : sc' = none ∨ (sc' = sc ∧ ∀ z, sc = some z → va_X b z.1 z.2 s H0 ∧ b < H0.size ∧ ¬ A b))
    (hav : (S.take b').reverse = av) (hn : av.length = n) (hwd : ab_wd (S.drop b') ≤ 8)
    (hM : ab_Met l KT cl y wsy fr lo sc' av m r m') (hvs : ∀ v, ab_vv sc m.2.2.2.1 v → v ∈ av → ab_vv sc' m.2.2.2.1 v)
    (hw : wsy = Cond.code y bytes maxL ret :: wsy') (hGI : GoodIn Ts wsy) (hini : Cond.initialized y.cls ∈ Ts) (hlk : (own, idx, y) ∈ ab_gN) (hst : Cond.static y ∈ Ts)
    (hd : y.cls ≠ "java/lang/invoke/MethodHandle" ∧ y.cls ≠ "java/lang/invoke/VarHandle" ∧ (parseMethodDescriptor y.desc).map (fun d => d.parameters.length) = some n) (hR : fr + 1 ≤ R.frames ∧ 8 + (maxL + 11) + lo ≤ R.locals)
    (hdg : decode cc pc = .ok (.invokestatic idx, 3)) (hrv : ∀ v, r = some v → ∃ x, v = .inl x)
    (w : ab_W p l e R s m0 args below meth cd Q KT cl D sc b A H0 ks0 g0 h0 nL G Hs ad0 ac0 (pc + 3, L, r.toList ++ S.drop b', m')) : ab_W p l e R s m0 args below meth cd Q KT cl D sc b A H0 ks0 g0 h0 nL G Hs ad0 ac0 (pc, L, S, m) := by
  have hS := ab_args hav
  have hmem : ∀ v ∈ av, v ∈ S := fun v hv => ab_argsm hav hv
  refine ⟨Nat.le_trans hM.1 w.1, Nat.le_trans hM.2.1 w.2.1, fun ad ac ls H locs cells slots hI hF => ?_⟩
  have w1 : ab_gc m' ≤ G := w.1
  have w2 : ab_gs KT m' ≤ Hs := w.2.1
  have c1 : cells + g0 = ab_gc m := hI.2.2.2.2.2.2.2.1
  have c2 : slots + h0 = ab_gs KT m := hI.2.2.2.2.2.2.2.2
  have g1 := hM.1
  have g2 := hM.2.1
  have hvv : ∀ v ∈ av, ab_vv sc' m.2.2.2.1 v := fun v hv => hvs v (hF.2.2.2 v (hmem v hv)) hv
  have hpre := ab_start (sc' := sc') hX hK0 hsc hA hI hvv
  have hrun := va_runSN (host := "StreamTransport") (index := idx) (maxL := maxL) (bytes := bytes) (ret := ret) (p := p) (e := e) (R := R) (below := below) (meth := meth) (locs := locs) (cells := cells) (slots := slots) (rest := (S.drop b').map (ab_v ad b)) (g := F0 m0 pc ls (S.map (ab_v ad b))) ⟨hx, hb, hml, hown, hts⟩ (hM.2.2 D ad ac b H.size)
    ⟨va_cnB (R := R) (host := "StreamTransport") (bytes := bytes) (maxL := maxL) (ret := ret) (rm := { frames := fr, cells := ab_gc m' - ab_gc m, slots := ab_gs KT m' - ab_gs KT m, locals := lo }) (mc := ab_gc m' - ab_gc m) (ms := ab_gs KT m' - ab_gs KT m) n hts hGI hw rfl rfl (hX.1 _ hlk) (hts _ hini) hd hR, hts _ hst, trivial⟩
    ⟨ab_blind, hpre⟩ rfl (by rw [List.length_map]; exact hn) hF.2.1.1 (by
      show S.map (ab_v ad b) = _
      conv => lhs; rw [hS]
      rw [List.map_append, List.map_reverse]) (ab_room hwd) hdg ⟨by omega, by omega⟩
  exact ab_go hnd hA hrun hM.1 hM.2.1 hI hF (fun v hv => List.mem_of_mem_drop hv) hrv w
end
end
