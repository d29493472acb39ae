/-! The small machine's new cells and ends. -/
section
variable {p : Program} {l : Launch} {e : Env} {R : Room} {s : State} {m0 : MethodId} {args : Array Value} {below : List Frame} {meth : Method} {cd : Code} {Q : State → Prop} {cc : ByteArray}
variable {KT : List KS} {cl : List vw_C} {D : va_G} {sc : Option (Nat × (Nat → Int32))} {b : Nat} {A : Nat → Prop} {H0 : Heap} {ks0 : List Nat} {g0 h0 nL G Hs : Nat} {ad0 ac0 : Nat → Nat} {Ts : List Cond} {own : String}
/-- what the words say of a class of which an instruction makes an object of kind a -/
def ab_newok (KT : List KS) (cl : List vw_C) (Ts : List Cond) (own : String) (idx a : Nat) : Prop := ∃ (C : String) (T : u_T) (ty : Nat → FieldType) (ci : Nat) (fs : List (Nat × Nat × Nat × Nat)), cl[ci]? = some (C, T, fs.length) ∧ KT[a]? = some (.inl (ci, fs)) ∧ a ≠ 0 ∧ (∀ w ∈ u_ws C T fs.length, w ∈ Ts) ∧
  (∀ k, k < fs.length → parseFieldDescriptor (T k).2.2.1 = some (ty k)) ∧ Cond.classLink own idx C ∈ Ts ∧ Cond.instantiable C fs.length ∈ Ts ∧ Cond.initialized C ∈ Ts ∧
  ∀ (f t r k' d : Nat), fs[f]? = some (t, r, k', d) → (t ≤ 1 ∧ defaultValue (ty f) = .int 0) ∨ (t = 2 ∧ defaultValue (ty f) = .null)
theorem ab_newo (hx : p.tables.exec = Jvm.exec) (hb : cd.code = cc) (hts : ∀ w ∈ Ts, w.before args s = true) (hown : s.vm.findClass own = some m0.cls) (hK0 : va_K D cl [] s) (hnd : ab_nd KT) (hA : ∀ q, H0.size ≤ q → A q) (hG : G ≤ g0 + R.cells) (hHs : Hs ≤ h0 + R.slots)
    {pc idx a : Nat} {L : List (Option AV)} {S : List AV} {m : Mm} (hdg : decode cc pc = .ok (.new idx, 3)) (hn : ab_newok KT cl Ts own idx a)
    (w : ab_W p l e R s m0 args below meth cd Q KT cl D sc b A H0 ks0 g0 h0 nL G Hs ad0 ac0 (pc + 3, L, .inr (.inr (a, some m.2.2.2.1.length)) :: S, ab_ap m a)) :
    ab_W p l e R s m0 args below meth cd Q KT cl D sc b A H0 ks0 g0 h0 nL G Hs ad0 ac0 (pc, L, S, m) := by
  obtain ⟨C, T, ty, ci, fs, hc, hKT, ha, hin, hty, hcl, hins, hini, hdf⟩ := hn
  have w1 : ab_gc m + 1 ≤ G := by have := w.1; rw [show ((pc + 3, L, Sum.inr (Sum.inr (a, some m.2.2.2.1.length)) :: S, ab_ap m a) : Cf).2.2.2 = ab_ap m a from rfl, ab_gc_ap] at this; exact this
  have hlen : ab_len KT a = fs.length := by simp [ab_len, hKT]
  have w2 : ab_gs KT m + fs.length ≤ Hs := by have := w.2.1; rw [show ((pc + 3, L, Sum.inr (Sum.inr (a, some m.2.2.2.1.length)) :: S, ab_ap m a) : Cf).2.2.2 = ab_ap m a from rfl, ab_gs_ap, hlen] at this; exact this
  refine ⟨Nat.le_trans (Nat.le_succ _) w1, Nat.le_trans (Nat.le_add_right _ _) w2, fun ad ac ls H locs cells slots hI hF => ?_⟩
  have hok := hI.2.2.2.2.1
  have hc1 : cells + g0 = ab_gc m := hI.2.2.2.2.2.2.2.1
  have hc2 : slots + h0 = ab_gs KT m := hI.2.2.2.2.2.2.2.2
  refine va_new (D := D) (cl := cl) (tys := []) (ci := ci) (fs := fs.map (ab_fv ad m m.2.2.2.1.length)) hx hb hts hin ty hty hown (hts _ hcl) (hts _ hins) (hts _ hini) hK0 hI.1 hI.2.1 hI.2.2.1 hA hc ?_ (by omega) (by omega) hdg fun q H1 hP1 hD1 hS1 => ?_
  · intro j hj
    have hfj : fs[j]? = some fs[j] := List.getElem?_eq_getElem hj
    have hz := hok.2.2.2.2
    have hv : vp_V (fs.map (ab_fv ad m m.2.2.2.1.length)) j = ab_fv ad m m.2.2.2.1.length fs[j] := by
      simp [vp_V, List.getD, List.getElem?_map, hfj]
    rw [hv]
    generalize fs[j] = z at hfj
    obtain ⟨t, r, k', d⟩ := z
    rcases hdf j t r k' d hfj with ⟨h1, h2⟩ | ⟨rfl, h2⟩
    · rw [h2]
      match t, h1 with
      | 0, _ =>
        show Value.int 0 = .int (m.1 r m.2.2.2.1.length 0)
        rw [(hz r _ 0 (Nat.le_refl _)).1]
      | 1, _ =>
        show Value.int 0 = .int (m.1 r m.2.2.2.1.length 0)
        rw [(hz r _ 0 (Nat.le_refl _)).1]
    · rw [h2]
      show Value.null = va_rf ((m.2.2.1 r m.2.2.2.1.length 0).map ad)
      rw [(hz r _ 0 (Nat.le_refl _)).2.2]
      rfl
  · obtain ⟨ad', had1, hself⟩ : ∃ ad' : Nat → Nat, (∀ i, i < m.2.2.2.1.length → ad' i = ad i) ∧ ad' m.2.2.2.1.length = q := ⟨fun i => if i = m.2.2.2.1.length then q else ad i, fun i hi => if_neg (by omega), if_pos rfl⟩
    have had : ∀ i, i < m.2.2.2.1.length → ad' i = ad i ∧ ac i = ac i := fun i hi => ⟨had1 i hi, rfl⟩
    have hcell : ab_ce KT ad' ac m m.2.2.2.1.length a = .inr (ci, fs.map (ab_fv ad m m.2.2.2.1.length)) := by
      unfold ab_ce
      rw [hKT]
      dsimp only
      congr 2
      apply List.map_congr_left
      intro f hf
      obtain ⟨i, hi⟩ := List.getElem?_of_mem hf
      obtain ⟨t, r, k', d⟩ := f
      rcases hdf i t r k' d hi with ⟨h1, h2⟩ | ⟨rfl, h2⟩
      · match t, h1 with
        | 0, _ => rfl
        | 1, _ => rfl
      · show va_rf ((m.2.2.1 r m.2.2.2.1.length 0).map _) = va_rf ((m.2.2.1 r m.2.2.2.1.length 0).map ad)
        rw [(hok.2.2.2.2 r _ 0 (Nat.le_refl _)).2.2]
        rfl
    have hno : (∀ (ci f r k' d : Nat) (fs : List (Nat × Nat × Nat × Nat)), KT[a]? = some (.inl (ci, fs)) → fs[f]? ≠ some (3, r, k', d)) ∧ ∀ (r len k' a' st : Nat), KT[a]? ≠ some (.inr (r, len, 4, k', a', st)) := by
      refine ⟨fun ci2 f r k' d fs2 h1 h2 => ?_, fun r len k' a' st h1 => ?_⟩
      · rw [hKT] at h1
        simp only [Option.some.injEq, Sum.inl.injEq, Prod.mk.injEq] at h1
        obtain ⟨-, rfl⟩ := h1
        rcases hdf f 3 r k' d h2 with ⟨h3, -⟩ | ⟨h3, -⟩ <;> omega
      · rw [hKT] at h1
        cases h1
    have := ab_grown (p := p) (l := l) (e := e) (R := R) (args := args) (below := below) (meth := meth) (cd := cd) (m := m) (ad' := ad') (ac' := ac) (H1 := H1) (locs1 := locs) hnd ha hno hI hF (fun v hv => hv) had (fun r len t k' a' st h1 => by rw [hKT] at h1; cases h1) w (by rw [hself, hcell]; exact hP1) (by rw [hself, hcell]; exact hD1) hS1
    rw [hself, hlen] at this
    exact this
/-- what the words say of an array that an instruction makes -/
def ab_naok (KT : List KS) (cl : List vw_C) (Ts : List Cond) (at' : ArrayType) (a : Nat) : Prop := ∃ (r len t k' a' st : Nat), KT[a]? = some (.inr (r, len, t, k', a', st)) ∧ a ≠ 0 ∧ t ≤ 2 ∧ newarray.typeOf at' = ab_ty KT cl t k' ∧ Cond.arrayClass (newarray.typeOf at') ∈ Ts ∧ len < 65536
theorem ab_ofNat {n : Nat} (h : n < 65536) : ¬ Int32.ofNat n < 0 ∧ (Int32.ofNat n).toNatClampNeg = n := ⟨nI_pos (by omega), nI_clamp (by omega)⟩
theorem ab_newa (hx : p.tables.exec = Jvm.exec) (hb : cd.code = cc) (hts : ∀ w ∈ Ts, w.before args s = true) (hK0 : va_K D cl [] s) (hnd : ab_nd KT) (hA : ∀ q, H0.size ≤ q → A q) (hG : G ≤ g0 + R.cells) (hHs : Hs ≤ h0 + R.slots)
    {pc a : Nat} {at' : ArrayType} {z : Nat × Nat × Nat × Nat × Nat × Nat} {L : List (Option AV)} {S : List AV} {m : Mm} (hdg : decode cc pc = .ok (.newarray at', 2)) (hn : ab_naok KT cl Ts at' a) (hz : KT[a]? = some (.inr z))
    (w : ab_W p l e R s m0 args below meth cd Q KT cl D sc b A H0 ks0 g0 h0 nL G Hs ad0 ac0 (pc + 2, L, .inr (.inr (a, some m.2.2.2.1.length)) :: S, ab_ap m a)) :
    ab_W p l e R s m0 args below meth cd Q KT cl D sc b A H0 ks0 g0 h0 nL G Hs ad0 ac0 (pc, L, .inl (Int32.ofNat z.2.1) :: S, m) := by
  obtain ⟨r, len, t, k', a', st, hKT, ha, ht, hty, harr, hl⟩ := hn
  have hz' : z = (r, len, t, k', a', st) := by
    have h1 := hz.symm.trans hKT
    simp only [Option.some.injEq, Sum.inr.injEq] at h1
    exact h1
  subst hz'
  have w1 : ab_gc m + 1 ≤ G := by have := w.1; rw [show ((pc + 2, L, Sum.inr (Sum.inr (a, some m.2.2.2.1.length)) :: S, ab_ap m a) : Cf).2.2.2 = ab_ap m a from rfl, ab_gc_ap] at this; exact this
  have hlen : ab_len KT a = len := by simp [ab_len, hKT]
  have w2 : ab_gs KT m + len ≤ Hs := by have := w.2.1; rw [show ((pc + 2, L, Sum.inr (Sum.inr (a, some m.2.2.2.1.length)) :: S, ab_ap m a) : Cf).2.2.2 = ab_ap m a from rfl, ab_gs_ap, hlen] at this; exact this
  refine ⟨Nat.le_trans (Nat.le_succ _) w1, Nat.le_trans (Nat.le_add_right _ _) w2, fun ad ac ls H locs cells slots hI hF => ?_⟩
  have hok := hI.2.2.2.2.1
  have hc1 : cells + g0 = ab_gc m := hI.2.2.2.2.2.2.2.1
  have hc2 : slots + h0 = ab_gs KT m := hI.2.2.2.2.2.2.2.2
  obtain ⟨hl1, hl2⟩ := ab_ofNat hl
  show W p l e R s m0 args below meth cd H locs cells slots Q (F0 m0 pc ls (.int (Int32.ofNat len) :: S.map (ab_v ad b)))
  have hb4 : len * componentBytes (ab_ty KT cl t k') ≤ 536870912 := by
    have : componentBytes (ab_ty KT cl t k') ≤ 8 := by
      match t, ht with
      | 0, _ => exact (show componentBytes .int ≤ 8 by decide)
      | 1, _ => exact (show componentBytes .boolean ≤ 8 by decide)
      | 2, _ => exact (show componentBytes .long ≤ 8 by decide)
    have := Nat.mul_le_mul_left len this
    omega
  refine va_newa (D := D) (cl := cl) (tys := []) (a0 := (len, ab_av ad m m.2.2.2.1.length r len t a' st)) hx hb (hts _ harr) hty hK0 hI.1 hI.2.1 hI.2.2.1 hA ?_ hl1 hl2 hb4 (by omega) (by omega) hdg fun q cA H1 hK1 hP1 hD1 hS1 => ?_
  · intro cA
    have hzr := hok.2.2.2.2
    match t, ht with
    | 0, _ =>
      show arrV cA len (fun j => .int (m.1 r m.2.2.2.1.length j)) = arrV cA len (fun _ => .int 0)
      congr 1
      funext j
      rw [(hzr r _ j (Nat.le_refl _)).1]
    | 1, _ =>
      show arrV cA len (fun j => .int (m.1 r m.2.2.2.1.length j)) = arrV cA len (fun _ => .int 0)
      congr 1
      funext j
      rw [(hzr r _ j (Nat.le_refl _)).1]
    | 2, _ =>
      show arrV cA len (fun j => .long (m.2.1 r m.2.2.2.1.length j)) = arrV cA len (fun _ => .long 0)
      congr 1
      funext j
      rw [(hzr r _ j (Nat.le_refl _)).2.1]
  · obtain ⟨ad', had1, hself⟩ : ∃ ad' : Nat → Nat, (∀ i, i < m.2.2.2.1.length → ad' i = ad i) ∧ ad' m.2.2.2.1.length = q := ⟨fun i => if i = m.2.2.2.1.length then q else ad i, fun i hi => if_neg (by omega), if_pos rfl⟩
    obtain ⟨ac', hac1, hself2⟩ : ∃ ac' : Nat → Nat, (∀ i, i < m.2.2.2.1.length → ac' i = ac i) ∧ ac' m.2.2.2.1.length = cA := ⟨fun i => if i = m.2.2.2.1.length then cA else ac i, fun i hi => if_neg (by omega), if_pos rfl⟩
    have had : ∀ i, i < m.2.2.2.1.length → ad' i = ad i ∧ ac' i = ac i := fun i hi => ⟨had1 i hi, hac1 i hi⟩
    have hcell : ab_ce KT ad' ac' m m.2.2.2.1.length a = .inl (cA, len, ab_av ad m m.2.2.2.1.length r len t a' st) := by
      unfold ab_ce
      rw [hKT]
      dsimp only
      rw [hself2]
      congr 3
      match t, ht with
      | 0, _ => rfl
      | 1, _ => rfl
      | 2, _ => rfl
    have hno : (∀ (ci f r k' d : Nat) (fs : List (Nat × Nat × Nat × Nat)), KT[a]? = some (.inl (ci, fs)) → fs[f]? ≠ some (3, r, k', d)) ∧ ∀ (r len k' a' st : Nat), KT[a]? ≠ some (.inr (r, len, 4, k', a', st)) := by
      refine ⟨fun ci2 f r k' d fs2 h1 h2 => ?_, fun r len k' a' st h1 => ?_⟩
      · rw [hKT] at h1
        cases h1
      · rw [hKT] at h1
        simp only [Option.some.injEq, Sum.inr.injEq, Prod.mk.injEq] at h1
        omega
    have := ab_grown (p := p) (l := l) (e := e) (R := R) (args := args) (below := below) (meth := meth) (cd := cd) (m := m) (ad' := ad') (ac' := ac') (H1 := H1) (locs1 := locs) (S' := S) hnd ha hno hI hF (fun v hv => List.mem_cons_of_mem _ hv) had (fun r2 len2 t2 k2 a2 st2 h1 => by
        rw [hKT] at h1
        simp only [Option.some.injEq, Sum.inr.injEq, Prod.mk.injEq] at h1
        obtain ⟨rfl, rfl, rfl, rfl, rfl, rfl⟩ := h1
        rw [hself2]
        exact hK1.2 0 (cA, ab_ty KT cl t k') rfl) w (by rw [hself, hcell]; exact hP1) (by rw [hself, hcell]; exact hD1) hS1
    rw [hself, hlen] at this
    exact this
/-- what the words say of an array of references that an instruction makes -/
def ab_nqok (KT : List KS) (cl : List vw_C) (Ts : List Cond) (own : String) (idx a : Nat) : Prop := ∃ (r len k' a' st : Nat), KT[a]? = some (.inr (r, len, 3, k', a', st)) ∧ a ≠ 0 ∧ Cond.classLink own idx (ab_cn KT cl k') ∈ Ts ∧ ab_cn KT cl k' ∈ ab_gO ∧ len < 65536
theorem ab_newq (hX : ab_X s) (hx : p.tables.exec = Jvm.exec) (hb : cd.code = cc) (hts : ∀ w ∈ Ts, w.before args s = true) (hown : s.vm.findClass own = some m0.cls) (hK0 : va_K D cl [] s) (hnd : ab_nd KT) (hA : ∀ q, H0.size ≤ q → A q) (hG : G ≤ g0 + R.cells) (hHs : Hs ≤ h0 + R.slots)
    {pc idx a : Nat} {z : Nat × Nat × Nat × Nat × Nat × Nat} {L : List (Option AV)} {S : List AV} {m : Mm} (hdg : decode cc pc = .ok (.anewarray idx, 3)) (hn : ab_nqok KT cl Ts own idx a) (hz : KT[a]? = some (.inr z))
    (w : ab_W p l e R s m0 args below meth cd Q KT cl D sc b A H0 ks0 g0 h0 nL G Hs ad0 ac0 (pc + 3, L, .inr (.inr (a, some m.2.2.2.1.length)) :: S, ab_ap m a)) :
    ab_W p l e R s m0 args below meth cd Q KT cl D sc b A H0 ks0 g0 h0 nL G Hs ad0 ac0 (pc, L, .inl (Int32.ofNat z.2.1) :: S, m) := by
  obtain ⟨r, len, k', a', st, hKT, ha, hcl, hao, hl⟩ := hn
  have hz' : z = (r, len, 3, k', a', st) := by
    have h1 := hz.symm.trans hKT
    simp only [Option.some.injEq, Sum.inr.injEq] at h1
    exact h1
  subst hz'
  have w1 : ab_gc m + 1 ≤ G := by have := w.1; rw [show ((pc + 3, L, Sum.inr (Sum.inr (a, some m.2.2.2.1.length)) :: S, ab_ap m a) : Cf).2.2.2 = ab_ap m a from rfl, ab_gc_ap] at this; exact this
  have hlen : ab_len KT a = len := by simp [ab_len, hKT]
  have w2 : ab_gs KT m + len ≤ Hs := by have := w.2.1; rw [show ((pc + 3, L, Sum.inr (Sum.inr (a, some m.2.2.2.1.length)) :: S, ab_ap m a) : Cf).2.2.2 = ab_ap m a from rfl, ab_gs_ap, hlen] at this; exact this
  refine ⟨Nat.le_trans (Nat.le_succ _) w1, Nat.le_trans (Nat.le_add_right _ _) w2, fun ad ac ls H locs cells slots hI hF => ?_⟩
  have hok := hI.2.2.2.2.1
  have hc1 : cells + g0 = ab_gc m := hI.2.2.2.2.2.2.2.1
  have hc2 : slots + h0 = ab_gs KT m := hI.2.2.2.2.2.2.2.2
  obtain ⟨hl1, hl2⟩ := ab_ofNat hl
  show W p l e R s m0 args below meth cd H locs cells slots Q (F0 m0 pc ls (.int (Int32.ofNat len) :: S.map (ab_v ad b)))
  refine va_newq (D := D) (cl := cl) (tys := []) (C := ab_cn KT cl k') hx hb hown (hts _ hcl) (hX.2 _ hao) hK0 hI.1 hI.2.1 hI.2.2.1 hA hl1 hl2 (by omega) (by omega) (by omega) hdg fun q cA H1 hK1 hP1 hD1 hS1 => ?_
  obtain ⟨ad', had1, hself⟩ : ∃ ad' : Nat → Nat, (∀ i, i < m.2.2.2.1.length → ad' i = ad i) ∧ ad' m.2.2.2.1.length = q := ⟨fun i => if i = m.2.2.2.1.length then q else ad i, fun i hi => if_neg (by omega), if_pos rfl⟩
  obtain ⟨ac', hac1, hself2⟩ : ∃ ac' : Nat → Nat, (∀ i, i < m.2.2.2.1.length → ac' i = ac i) ∧ ac' m.2.2.2.1.length = cA := ⟨fun i => if i = m.2.2.2.1.length then cA else ac i, fun i hi => if_neg (by omega), if_pos rfl⟩
  have had : ∀ i, i < m.2.2.2.1.length → ad' i = ad i ∧ ac' i = ac i := fun i hi => ⟨had1 i hi, hac1 i hi⟩
  have hcell : ab_ce KT ad' ac' m m.2.2.2.1.length a = .inl (cA, len, .inr (.inr (.inr (.inr (fun _ => none))))) := by
    unfold ab_ce
    rw [hKT]
    dsimp only
    rw [hself2]
    congr 3
    show Sum.inr (Sum.inr (Sum.inr (Sum.inr fun j => (m.2.2.1 r m.2.2.2.1.length j).map _))) = _
    congr 4
    funext j
    rw [(hok.2.2.2.2 r _ j (Nat.le_refl _)).2.2]
    rfl
  have hno : (∀ (ci f r k' d : Nat) (fs : List (Nat × Nat × Nat × Nat)), KT[a]? = some (.inl (ci, fs)) → fs[f]? ≠ some (3, r, k', d)) ∧ ∀ (r len k' a' st : Nat), KT[a]? ≠ some (.inr (r, len, 4, k', a', st)) := by
    refine ⟨fun ci2 f r k' d fs2 h1 h2 => ?_, fun r len k' a' st h1 => ?_⟩
    · rw [hKT] at h1
      cases h1
    · rw [hKT] at h1
      simp only [Option.some.injEq, Sum.inr.injEq, Prod.mk.injEq] at h1
      omega
  have := ab_grown (p := p) (l := l) (e := e) (R := R) (args := args) (below := below) (meth := meth) (cd := cd) (m := m) (ad' := ad') (ac' := ac') (H1 := H1) (locs1 := locs) (S' := S) hnd ha hno hI hF (fun v hv => List.mem_cons_of_mem _ hv) had (fun r2 len2 t2 k2 a2 st2 h1 => by
      rw [hKT] at h1
      simp only [Option.some.injEq, Sum.inr.injEq, Prod.mk.injEq] at h1
      obtain ⟨rfl, rfl, rfl, rfl, rfl, rfl⟩ := h1
      rw [hself2]
      exact hK1.2 0 (cA, .object (ab_cn KT cl k')) rfl) w (by rw [hself, hcell]; exact hP1) (by rw [hself, hcell]; exact hD1) hS1
  rw [hself, hlen] at this
  exact this
end
