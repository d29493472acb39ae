/-! The small machine's stores in arrays, new cells, ends. -/
section
variable {p : Program} {l : Launch} {e : Env} {R : Room} {s : State} {m0 : MethodId} {args : Array Value} {below : List Frame} {meth : Method} {cd : Code} {Q : State → Prop} {cc : ByteArray}
variable {KT : List KS} {cl : List vw_C} {D : va_G} {sc : Option (Nat × (Nat → Int32))} {b : Nat} {A : Nat → Prop} {H0 : Heap} {ks0 : List Nat} {g0 h0 nL G Hs : Nat} {ad0 ac0 : Nat → Nat} {Ts : List Cond} {own : String}
theorem ab_after {pc' : Nat} {ad ac : Nat → Nat} {ls : Array Slot} {H H1 : Heap} {locs locs1 : List Loc} {cells slots : Nat} {L : List (Option AV)} {S S' : List AV} {m m' : Mm} (hks : m'.2.2.2 = m.2.2.2) (hok' : ab_ok KT m')
    (hI : ab_I KT cl D s A H0 ks0 ad0 ac0 g0 h0 ad ac m H locs cells slots) (hF : ab_F sc b ad m.2.2.2.1 nL ls L S) (w : ab_W p l e R s m0 args below meth cd Q KT cl D sc b A H0 ks0 g0 h0 nL G Hs ad0 ac0 (pc', L, S', m')) (hS' : ∀ v ∈ S', v ∈ S)
    (hP1 : va_P D cl (ab_w KT ad ac m') H1) (hD1 : va_D A (ab_w KT ad ac m')) (hS1 : va_S A H0 H1 locs1) : W p l e R s m0 args below meth cd H1 locs1 cells slots Q (F0 m0 pc' ls (S'.map (ab_v ad b))) := by
  obtain ⟨hP, hD, hS, hKA, hok, hext, hn0, hce1, hcs1⟩ := hI
  have egc : ab_gc m' = ab_gc m := by unfold ab_gc; rw [hks]
  have egs : ab_gs KT m' = ab_gs KT m := by unfold ab_gs; rw [hks]
  refine w.2.2 ad ac ls H1 locs1 cells slots ⟨hP1, hD1, hS1, ?_, hok', hext, ?_, ?_, ?_⟩ ⟨hF.1, hF.2.1, ?_, ?_⟩
  · show ab_K KT cl ac m'.2.2.2.1 s
    rw [hks]; exact hKA
  · show ∀ (i k : Nat), ks0[i]? = some k → m'.2.2.2.1[i]? = some k
    rw [hks]; exact hn0
  · exact hce1.trans egc.symm
  · exact hcs1.trans egs.symm
  · show ∀ (i : Nat) (v : AV), L[i]? = some (some v) → ab_vv sc m'.2.2.2.1 v
    rw [hks]; exact hF.2.2.1
  · show ∀ v ∈ S', ab_vv sc m'.2.2.2.1 v
    rw [hks]; exact fun v hv => hF.2.2.2 v (hS' v hv)
theorem ab_iast (hx : p.tables.exec = Jvm.exec) (hb : cd.code = cc) (hK0 : va_K D cl [] s)
    {pc k q r len k' a st i : Nat} {j v : Int32} {L : List (Option AV)} {S : List AV} {m : Mm} (hdg : decode cc pc = .ok (.iastore, 1)) (hk0 : k ≠ 0) (has : KT[k]? = some (.inr (r, len, 0, k', a, st))) (hi : ab_ix j len = some i)
    (w : ab_W p l e R s m0 args below meth cd Q KT cl D sc b A H0 ks0 g0 h0 nL G Hs ad0 ac0 (pc + 1, L, S, ab_uI m r q i v)) :
    ab_W p l e R s m0 args below meth cd Q KT cl D sc b A H0 ks0 g0 h0 nL G Hs ad0 ac0 (pc, L, .inl v :: .inl j :: .inr (.inr (k, some q)) :: S, m) := by
  obtain ⟨hin, rfl⟩ := ab_ix_in hi
  refine ⟨w.1, w.2.1, fun ad ac ls H locs cells slots hI hF => ?_⟩
  have hk : m.2.2.2.1[q]? = some k := ab_ref (ab_h1 (ab_t1 (ab_t1 hF.2.2.2))) hk0
  show W p l e R s m0 args below meth cd H locs cells slots Q (F0 m0 pc ls (.int v :: .int j :: ab_v ad b (.inr (.inr (k, some q))) :: S.map (ab_v ad b)))
  rw [ab_vr hk0]
  have hset : (ab_w KT ad ac m).set q (ad q, .inl (ac q, len, .inl (upd (m.1 r q) j.toNatClampNeg v))) = ab_w KT ad ac (ab_uI m r q j.toNatClampNeg v) := by
    refine ab_w_set (m := m) (m' := ab_uI m r q j.toNatClampNeg v) hk rfl ?_ (fun q' k' h => ab_ce_I q' k' h)
    have e1 : upd (m.1 r q) j.toNatClampNeg v = (ab_uI m r q j.toNatClampNeg v).1 r q := by
      funext j'
      simp [upd, ab_uI]
    rw [e1]
    simp [ab_ce, has, ab_av]
  refine va_iast (D := D) hx hb (ab_K1 hK0 hI.2.2.2.1 hk has) hI.1 hI.2.1 hI.2.2.1 q 0 (ab_warr hk has) rfl hin hdg fun H1 locs1 hP1 hD1 hS1 => ?_
  rw [hset] at hP1 hD1
  exact ab_after (m := m) (m' := ab_uI m r q j.toNatClampNeg v) rfl (ab_ok_I hI.2.2.2.2.1 (List.getElem?_eq_some_iff.mp hk).1) hI hF w (fun v hv => by simp [hv]) hP1 hD1 hS1
theorem ab_zast (hx : p.tables.exec = Jvm.exec) (hb : cd.code = cc) (hK0 : va_K D cl [] s)
    {pc k q r len k' a st i : Nat} {j v : Int32} {L : List (Option AV)} {S : List AV} {m : Mm} (hdg : decode cc pc = .ok (.bastore, 1)) (hk0 : k ≠ 0) (has : KT[k]? = some (.inr (r, len, 1, k', a, st))) (hi : ab_ix j len = some i) (hv : v = 0 ∨ v = 1)
    (w : ab_W p l e R s m0 args below meth cd Q KT cl D sc b A H0 ks0 g0 h0 nL G Hs ad0 ac0 (pc + 1, L, S, ab_uI m r q i v)) :
    ab_W p l e R s m0 args below meth cd Q KT cl D sc b A H0 ks0 g0 h0 nL G Hs ad0 ac0 (pc, L, .inl v :: .inl j :: .inr (.inr (k, some q)) :: S, m) := by
  obtain ⟨hin, rfl⟩ := ab_ix_in hi
  refine ⟨w.1, w.2.1, fun ad ac ls H locs cells slots hI hF => ?_⟩
  have hk : m.2.2.2.1[q]? = some k := ab_ref (ab_h1 (ab_t1 (ab_t1 hF.2.2.2))) hk0
  show W p l e R s m0 args below meth cd H locs cells slots Q (F0 m0 pc ls (.int v :: .int j :: ab_v ad b (.inr (.inr (k, some q))) :: S.map (ab_v ad b)))
  rw [ab_vr hk0]
  have hnv : vp_nar .boolean v = v := by rcases hv with rfl | rfl <;> decide +kernel
  have hset : (ab_w KT ad ac m).set q (ad q, .inl (ac q, len, .inl (upd (m.1 r q) j.toNatClampNeg (vp_nar .boolean v)))) = ab_w KT ad ac (ab_uI m r q j.toNatClampNeg v) := by
    refine ab_w_set (m := m) (m' := ab_uI m r q j.toNatClampNeg v) hk rfl ?_ (fun q' k' h => ab_ce_I q' k' h)
    have e1 : upd (m.1 r q) j.toNatClampNeg (vp_nar .boolean v) = (ab_uI m r q j.toNatClampNeg v).1 r q := by
      funext j'
      rw [hnv]
      simp [upd, ab_uI]
    rw [e1]
    simp [ab_ce, has, ab_av]
  refine va_zast (D := D) hx hb (ab_K1 hK0 hI.2.2.2.1 hk has) hI.1 hI.2.1 hI.2.2.1 q 0 (ab_warr hk has) rfl hin hdg fun H1 locs1 hP1 hD1 hS1 => ?_
  rw [hset] at hP1 hD1
  exact ab_after (m := m) (m' := ab_uI m r q j.toNatClampNeg v) rfl (ab_ok_I hI.2.2.2.2.1 (List.getElem?_eq_some_iff.mp hk).1) hI hF w (fun v hv => by simp [hv]) hP1 hD1 hS1
theorem ab_last (hx : p.tables.exec = Jvm.exec) (hb : cd.code = cc) (hK0 : va_K D cl [] s)
    {pc k q r len k' a st i : Nat} {j : Int32} {v : Int64} {L : List (Option AV)} {S : List AV} {m : Mm} (hdg : decode cc pc = .ok (.lastore, 1)) (hk0 : k ≠ 0) (has : KT[k]? = some (.inr (r, len, 2, k', a, st))) (hi : ab_ix j len = some i)
    (w : ab_W p l e R s m0 args below meth cd Q KT cl D sc b A H0 ks0 g0 h0 nL G Hs ad0 ac0 (pc + 1, L, S, ab_uJ m r q i v)) :
    ab_W p l e R s m0 args below meth cd Q KT cl D sc b A H0 ks0 g0 h0 nL G Hs ad0 ac0 (pc, L, .inr (.inl v) :: .inl j :: .inr (.inr (k, some q)) :: S, m) := by
  obtain ⟨hin, rfl⟩ := ab_ix_in hi
  refine ⟨w.1, w.2.1, fun ad ac ls H locs cells slots hI hF => ?_⟩
  have hk : m.2.2.2.1[q]? = some k := ab_ref (ab_h1 (ab_t1 (ab_t1 hF.2.2.2))) hk0
  show W p l e R s m0 args below meth cd H locs cells slots Q (F0 m0 pc ls (.long v :: .int j :: ab_v ad b (.inr (.inr (k, some q))) :: S.map (ab_v ad b)))
  rw [ab_vr hk0]
  have hset : (ab_w KT ad ac m).set q (ad q, .inl (ac q, len, .inr (.inl (vp_updL (m.2.1 r q) j.toNatClampNeg v)))) = ab_w KT ad ac (ab_uJ m r q j.toNatClampNeg v) := by
    refine ab_w_set (m := m) (m' := ab_uJ m r q j.toNatClampNeg v) hk rfl ?_ (fun q' k' h => ab_ce_J q' k' h)
    have e1 : vp_updL (m.2.1 r q) j.toNatClampNeg v = (ab_uJ m r q j.toNatClampNeg v).2.1 r q := by
      funext j'
      simp [vp_updL, ab_uJ]
    rw [e1]
    simp [ab_ce, has, ab_av]
  refine va_last (D := D) hx hb (ab_K1 hK0 hI.2.2.2.1 hk has) hI.1 hI.2.1 hI.2.2.1 q 0 (ab_warr hk has) rfl hin hdg fun H1 locs1 hP1 hD1 hS1 => ?_
  rw [hset] at hP1 hD1
  exact ab_after (m := m) (m' := ab_uJ m r q j.toNatClampNeg v) rfl (ab_ok_J hI.2.2.2.2.1 (List.getElem?_eq_some_iff.mp hk).1) hI hF w (fun v hv => by simp [hv]) hP1 hD1 hS1
theorem ab_aast (hx : p.tables.exec = Jvm.exec) (hb : cd.code = cc) (hK0 : va_K D cl [] s) (hnd : ab_nd KT)
    {pc k q r len k2 q2 a st i ci : Nat} {fs2 : List (Nat × Nat × Nat × Nat)} {j : Int32} {z : vw_C} {L : List (Option AV)} {S : List AV} {m : Mm} (hdg : decode cc pc = .ok (.aastore, 1)) (hk0 : k ≠ 0) (hk20 : k2 ≠ 0) (has : KT[k]? = some (.inr (r, len, 3, k2, a, st))) (hi : ab_ix j len = some i)
    (hK2 : KT[k2]? = some (.inl (ci, fs2))) (hcl : cl[ci]? = some z)
    (w : ab_W p l e R s m0 args below meth cd Q KT cl D sc b A H0 ks0 g0 h0 nL G Hs ad0 ac0 (pc + 1, L, S, ab_uR m r q i (some q2))) :
    ab_W p l e R s m0 args below meth cd Q KT cl D sc b A H0 ks0 g0 h0 nL G Hs ad0 ac0 (pc, L, .inr (.inr (k2, some q2)) :: .inl j :: .inr (.inr (k, some q)) :: S, m) := by
  obtain ⟨hin, rfl⟩ := ab_ix_in hi
  refine ⟨w.1, w.2.1, fun ad ac ls H locs cells slots hI hF => ?_⟩
  have hk : m.2.2.2.1[q]? = some k := ab_ref (ab_h1 (ab_t1 (ab_t1 hF.2.2.2))) hk0
  have hk2 : m.2.2.2.1[q2]? = some k2 := ab_ref (ab_h1 hF.2.2.2) hk20
  show W p l e R s m0 args below meth cd H locs cells slots Q (F0 m0 pc ls (ab_v ad b (.inr (.inr (k2, some q2))) :: .int j :: ab_v ad b (.inr (.inr (k, some q))) :: S.map (ab_v ad b)))
  rw [ab_vr hk0, ab_vr hk20]
  have hcn : ab_cn KT cl k2 = z.1 := by simp [ab_cn, hK2, hcl]
  have hset : (ab_w KT ad ac m).set q (ad q, .inl (ac q, len, .inr (.inr (.inr (.inr (va_up (fun j => (m.2.2.1 r q j).map ad) j.toNatClampNeg (some (ad q2)))))))) = ab_w KT ad ac (ab_uR m r q j.toNatClampNeg (some q2)) := by
    refine ab_w_set (m := m) (m' := ab_uR m r q j.toNatClampNeg (some q2)) hk rfl ?_ (fun q' k' h => ab_ce_R q' k' h)
    have e1 : va_up (fun j => (m.2.2.1 r q j).map ad) j.toNatClampNeg (some (ad q2)) = fun j' => ((ab_uR m r q j.toNatClampNeg (some q2)).2.2.1 r q j').map ad := by
      funext j'
      by_cases hj : j' = j.toNatClampNeg
      · simp [va_up, ab_uR, hj]
      · simp [va_up, ab_uR, hj]
    rw [e1]
    simp [ab_ce, has, ab_av]
  have hty := ab_K1 (D := D) hK0 hI.2.2.2.1 hk has
  rw [show ab_ty KT cl 3 k2 = .object (ab_cn KT cl k2) from rfl, hcn] at hty
  refine va_astq (D := D) hx hb hty hI.1 hI.2.1 hI.2.2.1 q 0 q2 ci (ab_warr hk has) rfl (ab_wobj hk2 hK2) hcl hin hdg fun H1 locs1 hP1 hD1 hS1 => ?_
  rw [hset] at hP1 hD1
  exact ab_after (m := m) (m' := ab_uR m r q j.toNatClampNeg (some q2)) rfl (ab_ok_R hI.2.2.2.2.1 hk hnd hk20 hk2 (Or.inr ⟨len, a, st, has⟩)) hI hF w (fun v hv => by simp [hv]) hP1 hD1 hS1
theorem ab_ce_ad {ad ad' ac ac' : Nat → Nat} {m : Mm} {q k : Nat} (hnd : ab_nd KT) (hok : ab_ok KT m) (hk : m.2.2.2.1[q]? = some k) (had : ∀ i, i < m.2.2.2.1.length → ad' i = ad i ∧ ac' i = ac i) : ab_ce KT ad' ac' m q k = ab_ce KT ad ac m q k := by
  have lt : ∀ {q' k' : Nat}, m.2.2.2.1[q']? = some k' → q' < m.2.2.2.1.length := fun h => (List.getElem?_eq_some_iff.mp h).1
  unfold ab_ce
  split
  · rename_i ci fs hKT
    congr 2
    apply List.map_congr_left
    intro f hf
    obtain ⟨i, hi⟩ := List.getElem?_of_mem hf
    obtain ⟨t, r, k', d⟩ := f
    have ht := hnd.2.1 k ci i t r k' d fs hKT hi
    match t, ht with
    | 0, _ => rfl
    | 1, _ => rfl
    | 2, _ =>
      show va_rf ((m.2.2.1 r q 0).map ad') = va_rf ((m.2.2.1 r q 0).map ad)
      cases hR : m.2.2.1 r q 0 with
      | none => rfl
      | some q' =>
        have := (had q' (lt (hok.2.2.1 q k ci i r k' d q' fs hk hKT hi hR).2)).1
        simp [this]
    | 3, _ =>
      show Value.ref (ad' (q + d)) = .ref (ad (q + d))
      rw [(had _ (lt (hok.1 q k ci i r k' d fs hk hKT hi).2)).1]
  · rename_i r len t k' a st hKT
    rw [(had q (lt hk)).2]
    congr 3
    have ht := hnd.2.2 k r len t k' a st hKT
    match t, ht with
    | 0, _ => rfl
    | 1, _ => rfl
    | 2, _ => rfl
    | 3, _ =>
      show Sum.inr (Sum.inr (Sum.inr (Sum.inr fun j => (m.2.2.1 r q j).map ad'))) = Sum.inr (Sum.inr (Sum.inr (Sum.inr fun j => (m.2.2.1 r q j).map ad)))
      congr 4
      funext j
      cases hR : m.2.2.1 r q j with
      | none => rfl
      | some q' =>
        have := (had q' (lt (hok.2.2.2.1 q k r len k' a st j q' hk hKT hR).2)).1
        simp [this]
    | 4, _ =>
      show Sum.inr (Sum.inr (Sum.inr (Sum.inr fun j => if j < len then some (ad' (q + a + st * j)) else none))) = Sum.inr (Sum.inr (Sum.inr (Sum.inr fun j => if j < len then some (ad (q + a + st * j)) else none)))
      congr 4
      funext j
      by_cases hj : j < len
      · rw [if_pos hj, if_pos hj, (had _ (lt (hok.2.1 q k r len k' a st j hk hKT hj).2)).1]
      · rw [if_neg hj, if_neg hj]
    | t + 5, ht =>
      have hl : len = 0 := by rcases ht with h | h <;> omega
      show Sum.inr (Sum.inr (Sum.inr (Sum.inr fun j => if j < len then some (ad' (q + a + st * j)) else none))) = Sum.inr (Sum.inr (Sum.inr (Sum.inr fun j => if j < len then some (ad (q + a + st * j)) else none)))
      congr 4
      funext j
      rw [if_neg (by omega), if_neg (by omega)]
  · rfl
theorem ab_w_ad {ad ad' ac ac' : Nat → Nat} {m : Mm} (hnd : ab_nd KT) (hok : ab_ok KT m) (had : ∀ i, i < m.2.2.2.1.length → ad' i = ad i ∧ ac' i = ac i) : ab_w KT ad' ac' m = ab_w KT ad ac m := by
  apply List.ext_getElem?
  intro i
  simp only [ab_w, List.getElem?_mapIdx]
  cases hk : m.2.2.2.1[i]? with
  | none => rfl
  | some k =>
    have h1 := had i (List.getElem?_eq_some_iff.mp hk).1
    simp [h1.1, ab_ce_ad hnd hok hk had]
theorem ab_w_push {ad ad' ac ac' : Nat → Nat} {m : Mm} {a : Nat} (hnd : ab_nd KT) (hok : ab_ok KT m) (had : ∀ i, i < m.2.2.2.1.length → ad' i = ad i ∧ ac' i = ac i) :
    ab_w KT ad' ac' (ab_ap m a) = ab_w KT ad ac m ++ [(ad' m.2.2.2.1.length, ab_ce KT ad' ac' m m.2.2.2.1.length a)] := by
  have h1 : ab_w KT ad' ac' (ab_ap m a) = ab_w KT ad' ac' m ++ [(ad' m.2.2.2.1.length, ab_ce KT ad' ac' m m.2.2.2.1.length a)] := by
    show (m.2.2.2.1 ++ [a]).mapIdx (fun q k => (ad' q, ab_ce KT ad' ac' (ab_ap m a) q k)) = _
    rw [List.mapIdx_append]
    congr 1
    rw [List.mapIdx_cons, List.mapIdx_nil, Nat.zero_add]
    rfl
  rw [h1, ab_w_ad hnd hok had]
theorem ab_v_ad {ad ad' : Nat → Nat} {ks : List Nat} {v : AV} (hv : ab_vv sc ks v) (had : ∀ i, i < ks.length → ad' i = ad i) : ab_v ad' b v = ab_v ad b v := by
  match v, hv with
  | .inl x, _ => rfl
  | .inr (.inl x), _ => rfl
  | .inr (.inr (k, none)), _ => rfl
  | .inr (.inr (k, some q)), hv =>
    show Value.ref (if k = 0 then b else ad' q) = .ref (if k = 0 then b else ad q)
    by_cases hk : k = 0
    · rw [if_pos hk, if_pos hk]
    · rw [if_neg hk, if_neg hk, had q (List.getElem?_eq_some_iff.mp (ab_ref hv hk)).1]
theorem ab_vv_app {ks ks' : List Nat} {v : AV} (hv : ab_vv sc ks v) (hp : ∀ (i k : Nat), ks[i]? = some k → ks'[i]? = some k) : ab_vv sc ks' v := by
  match v, hv with
  | .inl x, _ => trivial
  | .inr (.inl x), _ => trivial
  | .inr (.inr (k, none)), _ => trivial
  | .inr (.inr (k, some q)), hv =>
    have h1 : (if k = 0 then sc.isSome = true else ks[q]? = some k) := hv
    show if k = 0 then sc.isSome = true else ks'[q]? = some k
    by_cases hk : k = 0
    · rw [if_pos hk] at h1 ⊢; exact h1
    · rw [if_neg hk] at h1 ⊢; exact hp _ _ h1
/-- a frame, when cells have come -/
theorem ab_F_ad {ad ad' : Nat → Nat} {ks ks' : List Nat} {ls : Array Slot} {L : List (Option AV)} {S : List AV} (hF : ab_F sc b ad ks nL ls L S) (had : ∀ i, i < ks.length → ad' i = ad i) (hp : ∀ (i k : Nat), ks[i]? = some k → ks'[i]? = some k) :
    ab_F sc b ad' ks' nL ls L S ∧ S.map (ab_v ad' b) = S.map (ab_v ad b) := by
  refine ⟨⟨hF.1, ab_L_of hF.2.1 (fun i v hi => ?_), fun i v hi => ab_vv_app (hF.2.2.1 i v hi) hp, fun v hv => ab_vv_app (hF.2.2.2 v hv) hp⟩, List.map_congr_left fun v hv => ab_v_ad (hF.2.2.2 v hv) had⟩
  rw [ab_v_ad (hF.2.2.1 i v hi) had]
  exact ab_mem_al.mpr ⟨v, hi, rfl⟩
theorem ab_ok_ap {m : Mm} {a : Nat} (hok : ab_ok KT m) (hno : (∀ (ci f r k' d : Nat) (fs : List (Nat × Nat × Nat × Nat)), KT[a]? = some (.inl (ci, fs)) → fs[f]? ≠ some (3, r, k', d)) ∧ ∀ (r len k' a' st : Nat), KT[a]? ≠ some (.inr (r, len, 4, k', a', st))) : ab_ok KT (ab_ap m a) := by
  have up : ∀ (i k : Nat), m.2.2.2.1[i]? = some k → (m.2.2.2.1 ++ [a])[i]? = some k := fun i k h => by
    rw [List.getElem?_append_left (List.getElem?_eq_some_iff.mp h).1]; exact h
  have dn : ∀ (i k : Nat), (m.2.2.2.1 ++ [a])[i]? = some k → m.2.2.2.1[i]? = some k ∨ (i = m.2.2.2.1.length ∧ k = a) := fun i k h => by
    by_cases hl : i < m.2.2.2.1.length
    · rw [List.getElem?_append_left hl] at h; exact Or.inl h
    · rw [List.getElem?_append_right (by omega)] at h
      have h1 : i - m.2.2.2.1.length < 1 := (List.getElem?_eq_some_iff.mp h).1
      have h2 : i = m.2.2.2.1.length := by omega
      subst h2
      simp at h
      exact Or.inr ⟨rfl, h.symm⟩
  refine ⟨?_, ?_, ?_, ?_, ?_⟩
  · intro q k ci f r k' d fs h1 h2 h3
    rcases dn q k h1 with h1 | ⟨-, rfl⟩
    · have := hok.1 q k ci f r k' d fs h1 h2 h3
      exact ⟨this.1, up _ _ this.2⟩
    · exact absurd h3 (hno.1 ci f r k' d fs h2)
  · intro q k r len k' a' st j h1 h2 h3
    rcases dn q k h1 with h1 | ⟨-, rfl⟩
    · have := hok.2.1 q k r len k' a' st j h1 h2 h3
      exact ⟨this.1, up _ _ this.2⟩
    · exact absurd h2 (hno.2 r len k' a' st)
  · intro q k ci f r k' d q' fs h1 h2 h3 h4
    rcases dn q k h1 with h1 | ⟨rfl, rfl⟩
    · have := hok.2.2.1 q k ci f r k' d q' fs h1 h2 h3 h4
      exact ⟨this.1, up _ _ this.2⟩
    · have := (hok.2.2.2.2 r m.2.2.2.1.length 0 (Nat.le_refl _)).2.2
      have h4' : m.2.2.1 r m.2.2.2.1.length 0 = some q' := h4
      rw [this] at h4'
      cases h4'
  · intro q k r len k' a' st j q' h1 h2 h4
    rcases dn q k h1 with h1 | ⟨rfl, rfl⟩
    · have := hok.2.2.2.1 q k r len k' a' st j q' h1 h2 h4
      exact ⟨this.1, up _ _ this.2⟩
    · have := (hok.2.2.2.2 r m.2.2.2.1.length j (Nat.le_refl _)).2.2
      have h4' : m.2.2.1 r m.2.2.2.1.length j = some q' := h4
      rw [this] at h4'
      cases h4'
  · intro r q j hl
    have hl' : (m.2.2.2.1 ++ [a]).length ≤ q := hl
    rw [List.length_append] at hl'
    exact hok.2.2.2.2 r q j (by omega)
theorem ab_gc_ap {m : Mm} {a : Nat} : ab_gc (ab_ap m a) = ab_gc m + 1 := by
  show (m.2.2.2.1 ++ [a]).length + m.2.2.2.2.1 = m.2.2.2.1.length + m.2.2.2.2.1 + 1
  rw [List.length_append]
  simp
  omega
theorem ab_gs_ap {m : Mm} {a : Nat} : ab_gs KT (ab_ap m a) = ab_gs KT m + ab_len KT a := by
  show ((m.2.2.2.1 ++ [a]).map (ab_len KT)).sum + m.2.2.2.2.2 = (m.2.2.2.1.map (ab_len KT)).sum + m.2.2.2.2.2 + ab_len KT a
  rw [List.map_append, List.sum_append]
  simp
  omega
/-- behind a new cell -/
theorem ab_grown {pc' a : Nat} {ad ac ad' ac' : Nat → Nat} {ls : Array Slot} {H H1 : Heap} {locs locs1 : List Loc} {cells slots : Nat} {L : List (Option AV)} {S S' : List AV} {m : Mm} (hnd : ab_nd KT) (ha : a ≠ 0)
    (hno : (∀ (ci f r k' d : Nat) (fs : List (Nat × Nat × Nat × Nat)), KT[a]? = some (.inl (ci, fs)) → fs[f]? ≠ some (3, r, k', d)) ∧ ∀ (r len k' a' st : Nat), KT[a]? ≠ some (.inr (r, len, 4, k', a', st)))
    (hI : ab_I KT cl D s A H0 ks0 ad0 ac0 g0 h0 ad ac m H locs cells slots) (hF : ab_F sc b ad m.2.2.2.1 nL ls L S) (hS' : ∀ v ∈ S', v ∈ S) (had : ∀ i, i < m.2.2.2.1.length → ad' i = ad i ∧ ac' i = ac i)
    (hKn : ∀ (r len t k' a' st : Nat), KT[a]? = some (.inr (r, len, t, k', a', st)) → ArrOfT s (ac' m.2.2.2.1.length) (ab_ty KT cl t k') ∧ va_RA s (ac' m.2.2.2.1.length) (ab_ty KT cl t k'))
    (w : ab_W p l e R s m0 args below meth cd Q KT cl D sc b A H0 ks0 g0 h0 nL G Hs ad0 ac0 (pc', L, .inr (.inr (a, some m.2.2.2.1.length)) :: S', ab_ap m a))
    (hP1 : va_P D cl (ab_w KT ad ac m ++ [(ad' m.2.2.2.1.length, ab_ce KT ad' ac' m m.2.2.2.1.length a)]) H1) (hD1 : va_D A (ab_w KT ad ac m ++ [(ad' m.2.2.2.1.length, ab_ce KT ad' ac' m m.2.2.2.1.length a)])) (hS1 : va_S A H0 H1 locs1) :
    W p l e R s m0 args below meth cd H1 locs1 (cells + 1) (slots + ab_len KT a) Q (F0 m0 pc' ls (.ref (ad' m.2.2.2.1.length) :: S'.map (ab_v ad b))) := by
  obtain ⟨hP, hD, hS, hKA, hok, hext, hn0, hce1, hcs1⟩ := hI
  rw [← ab_w_push hnd hok had] at hP1 hD1
  have up : ∀ (i k : Nat), m.2.2.2.1[i]? = some k → (m.2.2.2.1 ++ [a])[i]? = some k := fun i k h => by
    rw [List.getElem?_append_left (List.getElem?_eq_some_iff.mp h).1]; exact h
  obtain ⟨hF2, hmap⟩ := ab_F_ad (sc := sc) (b := b) (nL := nL) (ks' := m.2.2.2.1 ++ [a]) (⟨hF.1, hF.2.1, hF.2.2.1, fun v hv => hF.2.2.2 v (hS' v hv)⟩ : ab_F sc b ad m.2.2.2.1 nL ls L S') (fun i hi => (had i hi).1) up
  have hlast : (m.2.2.2.1 ++ [a])[m.2.2.2.1.length]? = some a := by simp
  have k := w.2.2 ad' ac' ls H1 locs1 (cells + 1) (slots + ab_len KT a) ⟨hP1, hD1, hS1, ?_, ab_ok_ap hok hno, fun q hq => ?_, ?_, ?_, ?_⟩ ⟨hF2.1, hF2.2.1, hF2.2.2.1, ab_c1 ?_ hF2.2.2.2⟩
  · have e : List.map (ab_v ad' b) ((pc', L, Sum.inr (Sum.inr (a, some m.2.2.2.1.length)) :: S', ab_ap m a) : Cf).2.2.1 = .ref (ad' m.2.2.2.1.length) :: S'.map (ab_v ad b) := by
      show ab_v ad' b (.inr (.inr (a, some m.2.2.2.1.length))) :: S'.map (ab_v ad' b) = _
      rw [ab_vr ha, hmap]
    rw [e] at k
    exact k
  · intro q k r len t k' a' st h1 h2
    have h1' : (m.2.2.2.1 ++ [a])[q]? = some k := h1
    by_cases hl : q < m.2.2.2.1.length
    · rw [List.getElem?_append_left hl] at h1'
      rw [(had q hl).2]
      exact hKA q k r len t k' a' st h1' h2
    · rw [List.getElem?_append_right (by omega)] at h1'
      have h3 : q - m.2.2.2.1.length < 1 := (List.getElem?_eq_some_iff.mp h1').1
      have h4 : q = m.2.2.2.1.length := by omega
      subst h4
      simp at h1'
      subst h1'
      exact hKn r len t k' a' st h2
  · have hq' : q < m.2.2.2.1.length := (List.getElem?_eq_some_iff.mp (hn0 q _ (List.getElem?_eq_getElem hq))).1
    rw [(had q hq').1, (had q hq').2]
    exact hext q hq
  · exact fun i k h => up i k (hn0 i k h)
  · show cells + 1 + g0 = ab_gc (ab_ap m a)
    rw [ab_gc_ap]
    omega
  · show slots + ab_len KT a + h0 = ab_gs KT (ab_ap m a)
    rw [ab_gs_ap]
    omega
  · show if a = 0 then sc.isSome = true else (m.2.2.2.1 ++ [a])[m.2.2.2.1.length]? = some a
    rw [if_neg ha]
    exact hlast
end
