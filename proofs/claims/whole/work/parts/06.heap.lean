/-! The small machine's heap instructions. -/
section
variable {p : Program} {l : Launch} {e : Env} {R : Room} {s : State} {m0 : MethodId} {args : Array Value} {below : List Frame} {meth : Method} {cd : Code} {Q : State → Prop} {cc : ByteArray}
variable {KT : List KS} {cl : List vw_C} {D : va_G} {sc : Option (Nat × (Nat → Int32))} {b : Nat} {A : Nat → Prop} {H0 : Heap} {ks0 : List Nat} {g0 h0 nL G Hs : Nat} {ad0 ac0 : Nat → Nat} {Ts : List Cond} {own : String}
/-- what the words say of a field that an instruction names -/
def ab_fld (cl : List vw_C) (Ts : List Cond) (own : String) (idx ci f : Nat) : Prop := ∃ (C : String) (T : u_T) (N : Nat), cl[ci]? = some (C, T, N) ∧ f < N ∧ (∀ w ∈ u_ws C T N, w ∈ Ts) ∧ Cond.fieldLink own idx (T f).1 (T f).2.1 (T f).2.2.1 ∈ Ts
theorem ab_wobj {ad ac : Nat → Nat} {m : Mm} {q k ci : Nat} {fs : List (Nat × Nat × Nat × Nat)} (hk : m.2.2.2.1[q]? = some k) (hKT : KT[k]? = some (.inl (ci, fs))) : (ab_w KT ad ac m)[q]? = some (ad q, .inr (ci, fs.map (ab_fv ad m q))) := by
  rw [ab_w_at hk]
  simp [ab_ce, hKT]
theorem ab_warr {ad ac : Nat → Nat} {m : Mm} {q k r len t k' a st : Nat} (hk : m.2.2.2.1[q]? = some k) (hKT : KT[k]? = some (.inr (r, len, t, k', a, st))) : (ab_w KT ad ac m)[q]? = some (ad q, .inl (ac q, len, ab_av ad m q r len t a st)) := by
  rw [ab_w_at hk]
  simp [ab_ce, hKT]
theorem ab_getf (hx : p.tables.exec = Jvm.exec) (hb : cd.code = cc) (hts : ∀ w ∈ Ts, w.before args s = true) (hown : s.vm.findClass own = some m0.cls) (hK0 : va_K D cl [] s) (h00 : KT[0]? = some (.inr (0, 0, 9, 0, 0, 0)))
    {pc idx a f k q t r k' d : Nat} {v : AV} {L : List (Option AV)} {S : List AV} {m : Mm} (hdg : decode cc pc = .ok (.getfield idx, 3)) (hfl : ab_fld cl Ts own idx a f) (hfs : ab_fs KT a f k = some (t, r, k', d))
    (hv : ((t = 0 ∨ t = 1) ∧ v = .inl (m.1 r q 0)) ∨ (t = 2 ∧ v = .inr (.inr (k', m.2.2.1 r q 0))) ∨ (t = 3 ∧ v = .inr (.inr (k', some (q + d)))))
    (w : ab_W p l e R s m0 args below meth cd Q KT cl D sc b A H0 ks0 g0 h0 nL G Hs ad0 ac0 (pc + 3, L, v :: S, m)) :
    ab_W p l e R s m0 args below meth cd Q KT cl D sc b A H0 ks0 g0 h0 nL G Hs ad0 ac0 (pc, L, .inr (.inr (k, some q)) :: S, m) := by
  obtain ⟨fs, hKT, hf⟩ := ab_fs_inv hfs
  obtain ⟨C, T, N, hc, hlt, hin, hlink⟩ := hfl
  have hk0 : k ≠ 0 := fun z => by subst z; rw [h00] at hKT; cases hKT
  refine ⟨w.1, w.2.1, fun ad ac ls H locs cells slots hI hF => ?_⟩
  have hk : m.2.2.2.1[q]? = some k := ab_ref (ab_h1 hF.2.2.2) hk0
  have hok := hI.2.2.2.2.1
  show W p l e R s m0 args below meth cd H locs cells slots Q (F0 m0 pc ls (ab_v ad b (.inr (.inr (k, some q))) :: S.map (ab_v ad b)))
  rw [ab_vr hk0]
  have hvv : ab_vv sc m.2.2.2.1 v ∧ ab_fv ad m q (t, r, k', d) = ab_v ad b v := by
    rcases hv with ⟨h1 | h1, rfl⟩ | ⟨rfl, rfl⟩ | ⟨rfl, rfl⟩
    · subst h1; exact ⟨trivial, rfl⟩
    · subst h1; exact ⟨trivial, rfl⟩
    · exact ⟨ab_vvo fun q' hq' => hok.2.2.1 q k a f r k' d q' fs hk hKT hf hq', ab_vrf fun q' hq' => (hok.2.2.1 q k a f r k' d q' fs hk hKT hf hq').1⟩
    · have h2 := hok.1 q k a f r k' d fs hk hKT hf
      exact ⟨ab_vvo fun q' hq' => by cases hq'; exact h2, (ab_vr h2.1).symm⟩
  refine va_get (D := D) (cl := cl) (tys := []) hx hb hts hin hown hK0 hI.1 q (ab_wobj hk hKT) hc f hlt (hts _ hlink) (fun _ h => h) (v := ab_v ad b v) ?_ hdg ?_
  · rw [List.getElem?_map, hf, ← hvv.2]; rfl
  · exact w.2.2 ad ac ls H locs cells slots hI ⟨hF.1, hF.2.1, hF.2.2.1, ab_c1 hvv.1 (ab_t1 hF.2.2.2)⟩
/-- what the words say of a field that is written -/
def ab_fldp (cl : List vw_C) (Ts : List Cond) (own : String) (nm : String) (idx ci f : Nat) (ty : FieldType) : Prop := ∃ (C : String) (T : u_T) (N : Nat) (ty0 : Nat → FieldType), cl[ci]? = some (C, T, N) ∧ f < N ∧ (∀ w ∈ u_ws C T N, w ∈ Ts) ∧ Cond.fieldLink own idx (T f).1 (T f).2.1 (T f).2.2.1 ∈ Ts ∧
  (∀ k, k < N → parseFieldDescriptor (T k).2.2.1 = some (ty0 k)) ∧ (∀ a, a < N → ∀ b, b < N → a ≠ b → (T a).2.1 ≠ (T b).2.1) ∧ ty0 f = ty ∧ ((T f).2.2.2 = false ∨ ((T f).2.2.2 = true ∧ nm = "<init>" ∧ (T f).1 = own))
theorem ab_put0 (hx : p.tables.exec = Jvm.exec) (hb : cd.code = cc) (hts : ∀ w ∈ Ts, w.before args s = true) (hown : s.vm.findClass own = some m0.cls) (hK0 : va_K D cl [] s) (h00 : KT[0]? = some (.inr (0, 0, 9, 0, 0, 0)))
    {pc idx a f k q t r k' d : Nat} {v : AV} {ty : FieldType} {L : List (Option AV)} {S : List AV} {m m' : Mm} (hdg : decode cc pc = .ok (.putfield idx, 3)) (hfl : ab_fldp cl Ts own meth.name idx a f ty) (hfs : ab_fs KT a f k = some (t, r, k', d)) (hnd : ab_nd KT)
    (hv : ∀ ad : Nat → Nat, ab_vv sc m.2.2.2.1 v → narrow ty (ab_v ad b v) = ab_v ad b v ∧ fits ty (ab_v ad b v) = true ∧ ab_fv ad m' q (t, r, k', d) = ab_v ad b v)
    (ho : ∀ (ad : Nat → Nat) (t' r' k2 d2 : Nat), r' ≠ r → ab_fv ad m' q (t', r', k2, d2) = ab_fv ad m q (t', r', k2, d2)) (hks : m'.2.2.2 = m.2.2.2)
    (hce : ∀ (ad ac : Nat → Nat) (q' k' : Nat), q' ≠ q → ab_ce KT ad ac m' q' k' = ab_ce KT ad ac m q' k') (hok' : ab_ok KT m → m.2.2.2.1[q]? = some k → ab_vv sc m.2.2.2.1 v → ab_ok KT m')
    (w : ab_W p l e R s m0 args below meth cd Q KT cl D sc b A H0 ks0 g0 h0 nL G Hs ad0 ac0 (pc + 3, L, S, m')) :
    ab_W p l e R s m0 args below meth cd Q KT cl D sc b A H0 ks0 g0 h0 nL G Hs ad0 ac0 (pc, L, v :: .inr (.inr (k, some q)) :: S, m) := by
  obtain ⟨fs, hKT, hf⟩ := ab_fs_inv hfs
  obtain ⟨C, T, N, ty0, hc, hlt, hin, hlink, hty, hnm, hty1, hfin⟩ := hfl
  have hk0 : k ≠ 0 := fun z => by subst z; rw [h00] at hKT; cases hKT
  have egc : ab_gc m' = ab_gc m := by unfold ab_gc; rw [hks]
  have egs : ab_gs KT m' = ab_gs KT m := by unfold ab_gs; rw [hks]
  refine ⟨by rw [show ((pc, L, v :: .inr (.inr (k, some q)) :: S, m) : Cf).2.2.2 = m from rfl, ← egc]; exact w.1, by rw [show ((pc, L, v :: .inr (.inr (k, some q)) :: S, m) : Cf).2.2.2 = m from rfl, ← egs]; exact w.2.1, fun ad ac ls H locs cells slots hI hF => ?_⟩
  have hk : m.2.2.2.1[q]? = some k := ab_ref (ab_h1 (ab_t1 hF.2.2.2)) hk0
  have hvv := ab_h1 hF.2.2.2
  obtain ⟨hP, hD, hS, hKA, hok, hext, hn0, hce1, hcs1⟩ := hI
  obtain ⟨hn, hfit, hfv⟩ := hv ad hvv
  show W p l e R s m0 args below meth cd H locs cells slots Q (F0 m0 pc ls (ab_v ad b v :: ab_v ad b (.inr (.inr (k, some q))) :: S.map (ab_v ad b)))
  rw [ab_vr hk0]
  have hset : (ab_w KT ad ac m).set q (ad q, .inr (a, (fs.map (ab_fv ad m q)).set f (ab_v ad b v))) = ab_w KT ad ac m' := by
    refine ab_w_set hk (by rw [hks]) ?_ (fun q' k' h => hce ad ac q' k' h)
    rw [ab_fset hf hfv (fun f' t' k2 d2 h => hnd.1 _ _ _ _ _ _ _ _ _ _ _ _ hKT h hf) (fun t' r' k2 d2 h => ho ad t' r' k2 d2 h)]
    simp [ab_ce, hKT]
  have hl : f < (fs.map (ab_fv ad m q)).length := by rw [List.length_map]; exact (List.getElem?_eq_some_iff.mp hf).1
  have kk : ∀ (H1 : Heap) (locs1 : List Loc), va_P D cl ((ab_w KT ad ac m).set q (ad q, .inr (a, (fs.map (ab_fv ad m q)).set f (ab_v ad b v)))) H1 → va_D A ((ab_w KT ad ac m).set q (ad q, .inr (a, (fs.map (ab_fv ad m q)).set f (ab_v ad b v)))) → va_S A H0 H1 locs1 → W p l e R s m0 args below meth cd H1 locs1 cells slots Q (F0 m0 (pc + 3) ls (S.map (ab_v ad b))) := by
    intro H1 locs1 hP1 hD1 hS1
    rw [hset] at hP1 hD1
    refine w.2.2 ad ac ls H1 locs1 cells slots ⟨hP1, hD1, hS1, ?_, hok' hok hk hvv, hext, ?_, ?_, ?_⟩ ⟨hF.1, hF.2.1, ?_, ?_⟩
    · show ab_K KT cl ac m'.2.2.2.1 s
      rw [hks]; exact hKA
    · show ∀ (i k : Nat), ks0[i]? = some k → m'.2.2.2.1[i]? = some k
      rw [hks]; exact hn0
    · exact hce1.trans egc.symm
    · exact hcs1.trans egs.symm
    · show ∀ (i : Nat) (v : AV), L[i]? = some (some v) → ab_vv sc m'.2.2.2.1 v
      rw [hks]; exact hF.2.2.1
    · show ∀ v ∈ S, ab_vv sc m'.2.2.2.1 v
      rw [hks]; exact ab_t1 (ab_t1 hF.2.2.2)
  rcases hfin with hfin | ⟨hfin, hin2, hdecl⟩
  · exact va_put (D := D) (cl := cl) (tys := []) hx hb hts hin ty0 hty hnm hown hK0 hP hD hS q (ab_wobj hk hKT) hc f hlt (hts _ hlink) (fun _ h => h) hfin (by rw [hty f hlt, hty1]) hn hfit hl hdg kk
  · exact va_putF (D := D) (cl := cl) (tys := []) hx hb hts hin ty0 hty hnm hown hK0 hP hD hS q (ab_wobj hk hKT) hc f hlt (hts _ hlink) (fun _ h => h) hfin hin2 hdecl (by rw [hty f hlt, hty1]) hn hfit hl hdg kk
theorem ab_putI (hx : p.tables.exec = Jvm.exec) (hb : cd.code = cc) (hts : ∀ w ∈ Ts, w.before args s = true) (hown : s.vm.findClass own = some m0.cls) (hK0 : va_K D cl [] s) (h00 : KT[0]? = some (.inr (0, 0, 9, 0, 0, 0))) (hnd : ab_nd KT)
    {pc idx a f k q t r k' d : Nat} {v : Int32} {ty : FieldType} {L : List (Option AV)} {S : List AV} {m : Mm} (hdg : decode cc pc = .ok (.putfield idx, 3)) (hfl : ab_fldp cl Ts own meth.name idx a f ty) (hfs : ab_fs KT a f k = some (t, r, k', d))
    (hty : (t = 0 → ty = .int) ∧ (t = 1 → ty = .boolean)) (hv : t = 0 ∨ (t = 1 ∧ (v = 0 ∨ v = 1)))
    (w : ab_W p l e R s m0 args below meth cd Q KT cl D sc b A H0 ks0 g0 h0 nL G Hs ad0 ac0 (pc + 3, L, S, ab_uI m r q 0 v)) :
    ab_W p l e R s m0 args below meth cd Q KT cl D sc b A H0 ks0 g0 h0 nL G Hs ad0 ac0 (pc, L, .inl v :: .inr (.inr (k, some q)) :: S, m) := by
  have hrd : (ab_uI m r q 0 v).1 r q 0 = v := by simp [ab_uI]
  refine ab_put0 (m' := ab_uI m r q 0 v) hx hb hts hown hK0 h00 hdg hfl hfs hnd ?_ ?_ rfl (fun ad ac q' k' h => ab_ce_I q' k' h) (fun h hk _ => ab_ok_I h (List.getElem?_eq_some_iff.mp hk).1) w
  · intro ad _
    rcases hv with rfl | ⟨rfl, hv⟩
    · have := hty.1 rfl
      subst this
      refine ⟨rfl, rfl, ?_⟩
      show Value.int ((ab_uI m r q 0 v).1 r q 0) = .int v
      rw [hrd]
    · have := hty.2 rfl
      subst this
      have h2 : Value.int ((ab_uI m r q 0 v).1 r q 0) = .int v := by rw [hrd]
      rcases hv with rfl | rfl
      · exact ⟨show narrow .boolean (.int 0) = .int 0 by decide +kernel, show fits .boolean (.int 0) = true by decide +kernel, h2⟩
      · exact ⟨show narrow .boolean (.int 1) = .int 1 by decide +kernel, show fits .boolean (.int 1) = true by decide +kernel, h2⟩
  · intro ad t' r' k2 d2 h
    have e1 : (ab_uI m r q 0 v).1 r' q 0 = m.1 r' q 0 := by simp [ab_uI, h]
    unfold ab_fv
    split <;> first | rfl | (rename_i heq; simp only [Prod.mk.injEq] at heq; obtain ⟨-, rfl, -, -⟩ := heq; rw [e1]) | (rename_i heq; simp only [Prod.mk.injEq] at heq; obtain ⟨-, rfl, -, -⟩ := heq; rfl)
theorem ab_putR (hx : p.tables.exec = Jvm.exec) (hb : cd.code = cc) (hts : ∀ w ∈ Ts, w.before args s = true) (hown : s.vm.findClass own = some m0.cls) (hK0 : va_K D cl [] s) (h00 : KT[0]? = some (.inr (0, 0, 9, 0, 0, 0))) (hnd : ab_nd KT)
    {pc idx a f k q r k2 q2 d : Nat} {ty : FieldType} {L : List (Option AV)} {S : List AV} {m : Mm} (hdg : decode cc pc = .ok (.putfield idx, 3)) (hfl : ab_fldp cl Ts own meth.name idx a f ty) (hfs : ab_fs KT a f k = some (2, r, k2, d))
    (hty : (∃ n, ty = .object n) ∨ ∃ t, ty = .array t) (hk2 : k2 ≠ 0)
    (w : ab_W p l e R s m0 args below meth cd Q KT cl D sc b A H0 ks0 g0 h0 nL G Hs ad0 ac0 (pc + 3, L, S, ab_uR m r q 0 (some q2))) :
    ab_W p l e R s m0 args below meth cd Q KT cl D sc b A H0 ks0 g0 h0 nL G Hs ad0 ac0 (pc, L, .inr (.inr (k2, some q2)) :: .inr (.inr (k, some q)) :: S, m) := by
  obtain ⟨fs, hKT, hf⟩ := ab_fs_inv hfs
  have hrd : (ab_uR m r q 0 (some q2)).2.2.1 r q 0 = some q2 := by simp [ab_uR]
  refine ab_put0 (m' := ab_uR m r q 0 (some q2)) hx hb hts hown hK0 h00 hdg hfl hfs hnd ?_ ?_ rfl (fun ad ac q' k' h => ab_ce_R q' k' h) (fun h hk hvv => ab_ok_R h hk hnd hk2 (ab_ref hvv hk2) (Or.inl ⟨a, fs, f, d, hKT, hf⟩)) w
  · intro ad _
    rw [ab_vr hk2]
    refine ⟨?_, ?_, ?_⟩
    · rcases hty with ⟨n, rfl⟩ | ⟨t, rfl⟩ <;> rfl
    · rcases hty with ⟨n, rfl⟩ | ⟨t, rfl⟩ <;> rfl
    · show va_rf (((ab_uR m r q 0 (some q2)).2.2.1 r q 0).map ad) = _
      rw [hrd]
      rfl
  · intro ad t' r' k2' d2 h
    have e1 : (ab_uR m r q 0 (some q2)).2.2.1 r' q 0 = m.2.2.1 r' q 0 := by simp [ab_uR, h]
    unfold ab_fv
    split <;> first | rfl | (rename_i heq; simp only [Prod.mk.injEq] at heq; obtain ⟨-, rfl, -, -⟩ := heq; rw [e1]) | (rename_i heq; simp only [Prod.mk.injEq] at heq; obtain ⟨-, rfl, -, -⟩ := heq; rfl)
theorem ab_iald (hx : p.tables.exec = Jvm.exec) (hb : cd.code = cc) (hK0 : va_K D cl [] s)
    {pc k q r len k' a st i : Nat} {j : Int32} {L : List (Option AV)} {S : List AV} {m : Mm} (hdg : decode cc pc = .ok (.iaload, 1)) (hk0 : k ≠ 0) (has : KT[k]? = some (.inr (r, len, 0, k', a, st))) (hi : ab_ix j len = some i)
    (w : ab_W p l e R s m0 args below meth cd Q KT cl D sc b A H0 ks0 g0 h0 nL G Hs ad0 ac0 (pc + 1, L, .inl (m.1 r q i) :: S, m)) :
    ab_W p l e R s m0 args below meth cd Q KT cl D sc b A H0 ks0 g0 h0 nL G Hs ad0 ac0 (pc, L, .inl j :: .inr (.inr (k, some q)) :: S, m) := by
  obtain ⟨hin, rfl⟩ := ab_ix_in hi
  refine ⟨w.1, w.2.1, fun ad ac ls H locs cells slots hI hF => ?_⟩
  have hk : m.2.2.2.1[q]? = some k := ab_ref (ab_h1 (ab_t1 hF.2.2.2)) hk0
  show W p l e R s m0 args below meth cd H locs cells slots Q (F0 m0 pc ls (.int j :: ab_v ad b (.inr (.inr (k, some q))) :: S.map (ab_v ad b)))
  rw [ab_vr hk0]
  exact va_iald (D := D) hx hb (ab_K1 hK0 hI.2.2.2.1 hk has) hI.1 q 0 (ab_warr hk has) rfl hin hdg (w.2.2 ad ac ls H locs cells slots hI ⟨hF.1, hF.2.1, hF.2.2.1, ab_c1 trivial (ab_t1 (ab_t1 hF.2.2.2))⟩)
theorem ab_zald (hx : p.tables.exec = Jvm.exec) (hb : cd.code = cc) (hK0 : va_K D cl [] s)
    {pc k q r len k' a st i : Nat} {j : Int32} {L : List (Option AV)} {S : List AV} {m : Mm} (hdg : decode cc pc = .ok (.baload, 1)) (hk0 : k ≠ 0) (has : KT[k]? = some (.inr (r, len, 1, k', a, st))) (hi : ab_ix j len = some i)
    (w : ab_W p l e R s m0 args below meth cd Q KT cl D sc b A H0 ks0 g0 h0 nL G Hs ad0 ac0 (pc + 1, L, .inl (m.1 r q i) :: S, m)) :
    ab_W p l e R s m0 args below meth cd Q KT cl D sc b A H0 ks0 g0 h0 nL G Hs ad0 ac0 (pc, L, .inl j :: .inr (.inr (k, some q)) :: S, m) := by
  obtain ⟨hin, rfl⟩ := ab_ix_in hi
  refine ⟨w.1, w.2.1, fun ad ac ls H locs cells slots hI hF => ?_⟩
  have hk : m.2.2.2.1[q]? = some k := ab_ref (ab_h1 (ab_t1 hF.2.2.2)) hk0
  show W p l e R s m0 args below meth cd H locs cells slots Q (F0 m0 pc ls (.int j :: ab_v ad b (.inr (.inr (k, some q))) :: S.map (ab_v ad b)))
  rw [ab_vr hk0]
  exact va_zald (D := D) hx hb (ab_K1 hK0 hI.2.2.2.1 hk has) hI.1 q 0 (ab_warr hk has) rfl hin hdg (w.2.2 ad ac ls H locs cells slots hI ⟨hF.1, hF.2.1, hF.2.2.1, ab_c1 trivial (ab_t1 (ab_t1 hF.2.2.2))⟩)
theorem ab_lald (hx : p.tables.exec = Jvm.exec) (hb : cd.code = cc) (hK0 : va_K D cl [] s)
    {pc k q r len k' a st i : Nat} {j : Int32} {L : List (Option AV)} {S : List AV} {m : Mm} (hdg : decode cc pc = .ok (.laload, 1)) (hk0 : k ≠ 0) (has : KT[k]? = some (.inr (r, len, 2, k', a, st))) (hi : ab_ix j len = some i)
    (w : ab_W p l e R s m0 args below meth cd Q KT cl D sc b A H0 ks0 g0 h0 nL G Hs ad0 ac0 (pc + 1, L, .inr (.inl (m.2.1 r q i)) :: S, m)) :
    ab_W p l e R s m0 args below meth cd Q KT cl D sc b A H0 ks0 g0 h0 nL G Hs ad0 ac0 (pc, L, .inl j :: .inr (.inr (k, some q)) :: S, m) := by
  obtain ⟨hin, rfl⟩ := ab_ix_in hi
  refine ⟨w.1, w.2.1, fun ad ac ls H locs cells slots hI hF => ?_⟩
  have hk : m.2.2.2.1[q]? = some k := ab_ref (ab_h1 (ab_t1 hF.2.2.2)) hk0
  show W p l e R s m0 args below meth cd H locs cells slots Q (F0 m0 pc ls (.int j :: ab_v ad b (.inr (.inr (k, some q))) :: S.map (ab_v ad b)))
  rw [ab_vr hk0]
  exact va_lald (D := D) hx hb (ab_K1 hK0 hI.2.2.2.1 hk has) hI.1 q 0 (ab_warr hk has) rfl hin hdg (w.2.2 ad ac ls H locs cells slots hI ⟨hF.1, hF.2.1, hF.2.2.1, ab_c1 trivial (ab_t1 (ab_t1 hF.2.2.2))⟩)
theorem ab_aald (hx : p.tables.exec = Jvm.exec) (hb : cd.code = cc) (hK0 : va_K D cl [] s)
    {pc k q r len t k' a st i : Nat} {j : Int32} {v : AV} {L : List (Option AV)} {S : List AV} {m : Mm} (hdg : decode cc pc = .ok (.aaload, 1)) (hk0 : k ≠ 0) (has : KT[k]? = some (.inr (r, len, t, k', a, st))) (hi : ab_ix j len = some i)
    (hv : (t = 3 ∧ v = .inr (.inr (k', m.2.2.1 r q i))) ∨ (t = 4 ∧ v = .inr (.inr (k', some (q + a + st * i)))))
    (w : ab_W p l e R s m0 args below meth cd Q KT cl D sc b A H0 ks0 g0 h0 nL G Hs ad0 ac0 (pc + 1, L, v :: S, m)) :
    ab_W p l e R s m0 args below meth cd Q KT cl D sc b A H0 ks0 g0 h0 nL G Hs ad0 ac0 (pc, L, .inl j :: .inr (.inr (k, some q)) :: S, m) := by
  obtain ⟨hin, rfl⟩ := ab_ix_in hi
  have hlt : j.toNatClampNeg < len := Nat.not_le.mp fun q => hin (Or.inr q)
  refine ⟨w.1, w.2.1, fun ad ac ls H locs cells slots hI hF => ?_⟩
  have hk : m.2.2.2.1[q]? = some k := ab_ref (ab_h1 (ab_t1 hF.2.2.2)) hk0
  have hok := hI.2.2.2.2.1
  show W p l e R s m0 args below meth cd H locs cells slots Q (F0 m0 pc ls (.int j :: ab_v ad b (.inr (.inr (k, some q))) :: S.map (ab_v ad b)))
  rw [ab_vr hk0]
  rcases hv with ⟨rfl, rfl⟩ | ⟨rfl, rfl⟩
  · have h4 := fun q' hq' => hok.2.2.2.1 q k r len k' a st j.toNatClampNeg q' hk has hq'
    refine va_aldq (D := D) (C := ab_cn KT cl k') hx hb (ab_K1 hK0 hI.2.2.2.1 hk has) hI.1 q 0 (ab_warr hk has) rfl hin hdg ?_
    show W p l e R s m0 args below meth cd H locs cells slots _ (F0 m0 (pc + 1) ls (va_rf ((m.2.2.1 r q j.toNatClampNeg).map ad) :: S.map (ab_v ad b)))
    rw [ab_vrf (b := b) (k := k') (fun q' hq' => (h4 q' hq').1)]
    exact w.2.2 ad ac ls H locs cells slots hI ⟨hF.1, hF.2.1, hF.2.2.1, ab_c1 (ab_vvo h4) (ab_t1 (ab_t1 hF.2.2.2))⟩
  · have h4 := hok.2.1 q k r len k' a st j.toNatClampNeg hk has hlt
    refine va_aldq (D := D) (C := ab_cn KT cl k') hx hb (ab_K1 hK0 hI.2.2.2.1 hk has) hI.1 q 0 (ab_warr hk has) rfl hin hdg ?_
    show W p l e R s m0 args below meth cd H locs cells slots _ (F0 m0 (pc + 1) ls (va_rf (if j.toNatClampNeg < len then some (ad (q + a + st * j.toNatClampNeg)) else none) :: S.map (ab_v ad b)))
    rw [if_pos hlt]
    have := w.2.2 ad ac ls H locs cells slots hI ⟨hF.1, hF.2.1, hF.2.2.1, ab_c1 (ab_vvo fun q' hq' => by cases hq'; exact h4) (ab_t1 (ab_t1 hF.2.2.2))⟩
    rw [show List.map (ab_v ad b) (pc + 1, L, Sum.inr (Sum.inr (k', some (q + a + st * j.toNatClampNeg))) :: S, m).2.2.1 = ab_v ad b (.inr (.inr (k', some (q + a + st * j.toNatClampNeg)))) :: S.map (ab_v ad b) from rfl, ab_vr h4.1] at this
    exact this
theorem ab_sld (hx : p.tables.exec = Jvm.exec) (hb : cd.code = cc) {z : Nat × (Nat → Int32)} (hsc : va_X b z.1 z.2 s H0 ∧ b < H0.size ∧ ¬ A b)
    {pc i : Nat} {o : Option Nat} {j : Int32} {L : List (Option AV)} {S : List AV} {m : Mm} (hdg : decode cc pc = .ok (.iaload, 1)) (hi : ab_ix j z.1 = some i) (ho : o ≠ none)
    (w : ab_W p l e R s m0 args below meth cd Q KT cl D sc b A H0 ks0 g0 h0 nL G Hs ad0 ac0 (pc + 1, L, .inl (z.2 i) :: S, m)) :
    ab_W p l e R s m0 args below meth cd Q KT cl D sc b A H0 ks0 g0 h0 nL G Hs ad0 ac0 (pc, L, .inl j :: .inr (.inr (0, o)) :: S, m) := by
  obtain ⟨hin, rfl⟩ := ab_ix_in hi
  refine ⟨w.1, w.2.1, fun ad ac ls H locs cells slots hI hF => ?_⟩
  cases o with
  | none => exact absurd rfl ho
  | some q =>
    show W p l e R s m0 args below meth cd H locs cells slots Q (F0 m0 pc ls (.int j :: .ref b :: S.map (ab_v ad b)))
    exact va_sld hx hb hsc.1 hsc.2.1 hsc.2.2 hI.2.2.1 hin hdg (w.2.2 ad ac ls H locs cells slots hI ⟨hF.1, hF.2.1, hF.2.2.1, ab_c1 trivial (ab_t1 (ab_t1 hF.2.2.2))⟩)
theorem ab_slen (hx : p.tables.exec = Jvm.exec) (hb : cd.code = cc) {z : Nat × (Nat → Int32)} (hsc : va_X b z.1 z.2 s H0 ∧ b < H0.size ∧ ¬ A b)
    {pc : Nat} {o : Option Nat} {L : List (Option AV)} {S : List AV} {m : Mm} (hdg : decode cc pc = .ok (.arraylength, 1)) (ho : o ≠ none)
    (w : ab_W p l e R s m0 args below meth cd Q KT cl D sc b A H0 ks0 g0 h0 nL G Hs ad0 ac0 (pc + 1, L, .inl (Int32.ofNat z.1) :: S, m)) :
    ab_W p l e R s m0 args below meth cd Q KT cl D sc b A H0 ks0 g0 h0 nL G Hs ad0 ac0 (pc, L, .inr (.inr (0, o)) :: S, m) := by
  refine ⟨w.1, w.2.1, fun ad ac ls H locs cells slots hI hF => ?_⟩
  cases o with
  | none => exact absurd rfl ho
  | some q =>
    show W p l e R s m0 args below meth cd H locs cells slots Q (F0 m0 pc ls (.ref b :: S.map (ab_v ad b)))
    exact va_slen hx hb hsc.1 hsc.2.1 hsc.2.2 hI.2.2.1 hdg (w.2.2 ad ac ls H locs cells slots hI ⟨hF.1, hF.2.1, hF.2.2.1, ab_c1 trivial (ab_t1 hF.2.2.2)⟩)
theorem ab_alen (hx : p.tables.exec = Jvm.exec) (hb : cd.code = cc) (hK0 : va_K D cl [] s)
    {pc k q : Nat} {z : Nat × Nat × Nat × Nat × Nat × Nat} {L : List (Option AV)} {S : List AV} {m : Mm} (hdg : decode cc pc = .ok (.arraylength, 1)) (hk0 : k ≠ 0) (has : KT[k]? = some (.inr z))
    (w : ab_W p l e R s m0 args below meth cd Q KT cl D sc b A H0 ks0 g0 h0 nL G Hs ad0 ac0 (pc + 1, L, .inl (Int32.ofNat z.2.1) :: S, m)) :
    ab_W p l e R s m0 args below meth cd Q KT cl D sc b A H0 ks0 g0 h0 nL G Hs ad0 ac0 (pc, L, .inr (.inr (k, some q)) :: S, m) := by
  obtain ⟨r, len, t, k', a, st⟩ := z
  refine ⟨w.1, w.2.1, fun ad ac ls H locs cells slots hI hF => ?_⟩
  have hk : m.2.2.2.1[q]? = some k := ab_ref (ab_h1 hF.2.2.2) hk0
  show W p l e R s m0 args below meth cd H locs cells slots Q (F0 m0 pc ls (ab_v ad b (.inr (.inr (k, some q))) :: S.map (ab_v ad b)))
  rw [ab_vr hk0]
  exact va_alen (D := D) hx hb (ab_K1 hK0 hI.2.2.2.1 hk has) hI.1 q 0 (ab_warr hk has) rfl rfl hdg (w.2.2 ad ac ls H locs cells slots hI ⟨hF.1, hF.2.1, hF.2.2.1, ab_c1 trivial (ab_t1 hF.2.2.2)⟩)
end
