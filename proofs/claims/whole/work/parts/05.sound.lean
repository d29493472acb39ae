/-! One instruction of the small machine, and its row of the kit. -/
section
variable {p : Program} {l : Launch} {e : Env} {R : Room} {s : State} {m0 : MethodId} {args : Array Value} {below : List Frame} {meth : Method} {cd : Code} {Q : State → Prop} {cc : ByteArray}
variable {KT : List KS} {cl : List vw_C} {D : va_G} {sc : Option (Nat × (Nat → Int32))} {b : Nat} {A : Nat → Prop} {H0 : Heap} {ks0 : List Nat} {g0 h0 nL G Hs : Nat} {ad0 ac0 : Nat → Nat} {Ts : List Cond} {own : String}
def ab_W (p : Program) (l : Launch) (e : Env) (R : Room) (s : State) (m0 : MethodId) (args : Array Value) (below : List Frame) (meth : Method) (cd : Code) (Q : State → Prop) (KT : List KS) (cl : List vw_C) (D : va_G) (sc : Option (Nat × (Nat → Int32))) (b : Nat) (A : Nat → Prop) (H0 : Heap) (ks0 : List Nat) (g0 h0 nL G Hs : Nat) (ad0 ac0 : Nat → Nat) (c : Cf) : Prop :=
  ab_gc c.2.2.2 ≤ G ∧ ab_gs KT c.2.2.2 ≤ Hs ∧ ∀ (ad ac : Nat → Nat) (ls : Array Slot) (H : Heap) (locs : List Loc) (cells slots : Nat), ab_I KT cl D s A H0 ks0 ad0 ac0 g0 h0 ad ac c.2.2.2 H locs cells slots → ab_F sc b ad c.2.2.2.2.2.2.1 nL ls c.2.1 c.2.2.1 →
    W p l e R s m0 args below meth cd H locs cells slots Q (F0 m0 c.1 ls (c.2.2.1.map (ab_v ad b)))
theorem ab_t1 {P : AV → Prop} {x : AV} {S : List AV} (h : ∀ v ∈ x :: S, P v) : ∀ v ∈ S, P v := fun v hv => h v (List.mem_cons_of_mem _ hv)
theorem ab_h1 {P : AV → Prop} {x : AV} {S : List AV} (h : ∀ v ∈ x :: S, P v) : P x := h x List.mem_cons_self
theorem ab_c1 {P : AV → Prop} {x : AV} {S : List AV} (hx : P x) (h : ∀ v ∈ S, P v) : ∀ v ∈ x :: S, P v := List.forall_mem_cons.mpr ⟨hx, h⟩
theorem ab_vvi {ks : List Nat} {x : Int32} : ab_vv sc ks (.inl x) := trivial
theorem ab_vvl {ks : List Nat} {x : Int64} : ab_vv sc ks (.inr (.inl x)) := trivial
theorem ab_pure {pc pc' : Nat} {L : List (Option AV)} {S S' : List AV} {m : Mm} (w : ab_W p l e R s m0 args below meth cd Q KT cl D sc b A H0 ks0 g0 h0 nL G Hs ad0 ac0 (pc', L, S', m))
    (hv : (∀ (i : Nat) (v : AV), L[i]? = some (some v) → ab_vv sc m.2.2.2.1 v) → (∀ v ∈ S, ab_vv sc m.2.2.2.1 v) → ∀ v ∈ S', ab_vv sc m.2.2.2.1 v)
    (row : ∀ (ad : Nat → Nat) (ls : Array Slot) (H : Heap) (locs : List Loc) (cells slots : Nat), (∀ (i : Nat) (v : AV), L[i]? = some (some v) → ls[i]? = some (.val (ab_v ad b v))) →
      W p l e R s m0 args below meth cd H locs cells slots Q (F0 m0 pc' ls (S'.map (ab_v ad b))) → W p l e R s m0 args below meth cd H locs cells slots Q (F0 m0 pc ls (S.map (ab_v ad b)))) :
    ab_W p l e R s m0 args below meth cd Q KT cl D sc b A H0 ks0 g0 h0 nL G Hs ad0 ac0 (pc, L, S, m) :=
  ⟨w.1, w.2.1, fun ad ac ls H locs cells slots hI hF => row ad ls H locs cells slots (fun i v hi => ab_L_at hF.2.1 hi) (w.2.2 ad ac ls H locs cells slots hI ⟨hF.1, hF.2.1, hF.2.2.1, hv hF.2.2.1 hF.2.2.2⟩)⟩
theorem ab_sto {pc pc' a : Nat} {v : AV} {L : List (Option AV)} {S S' : List AV} {m : Mm} (w : ab_W p l e R s m0 args below meth cd Q KT cl D sc b A H0 ks0 g0 h0 nL G Hs ad0 ac0 (pc', ab_sl L a v, S', m))
    (hv : (∀ (i : Nat) (v : AV), L[i]? = some (some v) → ab_vv sc m.2.2.2.1 v) → (∀ v ∈ S, ab_vv sc m.2.2.2.1 v) → ab_vv sc m.2.2.2.1 v ∧ ∀ v ∈ S', ab_vv sc m.2.2.2.1 v)
    (row : ∀ (ad : Nat → Nat) (ls : Array Slot) (H : Heap) (locs : List Loc) (cells slots : Nat), lv_has ls nL (ab_al ad b L) → (∀ v ∈ S, ab_vv sc m.2.2.2.1 v) →
      (∀ ls' : Array Slot, lv_has ls' nL ((a, ab_v ad b v) :: (ab_al ad b L).filter (fun q => !(q.1 == a) && !(q.1 + 1 == a && q.2.category == 2))) → W p l e R s m0 args below meth cd H locs cells slots Q (F0 m0 pc' ls' (S'.map (ab_v ad b)))) →
      W p l e R s m0 args below meth cd H locs cells slots Q (F0 m0 pc ls (S.map (ab_v ad b)))) :
    ab_W p l e R s m0 args below meth cd Q KT cl D sc b A H0 ks0 g0 h0 nL G Hs ad0 ac0 (pc, L, S, m) := by
  refine ⟨w.1, w.2.1, fun ad ac ls H locs cells slots hI hF => row ad ls H locs cells slots hF.2.1 hF.2.2.2 fun ls' h' => w.2.2 ad ac ls' H locs cells slots hI ⟨?_, ab_L_of h' ?_, ?_, (hv hF.2.2.1 hF.2.2.2).2⟩⟩
  · show (ab_sl L a v).length = nL
    rw [ab_sl_len]
    exact hF.1
  · intro i w hw
    rcases ab_sl_at hw with ⟨rfl, rfl⟩ | ⟨h1, h2, h3⟩
    · exact List.mem_cons_self
    · refine List.mem_cons_of_mem _ (List.mem_filter.mpr ⟨ab_mem_al.mpr ⟨w, h2, rfl⟩, ?_⟩)
      by_cases h4 : i + 1 = a
      · have h5 : (ab_v ad b w).category = 1 := ab_cat (h3 h4)
        simp [h1, h5]
      · simp [h1, h4]
  · intro i w hw
    rcases ab_sl_at hw with ⟨rfl, rfl⟩ | ⟨h1, h2, h3⟩
    · exact (hv hF.2.2.1 hF.2.2.2).1
    · exact hF.2.2.1 i w h2
theorem ab_sto2 {pc pc' a : Nat} {v : AV} {L : List (Option AV)} {S S' : List AV} {m : Mm} (w : ab_W p l e R s m0 args below meth cd Q KT cl D sc b A H0 ks0 g0 h0 nL G Hs ad0 ac0 (pc', ab_sl2 L a v, S', m))
    (hv : (∀ v ∈ S, ab_vv sc m.2.2.2.1 v) → ab_vv sc m.2.2.2.1 v ∧ ∀ v ∈ S', ab_vv sc m.2.2.2.1 v)
    (row : ∀ (ad : Nat → Nat) (ls : Array Slot) (H : Heap) (locs : List Loc) (cells slots : Nat), lv_has ls nL (ab_al ad b L) →
      (∀ ls' : Array Slot, lv_has ls' nL ((a, ab_v ad b v) :: (ab_al ad b L).filter (fun q => !(q.1 == a) && (!(q.1 == a + 1) && !(q.1 + 1 == a && q.2.category == 2)))) → W p l e R s m0 args below meth cd H locs cells slots Q (F0 m0 pc' ls' (S'.map (ab_v ad b)))) →
      W p l e R s m0 args below meth cd H locs cells slots Q (F0 m0 pc ls (S.map (ab_v ad b)))) :
    ab_W p l e R s m0 args below meth cd Q KT cl D sc b A H0 ks0 g0 h0 nL G Hs ad0 ac0 (pc, L, S, m) := by
  refine ⟨w.1, w.2.1, fun ad ac ls H locs cells slots hI hF => row ad ls H locs cells slots hF.2.1 fun ls' h' => w.2.2 ad ac ls' H locs cells slots hI ⟨?_, ab_L_of h' ?_, ?_, (hv hF.2.2.2).2⟩⟩
  · show (ab_sl2 L a v).length = nL
    rw [ab_sl2_len]
    exact hF.1
  · intro i w hw
    rcases ab_sl2_at hw with ⟨rfl, rfl⟩ | ⟨h1, h0, h2, h3⟩
    · exact List.mem_cons_self
    · refine List.mem_cons_of_mem _ (List.mem_filter.mpr ⟨ab_mem_al.mpr ⟨w, h2, rfl⟩, ?_⟩)
      by_cases h4 : i + 1 = a
      · have h5 : (ab_v ad b w).category = 1 := ab_cat (h3 h4)
        simp [h1, h0, h5]
      · simp [h1, h0, h4]
  · intro i w hw
    rcases ab_sl2_at hw with ⟨rfl, rfl⟩ | ⟨h1, h0, h2, h3⟩
    · exact (hv hF.2.2.2).1
    · exact hF.2.2.1 i w h2
theorem ab_ok_I {m : Mm} {r q j : Nat} {x : Int32} (h : ab_ok KT m) (hq : q < m.2.2.2.1.length) : ab_ok KT (ab_uI m r q j x) := by
  refine ⟨h.1, h.2.1, h.2.2.1, h.2.2.2.1, fun r' q' j' hl => ?_⟩
  have h1 := h.2.2.2.2 r' q' j' hl
  have hne : q' ≠ q := by
    have : m.2.2.2.1.length ≤ q' := hl
    omega
  refine ⟨?_, h1.2⟩
  show (if r' = r ∧ q' = q ∧ j' = j then x else m.1 r' q' j') = 0
  rw [if_neg (fun z => hne z.2.1)]
  exact h1.1
theorem ab_ok_J {m : Mm} {r q j : Nat} {x : Int64} (h : ab_ok KT m) (hq : q < m.2.2.2.1.length) : ab_ok KT (ab_uJ m r q j x) := by
  refine ⟨h.1, h.2.1, h.2.2.1, h.2.2.2.1, fun r' q' j' hl => ?_⟩
  have h1 := h.2.2.2.2 r' q' j' hl
  have hne : q' ≠ q := by
    have : m.2.2.2.1.length ≤ q' := hl
    omega
  refine ⟨h1.1, ?_, h1.2.2⟩
  show (if r' = r ∧ q' = q ∧ j' = j then x else m.2.1 r' q' j') = 0
  rw [if_neg (fun z => hne z.2.1)]
  exact h1.2.1
theorem ab_ok_R {m : Mm} {r q j k k2 q2 : Nat} (h : ab_ok KT m) (hk : m.2.2.2.1[q]? = some k) (hnd : ab_nd KT) (hk2 : k2 ≠ 0) (hq2 : m.2.2.2.1[q2]? = some k2)
    (hs : (∃ (ci : Nat) (fs : List (Nat × Nat × Nat × Nat)) (f d : Nat), KT[k]? = some (.inl (ci, fs)) ∧ fs[f]? = some (2, r, k2, d)) ∨ ∃ (len a st : Nat), KT[k]? = some (.inr (r, len, 3, k2, a, st))) : ab_ok KT (ab_uR m r q j (some q2)) := by
  have hq : q < m.2.2.2.1.length := (List.getElem?_eq_some_iff.mp hk).1
  have rd : ∀ r' q' j', (ab_uR m r q j (some q2)).2.2.1 r' q' j' = if r' = r ∧ q' = q ∧ j' = j then some q2 else m.2.2.1 r' q' j' := fun _ _ _ => rfl
  refine ⟨h.1, h.2.1, ?_, ?_, ?_⟩
  · intro q0 k0 ci f r0 k' d q' fs h1 h2 h3 h4
    rw [rd] at h4
    by_cases hc : r0 = r ∧ q0 = q ∧ 0 = j
    · rw [if_pos hc] at h4
      obtain ⟨rfl, rfl, -⟩ := hc
      cases h4
      have hkk : k0 = k := Option.some.inj (h1.symm.trans hk)
      subst hkk
      rcases hs with ⟨ci2, fs2, f2, d2, g1, g2⟩ | ⟨len, a, st, g1⟩
      · have e1 := Option.some.inj (h2.symm.trans g1)
        simp only [Sum.inl.injEq, Prod.mk.injEq] at e1
        obtain ⟨rfl, rfl⟩ := e1
        have e2 := hnd.1 _ _ _ _ _ _ _ _ _ _ _ _ h2 h3 g2
        subst e2
        have e3 := Option.some.inj (h3.symm.trans g2)
        simp only [Prod.mk.injEq] at e3
        obtain ⟨-, -, rfl, -⟩ := e3
        exact ⟨hk2, hq2⟩
      · have e1 := Option.some.inj (h2.symm.trans g1)
        cases e1
    · rw [if_neg hc] at h4
      exact h.2.2.1 q0 k0 ci f r0 k' d q' fs h1 h2 h3 h4
  · intro q0 k0 r0 len k' a st j0 q' h1 h2 h4
    rw [rd] at h4
    by_cases hc : r0 = r ∧ q0 = q ∧ j0 = j
    · rw [if_pos hc] at h4
      obtain ⟨rfl, rfl, -⟩ := hc
      cases h4
      have hkk : k0 = k := Option.some.inj (h1.symm.trans hk)
      subst hkk
      rcases hs with ⟨ci2, fs2, f2, d2, g1, g2⟩ | ⟨len2, a2, st2, g1⟩
      · have e1 := Option.some.inj (h2.symm.trans g1)
        cases e1
      · have e1 := Option.some.inj (h2.symm.trans g1)
        simp only [Sum.inr.injEq, Prod.mk.injEq] at e1
        obtain ⟨-, -, -, rfl, -, -⟩ := e1
        exact ⟨hk2, hq2⟩
    · rw [if_neg hc] at h4
      exact h.2.2.2.1 q0 k0 r0 len k' a st j0 q' h1 h2 h4
  · intro r' q' j' hl
    have h1 := h.2.2.2.2 r' q' j' hl
    have hne : q' ≠ q := by
      have : m.2.2.2.1.length ≤ q' := hl
      omega
    refine ⟨h1.1, h1.2.1, ?_⟩
    rw [rd, if_neg (fun z => hne z.2.1)]
    exact h1.2.2
theorem ab_K1 {ac : Nat → Nat} {ks : List Nat} {q k r len t k' a st : Nat} (hK0 : va_K D cl [] s) (h : ab_K KT cl ac ks s) (hk : ks[q]? = some k) (hKT : KT[k]? = some (.inr (r, len, t, k', a, st))) : va_K D cl [(ac q, ab_ty KT cl t k')] s := by
  refine ⟨hK0.1, fun i z hz => ?_⟩
  have hi : i < 1 := (List.getElem?_eq_some_iff.mp hz).1
  have : i = 0 := by omega
  subst this
  cases hz
  exact h q k r len t k' a st hk hKT
theorem ab_ref {ks : List Nat} {k q : Nat} (h : ab_vv sc ks (.inr (.inr (k, some q)))) (hk : k ≠ 0) : ks[q]? = some k := by
  have h1 : (if k = 0 then sc.isSome = true else ks[q]? = some k) := h
  rw [if_neg hk] at h1
  exact h1
theorem ab_vr {ad : Nat → Nat} {k q : Nat} (hk : k ≠ 0) : ab_v ad b (.inr (.inr (k, some q))) = .ref (ad q) := by
  show Value.ref (if k = 0 then b else ad q) = _
  rw [if_neg hk]
theorem ab_vrf {ad : Nat → Nat} {k : Nat} {o : Option Nat} (h : ∀ q, o = some q → k ≠ 0) : va_rf (o.map ad) = ab_v ad b (.inr (.inr (k, o))) := by
  cases o with
  | none => rfl
  | some q => rw [ab_vr (h q rfl)]; rfl
theorem ab_vvo {ks : List Nat} {k : Nat} {o : Option Nat} (h : ∀ q, o = some q → k ≠ 0 ∧ ks[q]? = some k) : ab_vv sc ks (.inr (.inr (k, o))) := by
  cases o with
  | none => trivial
  | some q =>
    obtain ⟨h1, h2⟩ := h q rfl
    show if k = 0 then sc.isSome = true else ks[q]? = some k
    rw [if_neg h1]
    exact h2
end
