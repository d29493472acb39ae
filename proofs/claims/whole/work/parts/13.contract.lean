/-! A method's contract out of a run. -/
section
/-- a call site's rule: behind the call the walk goes on with what the callee's table says -/
def ab_CR (l : Launch) (KT : List KS) (cl : List vw_C) (sc : Option (Nat × (Nat → Int32))) (gW : List Cond) (own : String) (cc : ByteArray) (nL fr lo : Nat) (eV : Nat → List AV → Mm → Option Mm) (eI : Nat → List AV → Mm → Option (Int32 × Mm)) (pc : Nat) (q : Ent) : Prop :=
  ∀ (p : Program) (e : Env) (R : Room) (s : State) (m0 : MethodId) (args : Array Value) (below : List Frame) (meth : Method) (cd : Code) (Q : State → Prop) (D : va_G) (b : Nat) (A : Nat → Prop) (H0 : Heap) (ks0 : List Nat) (g0 h0 G Hs : Nat) (ad0 ac0 : Nat → Nat),
    ab_X s → p.tables.exec = Jvm.exec → cd.code = cc → cd.maxLocals = nL → (∀ w ∈ gW, w.before args s = true) → s.vm.findClass own = some m0.cls → va_K D cl [] s → (∀ q, H0.size ≤ q → A q) → G ≤ g0 + R.cells → Hs ≤ h0 + R.slots → R.frames = fr → R.locals = lo →
    (∀ z, sc = some z → va_X b z.1 z.2 s H0 ∧ b < H0.size ∧ ¬ A b) →
    (∀ (L : List (Option AV)) (S : List AV) (m m' : Mm), ab_wd (S.drop q.2.2.1) ≤ 8 → eV q.2.1 (S.take q.2.2.1).reverse m = some m' → ab_W p l e R s m0 args below meth cd Q KT cl D sc b A H0 ks0 g0 h0 nL G Hs ad0 ac0 (pc + 3, L, S.drop q.2.2.1, m') → ab_W p l e R s m0 args below meth cd Q KT cl D sc b A H0 ks0 g0 h0 nL G Hs ad0 ac0 (pc, L, S, m)) ∧
    (∀ (L : List (Option AV)) (S : List AV) (m : Mm) (z : Int32 × Mm), ab_wd (S.drop q.2.2.1) ≤ 8 → eI q.2.1 (S.take q.2.2.1).reverse m = some z → ab_W p l e R s m0 args below meth cd Q KT cl D sc b A H0 ks0 g0 h0 nL G Hs ad0 ac0 (pc + 3, L, .inl z.1 :: S.drop q.2.2.1, z.2) → ab_W p l e R s m0 args below meth cd Q KT cl D sc b A H0 ks0 g0 h0 nL G Hs ad0 ac0 (pc, L, S, m))
/-- the locals that a method begins with -/
def ab_ent : List AV → List (Option AV)
  | [] => []
  | .inr (.inl x) :: r => some (.inr (.inl x)) :: none :: ab_ent r
  | v :: r => some v :: ab_ent r
def ab_L0 (maxL : Nat) (av : List AV) : List (Option AV) := ab_ent av ++ List.replicate (maxL - (ab_ent av).length) none
theorem ab_ent_sl (ad : Nat → Nat) (b : Nat) : ∀ av : List AV, (ab_ent av).length = (lg_sl (av.map (ab_v ad b))).length ∧ ∀ (i : Nat) (v : AV), (ab_ent av)[i]? = some (some v) → v ∈ av ∧ (lg_sl (av.map (ab_v ad b)))[i]? = some (.val (ab_v ad b v))
  | [] => ⟨rfl, fun i v h => by simp [ab_ent] at h⟩
  | .inl x :: r => by
    have ih := ab_ent_sl ad b r
    have e : lg_sl (List.map (ab_v ad b) (Sum.inl x :: r)) = .val (.int x) :: lg_sl (r.map (ab_v ad b)) := by simp [lg_sl, ab_v, Value.category]
    rw [e]
    refine ⟨by simp [ab_ent, ih.1], fun i v h => ?_⟩
    cases i with
    | zero => simp [ab_ent] at h; subst h; exact ⟨List.mem_cons_self, rfl⟩
    | succ i =>
      have h' : (ab_ent r)[i]? = some (some v) := by simpa [ab_ent] using h
      exact ⟨List.mem_cons_of_mem _ (ih.2 i v h').1, by simpa using (ih.2 i v h').2⟩
  | .inr (.inl x) :: r => by
    have ih := ab_ent_sl ad b r
    have e : lg_sl (List.map (ab_v ad b) (Sum.inr (Sum.inl x) :: r)) = .val (.long x) :: .second :: lg_sl (r.map (ab_v ad b)) := by simp [lg_sl, ab_v, Value.category]
    rw [e]
    refine ⟨by simp [ab_ent, ih.1], fun i v h => ?_⟩
    match i with
    | 0 => simp [ab_ent] at h; subst h; exact ⟨List.mem_cons_self, rfl⟩
    | 1 => simp [ab_ent] at h
    | i + 2 =>
      have h' : (ab_ent r)[i]? = some (some v) := by simpa [ab_ent] using h
      exact ⟨List.mem_cons_of_mem _ (ih.2 i v h').1, by simpa using (ih.2 i v h').2⟩
  | .inr (.inr z) :: r => by
    have ih := ab_ent_sl ad b r
    have e : lg_sl (List.map (ab_v ad b) (Sum.inr (Sum.inr z) :: r)) = .val (ab_v ad b (.inr (.inr z))) :: lg_sl (r.map (ab_v ad b)) := by
      have hc : (ab_v ad b (.inr (.inr z))).category ≠ 2 := by rw [ab_cat (fun y hy => by cases hy)]; decide
      simp [lg_sl, hc]
    rw [e]
    refine ⟨by simp [ab_ent, ih.1], fun i v h => ?_⟩
    cases i with
    | zero => simp [ab_ent] at h; subst h; exact ⟨List.mem_cons_self, rfl⟩
    | succ i =>
      have h' : (ab_ent r)[i]? = some (some v) := by simpa [ab_ent] using h
      exact ⟨List.mem_cons_of_mem _ (ih.2 i v h').1, by simpa using (ih.2 i v h').2⟩
theorem ab_L0_at {ad : Nat → Nat} {b maxL i : Nat} {av : List AV} {v : AV} (h : (ab_L0 maxL av)[i]? = some (some v)) : v ∈ av ∧ (lg_sl (av.map (ab_v ad b)) ++ List.replicate (maxL - (lg_sl (av.map (ab_v ad b))).length) Slot.unset)[i]? = some (.val (ab_v ad b v)) := by
  have ih := ab_ent_sl ad b av
  unfold ab_L0 at h
  by_cases hi : i < (ab_ent av).length
  · rw [List.getElem?_append_left hi] at h
    have h2 := ih.2 i v h
    refine ⟨h2.1, ?_⟩
    rw [List.getElem?_append_left (by rw [← ih.1]; exact hi)]
    exact h2.2
  · rw [List.getElem?_append_right (by omega)] at h
    have h3 := List.mem_of_getElem? h
    rw [List.mem_replicate] at h3
    cases h3.2
theorem ab_met {l : Launch} {KT : List KS} {cl : List vw_C} {y : MethodName} {cc : ByteArray} {maxL fr lo f : Nat} {ret : Option FieldType} {gW : List Cond} {sc : Option (Nat × (Nat → Int32))} {av : List AV} {m m' : Mm} {r : Option AV}
    {sw : Nat → List (Int32 × Nat) × Nat} {eV : Nat → List AV → Mm → Option Mm} {eI : Nat → List AV → Mm → Option (Int32 × Mm)} {ins : Nat → Option Ent} {hd : Nat → Nat × List Bool}
    (hy : plainFor y = true) (h00 : KT[0]? = some (.inr (0, 0, 9, 0, 0, 0))) (hnd : ab_nd KT) (hk3 : ab_k3 KT cl)
    (hE : ∀ (pc : Nat) (q : Ent), ins pc = some q → ab_E KT cl gW y.cls y.name ret cc sw maxL pc q.1 q.2.1 q.2.2.1 q.2.2.2.1 q.2.2.2.2)
    (hcl : ∀ (pc : Nat) (q : Ent), ins pc = some q → ab_inv q.1 = true → ab_CR l KT cl sc gW y.cls cc maxL fr lo eV eI pc q)
    (hmono : ab_gc m ≤ ab_gc m' ∧ ab_gs KT m ≤ ab_gs KT m') (hlen : (ab_ent av).length ≤ maxL)
    (hrun : ab_ex KT sc sw eV eI ins hd f 0 (ab_L0 maxL av) [] m = some (.inl (r, m'))) (hrv : ∀ v, r = some v → ∃ x, v = .inl x) :
    ab_Met l KT cl y (Cond.code y cc maxL ret :: gW) fr lo sc av m r m' := by
  refine ⟨hmono.1, hmono.2, fun D ad ac b sz => ?_⟩
  refine va_MetF (cc := cc) (maxL := maxL) (ret := ret) hy rfl ?_
  intro p e s m0 args below meth c s₁ B hml hv
  obtain ⟨rfl, hsz, hP, hD0, hK0, hKA, hok, hvv, hX, hsc⟩ := hv
  have hts := atoms_spec (ws := Cond.code y cc maxL ret :: gW) B.pre
  have hown : s.vm.findClass y.cls = some m0.cls := findClass_of_methodNamed B.named
  have hnm : meth.name = y.name := (name_of_methodNamed B.named B.method).1
  have hret := B.returns
  subst hsz
  have hD := hD0.self (sz := s.heap.size)
  have hA : ∀ q : Nat, s.heap.size ≤ q → va_A (ab_w KT ad ac m) s.heap.size q := fun q h => Or.inr h
  have hl := lv_entry (av.map (ab_v ad b)) (n := maxL) (by rw [← (ab_ent_sl ad b av).1]; exact hlen)
  rw [lg_entry_eq]
  have hw := ab_sound (p := p) (l := l) (e := e) (R := (headSpec (Cond.code y cc maxL ret :: gW) { frames := fr, cells := ab_gc m' - ab_gc m, slots := ab_gs KT m' - ab_gs KT m, locals := lo }).room) (below := below) (meth := meth) (cd := c) (KT := KT) (cl := cl) (D := D) (sc := sc) (b := b) (A := va_A (ab_w KT ad ac m) s.heap.size) (H0 := s.heap) (ks0 := m.2.2.2.1) (g0 := ab_gc m) (h0 := ab_gs KT m) (nL := maxL) (G := ab_gc m') (Hs := ab_gs KT m') (ad0 := ad) (ac0 := ac) (Ts := gW) (own := y.cls)
    hX B.exec B.bytes (fun w h => hts w (List.mem_cons_of_mem _ h)) hown hK0 h00 hnd hk3 hA (by show ab_gc m' ≤ ab_gc m + (ab_gc m' - ab_gc m); omega) (by show ab_gs KT m' ≤ ab_gs KT m + (ab_gs KT m' - ab_gs KT m); omega) hsc B.notSynchronized
    (Qc := ab_Qc KT cl D sc b ad ac m s.heap.size r m') (free := va_A (ab_w KT ad ac m) s.heap.size) (mc := ab_gc m' - ab_gc m) (ms := ab_gs KT m' - ab_gs KT m) (fun q h => h) (ρ := .inl (r, m')) ?_ (fun c' h => by cases h) (fun pc q hq => ?_) (fun pc q hq hi => ?_) f _ _ _ _ hrun
  · refine hw.2.2 ad ac _ s.heap [] 0 0 ⟨hP, hD, va_S.rf, hKA, hok, fun _ _ => ⟨rfl, rfl⟩, fun _ _ h => h, Nat.zero_add _, Nat.zero_add _⟩ ⟨?_, ?_, ?_, fun v hv => by cases hv⟩
    · show (ab_L0 maxL av).length = maxL
      unfold ab_L0
      rw [List.length_append, List.length_replicate]
      omega
    · refine ⟨hl.1, hl.2.1, fun q hq => ?_⟩
      obtain ⟨v, h1, h2⟩ := ab_mem_al.mp hq
      rw [h2, List.getElem?_toArray]
      exact (ab_L0_at h1).2
    · intro i v hv
      exact hvv v (ab_L0_at (ad := ad) (b := b) hv).1
  · intro r' m2 hρ
    simp only [Sum.inl.injEq, Prod.mk.injEq] at hρ
    obtain ⟨rfl, rfl⟩ := hρ
    refine ⟨by omega, by omega, Nat.le_refl _, Nat.le_refl _, fun ad' ac' H locs cells slots t hI hvv' ht hW => ?_⟩
    obtain ⟨hP', hD', hS', hKA', hok', hext', hn0', -, -⟩ := hI
    refine ⟨ad', ac', hext', rfl, by rw [ht]; exact hP', hD', ab_K_moved hW.alike hKA', hok', hn0', hvv', hS'.F ht⟩
  · have h := hE pc q hq
    rw [hnm, hret]
    exact h
  · exact hcl pc q hq hi p e _ s m0 _ below meth c _ D b _ _ _ _ _ _ _ ad ac hX B.exec B.bytes hml (fun w h => hts w (List.mem_cons_of_mem _ h)) hown hK0 hA (by show ab_gc m' ≤ ab_gc m + (ab_gc m' - ab_gc m); omega) (by show ab_gs KT m' ≤ ab_gs KT m + (ab_gs KT m' - ab_gs KT m); omega) rfl rfl hsc
end
