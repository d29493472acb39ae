/-! How the small machine's memory lies in the heap. -/
section
def ab_v (ad : Nat → Nat) (b : Nat) (v : AV) : Value := match v with
  | .inl x => .int x
  | .inr (.inl y) => .long y
  | .inr (.inr (_, none)) => .null
  | .inr (.inr (k, some q)) => .ref (if k = 0 then b else ad q)
def ab_vv (sc : Option (Nat × (Nat → Int32))) (ks : List Nat) (v : AV) : Prop := match v with
  | .inr (.inr (k, some q)) => if k = 0 then sc.isSome = true else ks[q]? = some k
  | _ => True
def ab_fv (ad : Nat → Nat) (m : Mm) (q : Nat) (f : Nat × Nat × Nat × Nat) : Value := match f with
  | (0, r, _, _) => .int (m.1 r q 0)
  | (1, r, _, _) => .int (m.1 r q 0)
  | (2, r, _, _) => va_rf ((m.2.2.1 r q 0).map ad)
  | (_, _, _, d) => .ref (ad (q + d))
def ab_av (ad : Nat → Nat) (m : Mm) (q r len t a st : Nat) : (Nat → Int32) ⊕ (Nat → Int64) ⊕ (Nat → UInt32) ⊕ (Nat → UInt64) ⊕ (Nat → Option Nat) := match t with
  | 0 => .inl (m.1 r q)
  | 1 => .inl (m.1 r q)
  | 2 => .inr (.inl (m.2.1 r q))
  | 3 => .inr (.inr (.inr (.inr fun j => (m.2.2.1 r q j).map ad)))
  | _ => .inr (.inr (.inr (.inr fun j => if j < len then some (ad (q + a + st * j)) else none)))
def ab_ce (KT : List KS) (ad ac : Nat → Nat) (m : Mm) (q k : Nat) : va_E := match KT[k]? with
  | some (.inl (ci, fs)) => .inr (ci, fs.map (ab_fv ad m q))
  | some (.inr (r, len, t, _, a, st)) => .inl (ac q, len, ab_av ad m q r len t a st)
  | none => .inr (0, [])
def ab_w (KT : List KS) (ad ac : Nat → Nat) (m : Mm) : va_W := m.2.2.2.1.mapIdx (fun q k => (ad q, ab_ce KT ad ac m q k))
def ab_cn (KT : List KS) (cl : List vw_C) (k : Nat) : String := match KT[k]? with
  | some (.inl (ci, _)) => match cl[ci]? with
    | some q => q.1
    | none => ""
  | _ => ""
def ab_ty (KT : List KS) (cl : List vw_C) (t k : Nat) : FieldType := match t with
  | 0 => .int
  | 1 => .boolean
  | 2 => .long
  | _ => .object (ab_cn KT cl k)
def ab_K (KT : List KS) (cl : List vw_C) (ac : Nat → Nat) (ks : List Nat) (U : State) : Prop := ∀ (q k r len t k' a st : Nat), ks[q]? = some k → KT[k]? = some (.inr (r, len, t, k', a, st)) → ArrOfT U (ac q) (ab_ty KT cl t k') ∧ va_RA U (ac q) (ab_ty KT cl t k')
def ab_ok (KT : List KS) (m : Mm) : Prop :=
  (∀ (q k ci f r k' d : Nat) (fs : List (Nat × Nat × Nat × Nat)), m.2.2.2.1[q]? = some k → KT[k]? = some (.inl (ci, fs)) → fs[f]? = some (3, r, k', d) → k' ≠ 0 ∧ m.2.2.2.1[q + d]? = some k') ∧
  (∀ (q k r len k' a st j : Nat), m.2.2.2.1[q]? = some k → KT[k]? = some (.inr (r, len, 4, k', a, st)) → j < len → k' ≠ 0 ∧ m.2.2.2.1[q + a + st * j]? = some k') ∧
  (∀ (q k ci f r k' d q' : Nat) (fs : List (Nat × Nat × Nat × Nat)), m.2.2.2.1[q]? = some k → KT[k]? = some (.inl (ci, fs)) → fs[f]? = some (2, r, k', d) → m.2.2.1 r q 0 = some q' → k' ≠ 0 ∧ m.2.2.2.1[q']? = some k') ∧
  (∀ (q k r len k' a st j q' : Nat), m.2.2.2.1[q]? = some k → KT[k]? = some (.inr (r, len, 3, k', a, st)) → m.2.2.1 r q j = some q' → k' ≠ 0 ∧ m.2.2.2.1[q']? = some k') ∧
  ∀ (r q j : Nat), m.2.2.2.1.length ≤ q → m.1 r q j = 0 ∧ m.2.1 r q j = 0 ∧ m.2.2.1 r q j = none
/-- within a kind, each field has a register of its own; and no other sorts of fields and arrays -/
def ab_nd (KT : List KS) : Prop := (∀ (k ci f f' r t k1 d1 t' k2 d2 : Nat) (fs : List (Nat × Nat × Nat × Nat)), KT[k]? = some (.inl (ci, fs)) → fs[f]? = some (t, r, k1, d1) → fs[f']? = some (t', r, k2, d2) → f = f') ∧
  (∀ (k ci f t r k1 d1 : Nat) (fs : List (Nat × Nat × Nat × Nat)), KT[k]? = some (.inl (ci, fs)) → fs[f]? = some (t, r, k1, d1) → t ≤ 3) ∧
  ∀ (k r len t k1 a st : Nat), KT[k]? = some (.inr (r, len, t, k1, a, st)) → t ≤ 4 ∨ len = 0
def ab_al (ad : Nat → Nat) (b : Nat) (L : List (Option AV)) : List (Nat × Value) := L.zipIdx.filterMap (fun q => q.1.map (fun v => (q.2, ab_v ad b v)))
def ab_I (KT : List KS) (cl : List vw_C) (D : va_G) (s : State) (A : Nat → Prop) (H0 : Heap) (ks0 : List Nat) (ad0 ac0 : Nat → Nat) (g0 h0 : Nat) (ad ac : Nat → Nat) (m : Mm) (H : Heap) (locs : List Loc) (cells slots : Nat) : Prop :=
  va_P D cl (ab_w KT ad ac m) H ∧ va_D A (ab_w KT ad ac m) ∧ va_S A H0 H locs ∧ ab_K KT cl ac m.2.2.2.1 s ∧ ab_ok KT m ∧ (∀ q, q < ks0.length → ad q = ad0 q ∧ ac q = ac0 q) ∧ (∀ (i k : Nat), ks0[i]? = some k → m.2.2.2.1[i]? = some k) ∧ cells + g0 = ab_gc m ∧ slots + h0 = ab_gs KT m
def ab_F (sc : Option (Nat × (Nat → Int32))) (b : Nat) (ad : Nat → Nat) (ks : List Nat) (nL : Nat) (ls : Array Slot) (L : List (Option AV)) (S : List AV) : Prop :=
  L.length = nL ∧ lv_has ls nL (ab_al ad b L) ∧ (∀ (i : Nat) (v : AV), L[i]? = some (some v) → ab_vv sc ks v) ∧ ∀ v ∈ S, ab_vv sc ks v
theorem ab_w_at {KT : List KS} {ad ac : Nat → Nat} {m : Mm} {q k : Nat} (h : m.2.2.2.1[q]? = some k) : (ab_w KT ad ac m)[q]? = some (ad q, ab_ce KT ad ac m q k) := by
  simp [ab_w, List.getElem?_mapIdx, h]
theorem ab_w_len {KT : List KS} {ad ac : Nat → Nat} {m : Mm} : (ab_w KT ad ac m).length = m.2.2.2.1.length := by simp [ab_w]
theorem ab_w_set {KT : List KS} {ad ac : Nat → Nat} {m m' : Mm} {q k : Nat} (h : m.2.2.2.1[q]? = some k) (hk : m'.2.2.2.1 = m.2.2.2.1) {e : va_E} (he : e = ab_ce KT ad ac m' q k)
    (ho : ∀ q' k', q' ≠ q → ab_ce KT ad ac m' q' k' = ab_ce KT ad ac m q' k') : (ab_w KT ad ac m).set q (ad q, e) = ab_w KT ad ac m' := by
  subst he
  apply List.ext_getElem?
  intro i
  by_cases hi : i = q
  · subst hi
    have hl : i < (ab_w KT ad ac m).length := by rw [ab_w_len]; exact (List.getElem?_eq_some_iff.mp h).1
    rw [List.getElem?_set_self hl, ab_w_at (m := m') (by rw [hk]; exact h)]
  · rw [List.getElem?_set_ne (Ne.symm hi)]
    simp only [ab_w, List.getElem?_mapIdx, hk]
    cases m.2.2.2.1[i]? with
    | none => rfl
    | some k' => simp [ho i k' hi]
theorem ab_ce_I {KT : List KS} {ad ac : Nat → Nat} {m : Mm} {r p j : Nat} {x : Int32} (q k : Nat) (h : q ≠ p) : ab_ce KT ad ac (ab_uI m r p j x) q k = ab_ce KT ad ac m q k := by
  have e1 : ∀ r' j', (ab_uI m r p j x).1 r' q j' = m.1 r' q j' := fun r' j' => by simp [ab_uI, h]
  have e2 : ∀ r', (ab_uI m r p j x).1 r' q = m.1 r' q := fun r' => funext fun j' => e1 r' j'
  have ef : ∀ f, ab_fv ad (ab_uI m r p j x) q f = ab_fv ad m q f := by
    intro f
    unfold ab_fv
    split <;> first | rw [e1] | rfl
  unfold ab_ce
  split
  · first | rfl | (congr 2; exact List.map_congr_left fun f _ => ef f)
  · congr 3
    unfold ab_av
    split <;> first | rw [e2] | rfl
  · rfl
theorem ab_ce_J {KT : List KS} {ad ac : Nat → Nat} {m : Mm} {r p j : Nat} {x : Int64} (q k : Nat) (h : q ≠ p) : ab_ce KT ad ac (ab_uJ m r p j x) q k = ab_ce KT ad ac m q k := by
  have e1 : ∀ r' j', (ab_uJ m r p j x).2.1 r' q j' = m.2.1 r' q j' := fun r' j' => by simp [ab_uJ, h]
  have e2 : ∀ r', (ab_uJ m r p j x).2.1 r' q = m.2.1 r' q := fun r' => funext fun j' => e1 r' j'
  have ef : ∀ f, ab_fv ad (ab_uJ m r p j x) q f = ab_fv ad m q f := by
    intro f
    unfold ab_fv
    split <;> rfl
  unfold ab_ce
  split
  · first | rfl | (congr 2; exact List.map_congr_left fun f _ => ef f)
  · congr 3
    unfold ab_av
    split <;> first | rw [e2] | rfl
  · rfl
theorem ab_ce_R {KT : List KS} {ad ac : Nat → Nat} {m : Mm} {r p j : Nat} {x : Option Nat} (q k : Nat) (h : q ≠ p) : ab_ce KT ad ac (ab_uR m r p j x) q k = ab_ce KT ad ac m q k := by
  have e1 : ∀ r' j', (ab_uR m r p j x).2.2.1 r' q j' = m.2.2.1 r' q j' := fun r' j' => by simp [ab_uR, h]
  have ef : ∀ f, ab_fv ad (ab_uR m r p j x) q f = ab_fv ad m q f := by
    intro f
    unfold ab_fv
    split <;> first | rw [e1] | rfl
  unfold ab_ce
  split
  · first | rfl | (congr 2; exact List.map_congr_left fun f _ => ef f)
  · congr 3
    unfold ab_av
    split <;> first | rfl | simp only [e1]
  · rfl
/-- a field's store -/
theorem ab_fset {ad : Nat → Nat} {m m' : Mm} {q f t r k' d : Nat} {fs : List (Nat × Nat × Nat × Nat)} {v : Value} (hf : fs[f]? = some (t, r, k', d)) (hv : ab_fv ad m' q (t, r, k', d) = v)
    (hn : ∀ f' t' k2 d2, fs[f']? = some (t', r, k2, d2) → f' = f) (ho : ∀ t' r' k2 d2, r' ≠ r → ab_fv ad m' q (t', r', k2, d2) = ab_fv ad m q (t', r', k2, d2)) :
    (fs.map (ab_fv ad m q)).set f v = fs.map (ab_fv ad m' q) := by
  apply List.ext_getElem?
  intro i
  have hl : f < fs.length := (List.getElem?_eq_some_iff.mp hf).1
  by_cases hi : i = f
  · subst hi
    rw [List.getElem?_set_self (by simpa using hl), List.getElem?_map, hf]
    simp [hv]
  · rw [List.getElem?_set_ne (Ne.symm hi), List.getElem?_map, List.getElem?_map]
    cases hx : fs[i]? with
    | none => rfl
    | some z =>
      obtain ⟨t', r', k2, d2⟩ := z
      have hr : r' ≠ r := fun e => hi (hn i t' k2 d2 (by rw [hx, e]))
      simp [ho t' r' k2 d2 hr]
theorem ab_mem_al {ad : Nat → Nat} {b : Nat} {L : List (Option AV)} {q : Nat × Value} : q ∈ ab_al ad b L ↔ ∃ v, L[q.1]? = some (some v) ∧ q.2 = ab_v ad b v := by
  unfold ab_al
  rw [List.mem_filterMap]
  constructor
  · rintro ⟨⟨o, i⟩, h1, h2⟩
    have h3 := List.mem_zipIdx_iff_getElem?.mp h1
    cases o with
    | none => simp at h2
    | some v =>
      simp at h2
      subst h2
      exact ⟨v, h3, rfl⟩
  · rintro ⟨v, h1, h2⟩
    refine ⟨(some v, q.1), List.mem_zipIdx_iff_getElem?.mpr h1, ?_⟩
    simp [← h2]
theorem ab_L_at {ad : Nat → Nat} {b nL i : Nat} {ls : Array Slot} {L : List (Option AV)} {v : AV} (h : lv_has ls nL (ab_al ad b L)) (hi : L[i]? = some (some v)) : ls[i]? = some (.val (ab_v ad b v)) :=
  h.2.2 (i, ab_v ad b v) (ab_mem_al.mpr ⟨v, hi, rfl⟩)
theorem ab_L_of {ad : Nat → Nat} {b nL : Nat} {ls : Array Slot} {L : List (Option AV)} {lv : List (Nat × Value)} (h : lv_has ls nL lv) (hs : ∀ i v, L[i]? = some (some v) → (i, ab_v ad b v) ∈ lv) : lv_has ls nL (ab_al ad b L) := by
  refine ⟨h.1, h.2.1, fun q hq => ?_⟩
  obtain ⟨v, h1, h2⟩ := ab_mem_al.mp hq
  have h3 := h.2.2 _ (hs _ _ h1)
  rw [h2]
  exact h3
theorem ab_cat {ad : Nat → Nat} {b : Nat} {v : AV} (h : ∀ y, v ≠ .inr (.inl y)) : (ab_v ad b v).category = 1 := by
  unfold ab_v
  split
  · rfl
  · rename_i y
    exact absurd rfl (h y)
  · rfl
  · rfl
theorem ab_kill_at {o : Option AV} {v : AV} (h : ab_kill o = some v) : o = some v ∧ ∀ y, v ≠ .inr (.inl y) := by
  unfold ab_kill at h
  split at h
  · cases h
  · rename_i hno
    exact ⟨h, fun y hy => hno y (by rw [h, hy])⟩
theorem ab_sl_len : ∀ (L : List (Option AV)) (i : Nat) (v : AV), (ab_sl L i v).length = L.length
  | [], _, _ => by simp [ab_sl]
  | _ :: L, 0, v => by simp [ab_sl]
  | o :: L, 1, v => by simp [ab_sl, ab_sl_len L 0 v]
  | o :: L, i + 2, v => by simp [ab_sl, ab_sl_len L (i + 1) v]
theorem ab_tn_len (L : List (Option AV)) : (ab_tn L).length = L.length := by cases L <;> simp [ab_tn]
theorem ab_sl2_len : ∀ (L : List (Option AV)) (i : Nat) (v : AV), (ab_sl2 L i v).length = L.length
  | [], _, _ => by simp [ab_sl2]
  | _ :: L, 0, v => by simp [ab_sl2, ab_tn_len]
  | o :: L, 1, v => by simp [ab_sl2, ab_sl2_len L 0 v]
  | o :: L, i + 2, v => by simp [ab_sl2, ab_sl2_len L (i + 1) v]
theorem ab_sl_at : ∀ {L : List (Option AV)} {i j : Nat} {v w : AV}, (ab_sl L i v)[j]? = some (some w) → (j = i ∧ w = v) ∨ (j ≠ i ∧ L[j]? = some (some w) ∧ (j + 1 = i → ∀ y, w ≠ .inr (.inl y)))
  | [], _, j, v, w, h => by simp [ab_sl] at h
  | _ :: L, 0, 0, v, w, h => by simp [ab_sl] at h; exact Or.inl ⟨rfl, h.symm⟩
  | _ :: L, 0, j + 1, v, w, h => by
    have h' : L[j]? = some (some w) := by simpa [ab_sl] using h
    exact Or.inr ⟨by omega, by simpa using h', fun e => by omega⟩
  | o :: L, 1, 0, v, w, h => by
    have h' : ab_kill o = some w := by simpa [ab_sl] using h
    exact Or.inr ⟨by omega, by simpa using (ab_kill_at h').1, fun _ => (ab_kill_at h').2⟩
  | o :: L, 1, j + 1, v, w, h => by
    have h' : (ab_sl L 0 v)[j]? = some (some w) := by simpa [ab_sl] using h
    rcases ab_sl_at h' with ⟨h1, h2⟩ | ⟨h1, h2, h3⟩
    · exact Or.inl ⟨by omega, h2⟩
    · exact Or.inr ⟨by omega, by simpa using h2, fun e => h3 (by omega)⟩
  | o :: L, i + 2, 0, v, w, h => by
    have h' : o = some w := by simpa [ab_sl] using h
    exact Or.inr ⟨by omega, by simpa using h', fun e => by omega⟩
  | o :: L, i + 2, j + 1, v, w, h => by
    have h' : (ab_sl L (i + 1) v)[j]? = some (some w) := by simpa [ab_sl] using h
    rcases ab_sl_at h' with ⟨h1, h2⟩ | ⟨h1, h2, h3⟩
    · exact Or.inl ⟨by omega, h2⟩
    · exact Or.inr ⟨by omega, by simpa using h2, fun e => h3 (by omega)⟩
theorem ab_sl2_at : ∀ {L : List (Option AV)} {i j : Nat} {v w : AV}, (ab_sl2 L i v)[j]? = some (some w) → (j = i ∧ w = v) ∨ (j ≠ i ∧ j ≠ i + 1 ∧ L[j]? = some (some w) ∧ (j + 1 = i → ∀ y, w ≠ .inr (.inl y)))
  | [], _, j, v, w, h => by simp [ab_sl2] at h
  | _ :: L, 0, 0, v, w, h => by simp [ab_sl2] at h; exact Or.inl ⟨rfl, h.symm⟩
  | _ :: L, 0, j + 1, v, w, h => by
    have h' : (ab_tn L)[j]? = some (some w) := by simpa [ab_sl2] using h
    cases L with
    | nil => simp [ab_tn] at h'
    | cons o L =>
      cases j with
      | zero => simp [ab_tn] at h'
      | succ j =>
        have h2 : L[j]? = some (some w) := by simpa [ab_tn] using h'
        exact Or.inr ⟨by omega, by omega, by simpa using h2, fun e => by omega⟩
  | o :: L, 1, 0, v, w, h => by
    have h' : ab_kill o = some w := by simpa [ab_sl2] using h
    exact Or.inr ⟨by omega, by omega, by simpa using (ab_kill_at h').1, fun _ => (ab_kill_at h').2⟩
  | o :: L, 1, j + 1, v, w, h => by
    have h' : (ab_sl2 L 0 v)[j]? = some (some w) := by simpa [ab_sl2] using h
    rcases ab_sl2_at h' with ⟨h1, h2⟩ | ⟨h1, h0, h2, h3⟩
    · exact Or.inl ⟨by omega, h2⟩
    · exact Or.inr ⟨by omega, by omega, by simpa using h2, fun e => h3 (by omega)⟩
  | o :: L, i + 2, 0, v, w, h => by
    have h' : o = some w := by simpa [ab_sl2] using h
    exact Or.inr ⟨by omega, by omega, by simpa using h', fun e => by omega⟩
  | o :: L, i + 2, j + 1, v, w, h => by
    have h' : (ab_sl2 L (i + 1) v)[j]? = some (some w) := by simpa [ab_sl2] using h
    rcases ab_sl2_at h' with ⟨h1, h2⟩ | ⟨h1, h0, h2, h3⟩
    · exact Or.inl ⟨by omega, h2⟩
    · exact Or.inr ⟨by omega, by omega, by simpa using h2, fun e => h3 (by omega)⟩
theorem ab_mk_at : ∀ (mk : List Bool) (L : List (Option AV)) (i : Nat) (v : AV), (ab_mk mk L)[i]? = some (some v) → L[i]? = some (some v)
  | true :: bs, o :: L, 0, v, h => by simpa [ab_mk] using h
  | true :: bs, o :: L, i + 1, v, h => by
    have := ab_mk_at bs L i v (by simpa [ab_mk] using h)
    simpa using this
  | false :: bs, o :: L, 0, v, h => by simp [ab_mk] at h
  | false :: bs, o :: L, i + 1, v, h => by
    have := ab_mk_at bs L i v (by simpa [ab_mk] using h)
    simpa using this
  | [], o :: L, 0, v, h => by simp [ab_mk] at h
  | [], o :: L, i + 1, v, h => by
    have := ab_mk_at [] L i v (by simpa [ab_mk] using h)
    simpa using this
  | [], [], i, v, h => by simp [ab_mk] at h
  | true :: bs, [], i, v, h => by simp [ab_mk] at h
  | false :: bs, [], i, v, h => by simp [ab_mk] at h
theorem ab_mk_len : ∀ (mk : List Bool) (L : List (Option AV)), (ab_mk mk L).length = L.length
  | true :: bs, o :: L => by simp [ab_mk, ab_mk_len bs L]
  | false :: bs, o :: L => by simp [ab_mk, ab_mk_len bs L]
  | [], o :: L => by simp [ab_mk, ab_mk_len [] L]
  | [], [] => by simp [ab_mk]
  | true :: bs, [] => by simp [ab_mk]
  | false :: bs, [] => by simp [ab_mk]
theorem ab_F_mk {sc : Option (Nat × (Nat → Int32))} {b : Nat} {ad : Nat → Nat} {ks : List Nat} {nL : Nat} {ls : Array Slot} {L : List (Option AV)} {S : List AV} (mk : List Bool) (h : ab_F sc b ad ks nL ls L S) : ab_F sc b ad ks nL ls (ab_mk mk L) S :=
  ⟨by rw [ab_mk_len]; exact h.1, ab_L_of h.2.1 (fun i v hi => ab_mem_al.mpr ⟨v, ab_mk_at _ _ _ _ hi, rfl⟩), fun i v hi => h.2.2.1 i v (ab_mk_at _ _ _ _ hi), h.2.2.2⟩
theorem ab_ix_in {j : Int32} {n i : Nat} (h : ab_ix j n = some i) : vp_in j n ∧ j.toNatClampNeg = i := by
  unfold ab_ix at h
  split at h
  · cases h
  · rename_i hn
    cases h
    exact ⟨hn, rfl⟩
theorem ab_bo_of {x y : Int32} (h : ab_bo x = some y) : y = x ∧ (x = 0 ∨ x = 1) := by
  unfold ab_bo at h
  split at h
  · rename_i hx
    cases h
    exact ⟨rfl, hx⟩
  · cases h
end
