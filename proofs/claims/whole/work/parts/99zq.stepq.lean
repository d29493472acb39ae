/-! Runs that stop, whatever then is to be reached (by mkq.py out of 09 and 10). -/
section
variable {p : Program} {l : Launch} {e : Env} {R : Room} {s : State} {m0 : MethodId} {args : Array Value} {below : List Frame} {meth : Method} {cd : Code} {Q : State → Prop} {cc : ByteArray}
variable {KT : List KS} {cl : List vw_C} {D : va_G} {sc : Option (Nat × (Nat → Int32))} {b : Nat} {A : Nat → Prop} {H0 : Heap} {ks0 : List Nat} {g0 h0 nL G Hs : Nat} {ad0 ac0 : Nat → Nat} {Ts : List Cond} {own : String}
set_option maxHeartbeats 4000000 in
theorem ab_stepQ (hX : ab_X s) (hx : p.tables.exec = Jvm.exec) (hb : cd.code = cc) (hts : ∀ w ∈ Ts, w.before args s = true) (hown : s.vm.findClass own = some m0.cls) (hK0 : va_K D cl [] s) (h00 : KT[0]? = some (.inr (0, 0, 9, 0, 0, 0))) (hnd : ab_nd KT) (hk3 : ab_k3 KT cl) (hA : ∀ q, H0.size ≤ q → A q) (hG : G ≤ g0 + R.cells) (hHs : Hs ≤ h0 + R.slots)
    (hsc : ∀ z, sc = some z → va_X b z.1 z.2 s H0 ∧ b < H0.size ∧ ¬ A b) (hlocks : meth.locks = false)
    {sw : Nat → List (Int32 × Nat) × Nat} {eV : Nat → List AV → Mm → Option Mm} {eI : Nat → List AV → Mm → Option (Int32 × Mm)} {ρ : Rs} {K : Nat → List (Option AV) → List AV → Mm → Option Rs}
    (hK : ∀ (pc' : Nat) (L' : List (Option AV)) (S' : List AV) (m' : Mm), K pc' L' S' m' = some ρ → ab_W p l e R s m0 args below meth cd Q KT cl D sc b A H0 ks0 g0 h0 nL G Hs ad0 ac0 (pc', L', S', m'))
    (hnr : ∀ (r : Option AV) (m' : Mm), ρ ≠ .inl (r, m'))
    {i : Instr} {a b' d pc : Nat} {x : Int32} {L : List (Option AV)} {S : List AV} {m : Mm}
    (hcl : ab_inv i = true → (∀ (L : List (Option AV)) (S : List AV) (m m' : Mm), ab_wd (S.drop b') ≤ 8 → eV a (S.take b').reverse m = some m' → ab_W p l e R s m0 args below meth cd Q KT cl D sc b A H0 ks0 g0 h0 nL G Hs ad0 ac0 (pc + 3, L, S.drop b', m') → ab_W p l e R s m0 args below meth cd Q KT cl D sc b A H0 ks0 g0 h0 nL G Hs ad0 ac0 (pc, L, S, m)) ∧
      (∀ (L : List (Option AV)) (S : List AV) (m : Mm) (q : Int32 × Mm), ab_wd (S.drop b') ≤ 8 → eI a (S.take b').reverse m = some q → ab_W p l e R s m0 args below meth cd Q KT cl D sc b A H0 ks0 g0 h0 nL G Hs ad0 ac0 (pc + 3, L, .inl q.1 :: S.drop b', q.2) → ab_W p l e R s m0 args below meth cd Q KT cl D sc b A H0 ks0 g0 h0 nL G Hs ad0 ac0 (pc, L, S, m)))
    (hE : ab_E KT cl Ts own meth.name meth.sig.returnType cc sw nL pc i a b' d x) (h : ab_st KT sc sw eV eI i a b' d x pc L S m K = some ρ) :
    ab_W p l e R s m0 args below meth cd Q KT cl D sc b A H0 ks0 g0 h0 nL G Hs ad0 ac0 (pc, L, S, m) := by
  have ne0 : ∀ {k : Nat} {z : Nat × Nat × Nat × Nat × Nat × Nat}, KT[k]? = some (.inr z) → z.2.2.1 ≠ 9 → k ≠ 0 := by
    intro k z h1 h2 h3
    subst h3
    rw [h00] at h1
    simp only [Option.some.injEq, Sum.inr.injEq] at h1
    subst h1
    exact h2 rfl
  cases i with
  | iconst n =>
    exact ab_pure (hK _ _ _ _ h) (fun _ h => ab_c1 trivial h) (fun ad ls H locs cells slots hL k => lv_iconst hx hb hE.1 hE.2 k)
  | bipush n =>
    exact ab_pure (hK _ _ _ _ h) (fun _ h => ab_c1 trivial h) (fun ad ls H locs cells slots hL k => lv_bipush hx hb hE.1 hE.2 k)
  | sipush n =>
    exact ab_pure (hK _ _ _ _ h) (fun _ h => ab_c1 trivial h) (fun ad ls H locs cells slots hL k => lv_sipush hx hb hE.1 hE.2 k)
  | ldc idx =>
    exact ab_pure (hK _ _ _ _ h) (fun _ h => ab_c1 trivial h) (fun ad ls H locs cells slots hL k => lv_ldc hx hb hown (hts _ hE.2) hE.1 k)
  | lconst n =>
    exact ab_pure (hK _ _ _ _ h) (fun _ h => ab_c1 trivial h) (fun ad ls H locs cells slots hL k => lv_lconst hx hb hE.1 hE.2 k)
  | ldc2_w idx =>
    exact ab_pure (hK _ _ _ _ h) (fun _ h => ab_c1 trivial h) (fun ad ls H locs cells slots hL k => lv_ldc2 hx hb hown (hts _ hE.2) hE.1 k)
  | iload j =>
    obtain ⟨v, hv, h⟩ := ab_Li_inv h
    exact ab_pure (hK _ _ _ _ h) (fun _ h => ab_c1 trivial h) (fun ad ls H locs cells slots hL k => lv_iload hx hb hE.1 (by rw [hE.2]; exact hL a _ hv) k)
  | iload_n j =>
    obtain ⟨v, hv, h⟩ := ab_Li_inv h
    exact ab_pure (hK _ _ _ _ h) (fun _ h => ab_c1 trivial h) (fun ad ls H locs cells slots hL k => lv_iload_n hx hb hE.1 hE.2 (hL a _ hv) k)
  | lload j =>
    obtain ⟨v, hv, h⟩ := ab_Ll_inv h
    exact ab_pure (hK _ _ _ _ h) (fun _ h => ab_c1 trivial h) (fun ad ls H locs cells slots hL k => lv_lload hx hb hE.1 (by rw [hE.2]; exact hL a _ hv) k)
  | lload_n j =>
    obtain ⟨v, hv, h⟩ := ab_Ll_inv h
    exact ab_pure (hK _ _ _ _ h) (fun _ h => ab_c1 trivial h) (fun ad ls H locs cells slots hL k => lv_lload_n hx hb hE.1 hE.2 (hL a _ hv) k)
  | aload j =>
    obtain ⟨k, o, hv, h⟩ := ab_Lr_inv h
    cases o with
    | none => exact ab_pure (hK _ _ _ _ h) (fun hl h => ab_c1 (hl a _ hv) h) (fun ad ls H locs cells slots hL k => lv_aloadN hx hb hE.1 (by rw [hE.2]; exact hL a _ hv) k)
    | some q => exact ab_pure (hK _ _ _ _ h) (fun hl h => ab_c1 (hl a _ hv) h) (fun ad ls H locs cells slots hL k => lv_aload hx hb hE.1 (by rw [hE.2]; exact hL a _ hv) k)
  | aload_n j =>
    obtain ⟨k, o, hv, h⟩ := ab_Lr_inv h
    cases o with
    | none => exact ab_pure (hK _ _ _ _ h) (fun hl h => ab_c1 (hl a _ hv) h) (fun ad ls H locs cells slots hL k => lv_aload_nN hx hb hE.1 hE.2 (hL a _ hv) k)
    | some q => exact ab_pure (hK _ _ _ _ h) (fun hl h => ab_c1 (hl a _ hv) h) (fun ad ls H locs cells slots hL k => lv_aload_n hx hb hE.1 hE.2 (hL a _ hv) k)
  | istore j =>
    obtain ⟨v, S', hSe, h1⟩ := ab_i1_inv h
    clear h
    subst hSe
    have h := h1
    clear h1
    obtain ⟨hd, rfl, hn⟩ := hE
    exact ab_sto (hK _ _ _ _ h) (fun _ h => ⟨trivial, ab_t1 h⟩) (fun ad ls H locs cells slots hL _ k => lv_istore hx hb hd hL hn rfl k)
  | istore_n j =>
    obtain ⟨v, S', hSe, h1⟩ := ab_i1_inv h
    clear h
    subst hSe
    have h := h1
    clear h1
    obtain ⟨hd, hj, hn⟩ := hE
    exact ab_sto (hK _ _ _ _ h) (fun _ h => ⟨trivial, ab_t1 h⟩) (fun ad ls H locs cells slots hL _ k => lv_istore_n hx hb hd hj hL hn rfl k)
  | lstore j =>
    obtain ⟨v, S', hSe, h1⟩ := ab_l1_inv h
    clear h
    subst hSe
    have h := h1
    clear h1
    obtain ⟨hd, rfl, hn⟩ := hE
    exact ab_sto2 (hK _ _ _ _ h) (fun h => ⟨trivial, ab_t1 h⟩) (fun ad ls H locs cells slots hL k => lv_lstore hx hb hd hL hn rfl k)
  | lstore_n j =>
    obtain ⟨v, S', hSe, h1⟩ := ab_l1_inv h
    clear h
    subst hSe
    have h := h1
    clear h1
    obtain ⟨hd, hj, hn⟩ := hE
    exact ab_sto2 (hK _ _ _ _ h) (fun h => ⟨trivial, ab_t1 h⟩) (fun ad ls H locs cells slots hL k => lv_lstore_n hx hb hd hj hL hn rfl k)
  | astore j =>
    obtain ⟨k, o, S', hSe, h1⟩ := ab_r1_inv h
    clear h
    subst hSe
    have h := h1
    clear h1
    obtain ⟨q, hSe, h1⟩ := Option.bind_eq_some_iff.mp h
    clear h
    subst hSe
    have h := h1
    clear h1
    obtain ⟨hd, rfl, hn⟩ := hE
    exact ab_sto (hK _ _ _ _ h) (fun _ h => ⟨ab_h1 h, ab_t1 h⟩) (fun ad ls H locs cells slots hL _ k => lv_astore hx hb hd hL hn rfl k)
  | astore_n j =>
    obtain ⟨k, o, S', hSe, h1⟩ := ab_r1_inv h
    clear h
    subst hSe
    have h := h1
    clear h1
    obtain ⟨q, hSe, h1⟩ := Option.bind_eq_some_iff.mp h
    clear h
    subst hSe
    have h := h1
    clear h1
    obtain ⟨hd, hj, hn⟩ := hE
    exact ab_sto (hK _ _ _ _ h) (fun _ h => ⟨ab_h1 h, ab_t1 h⟩) (fun ad ls H locs cells slots hL _ k => lv_astore_n hx hb hd hj hL hn rfl k)
  | iinc j n =>
    obtain ⟨v, hv, h⟩ := ab_Li_inv h
    obtain ⟨hd, rfl, hxn, hn⟩ := hE
    exact ab_sto (hK _ _ _ _ h) (fun _ h => ⟨trivial, h⟩) (fun ad ls H locs cells slots hL _ k => by
      obtain ⟨n', hn'⟩ := List.getElem?_of_mem (ab_mem_al (ad := ad) (b := b) (q := (j, Value.int v)).mpr ⟨.inl v, hv, rfl⟩)
      exact lv_iinc hx hb hd hL hn' (by rw [hxn]) hn rfl k)
  | iadd =>
    obtain ⟨y, z, S', hSe, h1⟩ := ab_i2_inv h
    clear h
    subst hSe
    have h := h1
    clear h1
    exact ab_pure (hK _ _ _ _ h) (fun _ h => ab_c1 trivial (ab_t1 (ab_t1 h))) (fun ad ls H locs cells slots hL k => lv_iadd hx hb hE k)
  | isub =>
    obtain ⟨y, z, S', hSe, h1⟩ := ab_i2_inv h
    clear h
    subst hSe
    have h := h1
    clear h1
    exact ab_pure (hK _ _ _ _ h) (fun _ h => ab_c1 trivial (ab_t1 (ab_t1 h))) (fun ad ls H locs cells slots hL k => lv_isub hx hb hE k)
  | imul =>
    obtain ⟨y, z, S', hSe, h1⟩ := ab_i2_inv h
    clear h
    subst hSe
    have h := h1
    clear h1
    exact ab_pure (hK _ _ _ _ h) (fun _ h => ab_c1 trivial (ab_t1 (ab_t1 h))) (fun ad ls H locs cells slots hL k => lv_imul hx hb hE k)
  | iand =>
    obtain ⟨y, z, S', hSe, h1⟩ := ab_i2_inv h
    clear h
    subst hSe
    have h := h1
    clear h1
    exact ab_pure (hK _ _ _ _ h) (fun _ h => ab_c1 trivial (ab_t1 (ab_t1 h))) (fun ad ls H locs cells slots hL k => lv_iand hx hb hE k)
  | ior =>
    obtain ⟨y, z, S', hSe, h1⟩ := ab_i2_inv h
    clear h
    subst hSe
    have h := h1
    clear h1
    exact ab_pure (hK _ _ _ _ h) (fun _ h => ab_c1 trivial (ab_t1 (ab_t1 h))) (fun ad ls H locs cells slots hL k => lv_ior hx hb hE k)
  | ixor =>
    obtain ⟨y, z, S', hSe, h1⟩ := ab_i2_inv h
    clear h
    subst hSe
    have h := h1
    clear h1
    exact ab_pure (hK _ _ _ _ h) (fun _ h => ab_c1 trivial (ab_t1 (ab_t1 h))) (fun ad ls H locs cells slots hL k => lv_ixor hx hb hE k)
  | ishl =>
    obtain ⟨y, z, S', hSe, h1⟩ := ab_i2_inv h
    clear h
    subst hSe
    have h := h1
    clear h1
    exact ab_pure (hK _ _ _ _ h) (fun _ h => ab_c1 trivial (ab_t1 (ab_t1 h))) (fun ad ls H locs cells slots hL k => lv_ishl hx hb hE k)
  | ishr =>
    obtain ⟨y, z, S', hSe, h1⟩ := ab_i2_inv h
    clear h
    subst hSe
    have h := h1
    clear h1
    exact ab_pure (hK _ _ _ _ h) (fun _ h => ab_c1 trivial (ab_t1 (ab_t1 h))) (fun ad ls H locs cells slots hL k => lv_ishr hx hb hE k)
  | iushr =>
    obtain ⟨y, z, S', hSe, h1⟩ := ab_i2_inv h
    clear h
    subst hSe
    have h := h1
    clear h1
    exact ab_pure (hK _ _ _ _ h) (fun _ h => ab_c1 trivial (ab_t1 (ab_t1 h))) (fun ad ls H locs cells slots hL k => lv_iushr hx hb hE rfl k)
  | idiv =>
    obtain ⟨y, z, S', hSe, h1⟩ := ab_i2_inv h
    clear h
    subst hSe
    have h := h1
    clear h1
    by_cases hy : y = 0
    · rw [if_pos hy] at h
      cases h
    · rw [if_neg hy] at h
      exact ab_pure (hK _ _ _ _ h) (fun _ h => ab_c1 trivial (ab_t1 (ab_t1 h))) (fun ad ls H locs cells slots hL k => lv_idiv hx hb hE hy k)
  | irem =>
    obtain ⟨y, z, S', hSe, h1⟩ := ab_i2_inv h
    clear h
    subst hSe
    have h := h1
    clear h1
    by_cases hy : y = 0
    · rw [if_pos hy] at h
      cases h
    · rw [if_neg hy] at h
      exact ab_pure (hK _ _ _ _ h) (fun _ h => ab_c1 trivial (ab_t1 (ab_t1 h))) (fun ad ls H locs cells slots hL k => lv_irem hx hb hE hy k)
  | ladd =>
    obtain ⟨y, z, S', hSe, h1⟩ := ab_l2_inv h
    clear h
    subst hSe
    have h := h1
    clear h1
    exact ab_pure (hK _ _ _ _ h) (fun _ h => ab_c1 trivial (ab_t1 (ab_t1 h))) (fun ad ls H locs cells slots hL k => lv_ladd hx hb hE k)
  | lsub =>
    obtain ⟨y, z, S', hSe, h1⟩ := ab_l2_inv h
    clear h
    subst hSe
    have h := h1
    clear h1
    exact ab_pure (hK _ _ _ _ h) (fun _ h => ab_c1 trivial (ab_t1 (ab_t1 h))) (fun ad ls H locs cells slots hL k => lv_lsub hx hb hE k)
  | land =>
    obtain ⟨y, z, S', hSe, h1⟩ := ab_l2_inv h
    clear h
    subst hSe
    have h := h1
    clear h1
    exact ab_pure (hK _ _ _ _ h) (fun _ h => ab_c1 trivial (ab_t1 (ab_t1 h))) (fun ad ls H locs cells slots hL k => lv_land hx hb hE k)
  | lor =>
    obtain ⟨y, z, S', hSe, h1⟩ := ab_l2_inv h
    clear h
    subst hSe
    have h := h1
    clear h1
    exact ab_pure (hK _ _ _ _ h) (fun _ h => ab_c1 trivial (ab_t1 (ab_t1 h))) (fun ad ls H locs cells slots hL k => lv_lor hx hb hE k)
  | lcmp =>
    obtain ⟨y, z, S', hSe, h1⟩ := ab_l2_inv h
    clear h
    subst hSe
    have h := h1
    clear h1
    exact ab_pure (hK _ _ _ _ h) (fun _ h => ab_c1 trivial (ab_t1 (ab_t1 h))) (fun ad ls H locs cells slots hL k => W.lcmp hx hb hE k)
  | lshl =>
    obtain ⟨y, z, S', hSe, h1⟩ := ab_il_inv h
    clear h
    subst hSe
    have h := h1
    clear h1
    exact ab_pure (hK _ _ _ _ h) (fun _ h => ab_c1 trivial (ab_t1 (ab_t1 h))) (fun ad ls H locs cells slots hL k => lv_lshl hx hb hE rfl k)
  | lshr =>
    obtain ⟨y, z, S', hSe, h1⟩ := ab_il_inv h
    clear h
    subst hSe
    have h := h1
    clear h1
    exact ab_pure (hK _ _ _ _ h) (fun _ h => ab_c1 trivial (ab_t1 (ab_t1 h))) (fun ad ls H locs cells slots hL k => lv_lshr hx hb hE rfl k)
  | lushr =>
    obtain ⟨y, z, S', hSe, h1⟩ := ab_il_inv h
    clear h
    subst hSe
    have h := h1
    clear h1
    exact ab_pure (hK _ _ _ _ h) (fun _ h => ab_c1 trivial (ab_t1 (ab_t1 h))) (fun ad ls H locs cells slots hL k => lv_lushr hx hb hE rfl k)
  | i2l =>
    obtain ⟨y, S', hSe, h1⟩ := ab_i1_inv h
    clear h
    subst hSe
    have h := h1
    clear h1
    exact ab_pure (hK _ _ _ _ h) (fun _ h => ab_c1 trivial (ab_t1 h)) (fun ad ls H locs cells slots hL k => lv_i2l hx hb hE rfl k)
  | l2i =>
    obtain ⟨y, S', hSe, h1⟩ := ab_l1_inv h
    clear h
    subst hSe
    have h := h1
    clear h1
    exact ab_pure (hK _ _ _ _ h) (fun _ h => ab_c1 trivial (ab_t1 h)) (fun ad ls H locs cells slots hL k => lv_l2i hx hb hE rfl k)
  | dup =>
    by_cases hd : d = 0
    · have h : (if d = 0 then ab_i1 S (fun y S' => K (pc + 1) L (.inl y :: .inl y :: S') m) else ab_r1 S (fun k o S' => K (pc + 1) L (.inr (.inr (k, o)) :: .inr (.inr (k, o)) :: S') m)) = some ρ := h
      rw [if_pos hd] at h
      obtain ⟨y, S', hSe, h1⟩ := ab_i1_inv h
      clear h
      subst hSe
      have h := h1
      clear h1
      exact ab_pure (hK _ _ _ _ h) (fun _ h => ab_c1 trivial h) (fun ad ls H locs cells slots hL k => lv_dup hx hb hE rfl k)
    · have h : (if d = 0 then ab_i1 S (fun y S' => K (pc + 1) L (.inl y :: .inl y :: S') m) else ab_r1 S (fun k o S' => K (pc + 1) L (.inr (.inr (k, o)) :: .inr (.inr (k, o)) :: S') m)) = some ρ := h
      rw [if_neg hd] at h
      obtain ⟨k, o, S', hSe, h1⟩ := ab_r1_inv h
      clear h
      subst hSe
      have h := h1
      clear h1
      exact ab_pure (hK _ _ _ _ h) (fun _ h => ab_c1 (ab_h1 h) h) (fun ad ls H locs cells slots hL k' => lv_dup hx hb hE (ab_cat (fun y hy => by cases hy)) k')
  | dup2 =>
    obtain ⟨j, k, o, S', hSe, h1⟩ := ab_ir_inv h
    clear h
    subst hSe
    have h := h1
    clear h1
    exact ab_pure (hK _ _ _ _ h) (fun _ h => ab_c1 trivial (ab_c1 (ab_h1 (ab_t1 h)) h)) (fun ad ls H locs cells slots hL k' => lv_dup2_11 hx hb hE rfl (ab_cat (fun y hy => by cases hy)) k')
  | pop =>
    obtain ⟨y, S', hSe, h1⟩ := ab_i1_inv h
    clear h
    subst hSe
    have h := h1
    clear h1
    exact ab_pure (hK _ _ _ _ h) (fun _ h => ab_t1 h) (fun ad ls H locs cells slots hL k => lv_pop hx hb hE rfl k)
  | goto off =>
    exact ab_pure (hK _ _ _ _ h) (fun _ h => h) (fun ad ls H locs cells slots hL k => lv_goto hx hb hE.1 hE.2 k)
  | ifCond c off =>
    cases c with
    | eq =>
      obtain ⟨v, S', hSe, h1⟩ := ab_i1_inv h
      clear h
      subst hSe
      have h := h1
      clear h1
      by_cases hc : v = 0
      · rw [if_pos hc] at h
        exact ab_pure (hK _ _ _ _ h) (fun _ h => ab_t1 h) (fun ad ls H locs cells slots hL k => lv_if_eq hx hb hE.1 hE.2 (fun _ => k) (fun z => absurd hc z))
      · rw [if_neg hc] at h
        exact ab_pure (hK _ _ _ _ h) (fun _ h => ab_t1 h) (fun ad ls H locs cells slots hL k => lv_if_eq hx hb hE.1 hE.2 (fun z => absurd z hc) (fun _ => k))
    | ne =>
      obtain ⟨v, S', hSe, h1⟩ := ab_i1_inv h
      clear h
      subst hSe
      have h := h1
      clear h1
      by_cases hc : v = 0
      · rw [if_pos hc] at h
        exact ab_pure (hK _ _ _ _ h) (fun _ h => ab_t1 h) (fun ad ls H locs cells slots hL k => lv_if_ne hx hb hE.1 hE.2 (fun z => absurd hc z) (fun _ => k))
      · rw [if_neg hc] at h
        exact ab_pure (hK _ _ _ _ h) (fun _ h => ab_t1 h) (fun ad ls H locs cells slots hL k => lv_if_ne hx hb hE.1 hE.2 (fun _ => k) (fun z => absurd z hc))
    | lt =>
      obtain ⟨v, S', hSe, h1⟩ := ab_i1_inv h
      clear h
      subst hSe
      have h := h1
      clear h1
      by_cases hc : v < 0
      · rw [if_pos hc] at h
        exact ab_pure (hK _ _ _ _ h) (fun _ h => ab_t1 h) (fun ad ls H locs cells slots hL k => lv_if_lt hx hb hE.1 hE.2 (fun _ => k) (fun z => absurd hc z))
      · rw [if_neg hc] at h
        exact ab_pure (hK _ _ _ _ h) (fun _ h => ab_t1 h) (fun ad ls H locs cells slots hL k => lv_if_lt hx hb hE.1 hE.2 (fun z => absurd z hc) (fun _ => k))
    | ge =>
      obtain ⟨v, S', hSe, h1⟩ := ab_i1_inv h
      clear h
      subst hSe
      have h := h1
      clear h1
      by_cases hc : 0 ≤ v
      · rw [if_pos hc] at h
        exact ab_pure (hK _ _ _ _ h) (fun _ h => ab_t1 h) (fun ad ls H locs cells slots hL k => lv_if_ge hx hb hE.1 hE.2 (fun _ => k) (fun z => absurd hc z))
      · rw [if_neg hc] at h
        exact ab_pure (hK _ _ _ _ h) (fun _ h => ab_t1 h) (fun ad ls H locs cells slots hL k => lv_if_ge hx hb hE.1 hE.2 (fun z => absurd z hc) (fun _ => k))
    | gt =>
      obtain ⟨v, S', hSe, h1⟩ := ab_i1_inv h
      clear h
      subst hSe
      have h := h1
      clear h1
      by_cases hc : 0 < v
      · rw [if_pos hc] at h
        exact ab_pure (hK _ _ _ _ h) (fun _ h => ab_t1 h) (fun ad ls H locs cells slots hL k => lv_if_gt hx hb hE.1 hE.2 (fun _ => k) (fun z => absurd hc z))
      · rw [if_neg hc] at h
        exact ab_pure (hK _ _ _ _ h) (fun _ h => ab_t1 h) (fun ad ls H locs cells slots hL k => lv_if_gt hx hb hE.1 hE.2 (fun z => absurd z hc) (fun _ => k))
    | le =>
      obtain ⟨v, S', hSe, h1⟩ := ab_i1_inv h
      clear h
      subst hSe
      have h := h1
      clear h1
      by_cases hc : v ≤ 0
      · rw [if_pos hc] at h
        exact ab_pure (hK _ _ _ _ h) (fun _ h => ab_t1 h) (fun ad ls H locs cells slots hL k => lv_if_le hx hb hE.1 hE.2 (fun _ => k) (fun z => absurd hc z))
      · rw [if_neg hc] at h
        exact ab_pure (hK _ _ _ _ h) (fun _ h => ab_t1 h) (fun ad ls H locs cells slots hL k => lv_if_le hx hb hE.1 hE.2 (fun z => absurd z hc) (fun _ => k))
  | if_icmp c off =>
    cases c with
    | eq =>
      obtain ⟨y, z, S', hSe, h1⟩ := ab_i2_inv h
      clear h
      subst hSe
      have h := h1
      clear h1
      by_cases hc : z = y
      · rw [if_pos hc] at h
        exact ab_pure (hK _ _ _ _ h) (fun _ h => ab_t1 (ab_t1 h)) (fun ad ls H locs cells slots hL k => lv_icmp_eq hx hb hE.1 hE.2 (fun _ => k) (fun z => absurd hc z))
      · rw [if_neg hc] at h
        exact ab_pure (hK _ _ _ _ h) (fun _ h => ab_t1 (ab_t1 h)) (fun ad ls H locs cells slots hL k => lv_icmp_eq hx hb hE.1 hE.2 (fun z => absurd z hc) (fun _ => k))
    | ne =>
      obtain ⟨y, z, S', hSe, h1⟩ := ab_i2_inv h
      clear h
      subst hSe
      have h := h1
      clear h1
      by_cases hc : z = y
      · rw [if_pos hc] at h
        exact ab_pure (hK _ _ _ _ h) (fun _ h => ab_t1 (ab_t1 h)) (fun ad ls H locs cells slots hL k => lv_icmp_ne hx hb hE.1 hE.2 (fun z => absurd hc z) (fun _ => k))
      · rw [if_neg hc] at h
        exact ab_pure (hK _ _ _ _ h) (fun _ h => ab_t1 (ab_t1 h)) (fun ad ls H locs cells slots hL k => lv_icmp_ne hx hb hE.1 hE.2 (fun _ => k) (fun z => absurd z hc))
    | lt =>
      obtain ⟨y, z, S', hSe, h1⟩ := ab_i2_inv h
      clear h
      subst hSe
      have h := h1
      clear h1
      by_cases hc : z < y
      · rw [if_pos hc] at h
        exact ab_pure (hK _ _ _ _ h) (fun _ h => ab_t1 (ab_t1 h)) (fun ad ls H locs cells slots hL k => lv_icmp_lt hx hb hE.1 hE.2 (fun _ => k) (fun z => absurd hc z))
      · rw [if_neg hc] at h
        exact ab_pure (hK _ _ _ _ h) (fun _ h => ab_t1 (ab_t1 h)) (fun ad ls H locs cells slots hL k => lv_icmp_lt hx hb hE.1 hE.2 (fun z => absurd z hc) (fun _ => k))
    | ge =>
      obtain ⟨y, z, S', hSe, h1⟩ := ab_i2_inv h
      clear h
      subst hSe
      have h := h1
      clear h1
      by_cases hc : y ≤ z
      · rw [if_pos hc] at h
        exact ab_pure (hK _ _ _ _ h) (fun _ h => ab_t1 (ab_t1 h)) (fun ad ls H locs cells slots hL k => lv_icmp_ge hx hb hE.1 hE.2 (fun _ => k) (fun z => absurd hc z))
      · rw [if_neg hc] at h
        exact ab_pure (hK _ _ _ _ h) (fun _ h => ab_t1 (ab_t1 h)) (fun ad ls H locs cells slots hL k => lv_icmp_ge hx hb hE.1 hE.2 (fun z => absurd z hc) (fun _ => k))
    | gt =>
      obtain ⟨y, z, S', hSe, h1⟩ := ab_i2_inv h
      clear h
      subst hSe
      have h := h1
      clear h1
      by_cases hc : y < z
      · rw [if_pos hc] at h
        exact ab_pure (hK _ _ _ _ h) (fun _ h => ab_t1 (ab_t1 h)) (fun ad ls H locs cells slots hL k => lv_icmp_gt hx hb hE.1 hE.2 (fun _ => k) (fun z => absurd hc z))
      · rw [if_neg hc] at h
        exact ab_pure (hK _ _ _ _ h) (fun _ h => ab_t1 (ab_t1 h)) (fun ad ls H locs cells slots hL k => lv_icmp_gt hx hb hE.1 hE.2 (fun z => absurd z hc) (fun _ => k))
    | le =>
      obtain ⟨y, z, S', hSe, h1⟩ := ab_i2_inv h
      clear h
      subst hSe
      have h := h1
      clear h1
      by_cases hc : z ≤ y
      · rw [if_pos hc] at h
        exact ab_pure (hK _ _ _ _ h) (fun _ h => ab_t1 (ab_t1 h)) (fun ad ls H locs cells slots hL k => lv_icmp_le hx hb hE.1 hE.2 (fun _ => k) (fun z => absurd hc z))
      · rw [if_neg hc] at h
        exact ab_pure (hK _ _ _ _ h) (fun _ h => ab_t1 (ab_t1 h)) (fun ad ls H locs cells slots hL k => lv_icmp_le hx hb hE.1 hE.2 (fun z => absurd z hc) (fun _ => k))
  | ifnull off =>
    obtain ⟨k, o, S', hSe, h1⟩ := ab_r1_inv h
    clear h
    subst hSe
    have h := h1
    clear h1
    cases o with
    | none => exact ab_pure (hK _ _ _ _ h) (fun _ h => ab_t1 h) (fun ad ls H locs cells slots hL k => lv_ifnullN hx hb hE.1 hE.2 k)
    | some q => exact ab_pure (hK _ _ _ _ h) (fun _ h => ab_t1 h) (fun ad ls H locs cells slots hL k => lv_ifnull hx hb hE.1 k)
  | ifnonnull off =>
    obtain ⟨k, o, S', hSe, h1⟩ := ab_r1_inv h
    clear h
    subst hSe
    have h := h1
    clear h1
    cases o with
    | none => exact ab_pure (hK _ _ _ _ h) (fun _ h => ab_t1 h) (fun ad ls H locs cells slots hL k => lv_ifnonnullN hx hb hE.1 k)
    | some q => exact ab_pure (hK _ _ _ _ h) (fun _ h => ab_t1 h) (fun ad ls H locs cells slots hL k => lv_ifnonnull hx hb hE.1 hE.2 k)
  | tableswitch dflt lo hi offs =>
    obtain ⟨v, S', hSe, h1⟩ := ab_i1_inv h
    clear h
    subst hSe
    have h := h1
    clear h1
    obtain ⟨⟨len, hd⟩, h1, h2, h3⟩ := hE
    rcases ab_swk _ h with ⟨t, ht, h⟩ | ⟨hno, h⟩
    · obtain ⟨g1, g2, off, g3, g4⟩ := h1 (v, t) ht
      exact ab_pure (hK _ _ _ _ h) (fun _ h => ab_t1 h) (fun ad ls H locs cells slots hL k => lv_tableIn hx hb hd g1 g2 g3 g4 k)
    · have hout : v.toInt < lo ∨ hi < v.toInt := by
        by_cases g1 : v.toInt < lo
        · exact Or.inl g1
        · by_cases g2 : hi < v.toInt
          · exact Or.inr g2
          · obtain ⟨z, hz, hzv⟩ := h2 (v.toInt - lo).toNat (by omega)
            exact absurd (Int32.toInt_inj.mp (by rw [hzv]; omega)) (hno z hz)
      exact ab_pure (hK _ _ _ _ h) (fun _ h => ab_t1 h) (fun ad ls H locs cells slots hL k => lv_tableOut hx hb hd hout h3 k)
  | getfield idx =>
    obtain ⟨k, o, S', hSe, h1⟩ := ab_r1_inv h
    clear h
    subst hSe
    have h := h1
    clear h1
    obtain ⟨q, hSe, h1⟩ := Option.bind_eq_some_iff.mp h
    clear h
    subst hSe
    have h := h1
    clear h1
    obtain ⟨t, r, k', d', v, hfs, h, hv⟩ := ab_gf_inv h
    exact ab_getf hx hb hts hown hK0 h00 hE.1 hE.2 hfs hv (hK _ _ _ _ h)
  | putfield idx =>
    obtain ⟨hdg, ty, hfl, hty⟩ := hE
    by_cases hd : d = 0
    · have h : (if d = 0 then ab_ir S (fun v k o S' => o.bind fun q => ab_pf (ab_fs KT a b' k) m q v fun m' => K (pc + 3) L S' m') else ab_rr S (fun k2 o2 k o S' => o.bind fun q => o2.bind fun q2 => ab_pr (ab_fs KT a b' k) m q k2 q2 fun m' => K (pc + 3) L S' m')) = some ρ := h
      rw [if_pos hd] at h
      obtain ⟨v, k, o, S', hSe, h1⟩ := ab_ir_inv h
      clear h
      subst hSe
      have h := h1
      clear h1
      obtain ⟨q, hSe, h1⟩ := Option.bind_eq_some_iff.mp h
      clear h
      subst hSe
      have h := h1
      clear h1
      obtain ⟨t, r, k', d', hfs, h, hv⟩ := ab_pf_inv h
      have ht := hty k t r k' d' hfs
      exact ab_putI hx hb hts hown hK0 h00 hnd hdg hfl hfs ⟨ht.1, ht.2.1⟩ hv (hK _ _ _ _ h)
    · have h : (if d = 0 then ab_ir S (fun v k o S' => o.bind fun q => ab_pf (ab_fs KT a b' k) m q v fun m' => K (pc + 3) L S' m') else ab_rr S (fun k2 o2 k o S' => o.bind fun q => o2.bind fun q2 => ab_pr (ab_fs KT a b' k) m q k2 q2 fun m' => K (pc + 3) L S' m')) = some ρ := h
      rw [if_neg hd] at h
      obtain ⟨k2, o2, k, o, S', hSe, h1⟩ := ab_rr_inv h
      clear h
      subst hSe
      have h := h1
      clear h1
      obtain ⟨q, hSe, h1⟩ := Option.bind_eq_some_iff.mp h
      clear h
      subst hSe
      have h := h1
      clear h1
      obtain ⟨q2, hSe, h1⟩ := Option.bind_eq_some_iff.mp h
      clear h
      subst hSe
      have h := h1
      clear h1
      obtain ⟨r, d', hfs, h⟩ := ab_pr_inv h
      have ht := hty k 2 r k2 d' hfs
      exact ab_putR hx hb hts hown hK0 h00 hnd hdg hfl hfs (ht.2.2 rfl).1 (ht.2.2 rfl).2 (hK _ _ _ _ h)
  | iaload =>
    obtain ⟨j, k, o, S', hSe, h1⟩ := ab_ir_inv h
    clear h
    subst hSe
    have h := h1
    clear h1
    by_cases hk0 : k = 0
    · rw [if_pos hk0] at h
      subst hk0
      obtain ⟨q, hSe, h1⟩ := Option.bind_eq_some_iff.mp h
      clear h
      subst hSe
      have h := h1
      clear h1
      obtain ⟨z, hz, h1⟩ := Option.bind_eq_some_iff.mp h
      clear h
      have h := h1
      clear h1
      obtain ⟨i, hi, h1⟩ := Option.bind_eq_some_iff.mp h
      clear h
      have h := h1
      clear h1
      exact ab_sld hx hb (hsc z hz) hE hi (fun z => by cases z) (hK _ _ _ _ h)
    · rw [if_neg hk0] at h
      obtain ⟨q, hSe, h1⟩ := Option.bind_eq_some_iff.mp h
      clear h
      subst hSe
      have h := h1
      clear h1
      obtain ⟨r, len, k', a', st, has, h⟩ := ab_ga_inv h
      have has := ab_as_inv has
      obtain ⟨i, hi, h1⟩ := Option.bind_eq_some_iff.mp h
      clear h
      have h := h1
      clear h1
      exact ab_iald hx hb hK0 hE hk0 has hi (hK _ _ _ _ h)
  | baload =>
    obtain ⟨j, k, o, S', hSe, h1⟩ := ab_ir_inv h
    clear h
    subst hSe
    have h := h1
    clear h1
    obtain ⟨q, hSe, h1⟩ := Option.bind_eq_some_iff.mp h
    clear h
    subst hSe
    have h := h1
    clear h1
    obtain ⟨r, len, k', a', st, has, h⟩ := ab_ga_inv h
    have has := ab_as_inv has
    obtain ⟨i, hi, h1⟩ := Option.bind_eq_some_iff.mp h
    clear h
    have h := h1
    clear h1
    exact ab_zald hx hb hK0 hE (ne0 has (fun z => by cases z)) has hi (hK _ _ _ _ h)
  | laload =>
    obtain ⟨j, k, o, S', hSe, h1⟩ := ab_ir_inv h
    clear h
    subst hSe
    have h := h1
    clear h1
    obtain ⟨q, hSe, h1⟩ := Option.bind_eq_some_iff.mp h
    clear h
    subst hSe
    have h := h1
    clear h1
    obtain ⟨r, len, k', a', st, has, h⟩ := ab_ga_inv h
    have has := ab_as_inv has
    obtain ⟨i, hi, h1⟩ := Option.bind_eq_some_iff.mp h
    clear h
    have h := h1
    clear h1
    exact ab_lald hx hb hK0 hE (ne0 has (fun z => by cases z)) has hi (hK _ _ _ _ h)
  | aaload =>
    obtain ⟨j, k, o, S', hSe, h1⟩ := ab_ir_inv h
    clear h
    subst hSe
    have h := h1
    clear h1
    obtain ⟨q, hSe, h1⟩ := Option.bind_eq_some_iff.mp h
    clear h
    subst hSe
    have h := h1
    clear h1
    obtain ⟨r, len, t, k', a', st, i, v, has, hi, h, hv⟩ := ab_gr_inv h
    have has := ab_as_inv has
    exact ab_aald hx hb hK0 hE (ne0 has (fun z => by rcases hv with ⟨rfl, -⟩ | ⟨rfl, -⟩ <;> cases z)) has hi hv (hK _ _ _ _ h)
  | iastore =>
    obtain ⟨v, j, k, o, S', hSe, h1⟩ := ab_iir_inv h
    clear h
    subst hSe
    have h := h1
    clear h1
    obtain ⟨q, hSe, h1⟩ := Option.bind_eq_some_iff.mp h
    clear h
    subst hSe
    have h := h1
    clear h1
    obtain ⟨r, len, k', a', st, has, h⟩ := ab_ga_inv h
    have has := ab_as_inv has
    obtain ⟨i, hi, h1⟩ := Option.bind_eq_some_iff.mp h
    clear h
    have h := h1
    clear h1
    exact ab_iast hx hb hK0 hE (ne0 has (fun z => by cases z)) has hi (hK _ _ _ _ h)
  | bastore =>
    obtain ⟨v, j, k, o, S', hSe, h1⟩ := ab_iir_inv h
    clear h
    subst hSe
    have h := h1
    clear h1
    obtain ⟨q, hSe, h1⟩ := Option.bind_eq_some_iff.mp h
    clear h
    subst hSe
    have h := h1
    clear h1
    obtain ⟨r, len, k', a', st, has, h1⟩ := ab_ga_inv h
    clear h
    have h := h1
    clear h1
    have has := ab_as_inv has
    obtain ⟨i, hi, h1⟩ := Option.bind_eq_some_iff.mp h
    clear h
    have h := h1
    clear h1
    obtain ⟨v', hv', h1⟩ := Option.bind_eq_some_iff.mp h
    clear h
    have h := h1
    clear h1
    obtain ⟨rfl, hv⟩ := ab_bo_of hv'
    exact ab_zast hx hb hK0 hE (ne0 has (fun z => by cases z)) has hi hv (hK _ _ _ _ h)
  | lastore =>
    obtain ⟨v, j, k, o, S', hSe, h1⟩ := ab_lir_inv h
    clear h
    subst hSe
    have h := h1
    clear h1
    obtain ⟨q, hSe, h1⟩ := Option.bind_eq_some_iff.mp h
    clear h
    subst hSe
    have h := h1
    clear h1
    obtain ⟨r, len, k', a', st, has, h⟩ := ab_ga_inv h
    have has := ab_as_inv has
    obtain ⟨i, hi, h1⟩ := Option.bind_eq_some_iff.mp h
    clear h
    have h := h1
    clear h1
    exact ab_last hx hb hK0 hE (ne0 has (fun z => by cases z)) has hi (hK _ _ _ _ h)
  | aastore =>
    obtain ⟨k2, o2, j, k, o, S', hSe, h1⟩ := ab_rir_inv h
    clear h
    subst hSe
    have h := h1
    clear h1
    obtain ⟨q, hSe, h1⟩ := Option.bind_eq_some_iff.mp h
    clear h
    subst hSe
    have h := h1
    clear h1
    obtain ⟨q2, hSe, h1⟩ := Option.bind_eq_some_iff.mp h
    clear h
    subst hSe
    have h := h1
    clear h1
    obtain ⟨r, len, a', st, has, h⟩ := ab_ga3_inv h
    have has := ab_as_inv has
    obtain ⟨i, hi, h1⟩ := Option.bind_eq_some_iff.mp h
    clear h
    have h := h1
    clear h1
    obtain ⟨hk20, ci, fs, z, g1, g2⟩ := hk3 _ _ _ _ _ _ has
    exact ab_aast hx hb hK0 hnd hE (ne0 has (fun z => by cases z)) hk20 has hi g1 g2 (hK _ _ _ _ h)
  | arraylength =>
    obtain ⟨k, o, S', hSe, h1⟩ := ab_r1_inv h
    clear h
    subst hSe
    have h := h1
    clear h1
    by_cases hk0 : k = 0
    · rw [if_pos hk0] at h
      subst hk0
      obtain ⟨q, hSe, h1⟩ := Option.bind_eq_some_iff.mp h
      clear h
      subst hSe
      have h := h1
      clear h1
      obtain ⟨z, hz, h1⟩ := Option.bind_eq_some_iff.mp h
      clear h
      have h := h1
      clear h1
      exact ab_slen hx hb (hsc z hz) hE (fun z => by cases z) (hK _ _ _ _ h)
    · rw [if_neg hk0] at h
      obtain ⟨q, hSe, h1⟩ := Option.bind_eq_some_iff.mp h
      clear h
      subst hSe
      have h := h1
      clear h1
      obtain ⟨z, hz, h1⟩ := Option.bind_eq_some_iff.mp h
      clear h
      have h := h1
      clear h1
      exact ab_alen hx hb hK0 hE hk0 (ab_as_inv hz) (hK _ _ _ _ h)
  | new idx =>
    exact ab_newo hx hb hts hown hK0 hnd hA hG hHs hE.1 hE.2 (hK _ _ _ _ h)
  | newarray at' =>
    obtain ⟨v, S', hSe, h1⟩ := ab_i1_inv h
    clear h
    subst hSe
    have h := h1
    clear h1
    obtain ⟨z, hz, h1⟩ := Option.bind_eq_some_iff.mp h
    clear h
    have h := h1
    clear h1
    by_cases hv : v = Int32.ofNat z.2.1
    · rw [if_pos hv] at h
      subst hv
      exact ab_newa hx hb hts hK0 hnd hA hG hHs hE.1 hE.2 (ab_as_inv hz) (hK _ _ _ _ h)
    · rw [if_neg hv] at h
      cases h
  | anewarray idx =>
    obtain ⟨v, S', hSe, h1⟩ := ab_i1_inv h
    clear h
    subst hSe
    have h := h1
    clear h1
    obtain ⟨z, hz, h1⟩ := Option.bind_eq_some_iff.mp h
    clear h
    have h := h1
    clear h1
    by_cases hv : v = Int32.ofNat z.2.1
    · rw [if_pos hv] at h
      subst hv
      exact ab_newq hX hx hb hts hown hK0 hnd hA hG hHs hE.1 hE.2 (ab_as_inv hz) (hK _ _ _ _ h)
    · rw [if_neg hv] at h
      cases h
  | invokevirtual idx =>
    have hcl := hcl rfl
    have h : (if Nat.ble (ab_wd (S.drop b')) 8 = true then (if d = 0 then (eV a (S.take b').reverse m).bind (fun m' => K (pc + 3) L (S.drop b') m') else (eI a (S.take b').reverse m).bind (fun q => K (pc + 3) L (.inl q.1 :: S.drop b') (q.2))) else none) = some ρ := h
    by_cases hwd : Nat.ble (ab_wd (S.drop b')) 8 = true
    · rw [if_pos hwd] at h
      by_cases hd : d = 0
      · rw [if_pos hd] at h
        obtain ⟨m', hm', h1⟩ := Option.bind_eq_some_iff.mp h
        clear h
        have h := h1
        clear h1
        exact hcl.1 L S m m' (Nat.le_of_ble_eq_true hwd) hm' (hK _ _ _ _ h)
      · rw [if_neg hd] at h
        obtain ⟨q, hq, h1⟩ := Option.bind_eq_some_iff.mp h
        clear h
        have h := h1
        clear h1
        exact hcl.2 L S m q (Nat.le_of_ble_eq_true hwd) hq (hK _ _ _ _ h)
    · rw [if_neg hwd] at h
      cases h
  | invokespecial idx =>
    have hcl := hcl rfl
    have h : (if Nat.ble (ab_wd (S.drop b')) 8 = true then (if d = 0 then (eV a (S.take b').reverse m).bind (fun m' => K (pc + 3) L (S.drop b') m') else (eI a (S.take b').reverse m).bind (fun q => K (pc + 3) L (.inl q.1 :: S.drop b') (q.2))) else none) = some ρ := h
    by_cases hwd : Nat.ble (ab_wd (S.drop b')) 8 = true
    · rw [if_pos hwd] at h
      by_cases hd : d = 0
      · rw [if_pos hd] at h
        obtain ⟨m', hm', h1⟩ := Option.bind_eq_some_iff.mp h
        clear h
        have h := h1
        clear h1
        exact hcl.1 L S m m' (Nat.le_of_ble_eq_true hwd) hm' (hK _ _ _ _ h)
      · rw [if_neg hd] at h
        obtain ⟨q, hq, h1⟩ := Option.bind_eq_some_iff.mp h
        clear h
        have h := h1
        clear h1
        exact hcl.2 L S m q (Nat.le_of_ble_eq_true hwd) hq (hK _ _ _ _ h)
    · rw [if_neg hwd] at h
      cases h
  | invokestatic idx =>
    have hcl := hcl rfl
    have h : (if Nat.ble (ab_wd (S.drop b')) 8 = true then (if d = 0 then (eV a (S.take b').reverse m).bind (fun m' => K (pc + 3) L (S.drop b') m') else (eI a (S.take b').reverse m).bind (fun q => K (pc + 3) L (.inl q.1 :: S.drop b') (q.2))) else none) = some ρ := h
    by_cases hwd : Nat.ble (ab_wd (S.drop b')) 8 = true
    · rw [if_pos hwd] at h
      by_cases hd : d = 0
      · rw [if_pos hd] at h
        obtain ⟨m', hm', h1⟩ := Option.bind_eq_some_iff.mp h
        clear h
        have h := h1
        clear h1
        exact hcl.1 L S m m' (Nat.le_of_ble_eq_true hwd) hm' (hK _ _ _ _ h)
      · rw [if_neg hd] at h
        obtain ⟨q, hq, h1⟩ := Option.bind_eq_some_iff.mp h
        clear h
        have h := h1
        clear h1
        exact hcl.2 L S m q (Nat.le_of_ble_eq_true hwd) hq (hK _ _ _ _ h)
    · rw [if_neg hwd] at h
      cases h
  | ireturn =>
    obtain ⟨v, S', hSe, h1⟩ := ab_i1_inv h
    clear h
    subst hSe
    have h := h1
    clear h1
    by_cases hS : S'.isEmpty = true
    · rw [if_pos hS] at h
      have hS' : S' = [] := List.isEmpty_iff.mp hS
      subst hS'
      by_cases hd : d = 0
      · rw [if_pos hd] at h
        exact absurd (Option.some.inj h).symm (hnr _ _)
      · rw [if_neg hd] at h
        obtain ⟨v', hv', h1⟩ := Option.bind_eq_some_iff.mp h
        clear h
        have h := h1
        clear h1
        obtain ⟨rfl, hv⟩ := ab_bo_of hv'
        exact absurd (Option.some.inj h).symm (hnr _ _)
    · rw [if_neg hS] at h
      cases h
  | return_ =>
    have h : (if S.isEmpty = true then some (Sum.inl (none, m)) else none) = some ρ := h
    by_cases hS : S.isEmpty = true
    · rw [if_pos hS] at h
      have hS' : S = [] := List.isEmpty_iff.mp hS
      subst hS'
      exact absurd (Option.some.inj h).symm (hnr _ _)
    · rw [if_neg hS] at h
      cases h
  | _ => cases h
end
section
variable {p : Program} {l : Launch} {e : Env} {R : Room} {s : State} {m0 : MethodId} {args : Array Value} {below : List Frame} {meth : Method} {cd : Code} {Q : State → Prop} {cc : ByteArray}
variable {KT : List KS} {cl : List vw_C} {D : va_G} {sc : Option (Nat × (Nat → Int32))} {b : Nat} {A : Nat → Prop} {H0 : Heap} {ks0 : List Nat} {g0 h0 nL G Hs : Nat} {ad0 ac0 : Nat → Nat} {Ts : List Cond} {own : String}
theorem ab_soundQ (hX : ab_X s) (hx : p.tables.exec = Jvm.exec) (hb : cd.code = cc) (hts : ∀ w ∈ Ts, w.before args s = true) (hown : s.vm.findClass own = some m0.cls) (hK0 : va_K D cl [] s) (h00 : KT[0]? = some (.inr (0, 0, 9, 0, 0, 0))) (hnd : ab_nd KT) (hk3 : ab_k3 KT cl) (hA : ∀ q, H0.size ≤ q → A q) (hG : G ≤ g0 + R.cells) (hHs : Hs ≤ h0 + R.slots)
    (hsc : ∀ z, sc = some z → va_X b z.1 z.2 s H0 ∧ b < H0.size ∧ ¬ A b) (hlocks : meth.locks = false)
    {sw : Nat → List (Int32 × Nat) × Nat} {eV : Nat → List AV → Mm → Option Mm} {eI : Nat → List AV → Mm → Option (Int32 × Mm)} {ρ : Rs} {ins : Nat → Option Ent} {hd : Nat → Nat × List Bool}
    (hnr : ∀ (r : Option AV) (m' : Mm), ρ ≠ .inl (r, m'))
    (hstop : ∀ c', ρ = .inr c' → ab_W p l e R s m0 args below meth cd Q KT cl D sc b A H0 ks0 g0 h0 nL G Hs ad0 ac0 c')
    (hE : ∀ (pc : Nat) (q : Ent), ins pc = some q → ab_E KT cl Ts own meth.name meth.sig.returnType cc sw nL pc q.1 q.2.1 q.2.2.1 q.2.2.2.1 q.2.2.2.2)
    (hcl : ∀ (pc : Nat) (q : Ent), ins pc = some q → ab_inv q.1 = true → (∀ (L : List (Option AV)) (S : List AV) (m m' : Mm), ab_wd (S.drop q.2.2.1) ≤ 8 → eV q.2.1 (S.take q.2.2.1).reverse m = some m' → ab_W p l e R s m0 args below meth cd Q KT cl D sc b A H0 ks0 g0 h0 nL G Hs ad0 ac0 (pc + 3, L, S.drop q.2.2.1, m') → ab_W p l e R s m0 args below meth cd Q KT cl D sc b A H0 ks0 g0 h0 nL G Hs ad0 ac0 (pc, L, S, m)) ∧
      (∀ (L : List (Option AV)) (S : List AV) (m : Mm) (z : Int32 × Mm), ab_wd (S.drop q.2.2.1) ≤ 8 → eI q.2.1 (S.take q.2.2.1).reverse m = some z → ab_W p l e R s m0 args below meth cd Q KT cl D sc b A H0 ks0 g0 h0 nL G Hs ad0 ac0 (pc + 3, L, .inl z.1 :: S.drop q.2.2.1, z.2) → ab_W p l e R s m0 args below meth cd Q KT cl D sc b A H0 ks0 g0 h0 nL G Hs ad0 ac0 (pc, L, S, m))) :
    ∀ (f pc : Nat) (L : List (Option AV)) (S : List AV) (m : Mm), ab_ex KT sc sw eV eI ins hd f pc L S m = some ρ → ab_W p l e R s m0 args below meth cd Q KT cl D sc b A H0 ks0 g0 h0 nL G Hs ad0 ac0 (pc, L, S, m) := by
  intro f
  induction f with
  | zero => intro pc L S m h; cases h
  | succ f ih =>
    have key : ∀ (n pc : Nat) (L : List (Option AV)) (S : List AV) (m : Mm), ab_seg KT sc sw eV eI ins hd (ab_ex KT sc sw eV eI ins hd f) n pc L S m = some ρ → ab_W p l e R s m0 args below meth cd Q KT cl D sc b A H0 ks0 g0 h0 nL G Hs ad0 ac0 (pc, L, S, m) := by
      intro n
      induction n with
      | zero => intro pc L S m h; cases h
      | succ n ihn =>
        intro pc L S m h
        obtain ⟨q, hq, h⟩ := Option.bind_eq_some_iff.mp h
        refine ab_stepQ hX hx hb hts hown hK0 h00 hnd hk3 hA hG hHs hsc hlocks (K := fun pc' L' S' m' => match hd pc' with
          | (0, _) => ab_seg KT sc sw eV eI ins hd (ab_ex KT sc sw eV eI ins hd f) n pc' L' S' m'
          | (1, msk) => ab_ex KT sc sw eV eI ins hd f pc' (ab_mk msk L') S' m'
          | _ => some (.inr (pc', L', S', m'))) ?_ hnr (hcl pc q hq) (hE pc q hq) h
        intro pc' L' S' m' hc'
        split at hc'
        · exact ihn _ _ _ _ hc'
        · rename_i msk _
          exact ab_W_mk msk (ih _ _ _ _ hc')
        · exact hstop _ (Option.some.inj hc').symm
    intro pc L S m h
    exact key 1000 _ _ _ _ h
end
