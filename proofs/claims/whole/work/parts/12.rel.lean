/-! What every run keeps: a relation between memories that each store keeps. -/
section
def ab_rm (ρ : Rs) : Mm := match ρ with
  | .inl (_, m) => m
  | .inr c => c.2.2.2
def ab_isn (i : Instr) : Bool := match i with
  | .new _ | .newarray _ | .anewarray _ => true
  | _ => false
variable {KT : List KS} {sc : Option (Nat × (Nat → Int32))}
set_option maxHeartbeats 4000000 in
theorem ab_rst {Rl : Mm → Mm → Prop} (hr : ∀ m, Rl m m) (ht : ∀ a b c, Rl a b → Rl b c → Rl a c) (hI : ∀ m r p j x, Rl m (ab_uI m r p j x)) (hJ : ∀ m r p j x, Rl m (ab_uJ m r p j x)) (hR : ∀ m r p j x, Rl m (ab_uR m r p j x))
    {sw : Nat → List (Int32 × Nat) × Nat} {eV : Nat → List AV → Mm → Option Mm} {eI : Nat → List AV → Mm → Option (Int32 × Mm)} {ρ : Rs} {K : Nat → List (Option AV) → List AV → Mm → Option Rs} {i : Instr} {a b' d pc : Nat} {x : Int32} {L : List (Option AV)} {S : List AV} {m : Mm}
    (hN : ab_isn i = true → ∀ m, Rl m (ab_ap m a)) (hV : ab_inv i = true → ∀ av m m', eV a av m = some m' → Rl m m') (hIv : ab_inv i = true → ∀ av m q, eI a av m = some q → Rl m q.2)
    (hK : ∀ (pc' : Nat) (L' : List (Option AV)) (S' : List AV) (m' : Mm), K pc' L' S' m' = some ρ → Rl m' (ab_rm ρ)) (h : ab_st KT sc sw eV eI i a b' d x pc L S m K = some ρ) : Rl m (ab_rm ρ) := by
  cases i with
  | iconst n =>
    exact hK _ _ _ _ h
  | bipush n =>
    exact hK _ _ _ _ h
  | sipush n =>
    exact hK _ _ _ _ h
  | ldc idx =>
    exact hK _ _ _ _ h
  | lconst n =>
    exact hK _ _ _ _ h
  | ldc2_w idx =>
    exact hK _ _ _ _ h
  | goto off =>
    exact hK _ _ _ _ h
  | iload j =>
    obtain ⟨v, hv, h⟩ := ab_Li_inv h
    exact hK _ _ _ _ h
  | iload_n j =>
    obtain ⟨v, hv, h⟩ := ab_Li_inv h
    exact hK _ _ _ _ h
  | iinc j n =>
    obtain ⟨v, hv, h⟩ := ab_Li_inv h
    exact hK _ _ _ _ h
  | lload j =>
    obtain ⟨v, hv, h⟩ := ab_Ll_inv h
    exact hK _ _ _ _ h
  | lload_n j =>
    obtain ⟨v, hv, h⟩ := ab_Ll_inv h
    exact hK _ _ _ _ h
  | aload j =>
    obtain ⟨k, o, hv, h⟩ := ab_Lr_inv h
    exact hK _ _ _ _ h
  | aload_n j =>
    obtain ⟨k, o, hv, h⟩ := ab_Lr_inv h
    exact hK _ _ _ _ h
  | istore j =>
    obtain ⟨v, S', hSe, h⟩ := ab_i1_inv h
    exact hK _ _ _ _ h
  | istore_n j =>
    obtain ⟨v, S', hSe, h⟩ := ab_i1_inv h
    exact hK _ _ _ _ h
  | i2l =>
    obtain ⟨v, S', hSe, h⟩ := ab_i1_inv h
    exact hK _ _ _ _ h
  | pop =>
    obtain ⟨v, S', hSe, h⟩ := ab_i1_inv h
    exact hK _ _ _ _ h
  | lstore j =>
    obtain ⟨v, S', hSe, h⟩ := ab_l1_inv h
    exact hK _ _ _ _ h
  | lstore_n j =>
    obtain ⟨v, S', hSe, h⟩ := ab_l1_inv h
    exact hK _ _ _ _ h
  | l2i =>
    obtain ⟨v, S', hSe, h⟩ := ab_l1_inv h
    exact hK _ _ _ _ h
  | astore j =>
    obtain ⟨k, o, S', hSe, h⟩ := ab_r1_inv h
    obtain ⟨q, hq, h⟩ := Option.bind_eq_some_iff.mp h
    exact hK _ _ _ _ h
  | astore_n j =>
    obtain ⟨k, o, S', hSe, h⟩ := ab_r1_inv h
    obtain ⟨q, hq, h⟩ := Option.bind_eq_some_iff.mp h
    exact hK _ _ _ _ h
  | iadd =>
    obtain ⟨y, z, S', hSe, h⟩ := ab_i2_inv h
    exact hK _ _ _ _ h
  | isub =>
    obtain ⟨y, z, S', hSe, h⟩ := ab_i2_inv h
    exact hK _ _ _ _ h
  | imul =>
    obtain ⟨y, z, S', hSe, h⟩ := ab_i2_inv h
    exact hK _ _ _ _ h
  | iand =>
    obtain ⟨y, z, S', hSe, h⟩ := ab_i2_inv h
    exact hK _ _ _ _ h
  | ior =>
    obtain ⟨y, z, S', hSe, h⟩ := ab_i2_inv h
    exact hK _ _ _ _ h
  | ixor =>
    obtain ⟨y, z, S', hSe, h⟩ := ab_i2_inv h
    exact hK _ _ _ _ h
  | ishl =>
    obtain ⟨y, z, S', hSe, h⟩ := ab_i2_inv h
    exact hK _ _ _ _ h
  | ishr =>
    obtain ⟨y, z, S', hSe, h⟩ := ab_i2_inv h
    exact hK _ _ _ _ h
  | iushr =>
    obtain ⟨y, z, S', hSe, h⟩ := ab_i2_inv h
    exact hK _ _ _ _ h
  | idiv =>
    obtain ⟨y, z, S', hSe, h⟩ := ab_i2_inv h
    by_cases hc : y = 0
    · rw [if_pos hc] at h
      cases h
    · rw [if_neg hc] at h
      exact hK _ _ _ _ h
  | irem =>
    obtain ⟨y, z, S', hSe, h⟩ := ab_i2_inv h
    by_cases hc : y = 0
    · rw [if_pos hc] at h
      cases h
    · rw [if_neg hc] at h
      exact hK _ _ _ _ h
  | ladd =>
    obtain ⟨y, z, S', hSe, h⟩ := ab_l2_inv h
    exact hK _ _ _ _ h
  | lsub =>
    obtain ⟨y, z, S', hSe, h⟩ := ab_l2_inv h
    exact hK _ _ _ _ h
  | land =>
    obtain ⟨y, z, S', hSe, h⟩ := ab_l2_inv h
    exact hK _ _ _ _ h
  | lor =>
    obtain ⟨y, z, S', hSe, h⟩ := ab_l2_inv h
    exact hK _ _ _ _ h
  | lcmp =>
    obtain ⟨y, z, S', hSe, h⟩ := ab_l2_inv h
    exact hK _ _ _ _ h
  | lshl =>
    obtain ⟨y, z, S', hSe, h⟩ := ab_il_inv h
    exact hK _ _ _ _ h
  | lshr =>
    obtain ⟨y, z, S', hSe, h⟩ := ab_il_inv h
    exact hK _ _ _ _ h
  | lushr =>
    obtain ⟨y, z, S', hSe, h⟩ := ab_il_inv h
    exact hK _ _ _ _ h
  | dup =>
    have h : (if d = 0 then ab_i1 S (fun y S' => K (pc + 1) L (.inl y :: .inl y :: S') m) else ab_r1 S (fun k o S' => K (pc + 1) L (.inr (.inr (k, o)) :: .inr (.inr (k, o)) :: S') m)) = some ρ := h
    by_cases hd : d = 0
    · rw [if_pos hd] at h
      obtain ⟨y, S', hSe, h⟩ := ab_i1_inv h
      exact hK _ _ _ _ h
    · rw [if_neg hd] at h
      obtain ⟨k, o, S', hSe, h⟩ := ab_r1_inv h
      exact hK _ _ _ _ h
  | dup2 =>
    obtain ⟨j, k, o, S', hSe, h⟩ := ab_ir_inv h
    exact hK _ _ _ _ h
  | ifCond c off =>
    cases c with
    | eq =>
      obtain ⟨v, S', hSe, h⟩ := ab_i1_inv h
      by_cases hc : v = 0
      · rw [if_pos hc] at h
        exact hK _ _ _ _ h
      · rw [if_neg hc] at h
        exact hK _ _ _ _ h
    | ne =>
      obtain ⟨v, S', hSe, h⟩ := ab_i1_inv h
      by_cases hc : v = 0
      · rw [if_pos hc] at h
        exact hK _ _ _ _ h
      · rw [if_neg hc] at h
        exact hK _ _ _ _ h
    | lt =>
      obtain ⟨v, S', hSe, h⟩ := ab_i1_inv h
      by_cases hc : v < 0
      · rw [if_pos hc] at h
        exact hK _ _ _ _ h
      · rw [if_neg hc] at h
        exact hK _ _ _ _ h
    | ge =>
      obtain ⟨v, S', hSe, h⟩ := ab_i1_inv h
      by_cases hc : 0 ≤ v
      · rw [if_pos hc] at h
        exact hK _ _ _ _ h
      · rw [if_neg hc] at h
        exact hK _ _ _ _ h
    | gt =>
      obtain ⟨v, S', hSe, h⟩ := ab_i1_inv h
      by_cases hc : 0 < v
      · rw [if_pos hc] at h
        exact hK _ _ _ _ h
      · rw [if_neg hc] at h
        exact hK _ _ _ _ h
    | le =>
      obtain ⟨v, S', hSe, h⟩ := ab_i1_inv h
      by_cases hc : v ≤ 0
      · rw [if_pos hc] at h
        exact hK _ _ _ _ h
      · rw [if_neg hc] at h
        exact hK _ _ _ _ h
  | if_icmp c off =>
    cases c with
    | eq =>
      obtain ⟨y, z, S', hSe, h⟩ := ab_i2_inv h
      by_cases hc : z = y
      · rw [if_pos hc] at h
        exact hK _ _ _ _ h
      · rw [if_neg hc] at h
        exact hK _ _ _ _ h
    | ne =>
      obtain ⟨y, z, S', hSe, h⟩ := ab_i2_inv h
      by_cases hc : z = y
      · rw [if_pos hc] at h
        exact hK _ _ _ _ h
      · rw [if_neg hc] at h
        exact hK _ _ _ _ h
    | lt =>
      obtain ⟨y, z, S', hSe, h⟩ := ab_i2_inv h
      by_cases hc : z < y
      · rw [if_pos hc] at h
        exact hK _ _ _ _ h
      · rw [if_neg hc] at h
        exact hK _ _ _ _ h
    | ge =>
      obtain ⟨y, z, S', hSe, h⟩ := ab_i2_inv h
      by_cases hc : y ≤ z
      · rw [if_pos hc] at h
        exact hK _ _ _ _ h
      · rw [if_neg hc] at h
        exact hK _ _ _ _ h
    | gt =>
      obtain ⟨y, z, S', hSe, h⟩ := ab_i2_inv h
      by_cases hc : y < z
      · rw [if_pos hc] at h
        exact hK _ _ _ _ h
      · rw [if_neg hc] at h
        exact hK _ _ _ _ h
    | le =>
      obtain ⟨y, z, S', hSe, h⟩ := ab_i2_inv h
      by_cases hc : z ≤ y
      · rw [if_pos hc] at h
        exact hK _ _ _ _ h
      · rw [if_neg hc] at h
        exact hK _ _ _ _ h
  | ifnull off =>
    obtain ⟨k, o, S', hSe, h⟩ := ab_r1_inv h
    cases o with
    | none => exact hK _ _ _ _ h
    | some q => exact hK _ _ _ _ h
  | ifnonnull off =>
    obtain ⟨k, o, S', hSe, h⟩ := ab_r1_inv h
    cases o with
    | none => exact hK _ _ _ _ h
    | some q => exact hK _ _ _ _ h
  | tableswitch dflt lo hi offs =>
    obtain ⟨v, S', hSe, h⟩ := ab_i1_inv h
    rcases ab_swk _ h with ⟨t, _, h⟩ | ⟨_, h⟩
    · exact hK _ _ _ _ h
    · exact hK _ _ _ _ h
  | getfield idx =>
    obtain ⟨k, o, S', hSe, h⟩ := ab_r1_inv h
    obtain ⟨q, hq, h⟩ := Option.bind_eq_some_iff.mp h
    obtain ⟨t, r, k', d', v, hfs, h, hv⟩ := ab_gf_inv h
    exact hK _ _ _ _ h
  | putfield idx =>
    have h : (if d = 0 then ab_ir S (fun v k o S' => o.bind fun q => ab_pf (ab_fs KT a b' k) m q v fun m' => K (pc + 3) L S' m') else ab_rr S (fun k2 o2 k o S' => o.bind fun q => o2.bind fun q2 => ab_pr (ab_fs KT a b' k) m q k2 q2 fun m' => K (pc + 3) L S' m')) = some ρ := h
    by_cases hd : d = 0
    · rw [if_pos hd] at h
      obtain ⟨v, k, o, S', hSe, h⟩ := ab_ir_inv h
      obtain ⟨q, hq, h⟩ := Option.bind_eq_some_iff.mp h
      obtain ⟨t, r, k', d', hfs, h, hv⟩ := ab_pf_inv h
      exact ht _ _ _ (hI _ _ _ _ _) (hK _ _ _ _ h)
    · rw [if_neg hd] at h
      obtain ⟨k2, o2, k, o, S', hSe, h⟩ := ab_rr_inv h
      obtain ⟨q, hq, h⟩ := Option.bind_eq_some_iff.mp h
      obtain ⟨q2, hq2, h⟩ := Option.bind_eq_some_iff.mp h
      obtain ⟨r, d', hfs, h⟩ := ab_pr_inv h
      exact ht _ _ _ (hR _ _ _ _ _) (hK _ _ _ _ h)
  | iaload =>
    obtain ⟨j, k, o, S', hSe, h⟩ := ab_ir_inv h
    by_cases hk0 : k = 0
    · rw [if_pos hk0] at h
      obtain ⟨q, hq, h⟩ := Option.bind_eq_some_iff.mp h
      obtain ⟨z, hz, h⟩ := Option.bind_eq_some_iff.mp h
      obtain ⟨i, hi, h⟩ := Option.bind_eq_some_iff.mp h
      exact hK _ _ _ _ h
    · rw [if_neg hk0] at h
      obtain ⟨q, hq, h⟩ := Option.bind_eq_some_iff.mp h
      obtain ⟨r, len, k', a', st, has, h⟩ := ab_ga_inv h
      obtain ⟨i, hi, h⟩ := Option.bind_eq_some_iff.mp h
      exact hK _ _ _ _ h
  | baload =>
    obtain ⟨j, k, o, S', hSe, h⟩ := ab_ir_inv h
    obtain ⟨q, hq, h⟩ := Option.bind_eq_some_iff.mp h
    obtain ⟨r, len, k', a', st, has, h⟩ := ab_ga_inv h
    obtain ⟨i, hi, h⟩ := Option.bind_eq_some_iff.mp h
    exact hK _ _ _ _ h
  | laload =>
    obtain ⟨j, k, o, S', hSe, h⟩ := ab_ir_inv h
    obtain ⟨q, hq, h⟩ := Option.bind_eq_some_iff.mp h
    obtain ⟨r, len, k', a', st, has, h⟩ := ab_ga_inv h
    obtain ⟨i, hi, h⟩ := Option.bind_eq_some_iff.mp h
    exact hK _ _ _ _ h
  | aaload =>
    obtain ⟨j, k, o, S', hSe, h⟩ := ab_ir_inv h
    obtain ⟨q, hq, h⟩ := Option.bind_eq_some_iff.mp h
    obtain ⟨r, len, t, k', a', st, i, v, has, hi, h, hv⟩ := ab_gr_inv h
    exact hK _ _ _ _ h
  | iastore =>
    obtain ⟨v, j, k, o, S', hSe, h⟩ := ab_iir_inv h
    obtain ⟨q, hq, h⟩ := Option.bind_eq_some_iff.mp h
    obtain ⟨r, len, k', a', st, has, h⟩ := ab_ga_inv h
    obtain ⟨i, hi, h⟩ := Option.bind_eq_some_iff.mp h
    exact ht _ _ _ (hI _ _ _ _ _) (hK _ _ _ _ h)
  | bastore =>
    obtain ⟨v, j, k, o, S', hSe, h⟩ := ab_iir_inv h
    obtain ⟨q, hq, h⟩ := Option.bind_eq_some_iff.mp h
    obtain ⟨r, len, k', a', st, has, h⟩ := ab_ga_inv h
    obtain ⟨i, hi, h⟩ := Option.bind_eq_some_iff.mp h
    obtain ⟨v', hv', h⟩ := Option.bind_eq_some_iff.mp h
    exact ht _ _ _ (hI _ _ _ _ _) (hK _ _ _ _ h)
  | lastore =>
    obtain ⟨v, j, k, o, S', hSe, h⟩ := ab_lir_inv h
    obtain ⟨q, hq, h⟩ := Option.bind_eq_some_iff.mp h
    obtain ⟨r, len, k', a', st, has, h⟩ := ab_ga_inv h
    obtain ⟨i, hi, h⟩ := Option.bind_eq_some_iff.mp h
    exact ht _ _ _ (hJ _ _ _ _ _) (hK _ _ _ _ h)
  | aastore =>
    obtain ⟨k2, o2, j, k, o, S', hSe, h⟩ := ab_rir_inv h
    obtain ⟨q, hq, h⟩ := Option.bind_eq_some_iff.mp h
    obtain ⟨q2, hq2, h⟩ := Option.bind_eq_some_iff.mp h
    obtain ⟨r, len, a', st, has, h⟩ := ab_ga3_inv h
    obtain ⟨i, hi, h⟩ := Option.bind_eq_some_iff.mp h
    exact ht _ _ _ (hR _ _ _ _ _) (hK _ _ _ _ h)
  | arraylength =>
    obtain ⟨k, o, S', hSe, h⟩ := ab_r1_inv h
    by_cases hk0 : k = 0
    · rw [if_pos hk0] at h
      obtain ⟨q, hq, h⟩ := Option.bind_eq_some_iff.mp h
      obtain ⟨z, hz, h⟩ := Option.bind_eq_some_iff.mp h
      exact hK _ _ _ _ h
    · rw [if_neg hk0] at h
      obtain ⟨q, hq, h⟩ := Option.bind_eq_some_iff.mp h
      obtain ⟨z, hz, h⟩ := Option.bind_eq_some_iff.mp h
      exact hK _ _ _ _ h
  | new idx =>
    exact ht _ _ _ (hN rfl m) (hK _ _ _ _ h)
  | newarray at' =>
    obtain ⟨v, S', hSe, h⟩ := ab_i1_inv h
    obtain ⟨z, hz, h⟩ := Option.bind_eq_some_iff.mp h
    by_cases hv : v = Int32.ofNat z.2.1
    · rw [if_pos hv] at h
      exact ht _ _ _ (hN rfl m) (hK _ _ _ _ h)
    · rw [if_neg hv] at h
      cases h
  | anewarray idx =>
    obtain ⟨v, S', hSe, h⟩ := ab_i1_inv h
    obtain ⟨z, hz, h⟩ := Option.bind_eq_some_iff.mp h
    by_cases hv : v = Int32.ofNat z.2.1
    · rw [if_pos hv] at h
      exact ht _ _ _ (hN rfl m) (hK _ _ _ _ h)
    · rw [if_neg hv] at h
      cases h
  | invokevirtual idx =>
    have h : (if Nat.ble (ab_wd (S.drop b')) 8 = true then (if d = 0 then (eV a (S.take b').reverse m).bind (fun m' => K (pc + 3) L (S.drop b') m') else (eI a (S.take b').reverse m).bind (fun q => K (pc + 3) L (.inl q.1 :: S.drop b') (q.2))) else none) = some ρ := h
    by_cases hwd : Nat.ble (ab_wd (S.drop b')) 8 = true
    · rw [if_pos hwd] at h
      by_cases hd : d = 0
      · rw [if_pos hd] at h
        obtain ⟨m', hm', h⟩ := Option.bind_eq_some_iff.mp h
        exact ht _ _ _ (hV rfl _ _ _ hm') (hK _ _ _ _ h)
      · rw [if_neg hd] at h
        obtain ⟨q, hq, h⟩ := Option.bind_eq_some_iff.mp h
        exact ht _ _ _ (hIv rfl _ _ _ hq) (hK _ _ _ _ h)
    · rw [if_neg hwd] at h
      cases h
  | invokespecial idx =>
    have h : (if Nat.ble (ab_wd (S.drop b')) 8 = true then (if d = 0 then (eV a (S.take b').reverse m).bind (fun m' => K (pc + 3) L (S.drop b') m') else (eI a (S.take b').reverse m).bind (fun q => K (pc + 3) L (.inl q.1 :: S.drop b') (q.2))) else none) = some ρ := h
    by_cases hwd : Nat.ble (ab_wd (S.drop b')) 8 = true
    · rw [if_pos hwd] at h
      by_cases hd : d = 0
      · rw [if_pos hd] at h
        obtain ⟨m', hm', h⟩ := Option.bind_eq_some_iff.mp h
        exact ht _ _ _ (hV rfl _ _ _ hm') (hK _ _ _ _ h)
      · rw [if_neg hd] at h
        obtain ⟨q, hq, h⟩ := Option.bind_eq_some_iff.mp h
        exact ht _ _ _ (hIv rfl _ _ _ hq) (hK _ _ _ _ h)
    · rw [if_neg hwd] at h
      cases h
  | invokestatic idx =>
    have h : (if Nat.ble (ab_wd (S.drop b')) 8 = true then (if d = 0 then (eV a (S.take b').reverse m).bind (fun m' => K (pc + 3) L (S.drop b') m') else (eI a (S.take b').reverse m).bind (fun q => K (pc + 3) L (.inl q.1 :: S.drop b') (q.2))) else none) = some ρ := h
    by_cases hwd : Nat.ble (ab_wd (S.drop b')) 8 = true
    · rw [if_pos hwd] at h
      by_cases hd : d = 0
      · rw [if_pos hd] at h
        obtain ⟨m', hm', h⟩ := Option.bind_eq_some_iff.mp h
        exact ht _ _ _ (hV rfl _ _ _ hm') (hK _ _ _ _ h)
      · rw [if_neg hd] at h
        obtain ⟨q, hq, h⟩ := Option.bind_eq_some_iff.mp h
        exact ht _ _ _ (hIv rfl _ _ _ hq) (hK _ _ _ _ h)
    · rw [if_neg hwd] at h
      cases h
  | ireturn =>
    obtain ⟨v, S', hSe, h⟩ := ab_i1_inv h
    by_cases hS : S'.isEmpty = true
    · rw [if_pos hS] at h
      by_cases hd : d = 0
      · rw [if_pos hd] at h
        have e := Option.some.inj h
        rw [← e]
        exact hr m
      · rw [if_neg hd] at h
        obtain ⟨v', hv', h⟩ := Option.bind_eq_some_iff.mp h
        have e := Option.some.inj h
        rw [← e]
        exact hr m
    · rw [if_neg hS] at h
      cases h
  | return_ =>
    have h : (if S.isEmpty = true then some (Sum.inl (none, m)) else none) = some ρ := h
    by_cases hS : S.isEmpty = true
    · rw [if_pos hS] at h
      have e := Option.some.inj h
      rw [← e]
      exact hr m
    · rw [if_neg hS] at h
      cases h
  | _ => cases h
theorem ab_rel {Rl : Mm → Mm → Prop} (hr : ∀ m, Rl m m) (ht : ∀ a b c, Rl a b → Rl b c → Rl a c) (hI : ∀ m r p j x, Rl m (ab_uI m r p j x)) (hJ : ∀ m r p j x, Rl m (ab_uJ m r p j x)) (hR : ∀ m r p j x, Rl m (ab_uR m r p j x))
    {sw : Nat → List (Int32 × Nat) × Nat} {eV : Nat → List AV → Mm → Option Mm} {eI : Nat → List AV → Mm → Option (Int32 × Mm)} {ρ : Rs} {ins : Nat → Option Ent} {hd : Nat → Nat × List Bool}
    (hN : ∀ pc q, ins pc = some q → ab_isn q.1 = true → ∀ m, Rl m (ab_ap m q.2.1)) (hV : ∀ a av m m', eV a av m = some m' → Rl m m') (hIv : ∀ a av m q, eI a av m = some q → Rl m q.2) :
    ∀ (f pc : Nat) (L : List (Option AV)) (S : List AV) (m : Mm), ab_ex KT sc sw eV eI ins hd f pc L S m = some ρ → Rl m (ab_rm ρ) := by
  intro f
  induction f with
  | zero => intro pc L S m h; cases h
  | succ f ih =>
    have key : ∀ (n pc : Nat) (L : List (Option AV)) (S : List AV) (m : Mm), ab_seg KT sc sw eV eI ins hd (ab_ex KT sc sw eV eI ins hd f) n pc L S m = some ρ → Rl m (ab_rm ρ) := by
      intro n
      induction n with
      | zero => intro pc L S m h; cases h
      | succ n ihn =>
        intro pc L S m h
        obtain ⟨q, hq, h⟩ := Option.bind_eq_some_iff.mp h
        refine ab_rst hr ht hI hJ hR (K := fun pc' L' S' m' => match hd pc' with
          | (0, _) => ab_seg KT sc sw eV eI ins hd (ab_ex KT sc sw eV eI ins hd f) n pc' L' S' m'
          | (1, msk) => ab_ex KT sc sw eV eI ins hd f pc' (ab_mk msk L') S' m'
          | _ => some (.inr (pc', L', S', m'))) (hN pc q hq) (fun _ => hV _) (fun _ => hIv _) ?_ h
        intro pc' L' S' m' hc'
        split at hc'
        · exact ihn _ _ _ _ hc'
        · exact ih _ _ _ _ hc'
        · have e := Option.some.inj hc'
          rw [← e]
          exact hr _
    intro pc L S m h
    exact key 1000 _ _ _ _ h
end
