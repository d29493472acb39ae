/-! Runs of the small machine, and contracts of methods by them. -/
section
variable {p : Program} {l : Launch} {e : Env} {R : Room} {s : State} {m0 : MethodId} {args : Array Value} {below : List Frame} {meth : Method} {cd : Code} {Q : State → Prop} {cc : ByteArray}
variable {KT : List KS} {cl : List vw_C} {D : va_G} {sc : Option (Nat × (Nat → Int32))} {b : Nat} {A : Nat → Prop} {H0 : Heap} {ks0 : List Nat} {g0 h0 nL G Hs : Nat} {ad0 ac0 : Nat → Nat} {Ts : List Cond} {own : String}
theorem ab_W_mk {pc : Nat} {L : List (Option AV)} {Sm : List AV × Mm} (mk : List Bool) (w : ab_W p l e R s m0 args below meth cd Q KT cl D sc b A H0 ks0 g0 h0 nL G Hs ad0 ac0 (pc, ab_mk mk L, Sm)) : ab_W p l e R s m0 args below meth cd Q KT cl D sc b A H0 ks0 g0 h0 nL G Hs ad0 ac0 (pc, L, Sm) :=
  ⟨w.1, w.2.1, fun ad ac ls H locs cells slots hI hF => w.2.2 ad ac ls H locs cells slots hI (ab_F_mk mk hF)⟩
/-- what a method's table must be, beside its code: every entry right, every call by a rule -/
theorem ab_sound (hX : ab_X s) (hx : p.tables.exec = Jvm.exec) (hb : cd.code = cc) (hts : ∀ w ∈ Ts, w.before args s = true) (hown : s.vm.findClass own = some m0.cls) (hK0 : va_K D cl [] s) (h00 : KT[0]? = some (.inr (0, 0, 9, 0, 0, 0))) (hnd : ab_nd KT) (hk3 : ab_k3 KT cl) (hA : ∀ q, H0.size ≤ q → A q) (hG : G ≤ g0 + R.cells) (hHs : Hs ≤ h0 + R.slots)
    (hsc : ∀ z, sc = some z → va_X b z.1 z.2 s H0 ∧ b < H0.size ∧ ¬ A b) (hlocks : meth.locks = false)
    {Qc : Array Value → State → Outcome → State → Prop} {free : Addr → Prop} {mc ms : Nat} (hfree : ∀ q, A q → free q) {sw : Nat → List (Int32 × Nat) × Nat} {eV : Nat → List AV → Mm → Option Mm} {eI : Nat → List AV → Mm → Option (Int32 × Mm)} {ρ : Rs} {ins : Nat → Option Ent} {hd : Nat → Nat × List Bool}
    (hret : ∀ (r : Option AV) (m' : Mm), ρ = .inl (r, m') → mc + g0 = ab_gc m' ∧ ms + h0 = ab_gs KT m' ∧ ab_gc m' ≤ G ∧ ab_gs KT m' ≤ Hs ∧ ∀ (ad ac : Nat → Nat) (H : Heap) (locs : List Loc) (cells slots : Nat) (t : State), ab_I KT cl D s A H0 ks0 ad0 ac0 g0 h0 ad ac m' H locs cells slots → (∀ v, r = some v → ab_vv sc m'.2.2.2.1 v) → t.heap = H → s.WarmedH t.vm → Qc args s (.returned (r.map (ab_v ad b))) t)
    (hstop : ∀ c', ρ = .inr c' → ab_W p l e R s m0 args below meth cd (MQ below Qc args s mc ms free) KT cl D sc b A H0 ks0 g0 h0 nL G Hs ad0 ac0 c')
    (hE : ∀ (pc : Nat) (q : Ent), ins pc = some q → ab_E KT cl Ts own meth.name meth.sig.returnType cc sw nL pc q.1 q.2.1 q.2.2.1 q.2.2.2.1 q.2.2.2.2)
    (hcl : ∀ (pc : Nat) (q : Ent), ins pc = some q → ab_inv q.1 = true → (∀ (L : List (Option AV)) (S : List AV) (m m' : Mm), ab_wd (S.drop q.2.2.1) ≤ 8 → eV q.2.1 (S.take q.2.2.1).reverse m = some m' → ab_W p l e R s m0 args below meth cd (MQ below Qc args s mc ms free) KT cl D sc b A H0 ks0 g0 h0 nL G Hs ad0 ac0 (pc + 3, L, S.drop q.2.2.1, m') → ab_W p l e R s m0 args below meth cd (MQ below Qc args s mc ms free) KT cl D sc b A H0 ks0 g0 h0 nL G Hs ad0 ac0 (pc, L, S, m)) ∧
      (∀ (L : List (Option AV)) (S : List AV) (m : Mm) (z : Int32 × Mm), ab_wd (S.drop q.2.2.1) ≤ 8 → eI q.2.1 (S.take q.2.2.1).reverse m = some z → ab_W p l e R s m0 args below meth cd (MQ below Qc args s mc ms free) KT cl D sc b A H0 ks0 g0 h0 nL G Hs ad0 ac0 (pc + 3, L, .inl z.1 :: S.drop q.2.2.1, z.2) → ab_W p l e R s m0 args below meth cd (MQ below Qc args s mc ms free) KT cl D sc b A H0 ks0 g0 h0 nL G Hs ad0 ac0 (pc, L, S, m))) :
    ∀ (f pc : Nat) (L : List (Option AV)) (S : List AV) (m : Mm), ab_ex KT sc sw eV eI ins hd f pc L S m = some ρ → ab_W p l e R s m0 args below meth cd (MQ below Qc args s mc ms free) KT cl D sc b A H0 ks0 g0 h0 nL G Hs ad0 ac0 (pc, L, S, m) := by
  intro f
  induction f with
  | zero => intro pc L S m h; cases h
  | succ f ih =>
    have key : ∀ (n pc : Nat) (L : List (Option AV)) (S : List AV) (m : Mm), ab_seg KT sc sw eV eI ins hd (ab_ex KT sc sw eV eI ins hd f) n pc L S m = some ρ → ab_W p l e R s m0 args below meth cd (MQ below Qc args s mc ms free) KT cl D sc b A H0 ks0 g0 h0 nL G Hs ad0 ac0 (pc, L, S, m) := by
      intro n
      induction n with
      | zero => intro pc L S m h; cases h
      | succ n ihn =>
        intro pc L S m h
        obtain ⟨q, hq, h⟩ := Option.bind_eq_some_iff.mp h
        refine ab_step hX hx hb hts hown hK0 h00 hnd hk3 hA hG hHs hsc hlocks hfree (K := fun pc' L' S' m' => match hd pc' with
          | (0, _) => ab_seg KT sc sw eV eI ins hd (ab_ex KT sc sw eV eI ins hd f) n pc' L' S' m'
          | (1, msk) => ab_ex KT sc sw eV eI ins hd f pc' (ab_mk msk L') S' m'
          | _ => some (.inr (pc', L', S', m'))) ?_ hret (hcl pc q hq) (hE pc q hq) h
        intro pc' L' S' m' hc'
        split at hc'
        · exact ihn _ _ _ _ hc'
        · rename_i msk _
          exact ab_W_mk msk (ih _ _ _ _ hc')
        · exact hstop _ (Option.some.inj hc').symm
    intro pc L S m h
    exact key 1000 _ _ _ _ h
end
