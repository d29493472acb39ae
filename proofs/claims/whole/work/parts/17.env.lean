/-! Callees by their numbers; written fields that aren't final. -/
section
def ab_ev {α : Type} (l : List (Nat × (List AV → Mm → Option α))) (a : Nat) : List AV → Mm → Option α := match l with
  | [] => fun _ _ => none
  | (k, c) :: r => bif Nat.beq a k then c else ab_ev r a
theorem ab_ev_all {α : Type} {P : List AV → Mm → α → Prop} : ∀ (l : List (Nat × (List AV → Mm → Option α))), (∀ q ∈ l, ∀ av m r, q.2 av m = some r → P av m r) → ∀ a av m r, ab_ev l a av m = some r → P av m r
  | [], _, a, av, m, r, h => by cases h
  | (k, c) :: l, hl, a, av, m, r, h => by
    unfold ab_ev at h
    cases hb : Nat.beq a k with
    | true => rw [hb] at h; exact hl _ List.mem_cons_self av m r h
    | false => rw [hb] at h; exact ab_ev_all l (fun q hq => hl q (List.mem_cons_of_mem _ hq)) a av m r h
/-- a name that doesn't unfold -/
noncomputable def ab_seal {α : Type} (x : α) : α := Classical.choose (⟨x, rfl⟩ : ∃ y, y = x)
theorem ab_seal_eq {α : Type} (x : α) : ab_seal x = x := Classical.choose_spec (⟨x, rfl⟩ : ∃ y, y = x)
def c_O : List AV → Mm → Option Mm := fun av m => match av with
  | [.inr (.inr (_, o))] => o.bind fun _ => some m
  | _ => none
theorem c_O_inv {av : List AV} {m m' : Mm} (h : c_O av m = some m') : m' = m ∧ ∃ k q : Nat, av = [.inr (.inr (k, some q))] := by
  unfold c_O at h
  split at h
  · obtain ⟨q, rfl, h⟩ := Option.bind_eq_some_iff.mp h
    cases h
    exact ⟨rfl, _, q, rfl⟩
  · cases h
theorem kp_O {av : List AV} {m m' : Mm} (h : c_O av m = some m') : ab_kp m m' := by
  obtain ⟨rfl, -⟩ := c_O_inv h
  rfl
def ab_fpn (own : String) (q : (Nat × Nat × Nat) × Nat) : Bool := match CL[q.1.2.1]? with
  | some (_, T, N) => decide (q.1.2.2 < N) && (ab_wi q.2 (.fieldLink own q.1.1 (T q.1.2.2).1 (T q.1.2.2).2.1 (T q.1.2.2).2.2.1) && (decide ((T q.1.2.2).2.2.2 = false) && ab_fpk q.1.2.1 q.1.2.2))
  | none => false
theorem ab_fpn_b {own nm : String} {q : (Nat × Nat × Nat) × Nat} (h : ab_fpn own q = true) : ab_fpb own nm q = true := by
  unfold ab_fpn at h
  unfold ab_fpb
  split at h
  · rename_i C T N hc
    have h2 := Bool.and_eq_true_iff.mp h
    have h3 := Bool.and_eq_true_iff.mp h2.2
    have h4 := Bool.and_eq_true_iff.mp h3.2
    rw [hc]
    dsimp only
    rw [h2.1, h3.1, h4.1, h4.2]
    rfl
  · cases h
theorem ab_fpn_ok {own nm : String} {l : List ((Nat × Nat × Nat) × Nat)} (h : l.all (ab_fpn own) = true) : l.all (ab_fpb own nm) = true := List.all_eq_true.mpr fun q hq => ab_fpn_b (List.all_eq_true.mp h q hq)
theorem ab_lcb {own : String} {l : List ((Nat × Int32) × Nat)} (h : l.all (fun q => ab_wi q.2 (.constant own q.1.1 q.1.2)) = true) : ∀ q ∈ l.map (fun z => z.1), Cond.constant own q.1 q.2 ∈ ab_gW := by
  intro q hq
  obtain ⟨z, hz, rfl⟩ := List.mem_map.mp hq
  exact ab_wi_in (List.all_eq_true.mp h z hz)
theorem ab_ljb {own : String} {l : List ((Nat × Nat) × Nat)} (h : l.all (fun q => ab_wi q.2 (.constantLong own q.1.1 (Int64.ofNat q.1.2))) = true) : ∀ q ∈ l.map (fun z => z.1), Cond.constantLong own q.1 (Int64.ofNat q.2) ∈ ab_gW := by
  intro q hq
  obtain ⟨z, hz, rfl⟩ := List.mem_map.mp hq
  exact ab_wi_in (List.all_eq_true.mp h z hz)
theorem ab_tab_isn {N : Nat} {t : Nat → Option Ent} (h : (List.range N).all (fun pc => match t pc with | some q => !ab_isn q.1 | none => true) = true) : ∀ pc q, ab_tab N t pc = some q → ab_isn q.1 = false := by
  intro pc q hq
  have h1 := ab_tab_all (chk := fun _ q => !ab_isn q.1) h hq
  simpa using h1
theorem ab_tab_cs {N : Nat} {t : Nat → Option Ent} {cs : List Nat} (h : (List.range N).all (fun pc => match t pc with | some q => !ab_inv q.1 || decide (pc ∈ cs) | none => true) = true) {pc : Nat} {q : Ent} (hq : ab_tab N t pc = some q) (hi : ab_inv q.1 = true) : pc ∈ cs := by
  have h1 := ab_tab_all (chk := fun pc q => !ab_inv q.1 || decide (pc ∈ cs)) h hq
  rw [hi] at h1
  exact of_decide_eq_true (by simpa using h1)
end
