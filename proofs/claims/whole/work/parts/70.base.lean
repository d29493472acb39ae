section
/-! L3: answers, numbers, reads and writes. -/
theorem nI_T {n : Nat} (h : n < 2 ^ 31) : Lean.Grind.ToInt.toInt (nI n) = (n : Int) := nI_toInt h
theorem i_of {x : Int32} {N : Nat} (h : 0 ≤ x) (h1 : x < nI N) (hN : N < 2 ^ 31) : ∃ k : Nat, k < N ∧ x = nI k := by
  have e1 : 0 ≤ x.toInt := Int32.le_iff_toInt_le.mp h
  have e2 := Int32.lt_iff_toInt_lt.mp h1
  rw [nI_toInt hN] at e2
  have e3 : x.toInt.toNat < N := by omega
  refine ⟨x.toInt.toNat, e3, Int32.toInt_inj.mp ?_⟩
  rw [nI_toInt (by omega)]
  omega
theorem i_ofc {x : Int32} {N : Nat} (h : 0 ≤ x) (h1 : x ≤ nI N) (hN : N < 2 ^ 31) : ∃ k : Nat, k ≤ N ∧ x = nI k := by
  have e1 : 0 ≤ x.toInt := Int32.le_iff_toInt_le.mp h
  have e2 := Int32.le_iff_toInt_le.mp h1
  rw [nI_toInt hN] at e2
  have e3 : x.toInt.toNat ≤ N := by omega
  refine ⟨x.toInt.toNat, e3, Int32.toInt_inj.mp ?_⟩
  rw [nI_toInt (by omega)]
  omega
theorem i_ofp {x : Int32} (h : 0 ≤ x) : ∃ k : Nat, k < 2 ^ 31 ∧ x = nI k := by
  have e1 : 0 ≤ x.toInt := Int32.le_iff_toInt_le.mp h
  have e2 := Int32.toInt_lt x
  have e3 : x.toInt.toNat < 2 ^ 31 := by omega
  refine ⟨x.toInt.toNat, e3, Int32.toInt_inj.mp ?_⟩
  rw [nI_toInt e3]
  omega
theorem i_ix {x : Int32} {k n : Nat} (h : x = nI k) (hk : k < n) (hn : n < 2 ^ 31) : ab_ix x n = some k := by
  rw [h]; exact ab_ix_nI hk hn
/-- what holds of an answer -/
def wp {α : Type} (o : Option α) (Q : α → Prop) : Prop := ∃ x, o = some x ∧ Q x
theorem wp_mono {α : Type} {o : Option α} {Q R : α → Prop} (h : wp o Q) (hQ : ∀ x, Q x → R x) : wp o R := by
  obtain ⟨x, e, q⟩ := h
  exact ⟨x, e, hQ x q⟩
theorem wp_bind {α β : Type} {o : Option α} {f : α → Option β} {Q : β → Prop} (h : wp o fun x => wp (f x) Q) : wp (o.bind f) Q := by
  obtain ⟨x, rfl, y, e, q⟩ := h
  exact ⟨y, e, q⟩
theorem wp_some {α : Type} {x : α} {Q : α → Prop} (h : Q x) : wp (some x) Q := ⟨x, rfl, h⟩
theorem wp_ite {α : Type} {c : Prop} [Decidable c] {a b : Option α} {Q : α → Prop} (h1 : c → wp a Q) (h2 : ¬ c → wp b Q) : wp (if c then a else b) Q := by
  split
  · exact h1 (by assumption)
  · exact h2 (by assumption)
theorem wp_let {α β : Type} {x : α} {f : α → Option β} {Q : β → Prop} (h : wp (f x) Q) : wp (ab_let x f) Q := h
theorem wp_ix {x : Int32} {n : Nat} {Q : Nat → Prop} (k : Nat) (h : x = nI k) (hk : k < n) (hn : n < 2 ^ 31) (hQ : Q k) : wp (ab_ix x n) Q := ⟨k, i_ix h hk hn, hQ⟩
def qI (Q : Int32 × Mm → Prop) (ρ : Rs) : Prop := match ρ with
  | .inl (some (.inl v), m) => Q (v, m)
  | _ => False
def qV (Q : Mm → Prop) (ρ : Rs) : Prop := match ρ with
  | .inl (none, m) => Q m
  | _ => False
theorem wp_rI {o : Option Rs} {Q : Int32 × Mm → Prop} (h : wp o (qI Q)) : wp (ab_rI o) Q := by
  obtain ⟨ρ, rfl, q⟩ := h
  unfold qI at q
  split at q
  · exact ⟨_, rfl, q⟩
  · exact q.elim
theorem wp_rV {o : Option Rs} {Q : Mm → Prop} (h : wp o (qV Q)) : wp (ab_rV o) Q := by
  obtain ⟨ρ, rfl, q⟩ := h
  unfold qV at q
  split at q
  · exact ⟨_, rfl, q⟩
  · exact q.elim
theorem wp_retI {v : Int32} {m : Mm} {Q : Int32 × Mm → Prop} (h : Q (v, m)) : wp (some (.inl (some (.inl v), m))) (qI Q) := ⟨_, rfl, h⟩
theorem wp_retV {m : Mm} {Q : Mm → Prop} (h : Q m) : wp (some (.inl (none, m))) (qV Q) := ⟨_, rfl, h⟩
/-- not by computation: what stands behind a name is never opened -/
theorem lt_eq {α β : Type} (x : α) (f : α → β) : ab_let x f = f x := (rfl)
theorem ob_s {α β : Type} (x : α) (f : α → Option β) : (some x).bind f = f x := (rfl)
theorem oe_s {α β : Type} (x : α) (y : β) (f : α → β) : Option.elim (some x) y f = f x := (rfl)
/-- a boolean answer -/
def ib (c : Prop) [Decidable c] : Int32 := if c then 1 else 0
theorem ib_0 (c : Prop) [Decidable c] : (ib c = 0) = ¬ c := by
  unfold ib
  by_cases h : c <;> simp [h]
theorem ib_if {α : Type} (c : Prop) [Decidable c] (A B : α) : (if ib c = 0 then A else B) = if c then B else A := by
  unfold ib
  by_cases h : c <;> simp [h]
theorem ib_c {c d : Prop} [Decidable c] [Decidable d] (h : c ↔ d) : ib c = ib d := by
  unfold ib
  simp only [h]
theorem ib_t {c : Prop} [Decidable c] (h : c) : (1 : Int32) = ib c := (if_pos h).symm
theorem ib_f {c : Prop} [Decidable c] (h : ¬ c) : (0 : Int32) = ib c := (if_neg h).symm
theorem bo_0 : ab_bo 0 = some 0 := (rfl)
theorem bo_1 : ab_bo 1 = some 1 := (rfl)
theorem bo_ib (c : Prop) [Decidable c] : ab_bo (ib c) = some (ib c) := by
  unfold ib
  split <;> rfl
theorem rI_some (v : Int32) (m : Mm) : ab_rI (some (.inl (some (.inl v), m))) = some (v, m) := (rfl)
theorem rV_some (m : Mm) : ab_rV (some (.inl (none, m))) = some m := (rfl)
theorem rI_ite (c : Prop) [Decidable c] (a b : Option Rs) : ab_rI (if c then a else b) = if c then ab_rI a else ab_rI b := by split <;> rfl
theorem rV_ite (c : Prop) [Decidable c] (a b : Option Rs) : ab_rV (if c then a else b) = if c then ab_rV a else ab_rV b := by split <;> rfl
theorem uI_1 (m : Mm) (r p j : Nat) (x : Int32) (r' p' j' : Nat) : (ab_uI m r p j x).1 r' p' j' = if r' = r ∧ p' = p ∧ j' = j then x else m.1 r' p' j' := rfl
theorem uI_2 (m : Mm) (r p j : Nat) (x : Int32) : (ab_uI m r p j x).2 = m.2 := rfl
theorem uI_s (m : Mm) (r p j : Nat) (x : Int32) : (ab_uI m r p j x).1 r p j = x := if_pos ⟨rfl, rfl, rfl⟩
theorem uI_r (m : Mm) (r p j : Nat) (x : Int32) (r' p' j' : Nat) (h : r' ≠ r) : (ab_uI m r p j x).1 r' p' j' = m.1 r' p' j' := if_neg fun z => h z.1
theorem uR_1 (m : Mm) (r p j : Nat) (x : Option Nat) : (ab_uR m r p j x).1 = m.1 := rfl
theorem uR_r (m : Mm) (r p j : Nat) (x : Option Nat) (r' p' j' : Nat) : (ab_uR m r p j x).2.2.1 r' p' j' = if r' = r ∧ p' = p ∧ j' = j then x else m.2.2.1 r' p' j' := rfl
/-- how many of the first n are x -/
def cn (x : Int32) (g : Nat → Int32) : Nat → Nat
  | 0 => 0
  | n + 1 => cn x g n + if g n = x then 1 else 0
theorem cn_le (x : Int32) (g : Nat → Int32) : ∀ n, cn x g n ≤ n
  | 0 => Nat.le_refl _
  | n + 1 => by
    have := cn_le x g n
    unfold cn
    split <;> omega
theorem cn_ext {x : Int32} {g h : Nat → Int32} : ∀ {n : Nat}, (∀ j, j < n → g j = h j) → cn x g n = cn x h n
  | 0, _ => rfl
  | n + 1, e => by
    unfold cn
    rw [cn_ext (n := n) (fun j hj => e j (by omega)), e n (by omega)]
end
