/-! The small machine is sound: what ab_exec answers, the machine does. -/
section
theorem ab_i1_inv {S : List AV} {f : Int32 → List AV → Option Rs} {ρ : Rs} (h : ab_i1 S f = some ρ) : ∃ (v : Int32) (S' : List AV), S = .inl v :: S' ∧ f v S' = some ρ := by
  unfold ab_i1 at h
  split at h
  · exact ⟨_, _, rfl, h⟩
  · cases h
theorem ab_i2_inv {S : List AV} {f : Int32 → Int32 → List AV → Option Rs} {ρ : Rs} (h : ab_i2 S f = some ρ) : ∃ (y : Int32) (z : Int32) (S' : List AV), S = .inl y :: .inl z :: S' ∧ f y z S' = some ρ := by
  unfold ab_i2 at h
  split at h
  · exact ⟨_, _, _, rfl, h⟩
  · cases h
theorem ab_l1_inv {S : List AV} {f : Int64 → List AV → Option Rs} {ρ : Rs} (h : ab_l1 S f = some ρ) : ∃ (v : Int64) (S' : List AV), S = .inr (.inl v) :: S' ∧ f v S' = some ρ := by
  unfold ab_l1 at h
  split at h
  · exact ⟨_, _, rfl, h⟩
  · cases h
theorem ab_l2_inv {S : List AV} {f : Int64 → Int64 → List AV → Option Rs} {ρ : Rs} (h : ab_l2 S f = some ρ) : ∃ (y : Int64) (z : Int64) (S' : List AV), S = .inr (.inl y) :: .inr (.inl z) :: S' ∧ f y z S' = some ρ := by
  unfold ab_l2 at h
  split at h
  · exact ⟨_, _, _, rfl, h⟩
  · cases h
theorem ab_il_inv {S : List AV} {f : Int32 → Int64 → List AV → Option Rs} {ρ : Rs} (h : ab_il S f = some ρ) : ∃ (y : Int32) (z : Int64) (S' : List AV), S = .inl y :: .inr (.inl z) :: S' ∧ f y z S' = some ρ := by
  unfold ab_il at h
  split at h
  · exact ⟨_, _, _, rfl, h⟩
  · cases h
theorem ab_r1_inv {S : List AV} {f : Nat → Option Nat → List AV → Option Rs} {ρ : Rs} (h : ab_r1 S f = some ρ) : ∃ (k : Nat) (o : Option Nat) (S' : List AV), S = .inr (.inr (k, o)) :: S' ∧ f k o S' = some ρ := by
  unfold ab_r1 at h
  split at h
  · exact ⟨_, _, _, rfl, h⟩
  · cases h
theorem ab_rr_inv {S : List AV} {f : Nat → Option Nat → Nat → Option Nat → List AV → Option Rs} {ρ : Rs} (h : ab_rr S f = some ρ) : ∃ (k2 : Nat) (o2 : Option Nat) (k : Nat) (o : Option Nat) (S' : List AV), S = .inr (.inr (k2, o2)) :: .inr (.inr (k, o)) :: S' ∧ f k2 o2 k o S' = some ρ := by
  unfold ab_rr at h
  split at h
  · exact ⟨_, _, _, _, _, rfl, h⟩
  · cases h
theorem ab_ir_inv {S : List AV} {f : Int32 → Nat → Option Nat → List AV → Option Rs} {ρ : Rs} (h : ab_ir S f = some ρ) : ∃ (j : Int32) (k : Nat) (o : Option Nat) (S' : List AV), S = .inl j :: .inr (.inr (k, o)) :: S' ∧ f j k o S' = some ρ := by
  unfold ab_ir at h
  split at h
  · exact ⟨_, _, _, _, rfl, h⟩
  · cases h
theorem ab_iir_inv {S : List AV} {f : Int32 → Int32 → Nat → Option Nat → List AV → Option Rs} {ρ : Rs} (h : ab_iir S f = some ρ) : ∃ (v : Int32) (j : Int32) (k : Nat) (o : Option Nat) (S' : List AV), S = .inl v :: .inl j :: .inr (.inr (k, o)) :: S' ∧ f v j k o S' = some ρ := by
  unfold ab_iir at h
  split at h
  · exact ⟨_, _, _, _, _, rfl, h⟩
  · cases h
theorem ab_lir_inv {S : List AV} {f : Int64 → Int32 → Nat → Option Nat → List AV → Option Rs} {ρ : Rs} (h : ab_lir S f = some ρ) : ∃ (v : Int64) (j : Int32) (k : Nat) (o : Option Nat) (S' : List AV), S = .inr (.inl v) :: .inl j :: .inr (.inr (k, o)) :: S' ∧ f v j k o S' = some ρ := by
  unfold ab_lir at h
  split at h
  · exact ⟨_, _, _, _, _, rfl, h⟩
  · cases h
theorem ab_rir_inv {S : List AV} {f : Nat → Option Nat → Int32 → Nat → Option Nat → List AV → Option Rs} {ρ : Rs} (h : ab_rir S f = some ρ) : ∃ (k2 : Nat) (o2 : Option Nat) (j : Int32) (k : Nat) (o : Option Nat) (S' : List AV), S = .inr (.inr (k2, o2)) :: .inl j :: .inr (.inr (k, o)) :: S' ∧ f k2 o2 j k o S' = some ρ := by
  unfold ab_rir at h
  split at h
  · exact ⟨_, _, _, _, _, _, rfl, h⟩
  · cases h
theorem ab_Li_inv {L : List (Option AV)} {a : Nat} {f : Int32 → Option Rs} {ρ : Rs} (h : ab_Li L a f = some ρ) : ∃ (v : Int32), L[a]? = some (some (.inl v)) ∧ f v = some ρ := by
  unfold ab_Li at h
  split at h
  · rename_i hL
    exact ⟨_, hL, h⟩
  · cases h
theorem ab_Ll_inv {L : List (Option AV)} {a : Nat} {f : Int64 → Option Rs} {ρ : Rs} (h : ab_Ll L a f = some ρ) : ∃ (v : Int64), L[a]? = some (some (.inr (.inl v))) ∧ f v = some ρ := by
  unfold ab_Ll at h
  split at h
  · rename_i hL
    exact ⟨_, hL, h⟩
  · cases h
theorem ab_Lr_inv {L : List (Option AV)} {a : Nat} {f : Nat → Option Nat → Option Rs} {ρ : Rs} (h : ab_Lr L a f = some ρ) : ∃ (k : Nat) (o : Option Nat), L[a]? = some (some (.inr (.inr (k, o)))) ∧ f k o = some ρ := by
  unfold ab_Lr at h
  split at h
  · rename_i hL
    exact ⟨_, _, hL, h⟩
  · cases h
theorem ab_fs_inv {KT : List KS} {ci f k : Nat} {z : Nat × Nat × Nat × Nat} (h : ab_fs KT ci f k = some z) : ∃ fs, KT[k]? = some (.inl (ci, fs)) ∧ fs[f]? = some z := by
  unfold ab_fs at h
  split at h
  · rename_i ci' fs hk
    split at h
    · rename_i e
      subst e
      exact ⟨fs, hk, h⟩
    · cases h
  · cases h
theorem ab_as_inv {KT : List KS} {k : Nat} {z : Nat × Nat × Nat × Nat × Nat × Nat} (h : ab_as KT k = some z) : KT[k]? = some (.inr z) := by
  unfold ab_as at h
  split at h
  · rename_i q hk
    cases h
    exact hk
  · cases h
theorem ab_gf_inv {o : Option (Nat × Nat × Nat × Nat)} {m : Mm} {q : Nat} {f : AV → Option Rs} {ρ : Rs} (h : ab_gf o m q f = some ρ) :
    ∃ t r k' d v, o = some (t, r, k', d) ∧ f v = some ρ ∧ (((t = 0 ∨ t = 1) ∧ v = .inl (m.1 r q 0)) ∨ (t = 2 ∧ v = .inr (.inr (k', m.2.2.1 r q 0))) ∨ (t = 3 ∧ v = .inr (.inr (k', some (q + d))))) := by
  unfold ab_gf at h
  split at h
  · exact ⟨_, _, _, _, _, rfl, h, Or.inl ⟨Or.inl rfl, rfl⟩⟩
  · exact ⟨_, _, _, _, _, rfl, h, Or.inl ⟨Or.inr rfl, rfl⟩⟩
  · exact ⟨_, _, _, _, _, rfl, h, Or.inr (Or.inl ⟨rfl, rfl⟩)⟩
  · exact ⟨_, _, _, _, _, rfl, h, Or.inr (Or.inr ⟨rfl, rfl⟩)⟩
  · cases h
theorem ab_pf_inv {o : Option (Nat × Nat × Nat × Nat)} {m : Mm} {q : Nat} {v : Int32} {f : Mm → Option Rs} {ρ : Rs} (h : ab_pf o m q v f = some ρ) :
    ∃ t r k' d, o = some (t, r, k', d) ∧ f (ab_uI m r q 0 v) = some ρ ∧ (t = 0 ∨ (t = 1 ∧ (v = 0 ∨ v = 1))) := by
  unfold ab_pf at h
  split at h
  · exact ⟨_, _, _, _, rfl, h, Or.inl rfl⟩
  · obtain ⟨y, h1, h2⟩ := Option.bind_eq_some_iff.mp h
    obtain ⟨rfl, hv⟩ := ab_bo_of h1
    exact ⟨_, _, _, _, rfl, h2, Or.inr ⟨rfl, hv⟩⟩
  · cases h
theorem ab_pr_inv {o : Option (Nat × Nat × Nat × Nat)} {m : Mm} {q k2 q2 : Nat} {f : Mm → Option Rs} {ρ : Rs} (h : ab_pr o m q k2 q2 f = some ρ) :
    ∃ r d, o = some (2, r, k2, d) ∧ f (ab_uR m r q 0 (some q2)) = some ρ := by
  unfold ab_pr at h
  split at h
  · split at h
    · rename_i e
      subst e
      exact ⟨_, _, rfl, h⟩
    · cases h
  · cases h
theorem ab_ga_inv {o : Option (Nat × Nat × Nat × Nat × Nat × Nat)} {t : Nat} {f : Nat → Nat → Option Rs} {ρ : Rs} (h : ab_ga o t f = some ρ) : ∃ r len k' a st, o = some (r, len, t, k', a, st) ∧ f r len = some ρ := by
  unfold ab_ga at h
  split at h
  · split at h
    · rename_i e
      subst e
      exact ⟨_, _, _, _, _, rfl, h⟩
    · cases h
  · cases h
theorem ab_ga3_inv {o : Option (Nat × Nat × Nat × Nat × Nat × Nat)} {k2 : Nat} {f : Nat → Nat → Option Rs} {ρ : Rs} (h : ab_ga3 o k2 f = some ρ) : ∃ r len a st, o = some (r, len, 3, k2, a, st) ∧ f r len = some ρ := by
  unfold ab_ga3 at h
  split at h
  · split at h
    · rename_i e
      subst e
      exact ⟨_, _, _, _, rfl, h⟩
    · cases h
  · cases h
theorem ab_gr_inv {o : Option (Nat × Nat × Nat × Nat × Nat × Nat)} {m : Mm} {q : Nat} {j : Int32} {f : AV → Option Rs} {ρ : Rs} (h : ab_gr o m q j f = some ρ) :
    ∃ r len t k' a st i v, o = some (r, len, t, k', a, st) ∧ ab_ix j len = some i ∧ f v = some ρ ∧ ((t = 3 ∧ v = .inr (.inr (k', m.2.2.1 r q i))) ∨ (t = 4 ∧ v = .inr (.inr (k', some (q + a + st * i))))) := by
  unfold ab_gr at h
  split at h
  · obtain ⟨i, h1, h2⟩ := Option.bind_eq_some_iff.mp h
    exact ⟨_, _, _, _, _, _, i, _, rfl, h1, h2, Or.inl ⟨rfl, rfl⟩⟩
  · obtain ⟨i, h1, h2⟩ := Option.bind_eq_some_iff.mp h
    exact ⟨_, _, _, _, _, _, i, _, rfl, h1, h2, Or.inr ⟨rfl, rfl⟩⟩
  · cases h
end
