/-! A new Sent: what its constructor leaves. -/
section
def ab_fl (m : Mm) (r p : Nat) (v : Int32) (lo hi : Nat) : Mm := (fun r' p' j' => if r' = r ∧ p' = p ∧ lo ≤ j' ∧ j' < hi then v else m.1 r' p' j', m.2)
theorem ab_ix_nI {i n : Nat} (h : i < n) (hn : n < 2 ^ 31) : ab_ix (nI i) n = some i := by
  unfold ab_ix
  have h1 := nI_in h hn
  rw [if_neg h1, nI_clamp (by omega)]
theorem ab_fl_step (m : Mm) (r p i hi : Nat) (v : Int32) (h : i < hi) : ab_fl (ab_uI m r p i v) r p v (i + 1) hi = ab_fl m r p v i hi := by
  refine Prod.ext ?_ rfl
  funext r' p' j'
  show (if r' = r ∧ p' = p ∧ i + 1 ≤ j' ∧ j' < hi then v else if r' = r ∧ p' = p ∧ j' = i then v else m.1 r' p' j') = if r' = r ∧ p' = p ∧ i ≤ j' ∧ j' < hi then v else m.1 r' p' j'
  by_cases h1 : r' = r ∧ p' = p
  · obtain ⟨rfl, rfl⟩ := h1
    by_cases h2 : j' = i
    · subst h2
      rw [if_neg (by omega), if_pos ⟨rfl, rfl, rfl⟩, if_pos ⟨rfl, rfl, Nat.le_refl _, h⟩]
    · by_cases h3 : i + 1 ≤ j' ∧ j' < hi
      · rw [if_pos ⟨rfl, rfl, h3⟩, if_pos ⟨rfl, rfl, by omega, h3.2⟩]
      · rw [if_neg (fun z => h3 z.2.2), if_neg (fun z => h2 z.2.2), if_neg (fun z => h3 ⟨by omega, z.2.2.2⟩)]
  · rw [if_neg (fun z => h1 ⟨z.1, z.2.1⟩), if_neg (fun z => h1 ⟨z.1, z.2.1⟩), if_neg (fun z => h1 ⟨z.1, z.2.1⟩)]
theorem ab_fl_end (m : Mm) (r p hi : Nat) (v : Int32) : ab_fl m r p v hi hi = m := by
  refine Prod.ext ?_ rfl
  funext r' p' j'
  show (if r' = r ∧ p' = p ∧ hi ≤ j' ∧ j' < hi then v else m.1 r' p' j') = m.1 r' p' j'
  rw [if_neg (by omega)]
theorem ab_rV_of {o : Option Rs} {m' : Mm} (h : o = some (.inl (none, m'))) : ab_rV o = some m' := by rw [h]; rfl
theorem ab_rI_of {o : Option Rs} {m' : Mm} {v : Int32} (h : o = some (.inl (some (.inl v), m'))) : ab_rI o = some (v, m') := by rw [h]; rfl
theorem fill_SLim_loop (p : Nat) (v : Int32) : ∀ (k i f : Nat) (m : Mm), i + k = 4 → k < f → b_Arr_fill_SLim_5 f p v (nI i) (Int32.ofNat 4) m = some (.inl (none, ab_fl m 76 p v i 4))
  | 0, i, f + 1, m, h, _ => by
    rw [b_Arr_fill_SLim_5_eq, if_pos (show Int32.ofNat 4 ≤ nI i from nI_le (by omega) (by omega))]
    have : i = 4 := by omega
    subst this
    rw [ab_fl_end]
  | k + 1, i, f + 1, m, h, hf => by
    rw [b_Arr_fill_SLim_5_eq, if_neg (show ¬ Int32.ofNat 4 ≤ nI i from nI_ge (by omega) (by omega)), ab_ix_nI (by omega) (by omega)]
    show b_Arr_fill_SLim_5 f p v (nI i + 1) (Int32.ofNat 4) (ab_uI m 76 p i v) = _
    rw [← nI_succ, fill_SLim_loop p v k (i + 1) f _ (by omega) (by omega), ab_fl_step _ _ _ _ _ _ (by omega)]
theorem fill_SLim_run (f p : Nat) (v : Int32) (m : Mm) (hf : 4 < f) : b_Arr_fill_SLim_0 (f + 1) p v m = some (.inl (none, ab_fl m 76 p v 0 4)) := by
  rw [b_Arr_fill_SLim_0_eq]
  simp only [ab_let]
  rw [← nI_0]
  exact fill_SLim_loop p v 4 0 f m (by omega) hf
theorem r_Arr_fill_SLim_spec (p : Nat) (v : Int32) (m : Mm) : r_Arr_fill_SLim p v m = some (ab_fl m 76 p v 0 4) := by
  rw [r_Arr_fill_SLim_eq]
  exact ab_rV_of (fill_SLim_run 49999 p v m (by omega))
theorem fill_IncB_loop (p : Nat) (v : Int32) : ∀ (k i f : Nat) (m : Mm), i + k = 64 → k < f → b_Arr_fill_IncB_5 f p v (nI i) (Int32.ofNat 64) m = some (.inl (none, ab_fl m 53 p v i 64))
  | 0, i, f + 1, m, h, _ => by
    rw [b_Arr_fill_IncB_5_eq, if_pos (show Int32.ofNat 64 ≤ nI i from nI_le (by omega) (by omega))]
    have : i = 64 := by omega
    subst this
    rw [ab_fl_end]
  | k + 1, i, f + 1, m, h, hf => by
    rw [b_Arr_fill_IncB_5_eq, if_neg (show ¬ Int32.ofNat 64 ≤ nI i from nI_ge (by omega) (by omega)), ab_ix_nI (by omega) (by omega)]
    show b_Arr_fill_IncB_5 f p v (nI i + 1) (Int32.ofNat 64) (ab_uI m 53 p i v) = _
    rw [← nI_succ, fill_IncB_loop p v k (i + 1) f _ (by omega) (by omega), ab_fl_step _ _ _ _ _ _ (by omega)]
theorem fill_IncB_run (f p : Nat) (v : Int32) (m : Mm) (hf : 64 < f) : b_Arr_fill_IncB_0 (f + 1) p v m = some (.inl (none, ab_fl m 53 p v 0 64)) := by
  rw [b_Arr_fill_IncB_0_eq]
  simp only [ab_let]
  rw [← nI_0]
  exact fill_IncB_loop p v 64 0 f m (by omega) hf
theorem r_Arr_fill_IncB_spec (p : Nat) (v : Int32) (m : Mm) : r_Arr_fill_IncB p v m = some (ab_fl m 53 p v 0 64) := by
  rw [r_Arr_fill_IncB_eq]
  exact ab_rV_of (fill_IncB_run 49999 p v m (by omega))
/-- the memory behind 'new Sent()' at n -/
def snt_m (n : Nat) (m : Mm) : Mm := ab_fl (ab_uR (ab_ap (ab_uR (ab_ap (ab_uR (ab_ap (ab_uR (ab_ap (ab_uR (ab_ap (ab_uI (ab_uI m 68 n 0 1) 70 n 0 (-1)) 23) 71 n 0 (some (n + 1))) 24) 72 n 0 (some (n + 2))) 25) 73 n 0 (some (n + 3))) 26) 74 n 0 (some (n + 4))) 27) 75 n 0 (some (n + 5))) 76 (n + 1) (-1) 0 4
theorem ab_let_eq {α β : Type} (x : α) (f : α → β) : ab_let x f = f x := rfl
theorem ab_newstep {β : Type} (m : Mm) (k r v n : Nat) (F : Mm → β) (h : m.2.2.2.1.length = n) : (ab_let m.2.2.2.1.length fun n4 => ab_let (ab_ap m k) fun m3 => ab_let (ab_uR m3 r v 0 (some n4)) fun m5 => F m5) = F (ab_uR (ab_ap m k) r v 0 (some n)) := by subst h; rfl
theorem ab_newlen (m : Mm) (k r v n : Nat) (x : Option Nat) (h : m.2.2.2.1.length = n) : (ab_uR (ab_ap m k) r v 0 x).2.2.2.1.length = n + 1 := by
  subst h
  exact List.length_append
theorem ab_uRs (m : Mm) (k r v : Nat) (x : Option Nat) : (ab_uR (ab_ap m k) r v 0 x).2.2.1 r v 0 = x := if_pos ⟨rfl, rfl, rfl⟩
theorem ab_uRo (m : Mm) (k r v r' : Nat) (x : Option Nat) (h : r' ≠ r) : (ab_uR (ab_ap m k) r v 0 x).2.2.1 r' v 0 = m.2.2.1 r' v 0 := if_neg (fun z => h z.1)
theorem snt_run (f n : Nat) (m : Mm) (h : m.2.2.2.1.length = n + 1) : b_Snt_init_0 (f + 1) n m = some (.inl (none, snt_m n m)) := by
  rw [b_Snt_init_0_eq]
  have e4 : (4 : Int32) = Int32.ofNat 4 := rfl
  unfold snt_m
  rw [ab_let_eq, ab_let_eq]
  have l1 : (ab_uI (ab_uI m 68 n 0 1) 70 n 0 (-1)).2.2.2.1.length = n + 1 := h
  generalize ab_uI (ab_uI m 68 n 0 1) 70 n 0 (-1) = m2 at l1 ⊢
  rw [if_pos e4, ab_newstep _ _ _ _ _ _ l1]
  have l2 := ab_newlen m2 23 71 n _ (some (n + 1)) l1
  have q2 := ab_uRs m2 23 71 n (some (n + 1))
  generalize ab_uR (ab_ap m2 23) 71 n 0 (some (n + 1)) = m3 at l2 q2 ⊢
  rw [if_pos e4, ab_newstep _ _ _ _ _ _ l2]
  have l3 := ab_newlen m3 24 72 n _ (some (n + 2)) l2
  have q3 := (ab_uRo m3 24 72 n 71 (some (n + 2)) (by decide)).trans q2
  generalize ab_uR (ab_ap m3 24) 72 n 0 (some (n + 1 + 1)) = m4 at l3 q3 ⊢
  rw [if_pos e4, ab_newstep _ _ _ _ _ _ l3]
  have l4 := ab_newlen m4 25 73 n _ (some (n + 3)) l3
  have q4 := (ab_uRo m4 25 73 n 71 (some (n + 3)) (by decide)).trans q3
  generalize ab_uR (ab_ap m4 25) 73 n 0 (some (n + 1 + 1 + 1)) = m5 at l4 q4 ⊢
  rw [if_pos e4, ab_newstep _ _ _ _ _ _ l4]
  have l5 := ab_newlen m5 26 74 n _ (some (n + 4)) l4
  have q5 := (ab_uRo m5 26 74 n 71 (some (n + 4)) (by decide)).trans q4
  generalize ab_uR (ab_ap m5 26) 74 n 0 (some (n + 1 + 1 + 1 + 1)) = m6 at l5 q5 ⊢
  rw [if_pos e4, ab_newstep _ _ _ _ _ _ l5]
  have q6 := (ab_uRo m6 27 75 n 71 (some (n + 5)) (by decide)).trans q5
  generalize ab_uR (ab_ap m6 27) 75 n 0 (some (n + 1 + 1 + 1 + 1 + 1)) = m7 at q6 ⊢
  rw [q6, Option.bind_some, r_Arr_fill_SLim_spec, Option.bind_some]
theorem r_Snt_init_spec (n : Nat) (m : Mm) (h : m.2.2.2.1.length = n + 1) : r_Snt_init n m = some (snt_m n m) := by
  rw [r_Snt_init_eq]
  exact ab_rV_of (snt_run 49999 n m h)
theorem isOpen_run (f E : Nat) (m : Mm) : b_End_isOpen_0 (f + 1) E m = some (.inl (some (.inl (if m.1 22 E 0 = -1 then 1 else 0)), m)) := by
  rw [b_End_isOpen_0_eq]
  by_cases h : m.1 22 E 0 = -1
  · rw [if_pos h, if_pos h]; rfl
  · rw [if_neg h, if_neg h]; rfl
theorem r_End_isOpen_spec (E : Nat) (m : Mm) : r_End_isOpen E m = some (if m.1 22 E 0 = -1 then 1 else 0, m) := by
  rw [r_End_isOpen_eq]
  exact ab_rI_of (isOpen_run 49999 E m)
end
