/-! What the constructors of the class and of the model leave. -/
section
theorem ab_uRx (m : Mm) (r p j r' p' j' : Nat) (x : Option Nat) : (ab_uR m r p j x).2.2.1 r' p' j' = if r' = r ∧ p' = p ∧ j' = j then x else m.2.2.1 r' p' j' := rfl
theorem ab_uIx (m : Mm) (r p j r' p' j' : Nat) (x : Int32) : (ab_uI m r p j x).1 r' p' j' = if r' = r ∧ p' = p ∧ j' = j then x else m.1 r' p' j' := rfl
theorem ab_flx (m : Mm) (r p : Nat) (v : Int32) (lo hi r' p' j' : Nat) : (ab_fl m r p v lo hi).1 r' p' j' = if r' = r ∧ p' = p ∧ lo ≤ j' ∧ j' < hi then v else m.1 r' p' j' := rfl
def x_e (q i n : Nat) (sw wi : Int32) (m : Mm) : Mm := ab_uR (end_m n (nI i) sw wi (ab_ap m 73)) 8 q i (some n)
theorem x_e_len {q i n k : Nat} {sw wi : Int32} {m : Mm} (h : kl m = k) : kl (x_e q i n sw wi m) = k + 30 := by
  rw [x_e, kl_R, end_len (kl_ap _ _), h]
theorem end_ref {n r p j : Nat} {side sw wi : Int32} {m : Mm} (h : r < 10) : (end_m n side sw wi m).2.2.1 r p j = m.2.2.1 r p j := by
  unfold end_m
  rw [ab_uRx, if_neg (fun z => by omega), otf_ref (by omega) (by omega) (by omega) (by omega)]
  show (ab_uR _ _ _ _ _).2.2.1 r p j = _
  rw [ab_uRx, if_neg (fun z => by omega), int_ref (by omega) (by omega) (by omega)]
  show (ab_uR _ _ _ _ _).2.2.1 r p j = _
  rw [ab_uRx, if_neg (fun z => by omega)]
  show (ab_uR _ _ _ _ _).2.2.1 r p j = _
  rw [ab_uRx, if_neg (fun z => by omega), rdr_ref (by omega)]
  show (ab_uR _ _ _ _ _).2.2.1 r p j = _
  rw [ab_uRx, if_neg (fun z => by omega), num_ref (by omega)]
  rfl
theorem x_e_ref {q i n r p j : Nat} {sw wi : Int32} {m : Mm} (h : r < 8) : (x_e q i n sw wi m).2.2.1 r p j = m.2.2.1 r p j := by
  rw [x_e, ab_uRx, if_neg (fun z => by omega), end_ref (by omega)]
  rfl
theorem x_e_step {f p q i n : Nat} {a b : Int32} {m : Mm} (hi : i < 2) (h : kl m = n) (hq : m.2.2.1 1 p 0 = some q) : b_X_init_42 (f + 1) p a b (nI i) m = b_X_init_42 f p a b (nI (i + 1)) (x_e q i n (4 + (a &&& 15)) (8 + (b &&& 31)) m) := by
  rw [b_X_init_42_eq, if_neg (show ¬ (2 : Int32) ≤ nI i from nI_ge (a := i) (b := 2) hi (by omega)), ab_newobj (R := fun n m => r_End_init n (nI i) (4 + (a &&& 15)) (8 + (b &&& 31)) m) _ h (r_End_init_spec _ _ _ _ _ (ab_apl h)), hq, Option.bind_some, ab_ix_nI hi (by omega), Option.bind_some]
  rw [nI_succ]
  rfl
def x_w (q : Nat) : Nat → Nat → Nat → Mm → Mm
  | 0, _, _, m => m
  | k + 1, i, n, m => x_w q k (i + 1) (n + 2) (ab_uR (row_m n (ab_ap m 72)) 9 q i (some n))
theorem x_w_run {p q : Nat} : ∀ (k i n f : Nat) (m : Mm), i + k = 16 → k < f → kl m = n → m.2.2.1 2 p 0 = some q → b_X_init_82 f p (nI i) m = some (.inl (none, x_w q k i n m))
  | 0, i, n, f + 1, m, h, _, hn, hq => by
    have e : i = 16 := by omega
    subst e
    rw [b_X_init_82_eq, if_pos (show (16 : Int32) ≤ nI 16 from nI_le (a := 16) (b := 16) (by omega) (by omega))]
    rfl
  | k + 1, i, n, f + 1, m, h, hf, hn, hq => by
    rw [b_X_init_82_eq, if_neg (show ¬ (16 : Int32) ≤ nI i from nI_ge (a := i) (b := 16) (by omega) (by omega)), ab_newobj (R := r_Row_init) _ hn (r_Row_init_spec _ _ (ab_apl hn)), hq, Option.bind_some, ab_ix_nI (by omega) (by omega), Option.bind_some, ab_let_eq, ab_let_eq, ← nI_succ]
    rw [x_w_run k (i + 1) (n + 2) f _ (by omega) (by omega) (by rw [kl_R, row_len (kl_ap _ _), hn]) (by rw [ab_uRx, if_neg (fun z => by omega), row_ref (by omega)]; exact hq)]
    rfl
/-- an X at n -/
def x_0 (n : Nat) (m : Mm) : Mm := ab_uR (ab_ap (ab_uR (row_m (n + 3) (ab_ap (ab_uR (ab_ap (ab_uR (ab_ap m 70) 1 n 0 (some (n + 1))) 71) 2 n 0 (some (n + 2))) 72)) 3 n 0 (some (n + 3))) 6) 4 n 0 (some (n + 5))
def x_m (n : Nat) (a b : Int32) (m : Mm) : Mm := x_w (n + 2) 16 0 (n + 66) (x_e (n + 1) 1 (n + 36) (4 + (a &&& 15)) (8 + (b &&& 31)) (x_e (n + 1) 0 (n + 6) (4 + (a &&& 15)) (8 + (b &&& 31)) (x_0 n m)))
theorem x_run (f n : Nat) (a b : Int32) (m : Mm) (h : kl m = n + 1) (hf : 20 < f) : b_X_init_0 (f + 4) n a b m = some (.inl (none, x_m n a b m)) := by
  rw [b_X_init_0_eq, if_pos (show (2 : Int32) = Int32.ofNat 2 from rfl), ab_newstep _ _ _ _ _ _ h, if_pos (show (16 : Int32) = Int32.ofNat 16 from rfl)]
  unfold x_m x_0
  have l1 : kl (ab_uR (ab_ap m 70) 1 n 0 (some (n + 1))) = n + 2 := by rw [kl_R, kl_ap, h]
  have e1 : (ab_uR (ab_ap m 70) 1 n 0 (some (n + 1))).2.2.1 1 n 0 = some (n + 1) := ab_uRs _ _ _ _ _
  generalize ab_uR (ab_ap m 70) 1 n 0 (some (n + 1)) = m1 at l1 e1 ⊢
  rw [ab_newstep _ _ _ _ _ _ l1]
  have l2 : kl (ab_uR (ab_ap m1 71) 2 n 0 (some (n + 2))) = n + 3 := by rw [kl_R, kl_ap, l1]
  have e2 : (ab_uR (ab_ap m1 71) 2 n 0 (some (n + 2))).2.2.1 1 n 0 = some (n + 1) := (ab_uRo _ _ _ _ _ _ (by decide)).trans e1
  have e2' : (ab_uR (ab_ap m1 71) 2 n 0 (some (n + 2))).2.2.1 2 n 0 = some (n + 2) := ab_uRs _ _ _ _ _
  generalize ab_uR (ab_ap m1 71) 2 n 0 (some (n + 2)) = m2 at l2 e2 e2' ⊢
  rw [ab_newobj (R := r_Row_init) _ l2 (r_Row_init_spec _ _ (ab_apl l2)), ab_let_eq, if_pos (show (37 : Int32) = Int32.ofNat 37 from rfl)]
  have l3 : kl (ab_uR (row_m (n + 3) (ab_ap m2 72)) 3 n 0 (some (n + 3))) = n + 5 := by rw [kl_R, row_len (kl_ap _ _), l2]
  have e3 : (ab_uR (row_m (n + 3) (ab_ap m2 72)) 3 n 0 (some (n + 3))).2.2.1 1 n 0 = some (n + 1) := by rw [ab_uRx, if_neg (fun z => by omega), row_ref (by omega)]; exact e2
  have e3' : (ab_uR (row_m (n + 3) (ab_ap m2 72)) 3 n 0 (some (n + 3))).2.2.1 2 n 0 = some (n + 2) := by rw [ab_uRx, if_neg (fun z => by omega), row_ref (by omega)]; exact e2'
  generalize ab_uR (row_m (n + 3) (ab_ap m2 72)) 3 n 0 (some (n + 3)) = m3 at l3 e3 e3' ⊢
  rw [ab_newstep _ _ _ _ _ _ l3]
  have l4 : kl (ab_uR (ab_ap m3 6) 4 n 0 (some (n + 5))) = n + 6 := by rw [kl_R, kl_ap, l3]
  have e4 : (ab_uR (ab_ap m3 6) 4 n 0 (some (n + 5))).2.2.1 1 n 0 = some (n + 1) := (ab_uRo _ _ _ _ _ _ (by decide)).trans e3
  have e4' : (ab_uR (ab_ap m3 6) 4 n 0 (some (n + 5))).2.2.1 2 n 0 = some (n + 2) := (ab_uRo _ _ _ _ _ _ (by decide)).trans e3'
  generalize ab_uR (ab_ap m3 6) 4 n 0 (some (n + 5)) = m4 at l4 e4 e4' ⊢
  rw [← nI_0, x_e_step (by omega) l4 e4]
  have l5 : kl (x_e (n + 1) 0 (n + 6) (4 + (a &&& 15)) (8 + (b &&& 31)) m4) = n + 36 := x_e_len l4
  have e5 : (x_e (n + 1) 0 (n + 6) (4 + (a &&& 15)) (8 + (b &&& 31)) m4).2.2.1 1 n 0 = some (n + 1) := (x_e_ref (by decide)).trans e4
  have e5' : (x_e (n + 1) 0 (n + 6) (4 + (a &&& 15)) (8 + (b &&& 31)) m4).2.2.1 2 n 0 = some (n + 2) := (x_e_ref (by decide)).trans e4'
  generalize x_e (n + 1) 0 (n + 6) (4 + (a &&& 15)) (8 + (b &&& 31)) m4 = m5 at l5 e5 e5' ⊢
  rw [x_e_step (by omega) l5 e5, b_X_init_42_eq, if_pos (show (2 : Int32) ≤ nI (0 + 1 + 1) from nI_le (a := 2) (b := 2) (by omega) (by omega)), ← nI_0]
  exact x_w_run 16 0 (n + 66) _ _ (by omega) (by omega) (x_e_len l5) ((x_e_ref (by decide)).trans e5')
theorem r_X_init_spec (n : Nat) (a b : Int32) (m : Mm) (h : kl m = n + 1) : r_X_init n a b m = some (x_m n a b m) := by
  rw [r_X_init_eq]; exact ab_rV_of (x_run 49996 n a b m h (by omega))

def m_a (p : Nat) : List (Nat × Nat) → Nat → Mm → Mm
  | [], _, m => m
  | (k, r) :: l, n, m => m_a p l (n + 1) (ab_uR (ab_ap m k) r p 0 (some n))
def m_l : List (Nat × Nat) := [(29, 85), (30, 86), (31, 87), (32, 88), (33, 89), (34, 90), (35, 91), (36, 92), (37, 93), (38, 94), (39, 95), (40, 96), (41, 97), (42, 98), (43, 99), (44, 100), (45, 101), (46, 102), (47, 103), (48, 104), (49, 105), (50, 106), (51, 107), (52, 108), (53, 109), (54, 110), (55, 111), (56, 112), (57, 113), (58, 114), (59, 115), (60, 116), (61, 117), (62, 119), (63, 120), (64, 121), (65, 122), (66, 128), (67, 129)]
def m_g (p : Nat) (sw : Int32) : Nat → Nat → Mm → Mm
  | 0, _, m => m
  | k + 1, i, m => m_g p sw k (i + 1) (ab_uI (ab_uI (ab_uI m 139 (p + 7) i sw) 146 (p + 14) i sw) 144 (p + 12) i (-1))
def m_h (p : Nat) (wi : Int32) : Nat → Nat → Mm → Mm
  | 0, _, m => m
  | k + 1, i, m => m_h p wi k (i + 1) (ab_uI (ab_uI (ab_uI (ab_uI (ab_uI m 149 (p + 17) i wi) 150 (p + 18) i wi) 152 (p + 20) i (-1)) 153 (p + 21) i (-1)) 154 (p + 22) i (-1))
def m_m (p : Nat) (a b : Int32) (m : Mm) : Mm := m_h p (8 + (b &&& 31)) 2 0 (ab_fl (m_g p (4 + (a &&& 15)) 8 0 (ab_uI (ab_uI (m_a p m_l (p + 1) m) 81 p 0 (4 + (a &&& 15))) 82 p 0 (8 + (b &&& 31)))) 142 (p + 10) (-1) 0 512)
theorem m_h_run {p : Nat} {wi : Int32} : ∀ (k i f : Nat) (m : Mm), i + k = 2 → k < f → m.1 82 p 0 = wi → m.2.2.1 101 p 0 = some (p + 17) → m.2.2.1 102 p 0 = some (p + 18) → m.2.2.1 104 p 0 = some (p + 20) → m.2.2.1 105 p 0 = some (p + 21) → m.2.2.1 106 p 0 = some (p + 22) → b_M_init_397 f p (nI i) m = some (.inl (none, m_h p wi k i m))
  | 0, i, f + 1, m, h, _, _, _, _, _, _, _ => by
    have e : i = 2 := by omega
    subst e
    rw [b_M_init_397_eq, if_pos (show (2 : Int32) ≤ nI 2 from nI_le (a := 2) (b := 2) (by omega) (by omega))]
    rfl
  | k + 1, i, f + 1, m, h, hf, hw, h1, h2, h3, h4, h5 => by
    have ei := ab_ix_nI (i := i) (n := 2) (by omega) (by omega)
    rw [b_M_init_397_eq, if_neg (show ¬ (2 : Int32) ≤ nI i from nI_ge (a := i) (b := 2) (by omega) (by omega)), h1, Option.bind_some, ei, Option.bind_some, ab_let_eq]
    have g2 : (ab_uI m 149 (p + 17) i (m.1 82 p 0)).2.2.1 102 p 0 = some (p + 18) := h2
    have w2 : (ab_uI m 149 (p + 17) i (m.1 82 p 0)).1 82 p 0 = wi := by rw [ab_uIx, if_neg (fun z => by omega), hw]
    rw [g2, Option.bind_some, Option.bind_some, ab_let_eq, w2, hw]
    have g3 : (ab_uI (ab_uI m 149 (p + 17) i wi) 150 (p + 18) i wi).2.2.1 104 p 0 = some (p + 20) := h3
    rw [g3, Option.bind_some, Option.bind_some, ab_let_eq]
    have g4 : (ab_uI (ab_uI (ab_uI m 149 (p + 17) i wi) 150 (p + 18) i wi) 152 (p + 20) i (-1)).2.2.1 105 p 0 = some (p + 21) := h4
    rw [g4, Option.bind_some, Option.bind_some, ab_let_eq]
    have g5 : (ab_uI (ab_uI (ab_uI (ab_uI m 149 (p + 17) i wi) 150 (p + 18) i wi) 152 (p + 20) i (-1)) 153 (p + 21) i (-1)).2.2.1 106 p 0 = some (p + 22) := h5
    rw [g5, Option.bind_some, Option.bind_some, ab_let_eq, ab_let_eq, ← nI_succ]
    refine (m_h_run (wi := wi) k (i + 1) f (ab_uI (ab_uI (ab_uI (ab_uI (ab_uI m 149 (p + 17) i wi) 150 (p + 18) i wi) 152 (p + 20) i (-1)) 153 (p + 21) i (-1)) 154 (p + 22) i (-1)) (by omega) (by omega) ?_ h1 h2 h3 h4 h5).trans rfl
    rw [ab_uIx, if_neg (fun z => by omega), ab_uIx, if_neg (fun z => by omega), ab_uIx, if_neg (fun z => by omega), ab_uIx, if_neg (fun z => by omega), ab_uIx, if_neg (fun z => by omega), hw]
theorem m_c_run {p : Nat} : ∀ (k i f : Nat) (m : Mm), i + k = 512 → k < f → m.2.2.1 94 p 0 = some (p + 10) → b_M_init_375 f p (nI i) m = b_M_init_397 (f - k - 1) p 0 (ab_fl m 142 (p + 10) (-1) i 512)
  | 0, i, f + 1, m, h, _, h1 => by
    have e : i = 512 := by omega
    subst e
    rw [b_M_init_375_eq, if_pos (show (512 : Int32) ≤ nI 512 from nI_le (a := 512) (b := 512) (by omega) (by omega)), ab_fl_end]
    rfl
  | k + 1, i, f + 1, m, h, hf, h1 => by
    rw [b_M_init_375_eq, if_neg (show ¬ (512 : Int32) ≤ nI i from nI_ge (a := i) (b := 512) (by omega) (by omega)), h1, Option.bind_some, ab_ix_nI (by omega) (by omega), Option.bind_some, ab_let_eq, ab_let_eq, ← nI_succ]
    refine (m_c_run k (i + 1) f (ab_uI m 142 (p + 10) i (-1)) (by omega) (by omega) h1).trans ?_
    rw [ab_fl_step _ _ _ _ _ _ (by omega), show f + 1 - (k + 1) - 1 = f - k - 1 by omega]
theorem m_g_keep {p : Nat} {sw : Int32} : ∀ (k i : Nat) (m : Mm), (m_g p sw k i m).2 = m.2 ∧ ∀ r q j, r ≠ 139 → r ≠ 146 → r ≠ 144 → (m_g p sw k i m).1 r q j = m.1 r q j
  | 0, i, m => ⟨rfl, fun _ _ _ _ _ _ => rfl⟩
  | k + 1, i, m => by
    have ih := m_g_keep (p := p) (sw := sw) k (i + 1) (ab_uI (ab_uI (ab_uI m 139 (p + 7) i sw) 146 (p + 14) i sw) 144 (p + 12) i (-1))
    refine ⟨ih.1, fun r q j h1 h2 h3 => (ih.2 r q j h1 h2 h3).trans ?_⟩
    exact (if_neg (fun z => h3 z.1)).trans ((if_neg (fun z => h2 z.1)).trans (if_neg (fun z => h1 z.1)))
theorem m_g_run {p : Nat} {sw : Int32} : ∀ (k i f : Nat) (m : Mm), i + k = 8 → k < f → m.1 81 p 0 = sw → m.2.2.1 91 p 0 = some (p + 7) → m.2.2.1 98 p 0 = some (p + 14) → m.2.2.1 96 p 0 = some (p + 12) → b_M_init_334 f p (nI i) m = b_M_init_375 (f - k - 1) p 0 (m_g p sw k i m)
  | 0, i, f + 1, m, h, _, _, _, _, _ => by
    have e : i = 8 := by omega
    subst e
    rw [b_M_init_334_eq, if_pos (show (8 : Int32) ≤ nI 8 from nI_le (a := 8) (b := 8) (by omega) (by omega))]
    rfl
  | k + 1, i, f + 1, m, h, hf, hw, h1, h2, h3 => by
    have ei := ab_ix_nI (i := i) (n := 8) (by omega) (by omega)
    rw [b_M_init_334_eq, if_neg (show ¬ (8 : Int32) ≤ nI i from nI_ge (a := i) (b := 8) (by omega) (by omega)), h1, Option.bind_some, ei, Option.bind_some, ab_let_eq]
    have g2 : (ab_uI m 139 (p + 7) i (m.1 81 p 0)).2.2.1 98 p 0 = some (p + 14) := h2
    have w2 : (ab_uI m 139 (p + 7) i (m.1 81 p 0)).1 81 p 0 = sw := by rw [ab_uIx, if_neg (fun z => by omega), hw]
    rw [g2, Option.bind_some, Option.bind_some, ab_let_eq, w2, hw]
    have g3 : (ab_uI (ab_uI m 139 (p + 7) i sw) 146 (p + 14) i sw).2.2.1 96 p 0 = some (p + 12) := h3
    rw [g3, Option.bind_some, Option.bind_some, ab_let_eq, ab_let_eq, ← nI_succ]
    refine (m_g_run (sw := sw) k (i + 1) f (ab_uI (ab_uI (ab_uI m 139 (p + 7) i sw) 146 (p + 14) i sw) 144 (p + 12) i (-1)) (by omega) (by omega) ?_ h1 h2 h3).trans ?_
    · rw [ab_uIx, if_neg (fun z => by omega), ab_uIx, if_neg (fun z => by omega), ab_uIx, if_neg (fun z => by omega), hw]
    · rw [show f + 1 - (k + 1) - 1 = f - k - 1 by omega]
      rfl
theorem m_a_i (p : Nat) : ∀ (l : List (Nat × Nat)) (n : Nat) (m : Mm), (m_a p l n m).1 = m.1
  | [], _, _ => rfl
  | (k, r) :: l, n, m => m_a_i p l (n + 1) _
theorem m_a_r (p : Nat) : ∀ (l : List (Nat × Nat)) (n r q j : Nat) (m : Mm), (∀ z ∈ l, z.2 ≠ r) → (m_a p l n m).2.2.1 r q j = m.2.2.1 r q j
  | [], _, _, _, _, _, _ => rfl
  | (k, r') :: l, n, r, q, j, m, h => by
    show (m_a p l (n + 1) (ab_uR (ab_ap m k) r' p 0 (some n))).2.2.1 r q j = _
    rw [m_a_r p l (n + 1) r q j _ (fun z hz => h z (List.mem_cons_of_mem _ hz)), ab_uRx, if_neg (fun z => h (k, r') List.mem_cons_self z.1.symm)]
    rfl
theorem m_a_at (p : Nat) : ∀ (l : List (Nat × Nat)) (n i : Nat) (z : Nat × Nat) (m : Mm), l[i]? = some z → (l.map (fun z => z.2)).Nodup → (m_a p l n m).2.2.1 z.2 p 0 = some (n + i)
  | [], _, _, _, _, h, _ => by simp at h
  | (k, r') :: l, n, 0, z, m, h, hn => by
    simp at h
    subst h
    show (m_a p l (n + 1) (ab_uR (ab_ap m k) r' p 0 (some n))).2.2.1 r' p 0 = _
    rw [List.map_cons, List.nodup_cons] at hn
    rw [m_a_r p l (n + 1) r' p 0 _ (fun z hz e => hn.1 (List.mem_map.mpr ⟨z, hz, e⟩)), ab_uRx, if_pos ⟨rfl, rfl, rfl⟩]
    rfl
  | (k, r') :: l, n, i + 1, z, m, h, hn => by
    rw [List.map_cons, List.nodup_cons] at hn
    have h' : l[i]? = some z := by simpa using h
    show (m_a p l (n + 1) (ab_uR (ab_ap m k) r' p 0 (some n))).2.2.1 z.2 p 0 = _
    rw [m_a_at p l (n + 1) i z _ h' hn.2]
    congr 1
    omega
theorem m_nd : (m_l.map (fun z => z.2)).Nodup := by decide +kernel
set_option maxHeartbeats 4000000 in
theorem m_run0 (f p : Nat) (a b : Int32) (m : Mm) (h : kl m = p + 1) : b_M_init_0 (f + 1) p a b m = b_M_init_334 f p 0 (ab_uI (ab_uI (m_a p m_l (p + 1) m) 81 p 0 (4 + (a &&& 15))) 82 p 0 (8 + (b &&& 31))) := by
  rw [b_M_init_0_eq]
  unfold m_l
  rw [if_pos (show (512 : Int32) = Int32.ofNat 512 from rfl), ab_newstep _ _ _ _ _ _ h, m_a]
  have l0 : kl (ab_uR (ab_ap m 29) 85 p 0 (some (p + 1))) = p + 1 + 1 := by rw [kl_R, kl_ap, h]
  generalize ab_uR (ab_ap m 29) 85 p 0 (some (p + 1)) = m0 at l0 ⊢
  rw [if_pos (show (512 : Int32) = Int32.ofNat 512 from rfl), ab_newstep _ _ _ _ _ _ l0, m_a]
  have l1 : kl (ab_uR (ab_ap m0 30) 86 p 0 (some (p + 2))) = p + 2 + 1 := by rw [kl_R, kl_ap, l0]
  generalize ab_uR (ab_ap m0 30) 86 p 0 (some (p + 1 + 1)) = m1 at l1 ⊢
  rw [if_pos (show (8 : Int32) = Int32.ofNat 8 from rfl), ab_newstep _ _ _ _ _ _ l1, m_a]
  have l2 : kl (ab_uR (ab_ap m1 31) 87 p 0 (some (p + 3))) = p + 3 + 1 := by rw [kl_R, kl_ap, l1]
  generalize ab_uR (ab_ap m1 31) 87 p 0 (some (p + 1 + 1 + 1)) = m2 at l2 ⊢
  rw [if_pos (show (8 : Int32) = Int32.ofNat 8 from rfl), ab_newstep _ _ _ _ _ _ l2, m_a]
  have l3 : kl (ab_uR (ab_ap m2 32) 88 p 0 (some (p + 4))) = p + 4 + 1 := by rw [kl_R, kl_ap, l2]
  generalize ab_uR (ab_ap m2 32) 88 p 0 (some (p + 1 + 1 + 1 + 1)) = m3 at l3 ⊢
  rw [if_pos (show (8 : Int32) = Int32.ofNat 8 from rfl), ab_newstep _ _ _ _ _ _ l3, m_a]
  have l4 : kl (ab_uR (ab_ap m3 33) 89 p 0 (some (p + 5))) = p + 5 + 1 := by rw [kl_R, kl_ap, l3]
  generalize ab_uR (ab_ap m3 33) 89 p 0 (some (p + 1 + 1 + 1 + 1 + 1)) = m4 at l4 ⊢
  rw [if_pos (show (8 : Int32) = Int32.ofNat 8 from rfl), ab_newstep _ _ _ _ _ _ l4, m_a]
  have l5 : kl (ab_uR (ab_ap m4 34) 90 p 0 (some (p + 6))) = p + 6 + 1 := by rw [kl_R, kl_ap, l4]
  generalize ab_uR (ab_ap m4 34) 90 p 0 (some (p + 1 + 1 + 1 + 1 + 1 + 1)) = m5 at l5 ⊢
  rw [if_pos (show (8 : Int32) = Int32.ofNat 8 from rfl), ab_newstep _ _ _ _ _ _ l5, m_a]
  have l6 : kl (ab_uR (ab_ap m5 35) 91 p 0 (some (p + 7))) = p + 7 + 1 := by rw [kl_R, kl_ap, l5]
  generalize ab_uR (ab_ap m5 35) 91 p 0 (some (p + 1 + 1 + 1 + 1 + 1 + 1 + 1)) = m6 at l6 ⊢
  rw [if_pos (show (8 : Int32) = Int32.ofNat 8 from rfl), ab_newstep _ _ _ _ _ _ l6, m_a]
  have l7 : kl (ab_uR (ab_ap m6 36) 92 p 0 (some (p + 8))) = p + 8 + 1 := by rw [kl_R, kl_ap, l6]
  generalize ab_uR (ab_ap m6 36) 92 p 0 (some (p + 1 + 1 + 1 + 1 + 1 + 1 + 1 + 1)) = m7 at l7 ⊢
  rw [if_pos (show (8 : Int32) = Int32.ofNat 8 from rfl), ab_newstep _ _ _ _ _ _ l7, m_a]
  have l8 : kl (ab_uR (ab_ap m7 37) 93 p 0 (some (p + 9))) = p + 9 + 1 := by rw [kl_R, kl_ap, l7]
  generalize ab_uR (ab_ap m7 37) 93 p 0 (some (p + 1 + 1 + 1 + 1 + 1 + 1 + 1 + 1 + 1)) = m8 at l8 ⊢
  rw [if_pos (show (512 : Int32) = Int32.ofNat 512 from rfl), ab_newstep _ _ _ _ _ _ l8, m_a]
  have l9 : kl (ab_uR (ab_ap m8 38) 94 p 0 (some (p + 10))) = p + 10 + 1 := by rw [kl_R, kl_ap, l8]
  generalize ab_uR (ab_ap m8 38) 94 p 0 (some (p + 1 + 1 + 1 + 1 + 1 + 1 + 1 + 1 + 1 + 1)) = m9 at l9 ⊢
  rw [if_pos (show (8 : Int32) = Int32.ofNat 8 from rfl), ab_newstep _ _ _ _ _ _ l9, m_a]
  have l10 : kl (ab_uR (ab_ap m9 39) 95 p 0 (some (p + 11))) = p + 11 + 1 := by rw [kl_R, kl_ap, l9]
  generalize ab_uR (ab_ap m9 39) 95 p 0 (some (p + 1 + 1 + 1 + 1 + 1 + 1 + 1 + 1 + 1 + 1 + 1)) = m10 at l10 ⊢
  rw [if_pos (show (8 : Int32) = Int32.ofNat 8 from rfl), ab_newstep _ _ _ _ _ _ l10, m_a]
  have l11 : kl (ab_uR (ab_ap m10 40) 96 p 0 (some (p + 12))) = p + 12 + 1 := by rw [kl_R, kl_ap, l10]
  generalize ab_uR (ab_ap m10 40) 96 p 0 (some (p + 1 + 1 + 1 + 1 + 1 + 1 + 1 + 1 + 1 + 1 + 1 + 1)) = m11 at l11 ⊢
  rw [if_pos (show (8 : Int32) = Int32.ofNat 8 from rfl), ab_newstep _ _ _ _ _ _ l11, m_a]
  have l12 : kl (ab_uR (ab_ap m11 41) 97 p 0 (some (p + 13))) = p + 13 + 1 := by rw [kl_R, kl_ap, l11]
  generalize ab_uR (ab_ap m11 41) 97 p 0 (some (p + 1 + 1 + 1 + 1 + 1 + 1 + 1 + 1 + 1 + 1 + 1 + 1 + 1)) = m12 at l12 ⊢
  rw [if_pos (show (8 : Int32) = Int32.ofNat 8 from rfl), ab_newstep _ _ _ _ _ _ l12, m_a]
  have l13 : kl (ab_uR (ab_ap m12 42) 98 p 0 (some (p + 14))) = p + 14 + 1 := by rw [kl_R, kl_ap, l12]
  generalize ab_uR (ab_ap m12 42) 98 p 0 (some (p + 1 + 1 + 1 + 1 + 1 + 1 + 1 + 1 + 1 + 1 + 1 + 1 + 1 + 1)) = m13 at l13 ⊢
  rw [if_pos (show (8 : Int32) = Int32.ofNat 8 from rfl), ab_newstep _ _ _ _ _ _ l13, m_a]
  have l14 : kl (ab_uR (ab_ap m13 43) 99 p 0 (some (p + 15))) = p + 15 + 1 := by rw [kl_R, kl_ap, l13]
  generalize ab_uR (ab_ap m13 43) 99 p 0 (some (p + 1 + 1 + 1 + 1 + 1 + 1 + 1 + 1 + 1 + 1 + 1 + 1 + 1 + 1 + 1)) = m14 at l14 ⊢
  rw [if_pos (show (8 : Int32) = Int32.ofNat 8 from rfl), ab_newstep _ _ _ _ _ _ l14, m_a]
  have l15 : kl (ab_uR (ab_ap m14 44) 100 p 0 (some (p + 16))) = p + 16 + 1 := by rw [kl_R, kl_ap, l14]
  generalize ab_uR (ab_ap m14 44) 100 p 0 (some (p + 1 + 1 + 1 + 1 + 1 + 1 + 1 + 1 + 1 + 1 + 1 + 1 + 1 + 1 + 1 + 1)) = m15 at l15 ⊢
  rw [if_pos (show (2 : Int32) = Int32.ofNat 2 from rfl), ab_newstep _ _ _ _ _ _ l15, m_a]
  have l16 : kl (ab_uR (ab_ap m15 45) 101 p 0 (some (p + 17))) = p + 17 + 1 := by rw [kl_R, kl_ap, l15]
  generalize ab_uR (ab_ap m15 45) 101 p 0 (some (p + 1 + 1 + 1 + 1 + 1 + 1 + 1 + 1 + 1 + 1 + 1 + 1 + 1 + 1 + 1 + 1 + 1)) = m16 at l16 ⊢
  rw [if_pos (show (2 : Int32) = Int32.ofNat 2 from rfl), ab_newstep _ _ _ _ _ _ l16, m_a]
  have l17 : kl (ab_uR (ab_ap m16 46) 102 p 0 (some (p + 18))) = p + 18 + 1 := by rw [kl_R, kl_ap, l16]
  generalize ab_uR (ab_ap m16 46) 102 p 0 (some (p + 1 + 1 + 1 + 1 + 1 + 1 + 1 + 1 + 1 + 1 + 1 + 1 + 1 + 1 + 1 + 1 + 1 + 1)) = m17 at l17 ⊢
  rw [if_pos (show (2 : Int32) = Int32.ofNat 2 from rfl), ab_newstep _ _ _ _ _ _ l17, m_a]
  have l18 : kl (ab_uR (ab_ap m17 47) 103 p 0 (some (p + 19))) = p + 19 + 1 := by rw [kl_R, kl_ap, l17]
  generalize ab_uR (ab_ap m17 47) 103 p 0 (some (p + 1 + 1 + 1 + 1 + 1 + 1 + 1 + 1 + 1 + 1 + 1 + 1 + 1 + 1 + 1 + 1 + 1 + 1 + 1)) = m18 at l18 ⊢
  rw [if_pos (show (2 : Int32) = Int32.ofNat 2 from rfl), ab_newstep _ _ _ _ _ _ l18, m_a]
  have l19 : kl (ab_uR (ab_ap m18 48) 104 p 0 (some (p + 20))) = p + 20 + 1 := by rw [kl_R, kl_ap, l18]
  generalize ab_uR (ab_ap m18 48) 104 p 0 (some (p + 1 + 1 + 1 + 1 + 1 + 1 + 1 + 1 + 1 + 1 + 1 + 1 + 1 + 1 + 1 + 1 + 1 + 1 + 1 + 1)) = m19 at l19 ⊢
  rw [if_pos (show (2 : Int32) = Int32.ofNat 2 from rfl), ab_newstep _ _ _ _ _ _ l19, m_a]
  have l20 : kl (ab_uR (ab_ap m19 49) 105 p 0 (some (p + 21))) = p + 21 + 1 := by rw [kl_R, kl_ap, l19]
  generalize ab_uR (ab_ap m19 49) 105 p 0 (some (p + 1 + 1 + 1 + 1 + 1 + 1 + 1 + 1 + 1 + 1 + 1 + 1 + 1 + 1 + 1 + 1 + 1 + 1 + 1 + 1 + 1)) = m20 at l20 ⊢
  rw [if_pos (show (2 : Int32) = Int32.ofNat 2 from rfl), ab_newstep _ _ _ _ _ _ l20, m_a]
  have l21 : kl (ab_uR (ab_ap m20 50) 106 p 0 (some (p + 22))) = p + 22 + 1 := by rw [kl_R, kl_ap, l20]
  generalize ab_uR (ab_ap m20 50) 106 p 0 (some (p + 1 + 1 + 1 + 1 + 1 + 1 + 1 + 1 + 1 + 1 + 1 + 1 + 1 + 1 + 1 + 1 + 1 + 1 + 1 + 1 + 1 + 1)) = m21 at l21 ⊢
  rw [if_pos (show (2 : Int32) = Int32.ofNat 2 from rfl), ab_newstep _ _ _ _ _ _ l21, m_a]
  have l22 : kl (ab_uR (ab_ap m21 51) 107 p 0 (some (p + 23))) = p + 23 + 1 := by rw [kl_R, kl_ap, l21]
  generalize ab_uR (ab_ap m21 51) 107 p 0 (some (p + 1 + 1 + 1 + 1 + 1 + 1 + 1 + 1 + 1 + 1 + 1 + 1 + 1 + 1 + 1 + 1 + 1 + 1 + 1 + 1 + 1 + 1 + 1)) = m22 at l22 ⊢
  rw [if_pos (show (2 : Int32) = Int32.ofNat 2 from rfl), ab_newstep _ _ _ _ _ _ l22, m_a]
  have l23 : kl (ab_uR (ab_ap m22 52) 108 p 0 (some (p + 24))) = p + 24 + 1 := by rw [kl_R, kl_ap, l22]
  generalize ab_uR (ab_ap m22 52) 108 p 0 (some (p + 1 + 1 + 1 + 1 + 1 + 1 + 1 + 1 + 1 + 1 + 1 + 1 + 1 + 1 + 1 + 1 + 1 + 1 + 1 + 1 + 1 + 1 + 1 + 1)) = m23 at l23 ⊢
  rw [if_pos (show (2 : Int32) = Int32.ofNat 2 from rfl), ab_newstep _ _ _ _ _ _ l23, m_a]
  have l24 : kl (ab_uR (ab_ap m23 53) 109 p 0 (some (p + 25))) = p + 25 + 1 := by rw [kl_R, kl_ap, l23]
  generalize ab_uR (ab_ap m23 53) 109 p 0 (some (p + 1 + 1 + 1 + 1 + 1 + 1 + 1 + 1 + 1 + 1 + 1 + 1 + 1 + 1 + 1 + 1 + 1 + 1 + 1 + 1 + 1 + 1 + 1 + 1 + 1)) = m24 at l24 ⊢
  rw [if_pos (show (2 : Int32) = Int32.ofNat 2 from rfl), ab_newstep _ _ _ _ _ _ l24, m_a]
  have l25 : kl (ab_uR (ab_ap m24 54) 110 p 0 (some (p + 26))) = p + 26 + 1 := by rw [kl_R, kl_ap, l24]
  generalize ab_uR (ab_ap m24 54) 110 p 0 (some (p + 1 + 1 + 1 + 1 + 1 + 1 + 1 + 1 + 1 + 1 + 1 + 1 + 1 + 1 + 1 + 1 + 1 + 1 + 1 + 1 + 1 + 1 + 1 + 1 + 1 + 1)) = m25 at l25 ⊢
  rw [if_pos (show (2 : Int32) = Int32.ofNat 2 from rfl), ab_newstep _ _ _ _ _ _ l25, m_a]
  have l26 : kl (ab_uR (ab_ap m25 55) 111 p 0 (some (p + 27))) = p + 27 + 1 := by rw [kl_R, kl_ap, l25]
  generalize ab_uR (ab_ap m25 55) 111 p 0 (some (p + 1 + 1 + 1 + 1 + 1 + 1 + 1 + 1 + 1 + 1 + 1 + 1 + 1 + 1 + 1 + 1 + 1 + 1 + 1 + 1 + 1 + 1 + 1 + 1 + 1 + 1 + 1)) = m26 at l26 ⊢
  rw [if_pos (show (2 : Int32) = Int32.ofNat 2 from rfl), ab_newstep _ _ _ _ _ _ l26, m_a]
  have l27 : kl (ab_uR (ab_ap m26 56) 112 p 0 (some (p + 28))) = p + 28 + 1 := by rw [kl_R, kl_ap, l26]
  generalize ab_uR (ab_ap m26 56) 112 p 0 (some (p + 1 + 1 + 1 + 1 + 1 + 1 + 1 + 1 + 1 + 1 + 1 + 1 + 1 + 1 + 1 + 1 + 1 + 1 + 1 + 1 + 1 + 1 + 1 + 1 + 1 + 1 + 1 + 1)) = m27 at l27 ⊢
  rw [if_pos (show (640 : Int32) = Int32.ofNat 640 from rfl), ab_newstep _ _ _ _ _ _ l27, m_a]
  have l28 : kl (ab_uR (ab_ap m27 57) 113 p 0 (some (p + 29))) = p + 29 + 1 := by rw [kl_R, kl_ap, l27]
  generalize ab_uR (ab_ap m27 57) 113 p 0 (some (p + 1 + 1 + 1 + 1 + 1 + 1 + 1 + 1 + 1 + 1 + 1 + 1 + 1 + 1 + 1 + 1 + 1 + 1 + 1 + 1 + 1 + 1 + 1 + 1 + 1 + 1 + 1 + 1 + 1)) = m28 at l28 ⊢
  rw [if_pos (show (1120 : Int32) = Int32.ofNat 1120 from rfl), ab_newstep _ _ _ _ _ _ l28, m_a]
  have l29 : kl (ab_uR (ab_ap m28 58) 114 p 0 (some (p + 30))) = p + 30 + 1 := by rw [kl_R, kl_ap, l28]
  generalize ab_uR (ab_ap m28 58) 114 p 0 (some (p + 1 + 1 + 1 + 1 + 1 + 1 + 1 + 1 + 1 + 1 + 1 + 1 + 1 + 1 + 1 + 1 + 1 + 1 + 1 + 1 + 1 + 1 + 1 + 1 + 1 + 1 + 1 + 1 + 1 + 1)) = m29 at l29 ⊢
  rw [if_pos (show (1120 : Int32) = Int32.ofNat 1120 from rfl), ab_newstep _ _ _ _ _ _ l29, m_a]
  have l30 : kl (ab_uR (ab_ap m29 59) 115 p 0 (some (p + 31))) = p + 31 + 1 := by rw [kl_R, kl_ap, l29]
  generalize ab_uR (ab_ap m29 59) 115 p 0 (some (p + 1 + 1 + 1 + 1 + 1 + 1 + 1 + 1 + 1 + 1 + 1 + 1 + 1 + 1 + 1 + 1 + 1 + 1 + 1 + 1 + 1 + 1 + 1 + 1 + 1 + 1 + 1 + 1 + 1 + 1 + 1)) = m30 at l30 ⊢
  rw [if_pos (show (1120 : Int32) = Int32.ofNat 1120 from rfl), ab_newstep _ _ _ _ _ _ l30, m_a]
  have l31 : kl (ab_uR (ab_ap m30 60) 116 p 0 (some (p + 32))) = p + 32 + 1 := by rw [kl_R, kl_ap, l30]
  generalize ab_uR (ab_ap m30 60) 116 p 0 (some (p + 1 + 1 + 1 + 1 + 1 + 1 + 1 + 1 + 1 + 1 + 1 + 1 + 1 + 1 + 1 + 1 + 1 + 1 + 1 + 1 + 1 + 1 + 1 + 1 + 1 + 1 + 1 + 1 + 1 + 1 + 1 + 1)) = m31 at l31 ⊢
  rw [if_pos (show (4480 : Int32) = Int32.ofNat 4480 from rfl), ab_newstep _ _ _ _ _ _ l31, m_a]
  have l32 : kl (ab_uR (ab_ap m31 61) 117 p 0 (some (p + 33))) = p + 33 + 1 := by rw [kl_R, kl_ap, l31]
  generalize ab_uR (ab_ap m31 61) 117 p 0 (some (p + 1 + 1 + 1 + 1 + 1 + 1 + 1 + 1 + 1 + 1 + 1 + 1 + 1 + 1 + 1 + 1 + 1 + 1 + 1 + 1 + 1 + 1 + 1 + 1 + 1 + 1 + 1 + 1 + 1 + 1 + 1 + 1 + 1)) = m32 at l32 ⊢
  rw [if_pos (show (672 : Int32) = Int32.ofNat 672 from rfl), ab_newstep _ _ _ _ _ _ l32, m_a]
  have l33 : kl (ab_uR (ab_ap m32 62) 119 p 0 (some (p + 34))) = p + 34 + 1 := by rw [kl_R, kl_ap, l32]
  generalize ab_uR (ab_ap m32 62) 119 p 0 (some (p + 1 + 1 + 1 + 1 + 1 + 1 + 1 + 1 + 1 + 1 + 1 + 1 + 1 + 1 + 1 + 1 + 1 + 1 + 1 + 1 + 1 + 1 + 1 + 1 + 1 + 1 + 1 + 1 + 1 + 1 + 1 + 1 + 1 + 1)) = m33 at l33 ⊢
  rw [if_pos (show (48 : Int32) = Int32.ofNat 48 from rfl), ab_newstep _ _ _ _ _ _ l33, m_a]
  have l34 : kl (ab_uR (ab_ap m33 63) 120 p 0 (some (p + 35))) = p + 35 + 1 := by rw [kl_R, kl_ap, l33]
  generalize ab_uR (ab_ap m33 63) 120 p 0 (some (p + 1 + 1 + 1 + 1 + 1 + 1 + 1 + 1 + 1 + 1 + 1 + 1 + 1 + 1 + 1 + 1 + 1 + 1 + 1 + 1 + 1 + 1 + 1 + 1 + 1 + 1 + 1 + 1 + 1 + 1 + 1 + 1 + 1 + 1 + 1)) = m34 at l34 ⊢
  rw [if_pos (show (48 : Int32) = Int32.ofNat 48 from rfl), ab_newstep _ _ _ _ _ _ l34, m_a]
  have l35 : kl (ab_uR (ab_ap m34 64) 121 p 0 (some (p + 36))) = p + 36 + 1 := by rw [kl_R, kl_ap, l34]
  generalize ab_uR (ab_ap m34 64) 121 p 0 (some (p + 1 + 1 + 1 + 1 + 1 + 1 + 1 + 1 + 1 + 1 + 1 + 1 + 1 + 1 + 1 + 1 + 1 + 1 + 1 + 1 + 1 + 1 + 1 + 1 + 1 + 1 + 1 + 1 + 1 + 1 + 1 + 1 + 1 + 1 + 1 + 1)) = m35 at l35 ⊢
  rw [if_pos (show (37 : Int32) = Int32.ofNat 37 from rfl), ab_newstep _ _ _ _ _ _ l35, m_a]
  have l36 : kl (ab_uR (ab_ap m35 65) 122 p 0 (some (p + 37))) = p + 37 + 1 := by rw [kl_R, kl_ap, l35]
  generalize ab_uR (ab_ap m35 65) 122 p 0 (some (p + 1 + 1 + 1 + 1 + 1 + 1 + 1 + 1 + 1 + 1 + 1 + 1 + 1 + 1 + 1 + 1 + 1 + 1 + 1 + 1 + 1 + 1 + 1 + 1 + 1 + 1 + 1 + 1 + 1 + 1 + 1 + 1 + 1 + 1 + 1 + 1 + 1)) = m36 at l36 ⊢
  rw [if_pos (show (3 : Int32) = Int32.ofNat 3 from rfl), ab_newstep _ _ _ _ _ _ l36, m_a]
  have l37 : kl (ab_uR (ab_ap m36 66) 128 p 0 (some (p + 38))) = p + 38 + 1 := by rw [kl_R, kl_ap, l36]
  generalize ab_uR (ab_ap m36 66) 128 p 0 (some (p + 1 + 1 + 1 + 1 + 1 + 1 + 1 + 1 + 1 + 1 + 1 + 1 + 1 + 1 + 1 + 1 + 1 + 1 + 1 + 1 + 1 + 1 + 1 + 1 + 1 + 1 + 1 + 1 + 1 + 1 + 1 + 1 + 1 + 1 + 1 + 1 + 1 + 1)) = m37 at l37 ⊢
  rw [if_pos (show (3 : Int32) = Int32.ofNat 3 from rfl), ab_newstep _ _ _ _ _ _ l37, m_a]
  have l38 : kl (ab_uR (ab_ap m37 67) 129 p 0 (some (p + 39))) = p + 39 + 1 := by rw [kl_R, kl_ap, l37]
  generalize ab_uR (ab_ap m37 67) 129 p 0 (some (p + 1 + 1 + 1 + 1 + 1 + 1 + 1 + 1 + 1 + 1 + 1 + 1 + 1 + 1 + 1 + 1 + 1 + 1 + 1 + 1 + 1 + 1 + 1 + 1 + 1 + 1 + 1 + 1 + 1 + 1 + 1 + 1 + 1 + 1 + 1 + 1 + 1 + 1 + 1)) = m38 at l38 ⊢
  rw [ab_let_eq, ab_let_eq, m_a]
theorem m_run (f p : Nat) (a b : Int32) (m : Mm) (h : kl m = p + 1) (hf : 600 < f) : b_M_init_0 (f + 1) p a b m = some (.inl (none, m_m p a b m)) := by
  rw [m_run0 f p a b m h]
  unfold m_m
  have at_ : ∀ (i r k : Nat), m_l[i]? = some (k, r) → (ab_uI (ab_uI (m_a p m_l (p + 1) m) 81 p 0 (4 + (a &&& 15))) 82 p 0 (8 + (b &&& 31))).2.2.1 r p 0 = some (p + 1 + i) := fun i r k h => m_a_at p m_l (p + 1) i (k, r) m h m_nd
  have w1 : (ab_uI (ab_uI (m_a p m_l (p + 1) m) 81 p 0 (4 + (a &&& 15))) 82 p 0 (8 + (b &&& 31))).1 81 p 0 = 4 + (a &&& 15) := by rw [ab_uIx, if_neg (fun z => by omega), ab_uIx, if_pos ⟨rfl, rfl, rfl⟩]
  have w2 : (ab_uI (ab_uI (m_a p m_l (p + 1) m) 81 p 0 (4 + (a &&& 15))) 82 p 0 (8 + (b &&& 31))).1 82 p 0 = 8 + (b &&& 31) := if_pos ⟨rfl, rfl, rfl⟩
  have r1 := at_ 6 91 35 rfl
  have r2 := at_ 13 98 42 rfl
  have r3 := at_ 11 96 40 rfl
  have r4 := at_ 9 94 38 rfl
  have r5 := at_ 16 101 45 rfl
  have r6 := at_ 17 102 46 rfl
  have r7 := at_ 19 104 48 rfl
  have r8 := at_ 20 105 49 rfl
  have r9 := at_ 21 106 50 rfl
  clear at_
  generalize ab_uI (ab_uI (m_a p m_l (p + 1) m) 81 p 0 (4 + (a &&& 15))) 82 p 0 (8 + (b &&& 31)) = m1 at *
  rw [← nI_0, m_g_run 8 0 f m1 (by omega) (by omega) w1 r1 r2 r3]
  have k := m_g_keep (p := p) (sw := 4 + (a &&& 15)) 8 0 m1
  have k1 := k.2 82 p 0 (by decide) (by decide) (by decide)
  have k2 := k.1
  generalize m_g p (4 + (a &&& 15)) 8 0 m1 = m2 at *
  rw [← nI_0, m_c_run 512 0 _ m2 (by omega) (by omega) (by rw [k2]; exact r4), ← nI_0]
  refine m_h_run 2 0 _ _ (by omega) (by omega) ?_ ?_ ?_ ?_ ?_ ?_
  · rw [ab_flx, if_neg (fun z => by omega), k1, w2]
  · show m2.2.2.1 101 p 0 = _
    rw [k2]; exact r5
  · show m2.2.2.1 102 p 0 = _
    rw [k2]; exact r6
  · show m2.2.2.1 104 p 0 = _
    rw [k2]; exact r7
  · show m2.2.2.1 105 p 0 = _
    rw [k2]; exact r8
  · show m2.2.2.1 106 p 0 = _
    rw [k2]; exact r9
theorem r_M_init_spec (p : Nat) (a b : Int32) (m : Mm) (h : kl m = p + 1) : r_M_init p a b m = some (m_m p a b m) := by
  rw [r_M_init_eq]; exact ab_rV_of (m_run 49999 p a b m h (by omega))
end
