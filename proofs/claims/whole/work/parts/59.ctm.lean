/-! What the constructors leave. -/
section
def kl (m : Mm) : Nat := m.2.2.2.1.length
theorem kl_R (m : Mm) (r p j : Nat) (x : Option Nat) : kl (ab_uR m r p j x) = kl m := rfl
theorem kl_I (m : Mm) (r p j : Nat) (x : Int32) : kl (ab_uI m r p j x) = kl m := rfl
theorem kl_fl (m : Mm) (r p : Nat) (x : Int32) (lo hi : Nat) : kl (ab_fl m r p x lo hi) = kl m := rfl
theorem kl_ap (m : Mm) (k : Nat) : kl (ab_ap m k) = kl m + 1 := List.length_append
theorem ab_newobj {β : Type} {m m3 : Mm} {k n : Nat} {R : Nat → Mm → Option Mm} (F : Nat → Mm → Option β) (h : kl m = n) (hR : R n (ab_ap m k) = some m3) : (ab_let m.2.2.2.1.length fun n2 => ab_let (ab_ap m k) fun m1 => (R n2 m1).bind fun m3 => F n2 m3) = F n m3 := by
  subst h
  show (R (kl m) (ab_ap m k)).bind (fun m3 => F (kl m) m3) = _
  rw [hR]; rfl
theorem ab_apl {m : Mm} {k n : Nat} (h : kl m = n) : kl (ab_ap m k) = n + 1 := by rw [kl_ap, h]
theorem i4_lt {i : Nat} (h : i < 4) : ¬ (4 : Int32) ≤ nI i := nI_ge (a := i) (b := 4) h (by omega)
theorem i4_ge : (4 : Int32) ≤ nI (0 + 1 + 1 + 1 + 1) := nI_le (a := 4) (b := 4) (by omega) (by omega)
/-- a Row at n -/
def row_m (n : Nat) (m : Mm) : Mm := ab_uR (ab_ap m 5) 10 n 0 (some (n + 1))
theorem row_run (f n : Nat) (m : Mm) (h : kl m = n + 1) : b_Row_init_0 (f + 1) n m = some (.inl (none, row_m n m)) := by
  rw [b_Row_init_0_eq, if_pos (show (40 : Int32) = Int32.ofNat 40 from rfl), ab_newstep _ _ _ _ _ _ h]
  rfl
theorem r_Row_init_spec (n : Nat) (m : Mm) (h : kl m = n + 1) : r_Row_init n m = some (row_m n m) := by
  rw [r_Row_init_eq]; exact ab_rV_of (row_run 49999 n m h)
theorem row_len {n k : Nat} {m : Mm} (h : kl m = k) : kl (row_m n m) = k + 1 := by
  simp only [row_m, kl_R, kl_I, kl_fl, kl_ap, h]
theorem row_ref {n r p j : Nat} {m : Mm} (h : r ≠ 10) : (row_m n m).2.2.1 r p j = m.2.2.1 r p j := if_neg (fun z => h z.1)
def num_m (n : Nat) (m : Mm) : Mm := ab_uI (ab_uR (ab_ap m 9) 29 n 0 (some (n + 1))) 30 n 0 (-1)
theorem num_run (f n : Nat) (m : Mm) (h : kl m = n + 1) : b_Num_init_0 (f + 1) n m = some (.inl (none, num_m n m)) := by
  rw [b_Num_init_0_eq, if_pos (show (320 : Int32) = Int32.ofNat 320 from rfl), ab_newstep _ _ _ _ _ _ h]
  rfl
theorem r_Num_init_spec (n : Nat) (m : Mm) (h : kl m = n + 1) : r_Num_init n m = some (num_m n m) := by
  rw [r_Num_init_eq]; exact ab_rV_of (num_run 49999 n m h)
theorem num_len {n k : Nat} {m : Mm} (h : kl m = k) : kl (num_m n m) = k + 1 := by
  simp only [num_m, kl_R, kl_I, kl_fl, kl_ap, h]
theorem num_ref {n r p j : Nat} {m : Mm} (h : r ≠ 29) : (num_m n m).2.2.1 r p j = m.2.2.1 r p j := if_neg (fun z => h z.1)
def rdr_m (n : Nat) (m : Mm) : Mm := ab_uR (ab_ap m 11) 32 n 0 (some (n + 1))
theorem rdr_run (f n : Nat) (m : Mm) (h : kl m = n + 1) : b_Rdr_init_0 (f + 1) n m = some (.inl (none, rdr_m n m)) := by
  rw [b_Rdr_init_0_eq, if_pos (show (7 : Int32) = Int32.ofNat 7 from rfl), ab_newstep _ _ _ _ _ _ h]
  rfl
theorem r_Rdr_init_spec (n : Nat) (m : Mm) (h : kl m = n + 1) : r_Rdr_init n m = some (rdr_m n m) := by
  rw [r_Rdr_init_eq]; exact ab_rV_of (rdr_run 49999 n m h)
theorem rdr_len {n k : Nat} {m : Mm} (h : kl m = k) : kl (rdr_m n m) = k + 1 := by
  simp only [rdr_m, kl_R, kl_I, kl_fl, kl_ap, h]
theorem rdr_ref {n r p j : Nat} {m : Mm} (h : r ≠ 32) : (rdr_m n m).2.2.1 r p j = m.2.2.1 r p j := if_neg (fun z => h z.1)
def inc_m (n : Nat) (v : Int32) (m : Mm) : Mm := ab_fl (ab_uI (ab_uI (ab_uR (ab_ap m 16) 46 n 0 (some (n + 1))) 49 n 0 (-1)) 50 n 0 v) 53 (n + 1) (-1) 0 64
theorem inc_run (f n : Nat) (v : Int32) (m : Mm) (h : kl m = n + 1) : b_Inc_init_0 (f + 1) n v m = some (.inl (none, inc_m n v m)) := by
  rw [b_Inc_init_0_eq, if_pos (show (64 : Int32) = Int32.ofNat 64 from rfl), ab_newstep _ _ _ _ _ _ h, ab_let_eq, ab_let_eq]
  have e : (ab_uI (ab_uI (ab_uR (ab_ap m 16) 46 n 0 (some (n + 1))) 49 n 0 (-1)) 50 n 0 v).2.2.1 46 n 0 = some (n + 1) := ab_uRs m 16 46 n (some (n + 1))
  rw [e, Option.bind_some, r_Arr_fill_IncB_spec, Option.bind_some]
  rfl
theorem r_Inc_init_spec (n : Nat) (v : Int32) (m : Mm) (h : kl m = n + 1) : r_Inc_init n v m = some (inc_m n v m) := by
  rw [r_Inc_init_eq]; exact ab_rV_of (inc_run 49999 n v m h)
theorem inc_len {n k : Nat} {v : Int32} {m : Mm} (h : kl m = k) : kl (inc_m n v m) = k + 1 := by
  simp only [inc_m, kl_R, kl_I, kl_fl, kl_ap, h]
theorem inc_ref {n r p j : Nat} {v : Int32} {m : Mm} (h : r ≠ 46) : (inc_m n v m).2.2.1 r p j = m.2.2.1 r p j := if_neg (fun z => h z.1)
def int_s (q i n : Nat) (v : Int32) (m : Mm) : Mm := ab_uR (inc_m n v (ab_ap m 78)) 45 q i (some n)
theorem int_s_len {q i n k : Nat} {v : Int32} {m : Mm} (h : kl m = k) : kl (int_s q i n v m) = k + 2 := by
  simp only [int_s, inc_m, kl_R, kl_I, kl_fl, kl_ap, h]
theorem int_s_ref {q i n r p j : Nat} {v : Int32} {m : Mm} (h : r ≠ 46) (h' : r ≠ 45) : (int_s q i n v m).2.2.1 r p j = m.2.2.1 r p j :=
  (if_neg (fun z => h' z.1)).trans (inc_ref h)
theorem int_step {f p q i n : Nat} {v : Int32} {m : Mm} (hi : i < 4) (h : kl m = n) (hq : m.2.2.1 40 p 0 = some q) : b_Int_init_29 (f + 1) p v (nI i) m = b_Int_init_29 f p v (nI (i + 1)) (int_s q i n v m) := by
  rw [b_Int_init_29_eq, if_neg (i4_lt hi), ab_newobj (R := fun n m => r_Inc_init n v m) _ h (r_Inc_init_spec _ v _ (ab_apl h)), hq, Option.bind_some, ab_ix_nI hi (by omega), Option.bind_some]
  rw [nI_succ]
  rfl
def int_m (n : Nat) (sw w : Int32) (m : Mm) : Mm :=
  int_s (n + 1) 3 (n + 8) sw (int_s (n + 1) 2 (n + 6) sw (int_s (n + 1) 1 (n + 4) sw (int_s (n + 1) 0 (n + 2) sw (ab_uI (ab_uI (ab_uI (ab_uR (ab_ap m 77) 40 n 0 (some (n + 1))) 41 n 0 sw) 42 n 0 w) 43 n 0 w))))
theorem int_run (f n : Nat) (sw w : Int32) (m : Mm) (h : kl m = n + 1) : b_Int_init_0 (f + 6) n sw w m = some (.inl (none, int_m n sw w m)) := by
  rw [b_Int_init_0_eq, if_pos (show (4 : Int32) = Int32.ofNat 4 from rfl), ab_newstep _ _ _ _ _ _ h, ab_let_eq, ab_let_eq, ab_let_eq]
  have e : (ab_uI (ab_uI (ab_uI (ab_uR (ab_ap m 77) 40 n 0 (some (n + 1))) 41 n 0 sw) 42 n 0 w) 43 n 0 w).2.2.1 40 n 0 = some (n + 1) := ab_uRs m 77 40 n (some (n + 1))
  have l : kl (ab_uI (ab_uI (ab_uI (ab_uR (ab_ap m 77) 40 n 0 (some (n + 1))) 41 n 0 sw) 42 n 0 w) 43 n 0 w) = n + 2 := by simp only [kl_R, kl_I, kl_ap, h]
  unfold int_m
  generalize ab_uI (ab_uI (ab_uI (ab_uR (ab_ap m 77) 40 n 0 (some (n + 1))) 41 n 0 sw) 42 n 0 w) 43 n 0 w = m1 at e l ⊢
  rw [← nI_0, int_step (by omega) l e]
  have e2 := (int_s_ref (q := n + 1) (i := 0) (n := n + 2) (v := sw) (m := m1) (r := 40) (p := n) (j := 0) (by decide) (by decide)).trans e
  have l2 := int_s_len (q := n + 1) (i := 0) (n := n + 2) (v := sw) l
  generalize int_s (n + 1) 0 (n + 2) sw m1 = m2 at e2 l2 ⊢
  rw [int_step (by omega) l2 e2]
  have e3 := (int_s_ref (q := n + 1) (i := 1) (n := n + 4) (v := sw) (m := m2) (r := 40) (p := n) (j := 0) (by decide) (by decide)).trans e2
  have l3 := int_s_len (q := n + 1) (i := 1) (n := n + 4) (v := sw) l2
  rw [show n + 2 + 2 = n + 4 from rfl]
  generalize int_s (n + 1) 1 (n + 4) sw m2 = m3 at e3 l3 ⊢
  rw [int_step (by omega) l3 e3]
  have e4 := (int_s_ref (q := n + 1) (i := 2) (n := n + 6) (v := sw) (m := m3) (r := 40) (p := n) (j := 0) (by decide) (by decide)).trans e3
  have l4 := int_s_len (q := n + 1) (i := 2) (n := n + 6) (v := sw) l3
  rw [show n + 2 + 2 + 2 = n + 6 from rfl]
  generalize int_s (n + 1) 2 (n + 6) sw m3 = m4 at e4 l4 ⊢
  rw [int_step (by omega) l4 e4, b_Int_init_29_eq, if_pos i4_ge]
theorem r_Int_init_spec (n : Nat) (sw w : Int32) (m : Mm) (h : kl m = n + 1) : r_Int_init n sw w m = some (int_m n sw w m) := by
  rw [r_Int_init_eq]; exact ab_rV_of (int_run 49994 n sw w m h)
theorem int_len {n k : Nat} {sw w : Int32} {m : Mm} (h : kl m = k) : kl (int_m n sw w m) = k + 9 := by
  simp only [int_m, int_s, inc_m, kl_R, kl_I, kl_fl, kl_ap, h]
theorem int_ref {n r p j : Nat} {sw w : Int32} {m : Mm} (h : r ≠ 46) (h1 : r ≠ 45) (h2 : r ≠ 40) : (int_m n sw w m).2.2.1 r p j = m.2.2.1 r p j := by
  unfold int_m
  rw [int_s_ref h h1, int_s_ref h h1, int_s_ref h h1, int_s_ref h h1]
  exact if_neg (fun z => h2 z.1)
def out_m (n : Nat) (v : Int32) (m : Mm) : Mm := ab_uI (ab_uI (ab_uI (ab_uR (ab_ap (ab_uR (ab_ap m 20) 57 n 0 (some (n + 1))) 21) 58 n 0 (some (n + 2))) 64 n 0 0) 65 n 0 0) 61 n 0 v
theorem out_run (f n : Nat) (v : Int32) (m : Mm) (h : kl m = n + 1) : b_Out_init_0 (f + 1) n v m = some (.inl (none, out_m n v m)) := by
  rw [b_Out_init_0_eq, if_pos (show (64 : Int32) = Int32.ofNat 64 from rfl), ab_newstep _ _ _ _ _ _ h, if_pos (show (64 : Int32) = Int32.ofNat 64 from rfl), ab_newstep _ _ _ _ _ _ (ab_newlen m 20 57 n _ (some (n + 1)) h)]
  rfl
theorem r_Out_init_spec (n : Nat) (v : Int32) (m : Mm) (h : kl m = n + 1) : r_Out_init n v m = some (out_m n v m) := by
  rw [r_Out_init_eq]; exact ab_rV_of (out_run 49999 n v m h)
theorem out_len {n k : Nat} {v : Int32} {m : Mm} (h : kl m = k) : kl (out_m n v m) = k + 2 := by
  simp only [out_m, kl_R, kl_I, kl_fl, kl_ap, h]
theorem out_ref {n r p j : Nat} {v : Int32} {m : Mm} (h : r ≠ 57) (h' : r ≠ 58) : (out_m n v m).2.2.1 r p j = m.2.2.1 r p j := (if_neg (fun z => h' z.1)).trans (if_neg (fun z => h z.1))
def otf_s (q i n : Nat) (v : Int32) (m : Mm) : Mm := ab_uR (out_m n v (ab_ap m 81)) 56 q i (some n)
theorem otf_s_len {q i n k : Nat} {v : Int32} {m : Mm} (h : kl m = k) : kl (otf_s q i n v m) = k + 3 := by
  simp only [otf_s, out_m, kl_R, kl_I, kl_fl, kl_ap, h]
theorem otf_s_ref {q i n r p j : Nat} {v : Int32} {m : Mm} (h : r ≠ 57) (h' : r ≠ 58) (h'' : r ≠ 56) : (otf_s q i n v m).2.2.1 r p j = m.2.2.1 r p j :=
  (if_neg (fun z => h'' z.1)).trans (out_ref h h')
theorem otf_step {f p q i n : Nat} {v : Int32} {m : Mm} (hi : i < 4) (h : kl m = n) (hq : m.2.2.1 54 p 0 = some q) : b_Otf_init_19 (f + 1) p v (nI i) m = b_Otf_init_19 f p v (nI (i + 1)) (otf_s q i n v m) := by
  rw [b_Otf_init_19_eq, if_neg (i4_lt hi), ab_newobj (R := fun n m => r_Out_init n v m) _ h (r_Out_init_spec _ v _ (ab_apl h)), hq, Option.bind_some, ab_ix_nI hi (by omega), Option.bind_some]
  rw [nI_succ]
  rfl
def otf_m (n : Nat) (sw w : Int32) (m : Mm) : Mm :=
  otf_s (n + 1) 3 (n + 11) sw (otf_s (n + 1) 2 (n + 8) sw (otf_s (n + 1) 1 (n + 5) sw (otf_s (n + 1) 0 (n + 2) sw (ab_uI (ab_uR (ab_ap m 80) 54 n 0 (some (n + 1))) 55 n 0 w))))
theorem otf_run (f n : Nat) (sw w : Int32) (m : Mm) (h : kl m = n + 1) : b_Otf_init_0 (f + 6) n sw w m = some (.inl (none, otf_m n sw w m)) := by
  rw [b_Otf_init_0_eq, if_pos (show (4 : Int32) = Int32.ofNat 4 from rfl), ab_newstep _ _ _ _ _ _ h, ab_let_eq]
  have e : (ab_uI (ab_uR (ab_ap m 80) 54 n 0 (some (n + 1))) 55 n 0 w).2.2.1 54 n 0 = some (n + 1) := ab_uRs m 80 54 n (some (n + 1))
  have l : kl (ab_uI (ab_uR (ab_ap m 80) 54 n 0 (some (n + 1))) 55 n 0 w) = n + 2 := by simp only [kl_R, kl_I, kl_ap, h]
  unfold otf_m
  generalize ab_uI (ab_uR (ab_ap m 80) 54 n 0 (some (n + 1))) 55 n 0 w = m1 at e l ⊢
  rw [← nI_0, otf_step (by omega) l e]
  have e2 := (otf_s_ref (q := n + 1) (i := 0) (n := n + 2) (v := sw) (m := m1) (r := 54) (p := n) (j := 0) (by decide) (by decide) (by decide)).trans e
  have l2 := otf_s_len (q := n + 1) (i := 0) (n := n + 2) (v := sw) l
  generalize otf_s (n + 1) 0 (n + 2) sw m1 = m2 at e2 l2 ⊢
  rw [otf_step (by omega) l2 e2]
  have e3 := (otf_s_ref (q := n + 1) (i := 1) (n := n + 5) (v := sw) (m := m2) (r := 54) (p := n) (j := 0) (by decide) (by decide) (by decide)).trans e2
  have l3 := otf_s_len (q := n + 1) (i := 1) (n := n + 5) (v := sw) l2
  rw [show n + 2 + 3 = n + 5 from rfl]
  generalize otf_s (n + 1) 1 (n + 5) sw m2 = m3 at e3 l3 ⊢
  rw [otf_step (by omega) l3 e3]
  have e4 := (otf_s_ref (q := n + 1) (i := 2) (n := n + 8) (v := sw) (m := m3) (r := 54) (p := n) (j := 0) (by decide) (by decide) (by decide)).trans e3
  have l4 := otf_s_len (q := n + 1) (i := 2) (n := n + 8) (v := sw) l3
  rw [show n + 2 + 3 + 3 = n + 8 from rfl]
  generalize otf_s (n + 1) 2 (n + 8) sw m3 = m4 at e4 l4 ⊢
  rw [otf_step (by omega) l4 e4, b_Otf_init_19_eq, if_pos i4_ge]
theorem r_Otf_init_spec (n : Nat) (sw w : Int32) (m : Mm) (h : kl m = n + 1) : r_Otf_init n sw w m = some (otf_m n sw w m) := by
  rw [r_Otf_init_eq]; exact ab_rV_of (otf_run 49994 n sw w m h)
theorem otf_len {n k : Nat} {sw w : Int32} {m : Mm} (h : kl m = k) : kl (otf_m n sw w m) = k + 13 := by
  simp only [otf_m, otf_s, out_m, kl_R, kl_I, kl_fl, kl_ap, h]
theorem otf_ref {n r p j : Nat} {sw w : Int32} {m : Mm} (h : r ≠ 57) (h1 : r ≠ 58) (h2 : r ≠ 56) (h3 : r ≠ 54) : (otf_m n sw w m).2.2.1 r p j = m.2.2.1 r p j := by
  unfold otf_m
  rw [otf_s_ref h h1 h2, otf_s_ref h h1 h2, otf_s_ref h h1 h2, otf_s_ref h h1 h2]
  exact if_neg (fun z => h3 z.1)
def end_m (n : Nat) (side sw w : Int32) (m : Mm) : Mm :=
  ab_uR (otf_m (n + 16) sw w (ab_ap (ab_uR (int_m (n + 6) sw w (ab_ap (ab_uI (ab_uI (ab_uI (ab_uR (ab_ap (ab_uR (rdr_m (n + 3) (ab_ap (ab_uR (num_m (n + 1) (ab_ap m 74)) 18 n 0 (some (n + 1))) 75)) 19 n 0 (some (n + 3))) 12) 20 n 0 (some (n + 5))) 22 n 0 (-1)) 24 n 0 (-1)) 15 n 0 side) 76)) 16 n 0 (some (n + 6))) 79)) 17 n 0 (some (n + 16))
theorem end_run (f n : Nat) (side sw w : Int32) (m : Mm) (h : kl m = n + 1) : b_End_init_0 (f + 1) n side sw w m = some (.inl (none, end_m n side sw w m)) := by
  rw [b_End_init_0_eq, ab_newobj (R := r_Num_init) _ h (r_Num_init_spec _ _ (ab_apl h)), ab_let_eq]
  unfold end_m
  have l1 : kl (ab_uR (num_m (n + 1) (ab_ap m 74)) 18 n 0 (some (n + 1))) = n + 3 := by rw [kl_R, num_len (ab_apl h)]
  generalize ab_uR (num_m (n + 1) (ab_ap m 74)) 18 n 0 (some (n + 1)) = m1 at l1 ⊢
  rw [ab_newobj (R := r_Rdr_init) _ l1 (r_Rdr_init_spec _ _ (ab_apl l1)), ab_let_eq, if_pos (show (512 : Int32) = Int32.ofNat 512 from rfl)]
  have l2 : kl (ab_uR (rdr_m (n + 3) (ab_ap m1 75)) 19 n 0 (some (n + 3))) = n + 5 := by rw [kl_R, rdr_len (ab_apl l1)]
  generalize ab_uR (rdr_m (n + 3) (ab_ap m1 75)) 19 n 0 (some (n + 3)) = m2 at l2 ⊢
  rw [ab_newstep _ _ _ _ _ _ l2, ab_let_eq, ab_let_eq, ab_let_eq]
  have l3 : kl (ab_uI (ab_uI (ab_uI (ab_uR (ab_ap m2 12) 20 n 0 (some (n + 5))) 22 n 0 (-1)) 24 n 0 (-1)) 15 n 0 side) = n + 6 := by simp only [kl_R, kl_I, kl_ap, l2]
  generalize ab_uI (ab_uI (ab_uI (ab_uR (ab_ap m2 12) 20 n 0 (some (n + 5))) 22 n 0 (-1)) 24 n 0 (-1)) 15 n 0 side = m3 at l3 ⊢
  rw [ab_newobj (R := fun n m => r_Int_init n sw w m) _ l3 (r_Int_init_spec _ sw w _ (ab_apl l3)), ab_let_eq]
  have l4 : kl (ab_uR (int_m (n + 6) sw w (ab_ap m3 76)) 16 n 0 (some (n + 6))) = n + 16 := by rw [kl_R, int_len (ab_apl l3)]
  generalize ab_uR (int_m (n + 6) sw w (ab_ap m3 76)) 16 n 0 (some (n + 6)) = m4 at l4 ⊢
  rw [ab_newobj (R := fun n m => r_Otf_init n sw w m) _ l4 (r_Otf_init_spec _ sw w _ (ab_apl l4)), ab_let_eq]
theorem r_End_init_spec (n : Nat) (side sw w : Int32) (m : Mm) (h : kl m = n + 1) : r_End_init n side sw w m = some (end_m n side sw w m) := by
  rw [r_End_init_eq]; exact ab_rV_of (end_run 49999 n side sw w m h)
theorem end_len {n k : Nat} {side sw w : Int32} {m : Mm} (h : kl m = k) : kl (end_m n side sw w m) = k + 29 := by
  simp only [end_m, kl_R, kl_I, kl_ap]
  rw [otf_len (kl_ap _ _), kl_R, int_len (kl_ap _ _), kl_I, kl_I, kl_I, kl_R, kl_ap, kl_R, rdr_len (kl_ap _ _), kl_R, num_len (kl_ap _ _), h]
end
