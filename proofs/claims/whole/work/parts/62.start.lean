/-! The memory with which the law's loop begins. -/
section
abbrev M2 : Type := (Nat → Nat → Nat → Int64) × (Nat → Nat → Nat → Option Nat) × List Nat × Nat × Nat
def uR2 (r p j : Nat) (x : Option Nat) (c : M2) : M2 := (c.1, fun r' p' j' => if r' = r ∧ p' = p ∧ j' = j then x else c.2.1 r' p' j', c.2.2)
def ap2 (k : Nat) (c : M2) : M2 := (c.1, c.2.1, c.2.2.1 ++ [k], c.2.2.2)
theorem uR2_eq (m : Mm) (r p j : Nat) (x : Option Nat) : (ab_uR m r p j x).2 = uR2 r p j x m.2 := rfl
theorem ap2_eq (m : Mm) (k : Nat) : (ab_ap m k).2 = ap2 k m.2 := rfl
theorem uI2_eq (m : Mm) (r p j : Nat) (x : Int32) : (ab_uI m r p j x).2 = m.2 := rfl
theorem fl2_eq (m : Mm) (r p : Nat) (x : Int32) (lo hi : Nat) : (ab_fl m r p x lo hi).2 = m.2 := rfl
theorem m_h2 {p : Nat} {wi : Int32} : ∀ (k i : Nat) (m : Mm), (m_h p wi k i m).2 = m.2
  | 0, i, m => rfl
  | k + 1, i, m => m_h2 (p := p) (wi := wi) k (i + 1) _
def a2 (p : Nat) : List (Nat × Nat) → Nat → M2 → M2
  | [], _, c => c
  | (k, r) :: l, n, c => a2 p l (n + 1) (uR2 r p 0 (some n) (ap2 k c))
theorem a2_eq (p : Nat) : ∀ (l : List (Nat × Nat)) (n : Nat) (m : Mm), (m_a p l n m).2 = a2 p l n m.2
  | [], _, _ => rfl
  | (k, r) :: l, n, m => a2_eq p l (n + 1) _
def w2 (q : Nat) : Nat → Nat → Nat → M2 → M2
  | 0, _, _, c => c
  | k + 1, i, n, c => w2 q k (i + 1) (n + 2) (uR2 9 q i (some n) (uR2 10 n 0 (some (n + 1)) (ap2 5 (ap2 72 c))))
theorem w2_eq (q : Nat) : ∀ (k i n : Nat) (m : Mm), (x_w q k i n m).2 = w2 q k i n m.2
  | 0, _, _, _ => rfl
  | k + 1, i, n, m => w2_eq q k (i + 1) (n + 2) _
def mem0 : Mm := (fun _ _ _ => 0, fun _ _ _ => 0, fun _ _ _ => none, [], 0, 0)
def xm (a b : Int32) : Mm := x_m 0 a b (ab_ap mem0 69)
def mm (a b : Int32) : Mm := m_m 98 a b (ab_ap (xm a b) 83)
def lm (a b : Int32) : Mm := ab_ap (mm a b) 68
theorem lm_2 (a b : Int32) : (lm a b).2 = (lm 0 0).2 := by
  simp only [lm, mm, m_m, xm, x_m, x_e, x_0, end_m, otf_m, otf_s, out_m, int_m, int_s, inc_m, rdr_m, num_m, row_m, ap2_eq, uR2_eq, uI2_eq, fl2_eq, m_h2, a2_eq, w2_eq, (m_g_keep _ _ _).1]
theorem lm_ks (a b : Int32) : (lm a b).2.2.2.1 = (lm 0 0).2.2.2.1 := by rw [lm_2 a b]
def phi (k : Nat) : Nat := match k with
  | 69 => 1 | 70 => 2 | 71 => 3 | 72 => 4 | 73 => 7 | 74 => 8 | 75 => 10 | 76 => 13 | 77 => 14 | 78 => 15 | 79 => 17 | 80 => 18 | 81 => 19 | 82 => 22 | 83 => 28 | k => k
def fks : List Nat := [1, 2, 3, 4, 5, 6] ++ (List.replicate 2 [7, 8, 9, 10, 11, 12, 13, 14, 15, 16, 15, 16, 15, 16, 15, 16, 17, 18, 19, 20, 21, 19, 20, 21, 19, 20, 21, 19, 20, 21]).flatten ++ (List.replicate 16 [4, 5]).flatten ++ (List.range 40).map (· + 28) ++ [68]
theorem lm0_ks : (lm 0 0).2.2.2.1.map phi = fks := by decide +kernel
theorem lm0_rl : ((lm 0 0).2.2.2.1.all fun k => rl_k KT CL phi k) = true := by decide +kernel
def rl_b1 (m : Mm) (q k : Nat) : Bool := match KT[k]?, KT[phi k]? with
  | some (.inl (_, fs)), some (.inl (_, fs')) => (List.range fs.length).all fun f => match fs[f]?, fs'[f]? with
    | some (2, r, _, _), some (3, _, _, d) => decide (m.2.2.1 r q 0 = some (q + d))
    | _, _ => true
  | some (.inr (r, len, 3, _, _, _)), some (.inr (_, _, 4, _, a', st')) => (List.range len).all fun j => decide (m.2.2.1 r q j = some (q + a' + st' * j))
  | _, _ => true
theorem lm0_b1 : ((List.range 139).all fun q => match (lm 0 0).2.2.2.1[q]? with
    | some k => rl_b1 (lm 0 0) q k
    | none => true) = true := by decide +kernel
theorem lm0_len : (lm 0 0).2.2.2.1.length = 139 := by decide +kernel
end
