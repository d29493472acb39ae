section
/-! The memory with which the loop begins. -/
abbrev I3 : Type := Nat → Nat → Nat → Int32
def uI1 (r p j : Nat) (x : Int32) (g : I3) : I3 := fun r' p' j' => if r' = r ∧ p' = p ∧ j' = j then x else g r' p' j'
def fl1 (r p : Nat) (x : Int32) (lo hi : Nat) (g : I3) : I3 := fun r' p' j' => if r' = r ∧ p' = p ∧ lo ≤ j' ∧ j' < hi then x else g r' p' j'
theorem uI1_eq (m : Mm) (r p j : Nat) (x : Int32) : (ab_uI m r p j x).1 = uI1 r p j x m.1 := rfl
theorem fl1_eq (m : Mm) (r p : Nat) (x : Int32) (lo hi : Nat) : (ab_fl m r p x lo hi).1 = fl1 r p x lo hi m.1 := rfl
theorem uR1_eq (m : Mm) (r p j : Nat) (x : Option Nat) : (ab_uR m r p j x).1 = m.1 := rfl
theorem ap1_eq (m : Mm) (k : Nat) : (ab_ap m k).1 = m.1 := rfl
theorem w1_eq (q : Nat) : ∀ (k i n : Nat) (m : Mm), (x_w q k i n m).1 = m.1
  | 0, _, _, _ => rfl
  | k + 1, i, n, m => w1_eq q k (i + 1) (n + 2) _
def vc (sw wi : Int32) (c : Nat) : Int32 := match c with
  | 0 => 0 | 1 => -1 | 2 => sw | 3 => wi | 4 => nI 0 | 5 => nI 1 | _ => 0
abbrev Op : Type := Nat × Nat × Nat × Option Nat × Nat
def runI (sw wi : Int32) : List Op → I3
  | [] => fun _ _ _ => 0
  | (r, p, j, none, c) :: t => uI1 r p j (vc sw wi c) (runI sw wi t)
  | (r, p, lo, some hi, c) :: t => fl1 r p (vc sw wi c) lo hi (runI sw wi t)
def look : List Op → Nat → Nat → Nat → Nat
  | [], _, _, _ => 0
  | (r, p, j, none, c) :: t, r', p', j' => bif Nat.beq r' r && (Nat.beq p' p && Nat.beq j' j) then c else look t r' p' j'
  | (r, p, lo, some hi, c) :: t, r', p', j' => bif Nat.beq r' r && (Nat.beq p' p && (Nat.ble lo j' && Nat.blt j' hi)) then c else look t r' p' j'
theorem look_run (sw wi : Int32) (r p j : Nat) : ∀ L : List Op, runI sw wi L r p j = vc sw wi (look L r p j)
  | [] => rfl
  | (r1, p1, j1, none, c) :: t => by
    have ih := look_run sw wi r p j t
    unfold runI look uI1
    by_cases h : r = r1 ∧ p = p1 ∧ j = j1
    · obtain ⟨rfl, rfl, rfl⟩ := h
      simp
    · rw [if_neg h]
      have : (Nat.beq r r1 && (Nat.beq p p1 && Nat.beq j j1)) = false := by
        rw [Bool.eq_false_iff]
        intro z
        simp only [Bool.and_eq_true, Nat.beq_eq] at z
        exact h z
      rw [this]
      exact ih
  | (r1, p1, lo, some hi, c) :: t => by
    have ih := look_run sw wi r p j t
    unfold runI look fl1
    by_cases h : r = r1 ∧ p = p1 ∧ lo ≤ j ∧ j < hi
    · rw [if_pos h]
      have : (Nat.beq r r1 && (Nat.beq p p1 && (Nat.ble lo j && Nat.blt j hi))) = true := by
        simp only [Bool.and_eq_true, Nat.beq_eq, Nat.ble_eq, Nat.blt_eq]
        exact h
      rw [this]
      rfl
    · rw [if_neg h]
      have : (Nat.beq r r1 && (Nat.beq p p1 && (Nat.ble lo j && Nat.blt j hi))) = false := by
        rw [Bool.eq_false_iff]
        intro z
        simp only [Bool.and_eq_true, Nat.beq_eq, Nat.ble_eq, Nat.blt_eq] at z
        exact h z
      rw [this]
      exact ih
def L0 : List Op := [(154, 120, 1, none, 1), (153, 119, 1, none, 1), (152, 118, 1, none, 1), (150, 116, 1, none, 3), (149, 115, 1, none, 3), (154, 120, 0, none, 1), (153, 119, 0, none, 1), (152, 118, 0, none, 1), (150, 116, 0, none, 3), (149, 115, 0, none, 3), (142, 108, 0, some 512, 1), (144, 110, 7, none, 1), (146, 112, 7, none, 2), (139, 105, 7, none, 2), (144, 110, 6, none, 1), (146, 112, 6, none, 2), (139, 105, 6, none, 2), (144, 110, 5, none, 1), (146, 112, 5, none, 2), (139, 105, 5, none, 2), (144, 110, 4, none, 1), (146, 112, 4, none, 2), (139, 105, 4, none, 2), (144, 110, 3, none, 1), (146, 112, 3, none, 2), (139, 105, 3, none, 2), (144, 110, 2, none, 1), (146, 112, 2, none, 2), (139, 105, 2, none, 2), (144, 110, 1, none, 1), (146, 112, 1, none, 2), (139, 105, 1, none, 2), (144, 110, 0, none, 1), (146, 112, 0, none, 2), (139, 105, 0, none, 2), (82, 98, 0, none, 3), (81, 98, 0, none, 2), (61, 63, 0, none, 2), (65, 63, 0, none, 0), (64, 63, 0, none, 0), (61, 60, 0, none, 2), (65, 60, 0, none, 0), (64, 60, 0, none, 0), (61, 57, 0, none, 2), (65, 57, 0, none, 0), (64, 57, 0, none, 0), (61, 54, 0, none, 2), (65, 54, 0, none, 0), (64, 54, 0, none, 0), (55, 52, 0, none, 3), (53, 51, 0, some 64, 1), (50, 50, 0, none, 2), (49, 50, 0, none, 1), (53, 49, 0, some 64, 1), (50, 48, 0, none, 2), (49, 48, 0, none, 1), (53, 47, 0, some 64, 1), (50, 46, 0, none, 2), (49, 46, 0, none, 1), (53, 45, 0, some 64, 1), (50, 44, 0, none, 2), (49, 44, 0, none, 1), (43, 42, 0, none, 3), (42, 42, 0, none, 3), (41, 42, 0, none, 2), (15, 36, 0, none, 5), (24, 36, 0, none, 1), (22, 36, 0, none, 1), (30, 37, 0, none, 1), (61, 33, 0, none, 2), (65, 33, 0, none, 0), (64, 33, 0, none, 0), (61, 30, 0, none, 2), (65, 30, 0, none, 0), (64, 30, 0, none, 0), (61, 27, 0, none, 2), (65, 27, 0, none, 0), (64, 27, 0, none, 0), (61, 24, 0, none, 2), (65, 24, 0, none, 0), (64, 24, 0, none, 0), (55, 22, 0, none, 3), (53, 21, 0, some 64, 1), (50, 20, 0, none, 2), (49, 20, 0, none, 1), (53, 19, 0, some 64, 1), (50, 18, 0, none, 2), (49, 18, 0, none, 1), (53, 17, 0, some 64, 1), (50, 16, 0, none, 2), (49, 16, 0, none, 1), (53, 15, 0, some 64, 1), (50, 14, 0, none, 2), (49, 14, 0, none, 1), (43, 12, 0, none, 3), (42, 12, 0, none, 3), (41, 12, 0, none, 2), (15, 6, 0, none, 4), (24, 6, 0, none, 1), (22, 6, 0, none, 1), (30, 7, 0, none, 1)]
set_option maxRecDepth 100000 in
theorem lm_1 (a b : Int32) : (lm a b).1 = runI (4 + (a &&& 15)) (8 + (b &&& 31)) L0 := by
  simp only [lm, mm, m_m, m_h, m_g, xm, x_m, x_e, x_0, end_m, otf_m, otf_s, out_m, int_m, int_s, inc_m, rdr_m, num_m, row_m, ap1_eq, uR1_eq, uI1_eq, fl1_eq, m_a_i, w1_eq, mem0, L0, runI, vc, Nat.reduceAdd, Nat.zero_add]
end
