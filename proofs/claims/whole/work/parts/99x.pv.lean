section
/-! The view with the marks of the packet that is being made. -/
def PV (V : Vt) (e a : Nat) : Vt := mkA V e (fun s => nn (V 77 a s)) (fun s => nn (V 78 a s)) (fun s => V 79 a s) (fun s => V 80 a s) 1 4
theorem PV_d (V : Vt) (e a k a' b : Nat) : PV V e a k a' b = if a' / 4 = e ∧ a' % 4 < 4 then mk1 V (nn (V 77 a (a' % 4))) (nn (V 78 a (a' % 4))) (V 79 a (a' % 4)) (V 80 a (a' % 4)) 1 k a' b else V k a' b := rfl
theorem PV_o {V : Vt} {e a k a' b : Nat} (h : k ≠ 64 ∧ k ≠ 65 ∧ k ≠ 67) : PV V e a k a' b = V k a' b := by
  unfold PV mkA
  split
  · unfold mk1
    rw [if_neg (by omega), if_neg (by omega), if_neg (by omega)]
  · rfl
theorem nn0 : nn 0 = 0 := by decide
theorem PV_s {V : Vt} {e a k s b : Nat} (h : V 78 a s = 0 ∧ V 79 a s = 0 ∧ V 80 a s = 0) (hs : s < 4) : PV V e a k (4 * e + s) b = V k (4 * e + s) b := by
  rw [PV_d]
  have e1 : (4 * e + s) % 4 = s := by omega
  split
  · rw [e1]
    unfold mk1
    rw [h.1, h.2.1, h.2.2, nn0, if_neg (by omega), if_neg (fun y => y.2.2.1 rfl), if_neg (fun y => y.2.2.1 rfl)]
  · rfl
theorem PV_e {V : Vt} {e a k a' b : Nat} (h : a' / 4 ≠ e) : PV V e a k a' b = V k a' b := by
  unfold PV mkA
  rw [if_neg (fun y => h y.1)]
theorem PV_F2 {V : Vt} {e a : Nat} (h : F2 V a) : PV V e a = V := by
  funext k a' b
  by_cases y : a' / 4 = e
  · have g := h (a' % 4) (by omega)
    have := PV_s (V := V) (e := e) (a := a) (k := k) (s := a' % 4) (b := b) ⟨g.2.1, g.2.2.1, g.2.2.2.1⟩ (by omega)
    rw [show 4 * e + a' % 4 = a' by omega] at this
    exact this
  · exact PV_e y
/-- RESET in the packet: the mark of the reset -/
theorem PV_80 {V : Vt} {e a s : Nat} (hs : s < 4) (h : V 78 a s = 0 ∧ V 79 a s = 0 ∧ V 80 a s = 0) (h65 : V 65 (4 * e + s) 0 ≠ 3) : PV (uV V 80 a s 1) e a = uV (uV (PV V e a) 80 a s 1) 65 (4 * e + s) 0 1 := by
  funext k a' b
  have u : ∀ k' a' b', k' ≠ 80 → uV V 80 a s 1 k' a' b' = V k' a' b' := fun k' a' b' q => uV_k _ _ _ _ _ q
  by_cases k80 : k = 80
  · subst k80
    rw [PV_o (by omega), show uV (uV (PV V e a) 80 a s 1) 65 (4 * e + s) 0 1 80 a' b = uV (PV V e a) 80 a s 1 80 a' b from uV_k _ _ _ _ _ (by omega)]
    unfold uV
    rw [PV_o (by omega)]
  · rw [show uV (uV (PV V e a) 80 a s 1) 65 (4 * e + s) 0 1 k a' b = if k = 65 ∧ a' = 4 * e + s ∧ b = 0 then 1 else uV (PV V e a) 80 a s 1 k a' b from rfl, uV_k _ _ _ _ _ k80]
    by_cases y : a' / 4 = e
    · by_cases z : a' = 4 * e + s
      · subst z
        rw [PV_s h hs, PV_d]
        have e1 : (4 * e + s) % 4 = s := by omega
        have r1 : uV V 80 a s 1 80 a s = 1 := uV_s _ _ _ _ _
        rw [if_pos ⟨y, by omega⟩, e1]
        unfold mk1
        rw [u 77 _ _ (by omega), u 78 _ _ (by omega), u 79 _ _ (by omega), r1, h.1, h.2.1, nn0, if_neg (by omega), if_neg (fun q => q.2.2.1 rfl), u 65 _ _ (by omega), u k _ _ k80]
        by_cases q : k = 65 ∧ b = 0
        · rw [if_pos ⟨q.1, q.2, by decide, h65⟩, if_pos ⟨q.1, rfl, q.2⟩]
        · rw [if_neg (fun p => q ⟨p.1, p.2.1⟩), if_neg (fun p => q ⟨p.1, p.2.2⟩)]
      · rw [if_neg (fun p => z p.2.1)]
        rw [PV_d, PV_d, if_pos ⟨y, by omega⟩, if_pos ⟨y, by omega⟩]
        have ne : uV V 80 a s 1 80 a (a' % 4) = V 80 a (a' % 4) := if_neg (fun p => z (by omega))
        unfold mk1
        rw [u 77 _ _ (by omega), u 78 _ _ (by omega), u 79 _ _ (by omega), ne, u 67 _ _ (by omega), u 64 _ _ (by omega), u 65 _ _ (by omega), u k _ _ k80]
    · rw [PV_e y, PV_e y, if_neg (fun p => y (by omega)), u k _ _ k80]
end
