section
/-! A stream's part is written: the model. -/
theorem or_enc {f c d r l : Nat} (hf : f < 128) (hc : c < 16) (hd : d < 2) : ((4096 * r + 8192 * l ||| f) ||| c * 128) ||| 2048 * d = f + 128 * c + 2048 * d + 4096 * r + 8192 * l := by
  have e1 : f ||| c * 128 = 2 ^ 7 * c + f := by
    rw [Nat.two_pow_add_eq_or_of_lt (show f < 2 ^ 7 by omega) c, Nat.or_comm, show c * 128 = 2 ^ 7 * c by omega]
  have e2 : (2 ^ 7 * c + f) ||| 2048 * d = 2 ^ 11 * d + (2 ^ 7 * c + f) := by
    rw [Nat.two_pow_add_eq_or_of_lt (show 2 ^ 7 * c + f < 2 ^ 11 by omega) d, Nat.or_comm]
  have e3 : 4096 * r + 8192 * l ||| (2 ^ 11 * d + (2 ^ 7 * c + f)) = 2 ^ 12 * (r + 2 * l) + (2 ^ 11 * d + (2 ^ 7 * c + f)) := by
    rw [Nat.two_pow_add_eq_or_of_lt (show 2 ^ 11 * d + (2 ^ 7 * c + f) < 2 ^ 12 by omega) (r + 2 * l), show 4096 * r + 8192 * l = 2 ^ 12 * (r + 2 * l) by omega]
  rw [Nat.or_assoc, Nat.or_assoc, ← Nat.or_assoc f, e1, e2, e3]
  omega
theorem enc_or {f c : Nat} {d r x : Int32} (hf : f < 128) (hc : c < 16) (hd : d = 0 ∨ d = 1) (hr : r = 0 ∨ r = 1) (hx : -1 ≤ x ∧ x ≤ 64) : ((enc 0 0 0 r x ||| nI f) ||| (nI c <<< ((7 : Int32) &&& 31))) ||| (if d = 0 then 0 else 2048) = enc (nI f) (nI c) d r x := by
  obtain ⟨l, hl, el⟩ := i_ofc (x := x + 1) (N := 65) (by grind) (by grind [nI_T]) (by decide)
  obtain ⟨d', hd', ed⟩ : ∃ d', d' < 2 ∧ d = nI d' := by
    rcases hd with q | q
    · exact ⟨0, by omega, q⟩
    · exact ⟨1, by omega, q⟩
  obtain ⟨r', hr', er⟩ : ∃ r', r' < 2 ∧ r = nI r' := by
    rcases hr with q | q
    · exact ⟨0, by omega, q⟩
    · exact ⟨1, by omega, q⟩
  have s7 : nI c <<< ((7 : Int32) &&& 31) = nI (c * 128) := nI_shl (smod32 7 (by omega))
  have e0 : enc 0 0 0 r x = nI (4096 * r' + 8192 * l) := by
    rw [er, show (0 : Int32) = nI 0 from rfl, enc_n el]
    exact congrArg nI (by omega)
  have ed2 : (if d = 0 then (0 : Int32) else 2048) = nI (2048 * d') := by
    rcases hd with q | q
    · have : d' = 0 := by
        rw [ed] at q
        clear s7 e0 hr er ed el hx
        grind [nI_T]
      rw [if_pos q, this]
      rfl
    · have : d' = 1 := by
        rw [ed] at q
        clear s7 e0 hr er ed el hx
        grind [nI_T]
      rw [if_neg (by rw [q]; decide), this]
      rfl
  rw [s7, e0, ed2, nI_or, nI_or, nI_or, or_enc hf hc hd', ed, er, enc_n el]
theorem PV_st {V : Vt} {e a s l : Nat} (hs : s < 4) (h : V 78 a s = 0 ∧ V 79 a s = 0) (hf : pfr V e s < 2 ^ 30) (hc : pC V e s l < 2 ^ 30) : PV (stV V e a s l) e a = uV (uV (uV (if pE V e s l ≠ 0 ∧ V 64 (4 * e + s) 0 ≠ 3 then uV (uV (mk67 (PV V e a) (4 * e + s) (pfr V e s) (pfr V e s + pC V e s l) 1) 60 (4 * e + s) 0 (nI (max (pN V e s) (pfr V e s + pC V e s l)))) 64 (4 * e + s) 0 1 else uV (mk67 (PV V e a) (4 * e + s) (pfr V e s) (pfr V e s + pC V e s l) 1) 60 (4 * e + s) 0 (nI (max (pN V e s) (pfr V e s + pC V e s l)))) 77 a s (nI (pfr V e s))) 78 a s (nI (pC V e s l))) 79 a s (pE V e s l) := by
  have U := UV_PV (e := e) hs h
  have e1 : (4 * e + s) % 4 = s := by omega
  have e2 : (4 * e + s) / 4 = e := by omega
  have v : ∀ k a' b, k ≠ 77 → k ≠ 78 → k ≠ 79 → k ≠ 60 → stV V e a s l k a' b = V k a' b := by
    intro k a' b h1 h2 h3 h4
    unfold stV
    rw [uV_k _ _ _ _ _ h4, uV_k _ _ _ _ _ h3, uV_k _ _ _ _ _ h2, uV_k _ _ _ _ _ h1]
  have v77 : ∀ b, stV V e a s l 77 a b = if b = s then nI (pfr V e s) else V 77 a b := by
    intro b
    unfold stV
    rw [uV_k _ _ _ _ _ (by omega), uV_k _ _ _ _ _ (by omega), uV_k _ _ _ _ _ (by omega)]
    by_cases y : b = s
    · rw [if_pos y, y, uV_s]
    · rw [if_neg y]
      exact if_neg (fun z => y z.2.2)
  have v78 : ∀ b, stV V e a s l 78 a b = if b = s then nI (pC V e s l) else V 78 a b := by
    intro b
    unfold stV
    rw [uV_k _ _ _ _ _ (by omega), uV_k _ _ _ _ _ (by omega)]
    by_cases y : b = s
    · rw [if_pos y, y, uV_s]
    · rw [if_neg y]
      exact (if_neg (fun z => y z.2.2)).trans (uV_k _ _ _ _ _ (by omega))
  have v79 : ∀ b, stV V e a s l 79 a b = if b = s then pE V e s l else V 79 a b := by
    intro b
    unfold stV
    rw [uV_k _ _ _ _ _ (by omega)]
    by_cases y : b = s
    · rw [if_pos y, y, uV_s]
    · rw [if_neg y]
      exact (if_neg (fun z => y z.2.2)).trans ((uV_k _ _ _ _ _ (by omega)).trans (uV_k _ _ _ _ _ (by omega)))
  funext k a' b
  by_cases k3 : k ≠ 64 ∧ k ≠ 65 ∧ k ≠ 67
  · rw [PV_o k3]
    have x : (if pE V e s l ≠ 0 ∧ V 64 (4 * e + s) 0 ≠ 3 then uV (uV (mk67 (PV V e a) (4 * e + s) (pfr V e s) (pfr V e s + pC V e s l) 1) 60 (4 * e + s) 0 (nI (max (pN V e s) (pfr V e s + pC V e s l)))) 64 (4 * e + s) 0 1 else uV (mk67 (PV V e a) (4 * e + s) (pfr V e s) (pfr V e s + pC V e s l) 1) 60 (4 * e + s) 0 (nI (max (pN V e s) (pfr V e s + pC V e s l)))) k a' b = uV V 60 (4 * e + s) 0 (nI (max (pN V e s) (pfr V e s + pC V e s l))) k a' b := by
      have x0 : uV (mk67 (PV V e a) (4 * e + s) (pfr V e s) (pfr V e s + pC V e s l) 1) 60 (4 * e + s) 0 (nI (max (pN V e s) (pfr V e s + pC V e s l))) k a' b = uV V 60 (4 * e + s) 0 (nI (max (pN V e s) (pfr V e s + pC V e s l))) k a' b := by
        have x1 : mk67 (PV V e a) (4 * e + s) (pfr V e s) (pfr V e s + pC V e s l) 1 k a' b = V k a' b := (if_neg (fun z => k3.2.2 z.1)).trans (PV_o k3)
        unfold uV
        rw [x1]
      split
      · rw [uV_k _ _ _ _ _ k3.1, x0]
      · exact x0
    unfold stV
    revert x
    generalize (if pE V e s l ≠ 0 ∧ V 64 (4 * e + s) 0 ≠ 3 then uV (uV (mk67 (PV V e a) (4 * e + s) (pfr V e s) (pfr V e s + pC V e s l) 1) 60 (4 * e + s) 0 (nI (max (pN V e s) (pfr V e s + pC V e s l)))) 64 (4 * e + s) 0 1 else uV (mk67 (PV V e a) (4 * e + s) (pfr V e s) (pfr V e s + pC V e s l) 1) 60 (4 * e + s) 0 (nI (max (pN V e s) (pfr V e s + pC V e s l)))) = X
    intro x
    clear v v77 v78 v79 U
    unfold uV at *
    by_cases y60 : k = 60
    · subst y60
      rw [if_neg (show ¬ (60 = 79 ∧ a' = a ∧ b = s) by omega), if_neg (show ¬ (60 = 78 ∧ a' = a ∧ b = s) by omega), if_neg (show ¬ (60 = 77 ∧ a' = a ∧ b = s) by omega), if_neg (show ¬ (60 = 79 ∧ a' = a ∧ b = s) by omega), if_neg (show ¬ (60 = 78 ∧ a' = a ∧ b = s) by omega), if_neg (show ¬ (60 = 77 ∧ a' = a ∧ b = s) by omega), x]
    · rw [if_neg (fun z => y60 z.1)] at x ⊢
      rw [x]
  · rw [uV_k _ _ _ _ _ (show k ≠ 79 by omega), uV_k _ _ _ _ _ (show k ≠ 78 by omega), uV_k _ _ _ _ _ (show k ≠ 77 by omega), PV_d]
    have ff : nn (nI (pfr V e s)) = pfr V e s := nn_nI (by omega)
    have fc : nn (nI (pC V e s l)) = pC V e s l := nn_nI (by omega)
    by_cases y : a' / 4 = e
    · rw [if_pos ⟨y, by omega⟩, v77, v78, v79, v 80 _ _ (by omega) (by omega) (by omega) (by omega)]
      by_cases z : a' = 4 * e + s
      · subst z
        rw [e1, if_pos rfl, if_pos rfl, if_pos rfl, ff, fc]
        have u65 : ∀ b, PV V e a 65 (4 * e + s) b = if b = 0 ∧ V 80 a s ≠ 0 ∧ V 65 (4 * e + s) 0 ≠ 3 then 1 else V 65 (4 * e + s) b := by
          intro b
          rw [PV_d, if_pos ⟨e2, by omega⟩, e1]
          unfold mk1
          rw [if_neg (by omega), if_neg (by omega)]
          by_cases q : b = 0 ∧ V 80 a s ≠ 0 ∧ V 65 (4 * e + s) 0 ≠ 3
          · rw [if_pos ⟨rfl, q⟩, if_pos q]
          · rw [if_neg (fun p => q p.2), if_neg q]
        have hk : k = 64 ∨ k = 65 ∨ k = 67 := by omega
        unfold mk1
        rw [v 67 _ _ (by omega) (by omega) (by omega) (by omega), v 64 _ _ (by omega) (by omega) (by omega) (by omega), v 65 _ _ (by omega) (by omega) (by omega) (by omega), v k _ _ (by omega) (by omega) (by omega) (by omega)]
        rcases hk with rfl | rfl | rfl
        · rw [if_neg (by omega), if_neg (show ¬ (64 = 65 ∧ b = 0 ∧ V 80 a s ≠ 0 ∧ V 65 (4 * e + s) 0 ≠ 3) by omega)]
          have x1 : uV (mk67 (PV V e a) (4 * e + s) (pfr V e s) (pfr V e s + pC V e s l) 1) 60 (4 * e + s) 0 (nI (max (pN V e s) (pfr V e s + pC V e s l))) 64 (4 * e + s) b = V 64 (4 * e + s) b := (uV_k _ _ _ _ _ (by omega)).trans ((if_neg (fun q => absurd q.1 (by omega))).trans (U.1 64 b (by omega)))
          by_cases q : pE V e s l ≠ 0 ∧ V 64 (4 * e + s) 0 ≠ 3
          · rw [if_pos q]
            unfold uV
            unfold uV at x1
            rw [x1]
            by_cases q2 : b = 0
            · rw [if_pos ⟨rfl, q2, q⟩, if_pos ⟨rfl, rfl, q2⟩]
            · rw [if_neg (fun p => q2 p.2.1), if_neg (fun p => q2 p.2.2)]
          · rw [if_neg q, if_neg (fun p => q p.2.2), x1]
        · rw [if_neg (by omega), if_neg (by omega)]
          have x1 : uV (mk67 (PV V e a) (4 * e + s) (pfr V e s) (pfr V e s + pC V e s l) 1) 60 (4 * e + s) 0 (nI (max (pN V e s) (pfr V e s + pC V e s l))) 65 (4 * e + s) b = PV V e a 65 (4 * e + s) b := (uV_k _ _ _ _ _ (by omega)).trans (if_neg (fun q => absurd q.1 (by omega)))
          have x2 : (if b = 0 ∧ V 80 a s ≠ 0 ∧ V 65 (4 * e + s) 0 ≠ 3 then (1 : Int32) else V 65 (4 * e + s) b) = (if 65 = 65 ∧ b = 0 ∧ V 80 a s ≠ 0 ∧ V 65 (4 * e + s) 0 ≠ 3 then 1 else V 65 (4 * e + s) b) := by
            by_cases q : b = 0 ∧ V 80 a s ≠ 0 ∧ V 65 (4 * e + s) 0 ≠ 3
            · rw [if_pos q, if_pos ⟨rfl, q⟩]
            · rw [if_neg q, if_neg (fun p => q p.2)]
          by_cases q : pE V e s l ≠ 0 ∧ V 64 (4 * e + s) 0 ≠ 3
          · rw [if_pos q, uV_k _ _ _ _ _ (show (65 : Nat) ≠ 64 by omega), x1, u65, x2]
          · rw [if_neg q, x1, u65, x2]
        · rw [if_neg (show ¬ (67 = 64 ∧ b = 0 ∧ pE V e s l ≠ 0 ∧ V 64 (4 * e + s) 0 ≠ 3) by omega), if_neg (show ¬ (67 = 65 ∧ b = 0 ∧ V 80 a s ≠ 0 ∧ V 65 (4 * e + s) 0 ≠ 3) by omega)]
          have x1 : uV (mk67 (PV V e a) (4 * e + s) (pfr V e s) (pfr V e s + pC V e s l) 1) 60 (4 * e + s) 0 (nI (max (pN V e s) (pfr V e s + pC V e s l))) 67 (4 * e + s) b = (if 67 = 67 ∧ pfr V e s ≤ b ∧ b < pfr V e s + pC V e s l ∧ V 67 (4 * e + s) b ≠ 3 then 1 else V 67 (4 * e + s) b) := by
            rw [uV_k _ _ _ _ _ (by omega)]
            unfold mk67
            rw [U.1 67 b (by omega)]
            by_cases q : 67 = 67 ∧ pfr V e s ≤ b ∧ b < pfr V e s + pC V e s l ∧ V 67 (4 * e + s) b ≠ 3
            · rw [if_pos q, if_pos ⟨q.1, rfl, q.2⟩]
            · rw [if_neg q, if_neg (fun p => q ⟨p.1, p.2.2⟩)]
          by_cases q : pE V e s l ≠ 0 ∧ V 64 (4 * e + s) 0 ≠ 3
          · rw [if_pos q, uV_k _ _ _ _ _ (show (67 : Nat) ≠ 64 by omega), x1]
          · rw [if_neg q, x1]
      · have ne : a' % 4 ≠ s := by omega
        rw [if_neg ne, if_neg ne, if_neg ne]
        have u : PV V e a k a' b = mk1 V (nn (V 77 a (a' % 4))) (nn (V 78 a (a' % 4))) (V 79 a (a' % 4)) (V 80 a (a' % 4)) 1 k a' b := by
          rw [PV_d, if_pos ⟨y, by omega⟩]
        have r1 : uV (mk67 (PV V e a) (4 * e + s) (pfr V e s) (pfr V e s + pC V e s l) 1) 60 (4 * e + s) 0 (nI (max (pN V e s) (pfr V e s + pC V e s l))) k a' b = PV V e a k a' b := (uV_a _ _ _ _ _ z).trans (if_neg (fun q => z q.2.1))
        have r2 : mk1 (stV V e a s l) (nn (V 77 a (a' % 4))) (nn (V 78 a (a' % 4))) (V 79 a (a' % 4)) (V 80 a (a' % 4)) 1 k a' b = PV V e a k a' b := by
          rw [u]
          unfold mk1
          rw [v 67 _ _ (by omega) (by omega) (by omega) (by omega), v 64 _ _ (by omega) (by omega) (by omega) (by omega), v 65 _ _ (by omega) (by omega) (by omega) (by omega), v k _ _ (by omega) (by omega) (by omega) (by omega)]
        rw [r2]
        split
        · rw [uV_a _ _ _ _ _ z, r1]
        · rw [r1]
    · have z : a' ≠ 4 * e + s := by omega
      have r1 : uV (mk67 (PV V e a) (4 * e + s) (pfr V e s) (pfr V e s + pC V e s l) 1) 60 (4 * e + s) 0 (nI (max (pN V e s) (pfr V e s + pC V e s l))) k a' b = V k a' b := (uV_a _ _ _ _ _ z).trans ((if_neg (fun q => z q.2.1)).trans (PV_e y))
      rw [if_neg (fun q => y q.1), v k _ _ (by omega) (by omega) (by omega) (by omega)]
      split
      · rw [uV_a _ _ _ _ _ z, r1]
      · rw [r1]
end
