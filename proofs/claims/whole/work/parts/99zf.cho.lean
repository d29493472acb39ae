section
/-! A stream's part is chosen and written: the class. -/
def stV (V : Vt) (e a s l : Nat) : Vt := uV (uV (uV (uV V 77 a s (nI (pfr V e s))) 78 a s (nI (pC V e s l))) 79 a s (pE V e s l)) 60 (4 * e + s) 0 (nI (max (pN V e s) (pfr V e s + pC V e s l)))
def bt (V : Vt) (a f : Nat) : Nat → List Nat
  | 0 => []
  | n + 1 => bt V a f n ++ [nn (V 66 a (f + n))]
theorem bt_l (V : Vt) (a f : Nat) : ∀ n, (bt V a f n).length = n
  | 0 => rfl
  | n + 1 => by
    unfold bt
    rw [List.length_append, bt_l V a f n]
    rfl
def stH (V : Vt) (e s : Nat) (L : List Nat) : List Nat := L ++ ([2] ++ ([s] ++ (nb (pfr V e s) ++ [2 * pC V e s L.length + nn (pE V e s L.length)])))
def stL (V : Vt) (e s : Nat) (L : List Nat) : List Nat := stH V e s L ++ bt V (4 * e + s) (pfr V e s) (pC V e s L.length)
theorem stH_l {V : Vt} {e s : Nat} {L : List Nat} : (stH V e s L).length = L.length + (3 + nw (pfr V e s)) := by
  unfold stH
  rw [List.length_append, List.length_append, List.length_append, List.length_append, nb_l]
  show L.length + (1 + (1 + (nw (pfr V e s) + 1))) = _
  omega
theorem stL_l {V : Vt} {e s : Nat} {L : List Nat} : (stL V e s L).length = L.length + (3 + nw (pfr V e s)) + pC V e s L.length := by
  unfold stL
  rw [List.length_append, stH_l, bt_l]
theorem q_room {V : Vt} {e s l : Nat} (h : qP V e s l) : l + (3 + nw (pfr V e s)) + pC V e s l ≤ 37 := by
  have hc : pC V e s l ≤ 37 - (l + (3 + nw (pfr V e s))) := by
    unfold pC
    omega
  rcases h.2 with y | y
  · omega
  · have := y.2.1
    omega
theorem FL_ext {g h : Nat → Int32} {n : Nat} {v : Int32} (e : ∀ j, j < n → g j = h j) (q : FL g n v) : FL h n v := by
  rcases q with ⟨h1, h2⟩ | ⟨j, h1, h2, h3, h4⟩
  · exact .inl ⟨h1, fun j hj => by rw [← e j hj]; exact h2 j hj⟩
  · exact .inr ⟨j, h1, h2, by rw [← e j h1]; exact h3, fun i hi => by rw [← e i (by omega)]; exact h4 i hi⟩
theorem TS77 {s : Nat} (hs : s < 4) : TS 77 s := .inr ⟨by omega, by omega, hs⟩
theorem TS78 {s : Nat} (hs : s < 4) : TS 78 s := .inr ⟨by omega, by omega, hs⟩
theorem TS79 {s : Nat} (hs : s < 4) : TS 79 s := .inr ⟨by omega, by omega, hs⟩
theorem pE_01 (V : Vt) (e s l : Nat) : pE V e s l = 0 ∨ pE V e s l = 1 := by
  unfold pE
  split
  · exact .inr rfl
  · exact .inl rfl
def s60 (r : Nat) : Prop := r = 60 ∨ r = 77 ∨ r = 78 ∨ r = 79
theorem s_122 {m : Mm} {V : Vt} {w W : Nat → Nat} {c e s S a l o : Nat} (h : RC m V w W) (hI : Iv c V) (he : e < 2) (hs : s < 4) (ho : o = 24 + 30 * e + 3 * s) (hP : Pk m S V a) (hS : ∀ a', Sa V a' → W a' ≠ S) (ha : ¬ Sa V a) (f : Nat) : ∃ m', b_Otf_choosePart_122 (f + 3) S (nI s) o (nI (pfr V e s)) (nI (pC V e s l)) m = some (.inl (some (.inl 1), m')) ∧ RC m' (stV V e a s l) w W ∧ Pk m' S (stV V e a s l) a ∧ FS s60 m m' := by
  obtain ⟨n1, n2, n3, n4, _⟩ := p_n hI he hs
  have pf := p_f (V := V) (e := e) (s := s)
  have hc : pC V e s l ≤ 12 := by
    unfold pC
    omega
  have ha' : ∀ {k b x}, k ≠ 21 → ¬ Sa (uV V k a b x) a := fun hk y => ha ((Sa_uV hk a).mp y)
  have r1 := RC_pk h (k := 77) (a := a) (b := s) (S := S) (p := S + 2) (x := nI (pfr V e s)) (TS77 hs) rfl ha hS
  have p1 := Pk_pk (x := nI (pfr V e s)) hP (TS77 hs) (show S + 2 = S + ofk 77 from rfl)
  have sa1 := Sa_pk (V := V) (a := a) (x := nI (pfr V e s)) (TS77 hs)
  have r2 := RC_pk r1 (k := 78) (a := a) (b := s) (S := S) (p := S + 3) (x := nI (pC V e s l)) (TS78 hs) rfl (fun y => ha ((sa1 a).mp y)) (fun a' y => hS a' ((sa1 a').mp y))
  have p2 := Pk_pk (x := nI (pC V e s l)) p1 (TS78 hs) (show S + 3 = S + ofk 78 from rfl)
  have sa2 := Sa_pk (V := uV V 77 a s (nI (pfr V e s))) (a := a) (x := nI (pC V e s l)) (TS78 hs)
  have fin : ∀ g x, x = pE V e s l → ∃ m', b_Otf_choosePart_169 (g + 1) o (nI (pfr V e s)) (nI (pC V e s l)) (S + 4) (nI s) x (ab_uI (ab_uI m 77 (S + 2) s (nI (pfr V e s))) 78 (S + 3) s (nI (pC V e s l))) = some (.inl (some (.inl 1), m')) ∧ RC m' (stV V e a s l) w W ∧ Pk m' S (stV V e a s l) a ∧ FS s60 m m' := by
    intro g x hx
    have r3 := RC_pk r2 (k := 79) (a := a) (b := s) (S := S) (p := S + 4) (x := x) (TS79 hs) rfl (fun y => ha ((sa1 a).mp ((sa2 a).mp y))) (fun a' y => hS a' ((sa1 a').mp ((sa2 a').mp y)))
    have p3 := Pk_pk (x := x) p2 (TS79 hs) (show S + 4 = S + ofk 79 from rfl)
    have r4 := cu60 r3 he hs ho (nI (max (pN V e s) (pfr V e s + pC V e s l)))
    have p4 := Pk_uV (x := nI (max (pN V e s) (pfr V e s + pC V e s l))) (c := 4 * e + s) (b := 0) p3 (show 60 < 68 by omega)
    have k60 : (ab_uI (ab_uI (ab_uI m 77 (S + 2) s (nI (pfr V e s))) 78 (S + 3) s (nI (pC V e s l))) 79 (S + 4) s x).1 60 o 0 = nI (pN V e s) := by
      rw [uI_r _ _ _ _ _ _ _ _ (by omega), uI_r _ _ _ _ _ _ _ _ (by omega), uI_r _ _ _ _ _ _ _ _ (by omega), c60 h he hs ho, n1]
    refine ⟨_, ?_, by unfold stV; rw [← hx]; exact r4, ?_, ?_⟩
    · have bx : ab_bo x = some x := by
        rcases pE_01 V e s l with q | q <;> (rw [hx, q]; rfl)
      have mx : (if nI (pN V e s) < nI (pfr V e s + pC V e s l) then nI (pfr V e s + pC V e s l) else nI (pN V e s)) = nI (max (pN V e s) (pfr V e s + pC V e s l)) := by
        by_cases y : pN V e s < pfr V e s + pC V e s l
        · rw [if_pos (by clear h hI r1 r2 r3 r4 p1 p2 p3 p4 hP hS ha ha' sa1 sa2 n1 n2 k60 bx; grind [nI_T]), Nat.max_eq_right (by omega)]
        · rw [if_neg (by clear h hI r1 r2 r3 r4 p1 p2 p3 p4 hP hS ha ha' sa1 sa2 n1 n2 k60 bx; grind [nI_T]), Nat.max_eq_left (by omega)]
      rw [b_Otf_choosePart_169_eq, ab_ix_nI hs (by decide), bx, bo_1]
      simp only [ob_s, lt_eq]
      rw [s_max]
      simp only [ob_s]
      rw [k60, nI_add, mx]
    · intro k b t
      have tk := TS_k t
      rw [uI_r _ _ _ _ _ _ _ _ (by omega)]
      unfold stV
      rw [← hx]
      exact p4 k b t
    · exact FS_tr (FS_tr (FS_tr (FS_uI (by unfold s60; omega)) (FS_uI (by unfold s60; omega))) (FS_uI (by unfold s60; omega))) (FS_uI (by unfold s60; omega))
  rw [b_Otf_choosePart_122_eq, ab_ix_nI hs (by decide)]
  simp only [ob_s, lt_eq]
  rw [uI_r _ _ _ _ _ _ _ _ (show (62 : Nat) ≠ 78 by omega), uI_r _ _ _ _ _ _ _ _ (show (62 : Nat) ≠ 77 by omega), uI_r _ _ _ _ _ _ _ _ (show (59 : Nat) ≠ 78 by omega), uI_r _ _ _ _ _ _ _ _ (show (59 : Nat) ≠ 77 by omega), c62 h he hs ho, c59 h he hs ho, ← n2, nI_add]
  by_cases y : V 62 (4 * e + s) 0 = 0
  · rw [if_pos y, b_Otf_choosePart_168_eq]
    exact fin _ 0 (by unfold pE; rw [if_neg (fun q => q.1 y)])
  · rw [if_neg y]
    by_cases z : pfr V e s + pC V e s l = pW V e s
    · rw [if_pos (by rw [z])]
      exact fin _ 1 (by unfold pE; rw [if_pos ⟨y, z⟩])
    · rw [if_neg (by clear h hI r1 r2 p1 p2 hP hS ha ha' sa1 sa2 n1 n2 fin; grind [nI_T]), b_Otf_choosePart_168_eq]
      exact fin _ 0 (by unfold pE; rw [if_neg (fun q => z q.2)])
theorem p_cal {c : Nat} {V : Vt} {e s : Nat} {y : Int32} (hI : Iv c V) (he : e < 2) (hs : s < 4) (hy : y = (if (if V 59 (4 * e + s) 0 ≤ V 61 (4 * e + s) 0 then V 59 (4 * e + s) 0 else V 61 (4 * e + s) 0) - nI (pN V e s) ≤ V 55 e 0 - nI (pN V e 0 + pN V e 1 + pN V e 2 + pN V e 3) then (if V 59 (4 * e + s) 0 ≤ V 61 (4 * e + s) 0 then V 59 (4 * e + s) 0 else V 61 (4 * e + s) 0) - nI (pN V e s) else V 55 e 0 - nI (pN V e 0 + pN V e 1 + pN V e 2 + pN V e 3))) : (if 0 < y then y else 0) = nI (pA V e s) := by
  obtain ⟨n1, n2, n3, n4, n5, n6, n7, n8⟩ := p_n hI he hs
  have al : pN V e 0 + pN V e 1 + pN V e 2 + pN V e 3 = pN V e s + pO V e s := by
    unfold pO otn
    obtain rfl | rfl | rfl | rfl : s = 0 ∨ s = 1 ∨ s = 2 ∨ s = 3 := by omega
    · simp; omega
    · simp; omega
    · simp; omega
    · simp; omega
  have o := p_O (s := s) hI he
  rw [al, ← n2, ← n5, ← n7] at hy
  have mn : (if nI (pW V e s) ≤ nI (nn (V 61 (4 * e + s) 0)) then nI (pW V e s) else nI (nn (V 61 (4 * e + s) 0))) = nI (min (pW V e s) (nn (V 61 (4 * e + s) 0))) := by
    by_cases z : pW V e s ≤ nn (V 61 (4 * e + s) 0)
    · rw [if_pos (by clear hy hI n1 n2 n5 n7 al; grind [nI_T]), Nat.min_eq_left z]
    · rw [if_neg (by clear hy hI n1 n2 n5 n7 al; grind [nI_T]), Nat.min_eq_right (by omega)]
  rw [mn] at hy
  unfold pA
  have hA : min (pW V e s) (nn (V 61 (4 * e + s) 0)) ≤ 64 := by omega
  have hN : pN V e s ≤ 64 := by omega
  clear mn al n1 n2 n5 n7 hI
  generalize min (pW V e s) (nn (V 61 (4 * e + s) 0)) = A at *
  generalize nn (V 55 e 0) = B at *
  generalize pN V e s = N at *
  generalize pO V e s = T at *
  clear n3 n4 n6
  have c1 : nI A - nI N ≤ nI B - nI (N + T) ↔ (A : Int) - N ≤ B - (N + T) := by grind [nI_T]
  by_cases z : (A : Int) - N ≤ B - (N + T)
  · rw [if_pos (c1.mpr z)] at hy
    subst hy
    by_cases z2 : N < A
    · rw [if_pos (by clear c1; grind [nI_T]), show min (A - N) (B - (N + T)) = A - N by omega]
      clear c1
      grind [nI_T]
    · rw [if_neg (by clear c1; grind [nI_T]), show min (A - N) (B - (N + T)) = 0 by omega]
      rfl
  · rw [if_neg (fun q => z (c1.mp q))] at hy
    subst hy
    by_cases z2 : N + T < B
    · rw [if_pos (by clear c1; grind [nI_T]), show min (A - N) (B - (N + T)) = B - (N + T) by omega]
      clear c1
      grind [nI_T]
    · rw [if_neg (by clear c1; grind [nI_T]), show min (A - N) (B - (N + T)) = 0 by omega]
      rfl
end
