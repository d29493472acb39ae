section
/-! The plan of a stream's frame. -/
/-- the first that is lost, or the end -/
def flo (g : Nat → Int32) : Nat → Nat → Nat
  | 0, i => i
  | k + 1, i => if g i = 2 then i else flo g k (i + 1)
theorem fl_b (g : Nat → Int32) : ∀ k i, i ≤ flo g k i ∧ flo g k i ≤ i + k ∧ (∀ j, i ≤ j → j < flo g k i → g j ≠ 2) ∧ (flo g k i < i + k → g (flo g k i) = 2)
  | 0, i => by
    have e : flo g 0 i = i := rfl
    rw [e]
    exact ⟨Nat.le_refl _, Nat.le_refl _, fun j a b => by omega, fun h => by omega⟩
  | k + 1, i => by
    have ih := fl_b g k (i + 1)
    unfold flo
    split
    · rename_i y
      exact ⟨by omega, by omega, fun j a b => by omega, fun _ => y⟩
    · rename_i y
      refine ⟨by omega, by omega, fun j a b => ?_, fun h => ih.2.2.2 (by omega)⟩
      by_cases z : j = i
      · subst z
        exact y
      · exact ih.2.2.1 j (by omega) b
theorem FL_fl {g : Nat → Int32} {n : Nat} {v : Int32} (h : FL g n v) : (v = -1 ∧ flo g n 0 = n) ∨ (v = nI (flo g n 0) ∧ flo g n 0 < n ∧ g (flo g n 0) = 2) := by
  have b := fl_b g n 0
  rcases h with ⟨h1, h2⟩ | ⟨j, h1, h2, h3, h4⟩
  · refine .inl ⟨h1, ?_⟩
    by_cases z : flo g n 0 < n
    · exact absurd (b.2.2.2 (by omega)) (h2 _ z)
    · omega
  · have e : flo g n 0 = j := by
      by_cases z : flo g n 0 < j
      · exact absurd (b.2.2.2 (by omega)) (h4 _ z)
      · by_cases z2 : j < flo g n 0
        · exact absurd h3 (b.2.2.1 j (by omega) z2)
        · omega
    rw [e]
    exact .inr ⟨h2, h1, h3⟩
theorem fl_more {g : Nat → Int32} {n n' : Nat} (hn : n ≤ n') (hz : ∀ j, n ≤ j → j < n' → g j ≠ 2) : (flo g n 0 < n ∧ flo g n' 0 = flo g n 0) ∨ (flo g n 0 = n ∧ flo g n' 0 = n') := by
  have b := fl_b g n 0
  have b' := fl_b g n' 0
  by_cases y : flo g n 0 < n
  · have y1 := b.2.2.2 (by omega)
    refine .inl ⟨y, ?_⟩
    by_cases z : flo g n' 0 < flo g n 0
    · exact absurd (b'.2.2.2 (by omega)) (b.2.2.1 _ (by omega) z)
    · by_cases z2 : flo g n 0 < flo g n' 0
      · exact absurd y1 (b'.2.2.1 _ (by omega) z2)
      · omega
  · refine .inr ⟨by omega, ?_⟩
    by_cases z : flo g n' 0 < n'
    · have z1 := b'.2.2.2 (by omega)
      by_cases z2 : flo g n' 0 < n
      · exact absurd z1 (b.2.2.1 _ (by omega) (by omega))
      · exact absurd z1 (hz _ (by omega) z)
    · omega
theorem rn_s {x : Int32} {g : Nat → Int32} : ∀ {k i j : Nat}, j < rn x g k i → g (i + j) = x
  | 0, i, j, h => by
    have e : rn x g 0 i = 0 := rfl
    omega
  | k + 1, i, j, h => by
    unfold rn at h
    split at h
    · rename_i y
      by_cases z : j = 0
      · subst z
        exact y
      · have := rn_s (x := x) (g := g) (k := k) (i := i + 1) (j := j - 1) (by omega)
        rw [show i + 1 + (j - 1) = i + j by omega] at this
        exact this
    · omega
theorem rn_e {x : Int32} {g : Nat → Int32} : ∀ {k i : Nat}, rn x g k i < k → g (i + rn x g k i) ≠ x
  | 0, i, h => by omega
  | k + 1, i, h => by
    by_cases y : g i = x
    · have e : rn x g (k + 1) i = rn x g k (i + 1) + 1 := if_pos y
      rw [e] at h
      have := rn_e (x := x) (g := g) (k := k) (i := i + 1) (by omega)
      rw [e, show i + (rn x g k (i + 1) + 1) = i + 1 + rn x g k (i + 1) by omega]
      exact this
    · have e : rn x g (k + 1) i = 0 := if_neg y
      rw [e]
      exact y
theorem rn_p {x : Int32} {g : Nat → Int32} {k i : Nat} (hk : 0 < k) (h : g i = x) : 1 ≤ rn x g k i := by
  obtain ⟨k, rfl⟩ : ∃ k', k = k' + 1 := ⟨k - 1, by omega⟩
  have e : rn x g (k + 1) i = rn x g k (i + 1) + 1 := if_pos h
  omega
def pN (V : Vt) (e s : Nat) : Nat := nn (V 60 (4 * e + s) 0)
def pW (V : Vt) (e s : Nat) : Nat := nn (V 59 (4 * e + s) 0)
def pfr (V : Vt) (e s : Nat) : Nat := flo (fun j => V 67 (4 * e + s) j) (pN V e s) 0
def pO (V : Vt) (e s : Nat) : Nat := otn (fun j => pN V e j) s
def pA (V : Vt) (e s : Nat) : Nat := min (min (pW V e s) (nn (V 61 (4 * e + s) 0)) - pN V e s) (nn (V 55 e 0) - (pN V e s + pO V e s))
def pL (V : Vt) (e s : Nat) : Nat := if pfr V e s < pN V e s then rn 2 (fun j => V 67 (4 * e + s) j) (pN V e s - pfr V e s) (pfr V e s) else pA V e s
def pC (V : Vt) (e s l : Nat) : Nat := min (min (pL V e s) 12) (37 - (l + (3 + nw (pfr V e s))))
def eA (V : Vt) (e s l : Nat) : Prop := pL V e s = 0 ∧ l + (3 + nw (pfr V e s)) ≤ 37 ∧ V 62 (4 * e + s) 0 ≠ 0 ∧ (V 64 (4 * e + s) 0 = 0 ∨ V 64 (4 * e + s) 0 = 2) ∧ pN V e s = pW V e s
def qP (V : Vt) (e s l : Nat) : Prop := V 63 (4 * e + s) 0 = 0 ∧ (1 ≤ pC V e s l ∨ eA V e s l)
def pE (V : Vt) (e s l : Nat) : Int32 := if V 62 (4 * e + s) 0 ≠ 0 ∧ pfr V e s + pC V e s l = pW V e s then 1 else 0
theorem qP_mono {V : Vt} {e s l l' : Nat} (hl : l ≤ l') (h : qP V e s l') : qP V e s l := by
  refine ⟨h.1, ?_⟩
  rcases h.2 with h | h
  · unfold pC at *
    omega
  · have := h.2.1
    exact .inr ⟨h.1, by omega, h.2.2⟩
theorem p_n {c : Nat} {V : Vt} {e s : Nat} (h : Iv c V) (he : e < 2) (hs : s < 4) : nI (pN V e s) = V 60 (4 * e + s) 0 ∧ nI (pW V e s) = V 59 (4 * e + s) 0 ∧ pN V e s ≤ pW V e s ∧ pW V e s ≤ 64 ∧ nI (nn (V 61 (4 * e + s) 0)) = V 61 (4 * e + s) 0 ∧ nn (V 61 (4 * e + s) 0) < 1073741824 ∧ nI (nn (V 55 e 0)) = V 55 e 0 ∧ nn (V 55 e 0) < 1073741824 := by
  have io := h.1 _ (show 4 * e + s < 8 by omega)
  have ie := h.2.2.1 e he
  have h0 := io.1
  have h61 := io.2.2.2.1
  have h55 : 0 ≤ V 55 e 0 ∧ V 55 e 0 < 1073741824 := ie.2.2.2.2.2.2.2.2.2.2.2.2.2.1
  clear h ie io
  obtain ⟨a, ha, ea⟩ := i_ofc (x := V 59 (4 * e + s) 0) (N := 64) (Int32.le_trans h0.1 h0.2.1) h0.2.2 (by decide)
  obtain ⟨b, hb, eb⟩ := i_ofc (x := V 60 (4 * e + s) 0) (N := 64) h0.1 (Int32.le_trans h0.2.1 h0.2.2) (by decide)
  obtain ⟨d, hd, ed⟩ := i_of (x := V 61 (4 * e + s) 0) (N := 1073741824) h61.1 h61.2 (by decide)
  obtain ⟨g, hg, eg⟩ := i_of (x := V 55 e 0) (N := 1073741824) h55.1 h55.2 (by decide)
  unfold pN pW
  rw [ea, eb] at h0
  rw [ea, eb, ed, eg, nn_nI (by omega), nn_nI (by omega), nn_nI (by omega), nn_nI (by omega)]
  refine ⟨rfl, rfl, ?_, ha, rfl, hd, rfl, hg⟩
  have := h0.2.1
  clear h0 h61 h55 ea eb ed eg
  grind [nI_T]
theorem p_0 {c : Nat} {V : Vt} {e s : Nat} (h : Iv c V) (he : e < 2) (hs : s < 4) : ∀ j, pN V e s ≤ j → j < pW V e s → V 67 (4 * e + s) j = 0 := by
  intro j h1 h2
  have io := h.1 _ (show 4 * e + s < 8 by omega)
  have n := p_n h he hs
  refine io.2.2.1 j (by omega) ?_
  rw [← n.1]
  have := n.2.2.2.1
  clear io h n
  grind [nI_T]
theorem p_f {V : Vt} {e s : Nat} : pfr V e s ≤ pN V e s ∧ (pfr V e s < pN V e s → V 67 (4 * e + s) (pfr V e s) = 2 ∧ 1 ≤ pL V e s) := by
  have b := fl_b (fun j => V 67 (4 * e + s) j) (pN V e s) 0
  refine ⟨by unfold pfr; omega, fun y => ?_⟩
  have g : V 67 (4 * e + s) (pfr V e s) = 2 := by
    unfold pfr at *
    exact b.2.2.2 (by omega)
  refine ⟨g, ?_⟩
  unfold pL
  rw [if_pos y]
  exact rn_p (by omega) g
theorem p_l {c : Nat} {V : Vt} {e s : Nat} (h : Iv c V) (he : e < 2) (hs : s < 4) : pfr V e s + pL V e s ≤ pW V e s ∧ ∀ n, n < pL V e s → V 67 (4 * e + s) (pfr V e s + n) ≠ 3 := by
  have n := p_n h he hs
  have f := p_f (V := V) (e := e) (s := s)
  have z := p_0 h he hs
  by_cases y : pfr V e s < pN V e s
  · have e1 : pL V e s = rn 2 (fun j => V 67 (4 * e + s) j) (pN V e s - pfr V e s) (pfr V e s) := if_pos y
    have := rn_le 2 (fun j => V 67 (4 * e + s) j) (pN V e s - pfr V e s) (pfr V e s)
    refine ⟨by omega, fun i hi => ?_⟩
    rw [e1] at hi
    have g := rn_s hi
    have g2 : V 67 (4 * e + s) (pfr V e s + i) = 2 := g
    rw [g2]
    decide
  · have e1 : pL V e s = pA V e s := if_neg y
    have : pA V e s ≤ pW V e s - pN V e s := by
      unfold pA
      omega
    refine ⟨by omega, fun i hi => ?_⟩
    rw [z _ (by omega) (by omega)]
    decide
/-- the model goes on just so far -/
theorem p_go {c : Nat} {V : Vt} {e s n : Nat} (h : Iv c V) (he : e < 2) (hs : s < 4) (hn : n ≤ pL V e s) (hw : pfr V e s + n < pW V e s) (y : pfr V e s < pN V e s) : V 67 (4 * e + s) (pfr V e s + n) = 2 ↔ n < pL V e s := by
  have z := p_0 h he hs
  have e1 : pL V e s = rn 2 (fun j => V 67 (4 * e + s) j) (pN V e s - pfr V e s) (pfr V e s) := if_pos y
  have le := rn_le 2 (fun j => V 67 (4 * e + s) j) (pN V e s - pfr V e s) (pfr V e s)
  constructor
  · intro g
    by_cases q : n < pL V e s
    · exact q
    · exfalso
      obtain rfl : n = pL V e s := by omega
      by_cases q2 : pL V e s < pN V e s - pfr V e s
      · rw [e1] at q2
        have g2 := rn_e q2
        rw [← e1] at g2
        exact g2 g
      · rw [z _ (by omega) (by omega)] at g
        exact absurd g (by decide)
  · intro q
    rw [e1] at q
    exact rn_s q
theorem otn_le {n : Nat → Nat} {s : Nat} (h : ∀ j, j < 4 → n j ≤ 64) : otn n s ≤ 256 := by
  have h0 := h 0 (by omega)
  have h1 := h 1 (by omega)
  have h2 := h 2 (by omega)
  have h3 := h 3 (by omega)
  unfold otn
  (repeat' split) <;> omega
theorem p_O {c : Nat} {V : Vt} {e s : Nat} (h : Iv c V) (he : e < 2) : pO V e s ≤ 256 := by
  unfold pO
  refine otn_le (fun j hj => ?_)
  have := p_n h he hj
  show pN V e j ≤ 64
  omega
theorem p_new {c : Nat} {V : Vt} {e s n : Nat} (h : Iv c V) (he : e < 2) (hs : s < 4) (hn : n ≤ 64) : (¬ V 59 (4 * e + s) 0 ≤ nI (pN V e s + n) ∧ ¬ V 61 (4 * e + s) 0 ≤ nI (pN V e s + n) ∧ ¬ V 55 e 0 < nI (pN V e s + n + 1 + pO V e s)) ↔ n < pA V e s := by
  have o := p_O (s := s) h he
  obtain ⟨n1, n2, n3, n4, n5, n6, n7, n8⟩ := p_n h he hs
  have e1 : V 59 (4 * e + s) 0 ≤ nI (pN V e s + n) ↔ pW V e s ≤ pN V e s + n := by
    rw [← n2]
    clear h n1 n2 n5 n7
    grind [nI_T]
  have e2 : V 61 (4 * e + s) 0 ≤ nI (pN V e s + n) ↔ nn (V 61 (4 * e + s) 0) ≤ pN V e s + n := by
    rw [← n5, nn_nI (by omega)]
    clear h n1 n2 n5 n7
    grind [nI_T]
  have e3 : V 55 e 0 < nI (pN V e s + n + 1 + pO V e s) ↔ nn (V 55 e 0) < pN V e s + n + 1 + pO V e s := by
    rw [← n7, nn_nI (by omega)]
    clear h n1 n2 n5 n7
    grind [nI_T]
  rw [e1, e2, e3]
  unfold pA
  omega
end
