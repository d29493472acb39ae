section
/-! Reads and writes of the fields (by mk73.py). -/
theorem c5 {m : Mm} {V : Vt} {w W : Nat → Nat} (h : RC m V w W) {p : Nat} (hp : p = 0) : m.1 5 p 0 = V 5 0 0 := by
  have e1 := h.1 5 0 0 (by unfold Ts; omega)
  rw [show Ps 5 0 = p by rw [hp]; unfold Ps; simp; try omega] at e1
  exact e1
theorem c6 {m : Mm} {V : Vt} {w W : Nat → Nat} (h : RC m V w W) {p : Nat} (hp : p = 0) : m.1 6 p 0 = V 6 0 0 := by
  have e1 := h.1 6 0 0 (by unfold Ts; omega)
  rw [show Ps 6 0 = p by rw [hp]; unfold Ps; simp; try omega] at e1
  exact e1
theorem cu6 {m : Mm} {V : Vt} {w W : Nat → Nat} (h : RC m V w W) {p : Nat} (hp : p = 0) (x : Int32) : RC (ab_uI m 6 p 0 x) (uV V 6 0 0 x) w W := RC_uI h (by unfold Ts; omega) (by rw [hp]; unfold Ps; simp; try omega) (by decide) (by decide)
theorem c7 {m : Mm} {V : Vt} {w W : Nat → Nat} (h : RC m V w W) {p : Nat} (hp : p = 0) : m.1 7 p 0 = V 7 0 0 := by
  have e1 := h.1 7 0 0 (by unfold Ts; omega)
  rw [show Ps 7 0 = p by rw [hp]; unfold Ps; simp; try omega] at e1
  exact e1
theorem cu7 {m : Mm} {V : Vt} {w W : Nat → Nat} (h : RC m V w W) {p : Nat} (hp : p = 0) (x : Int32) : RC (ab_uI m 7 p 0 x) (uV V 7 0 0 x) w W := RC_uI h (by unfold Ts; omega) (by rw [hp]; unfold Ps; simp; try omega) (by decide) (by decide)
theorem c14 {m : Mm} {V : Vt} {w W : Nat → Nat} (h : RC m V w W) {b : Nat} (hb : b < 37) {p : Nat} (hp : p = 5) : m.1 14 p b = V 14 0 b := by
  have e1 := h.1 14 0 b (by unfold Ts; omega)
  rw [show Ps 14 0 = p by rw [hp]; unfold Ps; simp; try omega] at e1
  exact e1
theorem cu14 {m : Mm} {V : Vt} {w W : Nat → Nat} (h : RC m V w W) {b : Nat} (hb : b < 37) {p : Nat} (hp : p = 5) (x : Int32) : RC (ab_uI m 14 p b x) (uV V 14 0 b x) w W := RC_uI h (by unfold Ts; omega) (by rw [hp]; unfold Ps; simp; try omega) (by decide) (by decide)
theorem n14 {m : Mm} {V : Vt} (h : RM m V) {b : Nat} (hb : b < 37) {p j : Nat} (hp : p = 135) (hj : j = b) : m.1 169 p j = V 14 0 b := by
  have e1 := h.1 14 0 b (by unfold Ts; omega) (by decide)
  subst hp
  rw [show ms 14 * 0 + b = j by unfold ms; simp; omega] at e1
  exact e1
theorem nu14 {m : Mm} {V : Vt} (h : RM m V) {b : Nat} (hb : b < 37) {p j : Nat} (hp : p = 135) (hj : j = b) (x : Int32) : RM (ab_uI m 169 p j x) (uV V 14 0 b x) := RM_uI h (by unfold Ts; omega) rfl hp (by unfold ms; simp; omega) (by decide) (by decide) (.inl (by decide))
theorem c21 {m : Mm} {V : Vt} {w W : Nat → Nat} (h : RC m V w W) {e : Nat} (he : e < 2) {p : Nat} (hp : p = 6 + 30 * e) : m.1 21 p 0 = V 21 e 0 := by
  have e1 := h.1 21 e 0 (by unfold Ts; omega)
  rw [show Ps 21 e = p by rw [hp]; unfold Ps; simp; try omega] at e1
  exact e1
theorem n21 {m : Mm} {V : Vt} (h : RM m V) {e : Nat} (he : e < 2) {p j : Nat} (hp : p = 117) (hj : j = e) : m.1 151 p j = V 21 e 0 := by
  have e1 := h.1 21 e 0 (by unfold Ts; omega) (by decide)
  subst hp
  rw [show ms 21 * e + 0 = j by unfold ms; simp; omega] at e1
  exact e1
theorem c22 {m : Mm} {V : Vt} {w W : Nat → Nat} (h : RC m V w W) {e : Nat} (he : e < 2) {p : Nat} (hp : p = 6 + 30 * e) : m.1 22 p 0 = V 22 e 0 := by
  have e1 := h.1 22 e 0 (by unfold Ts; omega)
  rw [show Ps 22 e = p by rw [hp]; unfold Ps; simp; try omega] at e1
  exact e1
theorem cu22 {m : Mm} {V : Vt} {w W : Nat → Nat} (h : RC m V w W) {e : Nat} (he : e < 2) {p : Nat} (hp : p = 6 + 30 * e) (x : Int32) : RC (ab_uI m 22 p 0 x) (uV V 22 e 0 x) w W := RC_uI h (by unfold Ts; omega) (by rw [hp]; unfold Ps; simp; try omega) (by decide) (by decide)
theorem n22 {m : Mm} {V : Vt} (h : RM m V) {e : Nat} (he : e < 2) {p j : Nat} (hp : p = 120) (hj : j = e) : m.1 154 p j = V 22 e 0 := by
  have e1 := h.1 22 e 0 (by unfold Ts; omega) (by decide)
  subst hp
  rw [show ms 22 * e + 0 = j by unfold ms; simp; omega] at e1
  exact e1
theorem nu22 {m : Mm} {V : Vt} (h : RM m V) {e : Nat} (he : e < 2) {p j : Nat} (hp : p = 120) (hj : j = e) (x : Int32) (hx : x ≠ -1) : RM (ab_uI m 154 p j x) (uV V 22 e 0 x) := RM_uI h (by unfold Ts; omega) rfl hp (by unfold ms; simp; omega) (by decide) (by decide) (.inr hx)
theorem c23 {m : Mm} {V : Vt} {w W : Nat → Nat} (h : RC m V w W) {e : Nat} (he : e < 2) {p : Nat} (hp : p = 6 + 30 * e) : m.1 23 p 0 = V 23 e 0 := by
  have e1 := h.1 23 e 0 (by unfold Ts; omega)
  rw [show Ps 23 e = p by rw [hp]; unfold Ps; simp; try omega] at e1
  exact e1
theorem cu23 {m : Mm} {V : Vt} {w W : Nat → Nat} (h : RC m V w W) {e : Nat} (he : e < 2) {p : Nat} (hp : p = 6 + 30 * e) (x : Int32) : RC (ab_uI m 23 p 0 x) (uV V 23 e 0 x) w W := RC_uI h (by unfold Ts; omega) (by rw [hp]; unfold Ps; simp; try omega) (by decide) (by decide)
theorem n23 {m : Mm} {V : Vt} (h : RM m V) {e : Nat} (he : e < 2) {p j : Nat} (hp : p = 122) (hj : j = e) : m.1 156 p j = V 23 e 0 := by
  have e1 := h.1 23 e 0 (by unfold Ts; omega) (by decide)
  subst hp
  rw [show ms 23 * e + 0 = j by unfold ms; simp; omega] at e1
  exact e1
theorem nu23 {m : Mm} {V : Vt} (h : RM m V) {e : Nat} (he : e < 2) {p j : Nat} (hp : p = 122) (hj : j = e) (x : Int32) : RM (ab_uI m 156 p j x) (uV V 23 e 0 x) := RM_uI h (by unfold Ts; omega) rfl hp (by unfold ms; simp; omega) (by decide) (by decide) (.inl (by decide))
theorem c24 {m : Mm} {V : Vt} {w W : Nat → Nat} (h : RC m V w W) {e : Nat} (he : e < 2) {p : Nat} (hp : p = 6 + 30 * e) : m.1 24 p 0 = V 24 e 0 := by
  have e1 := h.1 24 e 0 (by unfold Ts; omega)
  rw [show Ps 24 e = p by rw [hp]; unfold Ps; simp; try omega] at e1
  exact e1
theorem cu24 {m : Mm} {V : Vt} {w W : Nat → Nat} (h : RC m V w W) {e : Nat} (he : e < 2) {p : Nat} (hp : p = 6 + 30 * e) (x : Int32) : RC (ab_uI m 24 p 0 x) (uV V 24 e 0 x) w W := RC_uI h (by unfold Ts; omega) (by rw [hp]; unfold Ps; simp; try omega) (by decide) (by decide)
theorem n24 {m : Mm} {V : Vt} (h : RM m V) {e : Nat} (he : e < 2) {p j : Nat} (hp : p = 119) (hj : j = e) : m.1 153 p j = V 24 e 0 := by
  have e1 := h.1 24 e 0 (by unfold Ts; omega) (by decide)
  subst hp
  rw [show ms 24 * e + 0 = j by unfold ms; simp; omega] at e1
  exact e1
theorem nu24 {m : Mm} {V : Vt} (h : RM m V) {e : Nat} (he : e < 2) {p j : Nat} (hp : p = 119) (hj : j = e) (x : Int32) : RM (ab_uI m 153 p j x) (uV V 24 e 0 x) := RM_uI h (by unfold Ts; omega) rfl hp (by unfold ms; simp; omega) (by decide) (by decide) (.inl (by decide))
theorem c25 {m : Mm} {V : Vt} {w W : Nat → Nat} (h : RC m V w W) {e : Nat} (he : e < 2) {p : Nat} (hp : p = 6 + 30 * e) : m.1 25 p 0 = V 25 e 0 := by
  have e1 := h.1 25 e 0 (by unfold Ts; omega)
  rw [show Ps 25 e = p by rw [hp]; unfold Ps; simp; try omega] at e1
  exact e1
theorem cu25 {m : Mm} {V : Vt} {w W : Nat → Nat} (h : RC m V w W) {e : Nat} (he : e < 2) {p : Nat} (hp : p = 6 + 30 * e) (x : Int32) : RC (ab_uI m 25 p 0 x) (uV V 25 e 0 x) w W := RC_uI h (by unfold Ts; omega) (by rw [hp]; unfold Ps; simp; try omega) (by decide) (by decide)
theorem c26 {m : Mm} {V : Vt} {w W : Nat → Nat} (h : RC m V w W) {e : Nat} (he : e < 2) {p : Nat} (hp : p = 6 + 30 * e) : m.1 26 p 0 = V 26 e 0 := by
  have e1 := h.1 26 e 0 (by unfold Ts; omega)
  rw [show Ps 26 e = p by rw [hp]; unfold Ps; simp; try omega] at e1
  exact e1
theorem cu26 {m : Mm} {V : Vt} {w W : Nat → Nat} (h : RC m V w W) {e : Nat} (he : e < 2) {p : Nat} (hp : p = 6 + 30 * e) (x : Int32) : RC (ab_uI m 26 p 0 x) (uV V 26 e 0 x) w W := RC_uI h (by unfold Ts; omega) (by rw [hp]; unfold Ps; simp; try omega) (by decide) (by decide)
theorem c27 {m : Mm} {V : Vt} {w W : Nat → Nat} (h : RC m V w W) {e : Nat} (he : e < 2) {p : Nat} (hp : p = 6 + 30 * e) : m.1 27 p 0 = V 27 e 0 := by
  have e1 := h.1 27 e 0 (by unfold Ts; omega)
  rw [show Ps 27 e = p by rw [hp]; unfold Ps; simp; try omega] at e1
  exact e1
theorem cu27 {m : Mm} {V : Vt} {w W : Nat → Nat} (h : RC m V w W) {e : Nat} (he : e < 2) {p : Nat} (hp : p = 6 + 30 * e) (x : Int32) : RC (ab_uI m 27 p 0 x) (uV V 27 e 0 x) w W := RC_uI h (by unfold Ts; omega) (by rw [hp]; unfold Ps; simp; try omega) (by decide) (by decide)
theorem n27 {m : Mm} {V : Vt} (h : RM m V) {e : Nat} (he : e < 2) {p j : Nat} (hp : p = 126) (hj : j = e) : m.1 160 p j = V 27 e 0 := by
  have e1 := h.1 27 e 0 (by unfold Ts; omega) (by decide)
  subst hp
  rw [show ms 27 * e + 0 = j by unfold ms; simp; omega] at e1
  exact e1
theorem nu27 {m : Mm} {V : Vt} (h : RM m V) {e : Nat} (he : e < 2) {p j : Nat} (hp : p = 126) (hj : j = e) (x : Int32) : RM (ab_uI m 160 p j x) (uV V 27 e 0 x) := RM_uI h (by unfold Ts; omega) rfl hp (by unfold ms; simp; omega) (by decide) (by decide) (.inl (by decide))
theorem c28 {m : Mm} {V : Vt} {w W : Nat → Nat} (h : RC m V w W) {e : Nat} (he : e < 2) {p : Nat} (hp : p = 6 + 30 * e) : m.1 28 p 0 = V 28 e 0 := by
  have e1 := h.1 28 e 0 (by unfold Ts; omega)
  rw [show Ps 28 e = p by rw [hp]; unfold Ps; simp; try omega] at e1
  exact e1
theorem cu28 {m : Mm} {V : Vt} {w W : Nat → Nat} (h : RC m V w W) {e : Nat} (he : e < 2) {p : Nat} (hp : p = 6 + 30 * e) (x : Int32) : RC (ab_uI m 28 p 0 x) (uV V 28 e 0 x) w W := RC_uI h (by unfold Ts; omega) (by rw [hp]; unfold Ps; simp; try omega) (by decide) (by decide)
theorem n28 {m : Mm} {V : Vt} (h : RM m V) {e : Nat} (he : e < 2) {p j : Nat} (hp : p = 125) (hj : j = e) : m.1 159 p j = V 28 e 0 := by
  have e1 := h.1 28 e 0 (by unfold Ts; omega) (by decide)
  subst hp
  rw [show ms 28 * e + 0 = j by unfold ms; simp; omega] at e1
  exact e1
theorem nu28 {m : Mm} {V : Vt} (h : RM m V) {e : Nat} (he : e < 2) {p j : Nat} (hp : p = 125) (hj : j = e) (x : Int32) : RM (ab_uI m 159 p j x) (uV V 28 e 0 x) := RM_uI h (by unfold Ts; omega) rfl hp (by unfold ms; simp; omega) (by decide) (by decide) (.inl (by decide))
theorem c30 {m : Mm} {V : Vt} {w W : Nat → Nat} (h : RC m V w W) {e : Nat} (he : e < 2) {p : Nat} (hp : p = 7 + 30 * e) : m.1 30 p 0 = V 30 e 0 := by
  have e1 := h.1 30 e 0 (by unfold Ts; omega)
  rw [show Ps 30 e = p by rw [hp]; unfold Ps; simp; try omega] at e1
  exact e1
theorem cu30 {m : Mm} {V : Vt} {w W : Nat → Nat} (h : RC m V w W) {e : Nat} (he : e < 2) {p : Nat} (hp : p = 7 + 30 * e) (x : Int32) : RC (ab_uI m 30 p 0 x) (uV V 30 e 0 x) w W := RC_uI h (by unfold Ts; omega) (by rw [hp]; unfold Ps; simp; try omega) (by decide) (by decide)
theorem n30 {m : Mm} {V : Vt} (h : RM m V) {e : Nat} (he : e < 2) {p j : Nat} (hp : p = 118) (hj : j = e) : m.1 152 p j = V 30 e 0 := by
  have e1 := h.1 30 e 0 (by unfold Ts; omega) (by decide)
  subst hp
  rw [show ms 30 * e + 0 = j by unfold ms; simp; omega] at e1
  exact e1
theorem nu30 {m : Mm} {V : Vt} (h : RM m V) {e : Nat} (he : e < 2) {p j : Nat} (hp : p = 118) (hj : j = e) (x : Int32) : RM (ab_uI m 152 p j x) (uV V 30 e 0 x) := RM_uI h (by unfold Ts; omega) rfl hp (by unfold ms; simp; omega) (by decide) (by decide) (.inl (by decide))
theorem c31 {m : Mm} {V : Vt} {w W : Nat → Nat} (h : RC m V w W) {e : Nat} (he : e < 2) {b : Nat} (hb : b < 320) {p : Nat} (hp : p = 8 + 30 * e) : m.1 31 p b = V 31 e b := by
  have e1 := h.1 31 e b (by unfold Ts; omega)
  rw [show Ps 31 e = p by rw [hp]; unfold Ps; simp; try omega] at e1
  exact e1
theorem cu31 {m : Mm} {V : Vt} {w W : Nat → Nat} (h : RC m V w W) {e : Nat} (he : e < 2) {b : Nat} (hb : b < 320) {p : Nat} (hp : p = 8 + 30 * e) (x : Int32) : RC (ab_uI m 31 p b x) (uV V 31 e b x) w W := RC_uI h (by unfold Ts; omega) (by rw [hp]; unfold Ps; simp; try omega) (by decide) (by decide)
theorem n31 {m : Mm} {V : Vt} (h : RM m V) {e : Nat} (he : e < 2) {b : Nat} (hb : b < 320) {p j : Nat} (hp : p = 127) (hj : j = (320 * e + b)) : m.1 161 p j = V 31 e b := by
  have e1 := h.1 31 e b (by unfold Ts; omega) (by decide)
  subst hp
  rw [show ms 31 * e + b = j by unfold ms; simp; omega] at e1
  exact e1
theorem nu31 {m : Mm} {V : Vt} (h : RM m V) {e : Nat} (he : e < 2) {b : Nat} (hb : b < 320) {p j : Nat} (hp : p = 127) (hj : j = (320 * e + b)) (x : Int32) : RM (ab_uI m 161 p j x) (uV V 31 e b x) := RM_uI h (by unfold Ts; omega) rfl hp (by unfold ms; simp; omega) (by decide) (by decide) (.inl (by decide))
theorem c41 {m : Mm} {V : Vt} {w W : Nat → Nat} (h : RC m V w W) {e : Nat} (he : e < 2) {p : Nat} (hp : p = 12 + 30 * e) : m.1 41 p 0 = V 41 e 0 := by
  have e1 := h.1 41 e 0 (by unfold Ts; omega)
  rw [show Ps 41 e = p by rw [hp]; unfold Ps; simp; try omega] at e1
  exact e1
theorem cu41 {m : Mm} {V : Vt} {w W : Nat → Nat} (h : RC m V w W) {e : Nat} (he : e < 2) {p : Nat} (hp : p = 12 + 30 * e) (x : Int32) : RC (ab_uI m 41 p 0 x) (uV V 41 e 0 x) w W := RC_uI h (by unfold Ts; omega) (by rw [hp]; unfold Ps; simp; try omega) (by decide) (by decide)
theorem c42 {m : Mm} {V : Vt} {w W : Nat → Nat} (h : RC m V w W) {e : Nat} (he : e < 2) {p : Nat} (hp : p = 12 + 30 * e) : m.1 42 p 0 = V 42 e 0 := by
  have e1 := h.1 42 e 0 (by unfold Ts; omega)
  rw [show Ps 42 e = p by rw [hp]; unfold Ps; simp; try omega] at e1
  exact e1
theorem cu42 {m : Mm} {V : Vt} {w W : Nat → Nat} (h : RC m V w W) {e : Nat} (he : e < 2) {p : Nat} (hp : p = 12 + 30 * e) (x : Int32) : RC (ab_uI m 42 p 0 x) (uV V 42 e 0 x) w W := RC_uI h (by unfold Ts; omega) (by rw [hp]; unfold Ps; simp; try omega) (by decide) (by decide)
theorem c43 {m : Mm} {V : Vt} {w W : Nat → Nat} (h : RC m V w W) {e : Nat} (he : e < 2) {p : Nat} (hp : p = 12 + 30 * e) : m.1 43 p 0 = V 43 e 0 := by
  have e1 := h.1 43 e 0 (by unfold Ts; omega)
  rw [show Ps 43 e = p by rw [hp]; unfold Ps; simp; try omega] at e1
  exact e1
theorem cu43 {m : Mm} {V : Vt} {w W : Nat → Nat} (h : RC m V w W) {e : Nat} (he : e < 2) {p : Nat} (hp : p = 12 + 30 * e) (x : Int32) : RC (ab_uI m 43 p 0 x) (uV V 43 e 0 x) w W := RC_uI h (by unfold Ts; omega) (by rw [hp]; unfold Ps; simp; try omega) (by decide) (by decide)
theorem n43 {m : Mm} {V : Vt} (h : RM m V) {e : Nat} (he : e < 2) {p j : Nat} (hp : p = 116) (hj : j = e) : m.1 150 p j = V 43 e 0 := by
  have e1 := h.1 43 e 0 (by unfold Ts; omega) (by decide)
  subst hp
  rw [show ms 43 * e + 0 = j by unfold ms; simp; omega] at e1
  exact e1
theorem nu43 {m : Mm} {V : Vt} (h : RM m V) {e : Nat} (he : e < 2) {p j : Nat} (hp : p = 116) (hj : j = e) (x : Int32) : RM (ab_uI m 150 p j x) (uV V 43 e 0 x) := RM_uI h (by unfold Ts; omega) rfl hp (by unfold ms; simp; omega) (by decide) (by decide) (.inl (by decide))
theorem c44 {m : Mm} {V : Vt} {w W : Nat → Nat} (h : RC m V w W) {e : Nat} (he : e < 2) {p : Nat} (hp : p = 12 + 30 * e) : m.1 44 p 0 = V 44 e 0 := by
  have e1 := h.1 44 e 0 (by unfold Ts; omega)
  rw [show Ps 44 e = p by rw [hp]; unfold Ps; simp; try omega] at e1
  exact e1
theorem cu44 {m : Mm} {V : Vt} {w W : Nat → Nat} (h : RC m V w W) {e : Nat} (he : e < 2) {p : Nat} (hp : p = 12 + 30 * e) (x : Int32) : RC (ab_uI m 44 p 0 x) (uV V 44 e 0 x) w W := RC_uI h (by unfold Ts; omega) (by rw [hp]; unfold Ps; simp; try omega) (by decide) (by decide)
theorem n44 {m : Mm} {V : Vt} (h : RM m V) {e : Nat} (he : e < 2) {p j : Nat} (hp : p = 123) (hj : j = e) : m.1 157 p j = V 44 e 0 := by
  have e1 := h.1 44 e 0 (by unfold Ts; omega) (by decide)
  subst hp
  rw [show ms 44 * e + 0 = j by unfold ms; simp; omega] at e1
  exact e1
theorem nu44 {m : Mm} {V : Vt} (h : RM m V) {e : Nat} (he : e < 2) {p j : Nat} (hp : p = 123) (hj : j = e) (x : Int32) : RM (ab_uI m 157 p j x) (uV V 44 e 0 x) := RM_uI h (by unfold Ts; omega) rfl hp (by unfold ms; simp; omega) (by decide) (by decide) (.inl (by decide))
theorem c47 {m : Mm} {V : Vt} {w W : Nat → Nat} (h : RC m V w W) {e s : Nat} (he : e < 2) (hs : s < 4) {p : Nat} (hp : p = 14 + 30 * e + 2 * s) : m.1 47 p 0 = V 47 (4 * e + s) 0 := by
  have e1 := h.1 47 (4 * e + s) 0 (by unfold Ts; omega)
  rw [show Ps 47 (4 * e + s) = p by rw [hp]; unfold Ps; simp; try omega] at e1
  exact e1
theorem cu47 {m : Mm} {V : Vt} {w W : Nat → Nat} (h : RC m V w W) {e s : Nat} (he : e < 2) (hs : s < 4) {p : Nat} (hp : p = 14 + 30 * e + 2 * s) (x : Int32) : RC (ab_uI m 47 p 0 x) (uV V 47 (4 * e + s) 0 x) w W := RC_uI h (by unfold Ts; omega) (by rw [hp]; unfold Ps; simp; try omega) (by decide) (by decide)
theorem n47 {m : Mm} {V : Vt} (h : RM m V) {a : Nat} (ha : a < 8) {p j : Nat} (hp : p = 111) (hj : j = a) : m.1 145 p j = V 47 a 0 := by
  have e1 := h.1 47 a 0 (by unfold Ts; omega) (by decide)
  subst hp
  rw [show ms 47 * a + 0 = j by unfold ms; simp; omega] at e1
  exact e1
theorem nu47 {m : Mm} {V : Vt} (h : RM m V) {a : Nat} (ha : a < 8) {p j : Nat} (hp : p = 111) (hj : j = a) (x : Int32) : RM (ab_uI m 145 p j x) (uV V 47 a 0 x) := RM_uI h (by unfold Ts; omega) rfl hp (by unfold ms; simp; omega) (by decide) (by decide) (.inl (by decide))
theorem c48 {m : Mm} {V : Vt} {w W : Nat → Nat} (h : RC m V w W) {e s : Nat} (he : e < 2) (hs : s < 4) {p : Nat} (hp : p = 14 + 30 * e + 2 * s) : m.1 48 p 0 = V 48 (4 * e + s) 0 := by
  have e1 := h.1 48 (4 * e + s) 0 (by unfold Ts; omega)
  rw [show Ps 48 (4 * e + s) = p by rw [hp]; unfold Ps; simp; try omega] at e1
  exact e1
theorem cu48 {m : Mm} {V : Vt} {w W : Nat → Nat} (h : RC m V w W) {e s : Nat} (he : e < 2) (hs : s < 4) {p : Nat} (hp : p = 14 + 30 * e + 2 * s) (x : Int32) : RC (ab_uI m 48 p 0 x) (uV V 48 (4 * e + s) 0 x) w W := RC_uI h (by unfold Ts; omega) (by rw [hp]; unfold Ps; simp; try omega) (by decide) (by decide)
theorem n48 {m : Mm} {V : Vt} (h : RM m V) {a : Nat} (ha : a < 8) {p j : Nat} (hp : p = 109) (hj : j = a) : m.1 143 p j = V 48 a 0 := by
  have e1 := h.1 48 a 0 (by unfold Ts; omega) (by decide)
  subst hp
  rw [show ms 48 * a + 0 = j by unfold ms; simp; omega] at e1
  exact e1
theorem nu48 {m : Mm} {V : Vt} (h : RM m V) {a : Nat} (ha : a < 8) {p j : Nat} (hp : p = 109) (hj : j = a) (x : Int32) : RM (ab_uI m 143 p j x) (uV V 48 a 0 x) := RM_uI h (by unfold Ts; omega) rfl hp (by unfold ms; simp; omega) (by decide) (by decide) (.inl (by decide))
theorem c49 {m : Mm} {V : Vt} {w W : Nat → Nat} (h : RC m V w W) {e s : Nat} (he : e < 2) (hs : s < 4) {p : Nat} (hp : p = 14 + 30 * e + 2 * s) : m.1 49 p 0 = V 49 (4 * e + s) 0 := by
  have e1 := h.1 49 (4 * e + s) 0 (by unfold Ts; omega)
  rw [show Ps 49 (4 * e + s) = p by rw [hp]; unfold Ps; simp; try omega] at e1
  exact e1
theorem cu49 {m : Mm} {V : Vt} {w W : Nat → Nat} (h : RC m V w W) {e s : Nat} (he : e < 2) (hs : s < 4) {p : Nat} (hp : p = 14 + 30 * e + 2 * s) (x : Int32) : RC (ab_uI m 49 p 0 x) (uV V 49 (4 * e + s) 0 x) w W := RC_uI h (by unfold Ts; omega) (by rw [hp]; unfold Ps; simp; try omega) (by decide) (by decide)
theorem n49 {m : Mm} {V : Vt} (h : RM m V) {a : Nat} (ha : a < 8) {p j : Nat} (hp : p = 110) (hj : j = a) : m.1 144 p j = V 49 a 0 := by
  have e1 := h.1 49 a 0 (by unfold Ts; omega) (by decide)
  subst hp
  rw [show ms 49 * a + 0 = j by unfold ms; simp; omega] at e1
  exact e1
theorem nu49 {m : Mm} {V : Vt} (h : RM m V) {a : Nat} (ha : a < 8) {p j : Nat} (hp : p = 110) (hj : j = a) (x : Int32) : RM (ab_uI m 144 p j x) (uV V 49 a 0 x) := RM_uI h (by unfold Ts; omega) rfl hp (by unfold ms; simp; omega) (by decide) (by decide) (.inl (by decide))
theorem c50 {m : Mm} {V : Vt} {w W : Nat → Nat} (h : RC m V w W) {e s : Nat} (he : e < 2) (hs : s < 4) {p : Nat} (hp : p = 14 + 30 * e + 2 * s) : m.1 50 p 0 = V 50 (4 * e + s) 0 := by
  have e1 := h.1 50 (4 * e + s) 0 (by unfold Ts; omega)
  rw [show Ps 50 (4 * e + s) = p by rw [hp]; unfold Ps; simp; try omega] at e1
  exact e1
theorem cu50 {m : Mm} {V : Vt} {w W : Nat → Nat} (h : RC m V w W) {e s : Nat} (he : e < 2) (hs : s < 4) {p : Nat} (hp : p = 14 + 30 * e + 2 * s) (x : Int32) : RC (ab_uI m 50 p 0 x) (uV V 50 (4 * e + s) 0 x) w W := RC_uI h (by unfold Ts; omega) (by rw [hp]; unfold Ps; simp; try omega) (by decide) (by decide)
theorem n50 {m : Mm} {V : Vt} (h : RM m V) {a : Nat} (ha : a < 8) {p j : Nat} (hp : p = 112) (hj : j = a) : m.1 146 p j = V 50 a 0 := by
  have e1 := h.1 50 a 0 (by unfold Ts; omega) (by decide)
  subst hp
  rw [show ms 50 * a + 0 = j by unfold ms; simp; omega] at e1
  exact e1
theorem nu50 {m : Mm} {V : Vt} (h : RM m V) {a : Nat} (ha : a < 8) {p j : Nat} (hp : p = 112) (hj : j = a) (x : Int32) : RM (ab_uI m 146 p j x) (uV V 50 a 0 x) := RM_uI h (by unfold Ts; omega) rfl hp (by unfold ms; simp; omega) (by decide) (by decide) (.inl (by decide))
theorem c51 {m : Mm} {V : Vt} {w W : Nat → Nat} (h : RC m V w W) {e s : Nat} (he : e < 2) (hs : s < 4) {p : Nat} (hp : p = 14 + 30 * e + 2 * s) : m.1 51 p 0 = V 51 (4 * e + s) 0 := by
  have e1 := h.1 51 (4 * e + s) 0 (by unfold Ts; omega)
  rw [show Ps 51 (4 * e + s) = p by rw [hp]; unfold Ps; simp; try omega] at e1
  exact e1
theorem cu51 {m : Mm} {V : Vt} {w W : Nat → Nat} (h : RC m V w W) {e s : Nat} (he : e < 2) (hs : s < 4) {p : Nat} (hp : p = 14 + 30 * e + 2 * s) (x : Int32) : RC (ab_uI m 51 p 0 x) (uV V 51 (4 * e + s) 0 x) w W := RC_uI h (by unfold Ts; omega) (by rw [hp]; unfold Ps; simp; try omega) (by decide) (by decide)
theorem n51 {m : Mm} {V : Vt} (h : RM m V) {a : Nat} (ha : a < 8) {p j : Nat} (hp : p = 113) (hj : j = a) : m.1 147 p j = V 51 a 0 := by
  have e1 := h.1 51 a 0 (by unfold Ts; omega) (by decide)
  subst hp
  rw [show ms 51 * a + 0 = j by unfold ms; simp; omega] at e1
  exact e1
theorem nu51 {m : Mm} {V : Vt} (h : RM m V) {a : Nat} (ha : a < 8) {p j : Nat} (hp : p = 113) (hj : j = a) (x : Int32) : RM (ab_uI m 147 p j x) (uV V 51 a 0 x) := RM_uI h (by unfold Ts; omega) rfl hp (by unfold ms; simp; omega) (by decide) (by decide) (.inl (by decide))
theorem c52 {m : Mm} {V : Vt} {w W : Nat → Nat} (h : RC m V w W) {e s : Nat} (he : e < 2) (hs : s < 4) {p : Nat} (hp : p = 14 + 30 * e + 2 * s) : m.1 52 p 0 = V 52 (4 * e + s) 0 := by
  have e1 := h.1 52 (4 * e + s) 0 (by unfold Ts; omega)
  rw [show Ps 52 (4 * e + s) = p by rw [hp]; unfold Ps; simp; try omega] at e1
  exact e1
theorem cu52 {m : Mm} {V : Vt} {w W : Nat → Nat} (h : RC m V w W) {e s : Nat} (he : e < 2) (hs : s < 4) {p : Nat} (hp : p = 14 + 30 * e + 2 * s) (x : Int32) : RC (ab_uI m 52 p 0 x) (uV V 52 (4 * e + s) 0 x) w W := RC_uI h (by unfold Ts; omega) (by rw [hp]; unfold Ps; simp; try omega) (by decide) (by decide)
theorem n52 {m : Mm} {V : Vt} (h : RM m V) {a : Nat} (ha : a < 8) {p j : Nat} (hp : p = 114) (hj : j = a) : m.1 148 p j = V 52 a 0 := by
  have e1 := h.1 52 a 0 (by unfold Ts; omega) (by decide)
  subst hp
  rw [show ms 52 * a + 0 = j by unfold ms; simp; omega] at e1
  exact e1
theorem nu52 {m : Mm} {V : Vt} (h : RM m V) {a : Nat} (ha : a < 8) {p j : Nat} (hp : p = 114) (hj : j = a) (x : Int32) : RM (ab_uI m 148 p j x) (uV V 52 a 0 x) := RM_uI h (by unfold Ts; omega) rfl hp (by unfold ms; simp; omega) (by decide) (by decide) (.inl (by decide))
theorem c53 {m : Mm} {V : Vt} {w W : Nat → Nat} (h : RC m V w W) {e s : Nat} (he : e < 2) (hs : s < 4) {b : Nat} (hb : b < 64) {p : Nat} (hp : p = 15 + 30 * e + 2 * s) : m.1 53 p b = V 53 (4 * e + s) b := by
  have e1 := h.1 53 (4 * e + s) b (by unfold Ts; omega)
  rw [show Ps 53 (4 * e + s) = p by rw [hp]; unfold Ps; simp; try omega] at e1
  exact e1
theorem cu53 {m : Mm} {V : Vt} {w W : Nat → Nat} (h : RC m V w W) {e s : Nat} (he : e < 2) (hs : s < 4) {b : Nat} (hb : b < 64) {p : Nat} (hp : p = 15 + 30 * e + 2 * s) (x : Int32) : RC (ab_uI m 53 p b x) (uV V 53 (4 * e + s) b x) w W := RC_uI h (by unfold Ts; omega) (by rw [hp]; unfold Ps; simp; try omega) (by decide) (by decide)
theorem n53 {m : Mm} {V : Vt} (h : RM m V) {a : Nat} (ha : a < 8) {b : Nat} (hb : b < 64) {p j : Nat} (hp : p = 108) (hj : j = (64 * a + b)) : m.1 142 p j = V 53 a b := by
  have e1 := h.1 53 a b (by unfold Ts; omega) (by decide)
  subst hp
  rw [show ms 53 * a + b = j by unfold ms; simp; omega] at e1
  exact e1
theorem nu53 {m : Mm} {V : Vt} (h : RM m V) {a : Nat} (ha : a < 8) {b : Nat} (hb : b < 64) {p j : Nat} (hp : p = 108) (hj : j = (64 * a + b)) (x : Int32) : RM (ab_uI m 142 p j x) (uV V 53 a b x) := RM_uI h (by unfold Ts; omega) rfl hp (by unfold ms; simp; omega) (by decide) (by decide) (.inl (by decide))
theorem c55 {m : Mm} {V : Vt} {w W : Nat → Nat} (h : RC m V w W) {e : Nat} (he : e < 2) {p : Nat} (hp : p = 22 + 30 * e) : m.1 55 p 0 = V 55 e 0 := by
  have e1 := h.1 55 e 0 (by unfold Ts; omega)
  rw [show Ps 55 e = p by rw [hp]; unfold Ps; simp; try omega] at e1
  exact e1
theorem cu55 {m : Mm} {V : Vt} {w W : Nat → Nat} (h : RC m V w W) {e : Nat} (he : e < 2) {p : Nat} (hp : p = 22 + 30 * e) (x : Int32) : RC (ab_uI m 55 p 0 x) (uV V 55 e 0 x) w W := RC_uI h (by unfold Ts; omega) (by rw [hp]; unfold Ps; simp; try omega) (by decide) (by decide)
theorem n55 {m : Mm} {V : Vt} (h : RM m V) {e : Nat} (he : e < 2) {p j : Nat} (hp : p = 115) (hj : j = e) : m.1 149 p j = V 55 e 0 := by
  have e1 := h.1 55 e 0 (by unfold Ts; omega) (by decide)
  subst hp
  rw [show ms 55 * e + 0 = j by unfold ms; simp; omega] at e1
  exact e1
theorem nu55 {m : Mm} {V : Vt} (h : RM m V) {e : Nat} (he : e < 2) {p j : Nat} (hp : p = 115) (hj : j = e) (x : Int32) : RM (ab_uI m 149 p j x) (uV V 55 e 0 x) := RM_uI h (by unfold Ts; omega) rfl hp (by unfold ms; simp; omega) (by decide) (by decide) (.inl (by decide))
theorem c59 {m : Mm} {V : Vt} {w W : Nat → Nat} (h : RC m V w W) {e s : Nat} (he : e < 2) (hs : s < 4) {p : Nat} (hp : p = 24 + 30 * e + 3 * s) : m.1 59 p 0 = V 59 (4 * e + s) 0 := by
  have e1 := h.1 59 (4 * e + s) 0 (by unfold Ts; omega)
  rw [show Ps 59 (4 * e + s) = p by rw [hp]; unfold Ps; simp; try omega] at e1
  exact e1
theorem cu59 {m : Mm} {V : Vt} {w W : Nat → Nat} (h : RC m V w W) {e s : Nat} (he : e < 2) (hs : s < 4) {p : Nat} (hp : p = 24 + 30 * e + 3 * s) (x : Int32) : RC (ab_uI m 59 p 0 x) (uV V 59 (4 * e + s) 0 x) w W := RC_uI h (by unfold Ts; omega) (by rw [hp]; unfold Ps; simp; try omega) (by decide) (by decide)
theorem n59 {m : Mm} {V : Vt} (h : RM m V) {a : Nat} (ha : a < 8) {p j : Nat} (hp : p = 101) (hj : j = a) : m.1 135 p j = V 59 a 0 := by
  have e1 := h.1 59 a 0 (by unfold Ts; omega) (by decide)
  subst hp
  rw [show ms 59 * a + 0 = j by unfold ms; simp; omega] at e1
  exact e1
theorem nu59 {m : Mm} {V : Vt} (h : RM m V) {a : Nat} (ha : a < 8) {p j : Nat} (hp : p = 101) (hj : j = a) (x : Int32) : RM (ab_uI m 135 p j x) (uV V 59 a 0 x) := RM_uI h (by unfold Ts; omega) rfl hp (by unfold ms; simp; omega) (by decide) (by decide) (.inl (by decide))
theorem c60 {m : Mm} {V : Vt} {w W : Nat → Nat} (h : RC m V w W) {e s : Nat} (he : e < 2) (hs : s < 4) {p : Nat} (hp : p = 24 + 30 * e + 3 * s) : m.1 60 p 0 = V 60 (4 * e + s) 0 := by
  have e1 := h.1 60 (4 * e + s) 0 (by unfold Ts; omega)
  rw [show Ps 60 (4 * e + s) = p by rw [hp]; unfold Ps; simp; try omega] at e1
  exact e1
theorem cu60 {m : Mm} {V : Vt} {w W : Nat → Nat} (h : RC m V w W) {e s : Nat} (he : e < 2) (hs : s < 4) {p : Nat} (hp : p = 24 + 30 * e + 3 * s) (x : Int32) : RC (ab_uI m 60 p 0 x) (uV V 60 (4 * e + s) 0 x) w W := RC_uI h (by unfold Ts; omega) (by rw [hp]; unfold Ps; simp; try omega) (by decide) (by decide)
theorem n60 {m : Mm} {V : Vt} (h : RM m V) {a : Nat} (ha : a < 8) {p j : Nat} (hp : p = 102) (hj : j = a) : m.1 136 p j = V 60 a 0 := by
  have e1 := h.1 60 a 0 (by unfold Ts; omega) (by decide)
  subst hp
  rw [show ms 60 * a + 0 = j by unfold ms; simp; omega] at e1
  exact e1
theorem nu60 {m : Mm} {V : Vt} (h : RM m V) {a : Nat} (ha : a < 8) {p j : Nat} (hp : p = 102) (hj : j = a) (x : Int32) : RM (ab_uI m 136 p j x) (uV V 60 a 0 x) := RM_uI h (by unfold Ts; omega) rfl hp (by unfold ms; simp; omega) (by decide) (by decide) (.inl (by decide))
theorem c61 {m : Mm} {V : Vt} {w W : Nat → Nat} (h : RC m V w W) {e s : Nat} (he : e < 2) (hs : s < 4) {p : Nat} (hp : p = 24 + 30 * e + 3 * s) : m.1 61 p 0 = V 61 (4 * e + s) 0 := by
  have e1 := h.1 61 (4 * e + s) 0 (by unfold Ts; omega)
  rw [show Ps 61 (4 * e + s) = p by rw [hp]; unfold Ps; simp; try omega] at e1
  exact e1
theorem cu61 {m : Mm} {V : Vt} {w W : Nat → Nat} (h : RC m V w W) {e s : Nat} (he : e < 2) (hs : s < 4) {p : Nat} (hp : p = 24 + 30 * e + 3 * s) (x : Int32) : RC (ab_uI m 61 p 0 x) (uV V 61 (4 * e + s) 0 x) w W := RC_uI h (by unfold Ts; omega) (by rw [hp]; unfold Ps; simp; try omega) (by decide) (by decide)
theorem n61 {m : Mm} {V : Vt} (h : RM m V) {a : Nat} (ha : a < 8) {p j : Nat} (hp : p = 105) (hj : j = a) : m.1 139 p j = V 61 a 0 := by
  have e1 := h.1 61 a 0 (by unfold Ts; omega) (by decide)
  subst hp
  rw [show ms 61 * a + 0 = j by unfold ms; simp; omega] at e1
  exact e1
theorem nu61 {m : Mm} {V : Vt} (h : RM m V) {a : Nat} (ha : a < 8) {p j : Nat} (hp : p = 105) (hj : j = a) (x : Int32) : RM (ab_uI m 139 p j x) (uV V 61 a 0 x) := RM_uI h (by unfold Ts; omega) rfl hp (by unfold ms; simp; omega) (by decide) (by decide) (.inl (by decide))
theorem c62 {m : Mm} {V : Vt} {w W : Nat → Nat} (h : RC m V w W) {e s : Nat} (he : e < 2) (hs : s < 4) {p : Nat} (hp : p = 24 + 30 * e + 3 * s) : m.1 62 p 0 = V 62 (4 * e + s) 0 := by
  have e1 := h.1 62 (4 * e + s) 0 (by unfold Ts; omega)
  rw [show Ps 62 (4 * e + s) = p by rw [hp]; unfold Ps; simp; try omega] at e1
  exact e1
theorem cu62 {m : Mm} {V : Vt} {w W : Nat → Nat} (h : RC m V w W) {e s : Nat} (he : e < 2) (hs : s < 4) {p : Nat} (hp : p = 24 + 30 * e + 3 * s) (x : Int32) : RC (ab_uI m 62 p 0 x) (uV V 62 (4 * e + s) 0 x) w W := RC_uI h (by unfold Ts; omega) (by rw [hp]; unfold Ps; simp; try omega) (by decide) (by decide)
theorem n62 {m : Mm} {V : Vt} (h : RM m V) {a : Nat} (ha : a < 8) {p j : Nat} (hp : p = 106) (hj : j = a) : m.1 140 p j = V 62 a 0 := by
  have e1 := h.1 62 a 0 (by unfold Ts; omega) (by decide)
  subst hp
  rw [show ms 62 * a + 0 = j by unfold ms; simp; omega] at e1
  exact e1
theorem nu62 {m : Mm} {V : Vt} (h : RM m V) {a : Nat} (ha : a < 8) {p j : Nat} (hp : p = 106) (hj : j = a) (x : Int32) : RM (ab_uI m 140 p j x) (uV V 62 a 0 x) := RM_uI h (by unfold Ts; omega) rfl hp (by unfold ms; simp; omega) (by decide) (by decide) (.inl (by decide))
theorem c63 {m : Mm} {V : Vt} {w W : Nat → Nat} (h : RC m V w W) {e s : Nat} (he : e < 2) (hs : s < 4) {p : Nat} (hp : p = 24 + 30 * e + 3 * s) : m.1 63 p 0 = V 63 (4 * e + s) 0 := by
  have e1 := h.1 63 (4 * e + s) 0 (by unfold Ts; omega)
  rw [show Ps 63 (4 * e + s) = p by rw [hp]; unfold Ps; simp; try omega] at e1
  exact e1
theorem cu63 {m : Mm} {V : Vt} {w W : Nat → Nat} (h : RC m V w W) {e s : Nat} (he : e < 2) (hs : s < 4) {p : Nat} (hp : p = 24 + 30 * e + 3 * s) (x : Int32) : RC (ab_uI m 63 p 0 x) (uV V 63 (4 * e + s) 0 x) w W := RC_uI h (by unfold Ts; omega) (by rw [hp]; unfold Ps; simp; try omega) (by decide) (by decide)
theorem n63 {m : Mm} {V : Vt} (h : RM m V) {a : Nat} (ha : a < 8) {p j : Nat} (hp : p = 107) (hj : j = a) : m.1 141 p j = V 63 a 0 := by
  have e1 := h.1 63 a 0 (by unfold Ts; omega) (by decide)
  subst hp
  rw [show ms 63 * a + 0 = j by unfold ms; simp; omega] at e1
  exact e1
theorem nu63 {m : Mm} {V : Vt} (h : RM m V) {a : Nat} (ha : a < 8) {p j : Nat} (hp : p = 107) (hj : j = a) (x : Int32) : RM (ab_uI m 141 p j x) (uV V 63 a 0 x) := RM_uI h (by unfold Ts; omega) rfl hp (by unfold ms; simp; omega) (by decide) (by decide) (.inl (by decide))
theorem c64 {m : Mm} {V : Vt} {w W : Nat → Nat} (h : RC m V w W) {e s : Nat} (he : e < 2) (hs : s < 4) {p : Nat} (hp : p = 24 + 30 * e + 3 * s) : m.1 64 p 0 = V 64 (4 * e + s) 0 := by
  have e1 := h.1 64 (4 * e + s) 0 (by unfold Ts; omega)
  rw [show Ps 64 (4 * e + s) = p by rw [hp]; unfold Ps; simp; try omega] at e1
  exact e1
theorem cu64 {m : Mm} {V : Vt} {w W : Nat → Nat} (h : RC m V w W) {e s : Nat} (he : e < 2) (hs : s < 4) {p : Nat} (hp : p = 24 + 30 * e + 3 * s) (x : Int32) : RC (ab_uI m 64 p 0 x) (uV V 64 (4 * e + s) 0 x) w W := RC_uI h (by unfold Ts; omega) (by rw [hp]; unfold Ps; simp; try omega) (by decide) (by decide)
theorem n64 {m : Mm} {V : Vt} (h : RM m V) {a : Nat} (ha : a < 8) {p j : Nat} (hp : p = 103) (hj : j = a) : m.1 137 p j = V 64 a 0 := by
  have e1 := h.1 64 a 0 (by unfold Ts; omega) (by decide)
  subst hp
  rw [show ms 64 * a + 0 = j by unfold ms; simp; omega] at e1
  exact e1
theorem nu64 {m : Mm} {V : Vt} (h : RM m V) {a : Nat} (ha : a < 8) {p j : Nat} (hp : p = 103) (hj : j = a) (x : Int32) : RM (ab_uI m 137 p j x) (uV V 64 a 0 x) := RM_uI h (by unfold Ts; omega) rfl hp (by unfold ms; simp; omega) (by decide) (by decide) (.inl (by decide))
theorem c65 {m : Mm} {V : Vt} {w W : Nat → Nat} (h : RC m V w W) {e s : Nat} (he : e < 2) (hs : s < 4) {p : Nat} (hp : p = 24 + 30 * e + 3 * s) : m.1 65 p 0 = V 65 (4 * e + s) 0 := by
  have e1 := h.1 65 (4 * e + s) 0 (by unfold Ts; omega)
  rw [show Ps 65 (4 * e + s) = p by rw [hp]; unfold Ps; simp; try omega] at e1
  exact e1
theorem cu65 {m : Mm} {V : Vt} {w W : Nat → Nat} (h : RC m V w W) {e s : Nat} (he : e < 2) (hs : s < 4) {p : Nat} (hp : p = 24 + 30 * e + 3 * s) (x : Int32) : RC (ab_uI m 65 p 0 x) (uV V 65 (4 * e + s) 0 x) w W := RC_uI h (by unfold Ts; omega) (by rw [hp]; unfold Ps; simp; try omega) (by decide) (by decide)
theorem n65 {m : Mm} {V : Vt} (h : RM m V) {a : Nat} (ha : a < 8) {p j : Nat} (hp : p = 104) (hj : j = a) : m.1 138 p j = V 65 a 0 := by
  have e1 := h.1 65 a 0 (by unfold Ts; omega) (by decide)
  subst hp
  rw [show ms 65 * a + 0 = j by unfold ms; simp; omega] at e1
  exact e1
theorem nu65 {m : Mm} {V : Vt} (h : RM m V) {a : Nat} (ha : a < 8) {p j : Nat} (hp : p = 104) (hj : j = a) (x : Int32) : RM (ab_uI m 138 p j x) (uV V 65 a 0 x) := RM_uI h (by unfold Ts; omega) rfl hp (by unfold ms; simp; omega) (by decide) (by decide) (.inl (by decide))
theorem c66 {m : Mm} {V : Vt} {w W : Nat → Nat} (h : RC m V w W) {e s : Nat} (he : e < 2) (hs : s < 4) {b : Nat} (hb : b < 64) {p : Nat} (hp : p = 25 + 30 * e + 3 * s) : m.1 66 p b = V 66 (4 * e + s) b := by
  have e1 := h.1 66 (4 * e + s) b (by unfold Ts; omega)
  rw [show Ps 66 (4 * e + s) = p by rw [hp]; unfold Ps; simp; try omega] at e1
  exact e1
theorem cu66 {m : Mm} {V : Vt} {w W : Nat → Nat} (h : RC m V w W) {e s : Nat} (he : e < 2) (hs : s < 4) {b : Nat} (hb : b < 64) {p : Nat} (hp : p = 25 + 30 * e + 3 * s) (x : Int32) : RC (ab_uI m 66 p b x) (uV V 66 (4 * e + s) b x) w W := RC_uI h (by unfold Ts; omega) (by rw [hp]; unfold Ps; simp; try omega) (by decide) (by decide)
theorem n66 {m : Mm} {V : Vt} (h : RM m V) {a : Nat} (ha : a < 8) {b : Nat} (hb : b < 64) {p j : Nat} (hp : p = 99) (hj : j = (64 * a + b)) : m.1 133 p j = V 66 a b := by
  have e1 := h.1 66 a b (by unfold Ts; omega) (by decide)
  subst hp
  rw [show ms 66 * a + b = j by unfold ms; simp; omega] at e1
  exact e1
theorem nu66 {m : Mm} {V : Vt} (h : RM m V) {a : Nat} (ha : a < 8) {b : Nat} (hb : b < 64) {p j : Nat} (hp : p = 99) (hj : j = (64 * a + b)) (x : Int32) : RM (ab_uI m 133 p j x) (uV V 66 a b x) := RM_uI h (by unfold Ts; omega) rfl hp (by unfold ms; simp; omega) (by decide) (by decide) (.inl (by decide))
theorem c67 {m : Mm} {V : Vt} {w W : Nat → Nat} (h : RC m V w W) {e s : Nat} (he : e < 2) (hs : s < 4) {b : Nat} (hb : b < 64) {p : Nat} (hp : p = 26 + 30 * e + 3 * s) : m.1 67 p b = V 67 (4 * e + s) b := by
  have e1 := h.1 67 (4 * e + s) b (by unfold Ts; omega)
  rw [show Ps 67 (4 * e + s) = p by rw [hp]; unfold Ps; simp; try omega] at e1
  exact e1
theorem cu67 {m : Mm} {V : Vt} {w W : Nat → Nat} (h : RC m V w W) {e s : Nat} (he : e < 2) (hs : s < 4) {b : Nat} (hb : b < 64) {p : Nat} (hp : p = 26 + 30 * e + 3 * s) (x : Int32) : RC (ab_uI m 67 p b x) (uV V 67 (4 * e + s) b x) w W := RC_uI h (by unfold Ts; omega) (by rw [hp]; unfold Ps; simp; try omega) (by decide) (by decide)
theorem n67 {m : Mm} {V : Vt} (h : RM m V) {a : Nat} (ha : a < 8) {b : Nat} (hb : b < 64) {p j : Nat} (hp : p = 100) (hj : j = (64 * a + b)) : m.1 134 p j = V 67 a b := by
  have e1 := h.1 67 a b (by unfold Ts; omega) (by decide)
  subst hp
  rw [show ms 67 * a + b = j by unfold ms; simp; omega] at e1
  exact e1
theorem nu67 {m : Mm} {V : Vt} (h : RM m V) {a : Nat} (ha : a < 8) {b : Nat} (hb : b < 64) {p j : Nat} (hp : p = 100) (hj : j = (64 * a + b)) (x : Int32) : RM (ab_uI m 134 p j x) (uV V 67 a b x) := RM_uI h (by unfold Ts; omega) rfl hp (by unfold ms; simp; omega) (by decide) (by decide) (.inl (by decide))
end
