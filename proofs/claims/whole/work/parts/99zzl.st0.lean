section
/-! The state with which the loop begins. -/
def dA (k : Nat) : Nat := if k ≤ 7 ∨ k = 14 then 1 else if k < 46 then 2 else if k = 55 then 2 else 8
def dB (k : Nat) : Nat := if k = 14 then 37 else if k = 31 then 320 else if k = 53 ∨ k = 66 ∨ k = 67 then 64 else 1
theorem Ts_d {k a b : Nat} (h : Ts k a b) : k < 68 ∧ a < dA k ∧ b < dB k := by
  unfold Ts at h
  unfold dA dB
  refine ⟨by omega, ?_, ?_⟩ <;> (repeat' split) <;> omega
def cV (k a b : Nat) : Nat := look L0 k (Ps k a) b
theorem look_no {r p j : Nat} : ∀ {L : List Op}, (L.all fun q => !Nat.beq r q.1) = true → look L r p j = 0
  | [], _ => rfl
  | (r1, p1, j1, none, c) :: t, h => by
    rw [List.all_cons, Bool.and_eq_true] at h
    have e : Nat.beq r r1 = false := by simpa using h.1
    unfold look
    rw [e]
    exact look_no h.2
  | (r1, p1, lo, some hi, c) :: t, h => by
    rw [List.all_cons, Bool.and_eq_true] at h
    have e : Nat.beq r r1 = false := by simpa using h.1
    unfold look
    rw [e]
    exact look_no h.2
theorem st_RM : ((List.range 68).all fun k => Nat.beq (mr k) 0 || (!Nat.beq (dB k) 1 || ((List.range (dA k)).all fun a => Nat.beq (look L0 (mr k) (mr k - 34) (ms k * a)) (cV k a 0)))) = true := by decide +kernel
set_option maxRecDepth 100000 in
theorem st_142 : ∀ j, j < 512 → look L0 142 108 j = 1 := by decide +kernel
theorem st_z {k p j : Nat} (h : k = 31 ∨ k = 66 ∨ k = 67 ∨ k = 14 ∨ k = 161 ∨ k = 133 ∨ k = 134 ∨ k = 169) : look L0 k p j = 0 := by
  rcases h with rfl | rfl | rfl | rfl | rfl | rfl | rfl | rfl <;> exact look_no (by decide +kernel)
theorem st_8 : ∀ a, a < 8 → cV 59 a 0 = 0 ∧ cV 60 a 0 = 0 ∧ cV 61 a 0 = 2 ∧ cV 62 a 0 = 0 ∧ cV 64 a 0 = 0 ∧ cV 47 a 0 = 0 ∧ cV 48 a 0 = 0 ∧ cV 49 a 0 = 1 ∧ cV 50 a 0 = 2 ∧ cV 51 a 0 = 0 ∧ cV 52 a 0 = 0 := by decide +kernel
set_option maxRecDepth 100000 in
theorem st_8b : ∀ a, a < 8 → ∀ b, b < 64 → cV 53 a b = 1 := by decide +kernel
theorem st_2 : ∀ e, e < 2 → cV 21 e 0 = 0 ∧ cV 22 e 0 = 1 ∧ cV 23 e 0 = 0 ∧ cV 24 e 0 = 1 ∧ cV 25 e 0 = 0 ∧ cV 26 e 0 = 0 ∧ cV 28 e 0 = 0 ∧ cV 30 e 0 = 1 ∧ cV 41 e 0 = 2 ∧ cV 42 e 0 = 3 ∧ cV 43 e 0 = 3 ∧ cV 44 e 0 = 0 ∧ cV 55 e 0 = 3 ∧ cV 8 e 0 = 0 := by decide +kernel
theorem st_1 : cV 5 0 0 = 0 ∧ cV 6 0 0 = 0 ∧ cV 7 0 0 = 0 := by decide +kernel
theorem st_m : look L0 118 98 0 = 0 ∧ look L0 126 98 0 = 0 ∧ look L0 83 98 0 = 0 ∧ look L0 81 98 0 = 2 ∧ look L0 82 98 0 = 3 ∧ (∀ e, e < 2 → look L0 155 121 e = 0 ∧ look L0 158 124 e = 0) ∧ look L0 15 6 0 = 4 ∧ look L0 15 36 0 = 5 := by decide +kernel
theorem and15 (x : Int32) : 4 ≤ 4 + (x &&& 15) ∧ 4 + (x &&& 15) ≤ 19 := by
  have e : (x &&& 15) = nI (x.toBitVec.toNat % 2 ^ 4) := by
    rw [← nI_mod (n := x.toBitVec.toNat) 4]
    congr 1
    apply Int32.toBitVec_inj.mp
    rw [nI_bv, BitVec.ofNat_toNat, BitVec.setWidth_eq]
  rw [e]
  have : x.toBitVec.toNat % 2 ^ 4 < 2 ^ 4 := Nat.mod_lt _ (by decide)
  grind [nI_T]
theorem and31 (x : Int32) : 8 ≤ 8 + (x &&& 31) ∧ 8 + (x &&& 31) ≤ 39 := by
  have e : (x &&& 31) = nI (x.toBitVec.toNat % 2 ^ 5) := by
    rw [← nI_mod (n := x.toBitVec.toNat) 5]
    congr 1
    apply Int32.toBitVec_inj.mp
    rw [nI_bv, BitVec.ofNat_toNat, BitVec.setWidth_eq]
  rw [e]
  have : x.toBitVec.toNat % 2 ^ 5 < 2 ^ 5 := Nat.mod_lt _ (by decide)
  grind [nI_T]
theorem st_w : ∀ a, a < 16 → (lm 0 0).2.2.1 9 2 a = some (66 + 2 * a) := by decide +kernel
theorem St_lm (x y : Int32) (ks : List Nat) : St 0 (ab_ks (lm x y) ks) := by
  have hv : ∀ r p j, (ab_ks (lm x y) ks).1 r p j = vc (4 + (x &&& 15)) (8 + (y &&& 31)) (look L0 r p j) := by
    intro r p j
    rw [← look_run, ← lm_1]
    rfl
  have hw : ∀ a, a < 16 → (ab_ks (lm x y) ks).2.2.1 9 2 a = some (66 + 2 * a) := by
    intro a ha
    rw [← st_w a ha, ← lm_2 x y]
    rfl
  have bs := and15 x
  have bw := and31 y
  generalize ab_ks (lm x y) ks = m at *
  generalize 4 + (x &&& 15) = sw at *
  generalize 8 + (y &&& 31) = wi at *
  have V0 : ∀ k a b, (fun k a b => vc sw wi (cV k a b) : Vt) k a b = vc sw wi (cV k a b) := fun _ _ _ => rfl
  generalize hV : (fun k a b => vc sw wi (cV k a b) : Vt) = V at *
  have vc0 : vc sw wi 0 = 0 := rfl
  have vc1 : vc sw wi 1 = -1 := rfl
  have vc2 : vc sw wi 2 = sw := rfl
  have vc3 : vc sw wi 3 = wi := rfl
  have z5 : V 5 0 0 = 0 := by rw [V0, st_1.1]; rfl
  have z7 : V 7 0 0 = 0 := by rw [V0, st_1.2.2]; rfl
  have nsa : ∀ a, ¬ Sa V a := by
    intro a ha
    unfold Sa at ha
    have := ha.2.2
    rw [V0, (st_2 (a / 560) (by omega)).1] at this
    have z : nI (a % 560) < (0 : Int32) := this
    have := ha.2.1
    clear hv hw V0 hV ha
    grind [nI_T]
  have nw : ∀ a, a < 16 → ¬ nI a < V 5 0 0 := by
    intro a ha z
    rw [z5] at z
    clear hv hw V0 hV nsa
    grind [nI_T]
  refine ⟨V, fun a => 66 + 2 * a, fun _ => 0, ⟨?_, hw, fun a ha hl => absurd hl (nw a ha), fun a ha => absurd ha (nsa a), ?_, ?_, fun a ha => absurd ha (nsa a), fun a b ha => absurd ha (nsa a)⟩, ⟨?_, ?_, ?_, fun a ha hl => absurd hl (nw a ha), fun a ha => absurd ha (nsa a)⟩, ?_, ?_, ?_, ?_, fun a ha hl => absurd hl (nw a ha), fun a ha => absurd ha (nsa a)⟩
  · intro k a b _
    rw [hv, V0]
    rfl
  · intro e he
    rcases (show e = 0 ∨ e = 1 by omega) with rfl | rfl
    · rw [hv, st_m.2.2.2.2.2.2.1]; rfl
    · rw [hv, st_m.2.2.2.2.2.2.2]; rfl
  · exact ⟨fun a ha => by dsimp only; omega, fun a b ha hb h => by dsimp only at h; omega⟩
  · intro k a b t z
    obtain ⟨h1, h2, h3⟩ := Ts_d t
    rw [hv, V0]
    by_cases k1 : k = 31 ∨ k = 66 ∨ k = 67 ∨ k = 14
    · have e1 : cV k a b = 0 := st_z (by omega)
      rw [e1, st_z (by rcases k1 with rfl | rfl | rfl | rfl <;> simp [mr])]
    · by_cases k2 : k = 53
      · subst k2
        rw [st_8b a (by unfold dA at h2; simpa using h2) b (by unfold dB at h3; simpa using h3)]
        have : look L0 (mr 53) (mr 53 - 34) (ms 53 * a + b) = 1 := st_142 (64 * a + b) (by unfold dA at h2; unfold dB at h3; simp at h2 h3; omega)
        rw [this]
      · have d : dB k = 1 := by unfold dB; rw [if_neg (by omega), if_neg (by omega), if_neg (by omega)]
        have q := List.all_eq_true.mp st_RM k (List.mem_range.mpr h1)
        rw [Bool.or_eq_true, Bool.or_eq_true, d] at q
        rw [d] at h3
        obtain rfl : b = 0 := by omega
        rcases q with q | q | q
        · exact absurd (Nat.eq_of_beq_eq_true q) z
        · cases q
        · have q := List.all_eq_true.mp q a (List.mem_range.mpr h2)
          rw [Nat.add_zero, Nat.eq_of_beq_eq_true q]
  · rw [hv, hv, hv, z5, V0, z7, st_m.1, st_m.2.1, st_m.2.2.1, st_1.2.1]
    exact ⟨rfl, rfl, rfl⟩
  · intro e he
    have q := st_2 e he
    have r := st_m.2.2.2.2.2.1 e he
    refine ⟨?_, ?_, ?_, fun _ => ?_⟩
    · rw [hv, V0, st_m.2.2.2.1, q.2.2.2.2.2.2.2.2.1]
    · rw [hv, V0, st_m.2.2.2.2.1, q.2.2.2.2.2.2.2.2.2.1]
    · rw [hv, V0, V0, r.1, q.2.2.2.2.1, q.2.2.2.2.2.2.2.2.2.2.2.2.2, vc0]
      decide
    · rw [hv, V0, r.2, q.2.2.2.2.2.1]
  · intro a ha
    obtain ⟨q1, q2, q3, q4, q5, -⟩ := st_8 a ha
    unfold IO
    rw [V0 59, V0 60, V0 61, V0 62, V0 64, q1, q2, q3, q4, q5, vc0, vc2]
    refine ⟨⟨by decide, by decide, by decide⟩, fun z => absurd rfl z, fun b hb _ => ?_, ?_, fun b hb => ?_⟩
    · rw [V0, show cV 67 a b = 0 from st_z (by omega)]
      rfl
    · show 0 ≤ sw ∧ sw < 1073741824
      clear hv hw V0 hV nsa nw z5 z7 bw
      grind
    · rw [V0, show cV 66 a b = 0 from st_z (by omega), vc0]
      exact ⟨by decide, by decide⟩
  · intro a ha
    obtain ⟨-, -, -, -, -, q1, q2, q3, q4, q5, q6⟩ := st_8 a ha
    unfold IN
    rw [V0 47, V0 48, V0 49, V0 50, V0 51, V0 52, q1, q2, q3, q4, q5, q6, vc0, vc1, vc2]
    refine ⟨⟨by decide, by decide⟩, ⟨(by decide : (0 : Int32) ≤ 0), (by decide : (0 : Int32) ≤ 64), ?_⟩, ⟨(by decide : (-1 : Int32) ≤ -1), (by decide : (-1 : Int32) ≤ 64)⟩, .inl rfl, fun b hb => ?_, fun z => absurd rfl z⟩
    · show sw ≤ 64
      clear hv hw V0 hV nsa nw z5 z7 bw
      grind
    · rw [V0, st_8b a ha b hb]
      exact ⟨(by decide : (-1 : Int32) ≤ -1), (by decide : (-1 : Int32) ≤ 255)⟩
  · intro e he
    obtain ⟨q21, q22, q23, q24, q25, q26, q28, q30, q41, q42, q43, q44, q55, q8⟩ := st_2 e he
    have v21 : V 21 e 0 = 0 := by rw [V0, q21]; rfl
    have v22 : V 22 e 0 = -1 := by rw [V0, q22]; rfl
    have v23 : V 23 e 0 = 0 := by rw [V0, q23]; rfl
    have v24 : V 24 e 0 = -1 := by rw [V0, q24]; rfl
    have v25 : V 25 e 0 = 0 := by rw [V0, q25]; rfl
    have v26 : V 26 e 0 = 0 := by rw [V0, q26]; rfl
    have v28 : V 28 e 0 = 0 := by rw [V0, q28]; rfl
    have v30 : V 30 e 0 = -1 := by rw [V0, q30]; rfl
    have v41 : V 41 e 0 = sw := by rw [V0, q41]; rfl
    have v42 : V 42 e 0 = wi := by rw [V0, q42]; rfl
    have v43 : V 43 e 0 = wi := by rw [V0, q43]; rfl
    have v44 : V 44 e 0 = 0 := by rw [V0, q44]; rfl
    have v55 : V 55 e 0 = wi := by rw [V0, q55]; rfl
    have v8 : V 8 e 0 = 0 := by rw [V0, q8]; rfl
    unfold IE
    rw [v21, v22, v23, v24, v25, v26, v28, v30, v41, v42, v43, v44, v55, v8, z7]
    refine ⟨⟨by decide, by decide⟩, by decide, ⟨by decide, by decide⟩, .inr rfl, ⟨by decide, by decide⟩, .inl rfl, (fun z => absurd z (by decide)), ⟨by decide, by decide⟩, fun n hn z => ?_, bs, bw, ?_, .inl rfl, ?_, rfl, fun _ => rfl, by decide⟩
    · clear hv hw V0 hV nsa nw z5 z7 bw bs
      exfalso
      grind [nI_T]
    · clear hv hw V0 hV nsa nw z5 z7 bs
      grind
    · clear hv hw V0 hV nsa nw z5 z7 bs
      grind
  · unfold IX
    rw [z5, z7, V0 6, st_1.2.1, vc0]
    refine ⟨⟨by decide, by decide⟩, ⟨by decide, by decide⟩, ⟨by decide, by decide⟩, fun b hb => ?_⟩
    rw [V0, show cV 14 0 b = 0 from st_z (by omega), vc0]
    exact ⟨by decide, by decide⟩
end
