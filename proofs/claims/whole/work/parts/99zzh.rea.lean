section
/-! read. -/
theorem lr_ok {v0 v3 : Nat} {v1 v2 : Int32} {m m1 : Mm} {x : Int32} (h : r_X_read v0 v1 v2 m = some (x, m1)) : r_Law_read v0 v1 v2 v3 m = some (0, ab_uJ m1 172 v3 0 x.toInt64) := by
  rw [r_Law_read_eq, r_Law_rr_eq, b_Law_rr_0_eq, h, show ab_ix (0 : Int32) 1 = some 0 from by decide]
  simp only [ob_s, lt_eq, rI_some]
theorem lr_no {v0 v3 : Nat} {v1 v2 : Int32} {m m1 : Mm} {pc : Nat} {L : List (Option AV)} (h : b_X_read_0 50000 v0 v1 v2 m = some (.inr (pc, L, [], m1))) : r_Law_read v0 v1 v2 v3 m = (match (bif Nat.beq pc 8 then some m1 else none) with | some m1 => some (1, th_b m1) | none => (match (bif Nat.beq pc 38 then some m1 else none) with | some m1 => some (2, th_b m1) | none => (match (bif Nat.beq pc 57 then some m1 else none) with | some m1 => some (3, th_b m1) | none => (match (bif Nat.beq pc 72 then some m1 else none) with | some m1 => some (4, th_b m1) | none => none)))) := by
  have e : r_X_read v0 v1 v2 m = none := by
    rw [r_X_read_eq, h]
    rfl
  have e2 : r_Law_rr v0 v1 v2 v3 m = none := by
    rw [r_Law_rr_eq, b_Law_rr_0_eq, e]
    rfl
  rw [r_Law_read_eq, e2, h, xs_o, xs_o, xs_o, xs_o]
  rfl
theorem Iv_47 {c : Nat} {V : Vt} {a0 : Nat} {x : Int32} (h : Iv c V) (hx : 0 ≤ x ∧ x ≤ 64) : Iv c (uV V 47 a0 0 x) := by
  refine Iv_k h (by omega) (fun a ha => IO_k (by omega) (h.1 a ha)) (fun a ha => ?_) (fun e he => IE_k (by omega) (h.2.2.1 e he)) (IX_k (by omega) h.2.2.2.1) (fun a ha hl => IR_k (by omega) (h.2.2.2.2.1 a ha hl)) (fun a ha => IS_k (by omega) (h.2.2.2.2.2 a ha))
  have u : ∀ k' a' b', k' ≠ 47 → uV V 47 a0 0 x k' a' b' = V k' a' b' := fun k' a' b' q => uV_k V 47 a0 0 x q
  have g := h.2.1 a ha
  unfold IN at *
  simp only [u 48 _ _ (by omega), u 49 _ _ (by omega), u 50 _ _ (by omega), u 51 _ _ (by omega), u 52 _ _ (by omega), u 53 _ _ (by omega)]
  refine ⟨?_, g.2⟩
  unfold uV
  split
  · exact hx
  · exact g.1
theorem J_read {c : Nat} {m : Mm} (h : St c m) (hc : c < 512) (v u : Int32) : Jt c (r_Law_read 0 v u 138 m) (r_M_read 98 v u) := by
  obtain ⟨V, w, W, h1, h2, h3⟩ := id h
  have bad : ∀ (k : Int32), r_Law_read 0 v u 138 m = some (k, th_b m) → k ≠ 0 → r_M_read 98 v u (th_b m) = some (0, ab_uI (ab_uI (th_b m) 84 98 0 0) 84 98 0 k) → Jt c (r_Law_read 0 v u 138 m) (r_M_read 98 v u) := by
    intro k e1 hk e2
    exact ⟨_, e1, _, e2, uI_s _ _ _ _ _, fun z => absurd z hk, St_more (St_84 (St_84 (St_th h))) (by omega) (by omega)⟩
  by_cases hv : (0 ≤ v ∧ v < 2) ∧ 0 ≤ u ∧ u < 4
  · obtain ⟨e, s, he, hs, rfl, rfl⟩ := okS hv
    have hI := h3.2.1 (4 * e + s) (by omega)
    unfold IN at hI
    obtain ⟨t, ht, h47⟩ := i_ofc (x := V 47 (4 * e + s) 0) (N := 64) hI.1.1 hI.1.2 (by decide)
    have ha : 4 * e + s < 8 := by omega
    have k51 := c51 h1 he hs (p := 0 + 1 + 5 + 30 * e + 6 + 1 + 1 + 2 * s) (by omega)
    have k47 := c47 h1 he hs (p := 0 + 1 + 5 + 30 * e + 6 + 1 + 1 + 2 * s) (by omega)
    have k49 := c49 h1 he hs (p := 0 + 1 + 5 + 30 * e + 6 + 1 + 1 + 2 * s) (by omega)
    have hrd : r_Inc_ready (0 + 1 + 5 + 30 * e + 6 + 1 + 1 + 2 * s) m = some (nI (rd (fun j => m.1 53 (0 + 1 + 5 + 30 * e + 6 + 1 + 1 + 2 * s + 1) j) (64 - t) t), m) := s_ready (by rw [k47, h47]) ht
    have g0 : ∀ M, RM M V → RM (ab_uI M 84 98 0 0) V := fun M hM => RM_sm hM (by unfold Sm; omega)
    have hle : rd (fun j => m.1 53 (0 + 1 + 5 + 30 * e + 6 + 1 + 1 + 2 * s + 1) j) (64 - t) t ≤ 64 - t := rd_le _ _ _
    by_cases z51 : V 51 (4 * e + s) 0 = 0
    · by_cases z49 : V 47 (4 * e + s) 0 = V 49 (4 * e + s) 0
      · have x : ∃ L, b_X_read_0 50000 0 (nI e) (nI s) m = some (.inr (57, L, [], m)) := by
          rw [b_X_read_0_eq, s_isStream]
          simp only [if_pos hv, ab_ix_nI he (show 2 < 2 ^ 31 by decide), ab_ix_nI hs (show 4 < 2 ^ 31 by decide), k51, k47, k49, ob_s, lt_eq, ib_if]
          rw [if_pos z51, if_pos z49]
          exact ⟨_, rfl⟩
        obtain ⟨L, x⟩ := x
        have x := lr_no (v3 := 138) x
        refine bad 3 x (by decide) ?_
        have g := g0 _ (RM_th h2)
        rw [r_M_read_eq, b_M_read_0_eq]
        simp only [t_isStream, if_pos hv, nI_4, ab_ix_nI ha (show 8 < 2 ^ 31 by decide), n51 g ha (p := 98 + 15) rfl rfl, n49 g ha (p := 98 + 12) rfl rfl, n47 g ha (p := 98 + 13) rfl rfl, ob_s, lt_eq, ib_if, t_fails]
        rw [if_pos z51, if_pos z49.symm]
        rfl
      · by_cases hn : t < 64 ∧ 0 ≤ V 53 (4 * e + s) t
        · have k53 := c53 h1 he hs hn.1 (p := 0 + 1 + 5 + 30 * e + 6 + 1 + 1 + 2 * s + 1) (by omega)
          have hne : ¬ nI (rd (fun j => m.1 53 (0 + 1 + 5 + 30 * e + 6 + 1 + 1 + 2 * s + 1) j) (64 - t) t) = 0 := by
            obtain ⟨q, hq⟩ : ∃ q, 64 - t = q + 1 := ⟨63 - t, by omega⟩
            rw [hq] at hle ⊢
            have e2 : rd (fun j => m.1 53 (0 + 1 + 5 + 30 * e + 6 + 1 + 1 + 2 * s + 1) j) (q + 1) t = rd (fun j => m.1 53 (0 + 1 + 5 + 30 * e + 6 + 1 + 1 + 2 * s + 1) j) q (t + 1) + 1 := by
              refine if_neg ?_
              show ¬ m.1 53 (0 + 1 + 5 + 30 * e + 6 + 1 + 1 + 2 * s + 1) t = -1
              rw [k53]
              have := hn.2
              clear h h1 h2 h3 bad hrd g0 k51 k47 k49 k53 hI hle
              grind
            rw [e2] at hle ⊢
            clear h h1 h2 h3 bad hrd g0 k51 k47 k49 k53 e2 hI
            grind [nI_T]
          have c1 := cu47 h1 he hs (p := 0 + 1 + 5 + 30 * e + 6 + 1 + 1 + 2 * s) (by omega) (nI (t + 1))
          obtain ⟨m3, e3, c3, f3⟩ := s_lookAtLimit c1 he hs (I := 0 + 1 + 5 + 30 * e + 6) (by omega) (n := 0 + 1 + 5 + 30 * e + 6 + 1 + 1 + 2 * s) (by omega)
          obtain ⟨m4, e4, c4, f4⟩ := s_lookAtLimitAll c3 he (I := 0 + 1 + 5 + 30 * e + 6) (by omega)
          have x : r_X_read 0 (nI e) (nI s) m = some (V 53 (4 * e + s) t, m4) := by
            rw [r_X_read_eq, b_X_read_0_eq, s_isStream]
            simp only [if_pos hv, ab_ix_nI he (show 2 < 2 ^ 31 by decide), ab_ix_nI hs (show 4 < 2 ^ 31 by decide), k51, k47, k49, ob_s, lt_eq, ib_if]
            rw [if_pos z51, if_neg z49, hrd]
            simp only [ob_s, lt_eq]
            rw [if_neg hne, r_Int_takeByte_eq, b_Int_takeByte_0_eq, k47, h47, if_pos (by have := hn.1; clear h h1 h2 h3 bad hrd g0 k51 k47 k49 k53 c1 c3 c4 e3 e4 f3 f4 hI; grind [nI_T]), ab_ix_nI hn.1 (by decide)]
            simp only [ob_s, lt_eq]
            rw [nI_1, e3]
            simp only [ob_s, lt_eq]
            rw [e4, k53]
            rfl
          have x := lr_ok (v3 := 138) x
          have fm : FM m m4 := FM_tr (FM_uI (by omega)) (FM_tr (FS_FM f3 (fun r hr => by omega)) (FS_FM f4 (fun r hr => by omega)))
          have g : RM (ab_uJ m4 172 138 0 (V 53 (4 * e + s) t).toInt64) V := RM_uJ (RM_FM h2 fm)
          have g := g0 _ g
          generalize hM : ab_uI (ab_uJ m4 172 138 0 (V 53 (4 * e + s) t).toInt64) 84 98 0 0 = M at g
          have k84 : M.1 84 98 0 = 0 := by rw [← hM]; exact uI_s _ _ _ _ _
          have kJ : M.2.1 172 138 0 = (V 53 (4 * e + s) t).toInt64 := by rw [← hM]; exact uJ_s
          have g1 := nu47 g ha (p := 98 + 13) (j := 4 * e + s) rfl rfl (nI (t + 1))
          have fin : ∀ (f : Nat) (y : Int32), (y = 0 ∨ y = 1) → uV (uV V 47 (4 * e + s) 0 (nI (t + 1))) 52 (4 * e + s) 0 y = lsV1 (uV V 47 (4 * e + s) 0 (nI (t + 1))) e s → ∃ m', ab_rI (b_M_read_169 (f + 1) 98 (nI e) (nI (4 * e + s)) (98 + 16) (nI (4 * e + s)) y (ab_uI M 145 (98 + 13) (4 * e + s) (nI (t + 1)))) = some (V 53 (4 * e + s) t, m') ∧ RM m' (lkV (lsV1 (uV V 47 (4 * e + s) 0 (nI (t + 1))) e s) e) ∧ FS (fun r => r = 145 ∨ r = 148 ∨ r = 157) M m' := by
            intro f y hy hV
            have g2 := nu52 g1 ha (p := 98 + 16) (j := 4 * e + s) rfl rfl y
            rw [hV] at g2
            have h44 : lsV1 (uV V 47 (4 * e + s) 0 (nI (t + 1))) e s 44 e 0 = 0 ∨ lsV1 (uV V 47 (4 * e + s) 0 (nI (t + 1))) e s 44 e 0 = 1 := by
              unfold lsV1
              rw [uV_k _ _ _ _ _ (by decide), uV_k _ _ _ _ _ (by decide)]
              exact (h3.2.2.1 e he).2.2.2.2.2.2.2.2.2.2.2.2.1
            obtain ⟨m5, e5, g5, f5⟩ := t_lookAll g2 he h44
            have bo : ab_bo y = some y := by rcases hy with rfl | rfl <;> decide
            rw [b_M_read_169_eq, ab_ix_nI ha (by decide), bo]
            simp only [ob_s, lt_eq]
            rw [e5]
            simp only [ob_s, lt_eq]
            have k1 := n47 g5 ha (p := 98 + 13) (j := 4 * e + s) rfl rfl
            have k2 := n53 g5 ha hn.1 (p := 98 + 10) (j := 64 * (4 * e + s) + t) rfl rfl
            unfold lkV lsV1 at k1 k2
            rw [uV_k _ _ _ _ _ (by decide), uV_k _ _ _ _ _ (by decide), uV_s] at k1
            rw [uV_k _ _ _ _ _ (by decide), uV_k _ _ _ _ _ (by decide), uV_k _ _ _ _ _ (by decide)] at k2
            rw [k1, nI_64, show nI (64 * (4 * e + s) + (t + 1)) - 1 = nI (64 * (4 * e + s) + t) from by clear h h1 h2 h3 bad hrd g0 k51 k47 k49 k53 c1 c3 c4 e3 e4 f3 f4 g g1 g2 g5 e5 f5 k1 k2 x fm hI hle hne; grind [nI_T], ab_ix_nI (show 64 * (4 * e + s) + t < 512 by omega) (by decide)]
            simp only [ob_s, lt_eq]
            rw [k2]
            exact ⟨m5, rfl, g5, FS_tr (FS_uI (.inl rfl)) (FS_tr (FS_uI (.inr (.inl rfl))) (FS_le f5 (fun r hr => .inr (.inr hr))))⟩
          have y : ∃ m', r_M_read 98 (nI e) (nI s) (ab_uJ m4 172 138 0 (V 53 (4 * e + s) t).toInt64) = some (V 53 (4 * e + s) t, m') ∧ RM m' (lkV (lsV1 (uV V 47 (4 * e + s) 0 (nI (t + 1))) e s) e) ∧ FS (fun r => r = 145 ∨ r = 148 ∨ r = 157) M m' := by
            rw [r_M_read_eq, b_M_read_0_eq]
            simp only [t_isStream, if_pos hv, nI_4, hM, ab_ix_nI ha (show 8 < 2 ^ 31 by decide), n51 g ha (p := 98 + 15) rfl rfl, n49 g ha (p := 98 + 12) rfl rfl, n47 g ha (p := 98 + 13) rfl rfl, ob_s, lt_eq, ib_if]
            rw [if_pos z51, if_neg (fun z => z49 z.symm), h47, if_neg (by have := hn.1; clear h h1 h2 h3 bad hrd g0 k51 k47 k49 k53 c1 c3 c4 e3 e4 f3 f4 g g1 x fm hI fin; grind [nI_T]), nI_64, ab_ix_nI (show 64 * (4 * e + s) + t < 512 by omega) (by decide)]
            simp only [ob_s, lt_eq]
            rw [n53 g ha hn.1 (p := 98 + 10) rfl rfl, if_pos hn.2, nI_1, t_streamTarget g1 he hs]
            simp only [ob_s, lt_eq]
            have k81 := (g1.2.2.1 e he).1
            rw [n52 g1 ha (p := 98 + 16) rfl rfl, n50 g1 ha (p := 98 + 14) rfl rfl, k81, if_neg (show ¬ (2 : Int32) = 0 by decide), b_M_read_164_eq, b_M_read_168_eq]
            have d52 := (Iv_47 (a0 := 4 * e + s) (x := nI (t + 1)) h3 (by have := hn.1; clear h h1 h2 h3 bad hrd g0 k51 k47 k49 k53 c1 c3 c4 e3 e4 f3 f4 g g1 x fm hI fin k81; grind [nI_T])).2.1 (4 * e + s) ha
            unfold IN at d52
            have d52 := d52.2.2.2.1
            generalize hW : uV V 47 (4 * e + s) 0 (nI (t + 1)) = W1 at *
            by_cases q1 : W1 52 (4 * e + s) 0 = 0
            · by_cases q2 : W1 50 (4 * e + s) 0 < strT W1 e s ∧ (W1 41 e 0 / 2 ≤ strT W1 e s - W1 50 (4 * e + s) 0 ∨ strT W1 e s = 64)
              · have r1 := fin 49997 1 (.inr rfl) (by unfold lsV1; rw [if_pos q2])
                rw [if_pos q1, if_neg (by have := q2.1; grind)]
                by_cases q3 : W1 41 e 0 / 2 ≤ strT W1 e s - W1 50 (4 * e + s) 0
                · rw [if_pos q3]
                  exact r1
                · rw [if_neg q3, if_pos (q2.2.resolve_left q3)]
                  exact r1
              · have r0 := fin 49997 0 (.inl rfl) (by unfold lsV1; rw [if_neg q2, q1])
                rw [if_pos q1]
                by_cases q4 : strT W1 e s ≤ W1 50 (4 * e + s) 0
                · rw [if_pos q4]
                  exact r0
                · have q5 : W1 50 (4 * e + s) 0 < strT W1 e s := by grind
                  rw [if_neg q4, if_neg (fun z => q2 ⟨q5, .inl z⟩), if_neg (fun z => q2 ⟨q5, .inr z⟩)]
                  exact r0
            · have r1 := fin 49997 1 (.inr rfl) (by
                unfold lsV1
                rw [d52.resolve_left q1]
                split <;> rfl)
              rw [if_neg q1]
              exact r1
          obtain ⟨m5, y, g5, f5⟩ := y
          refine ⟨_, x, _, y, ?_, fun _ => ?_, _, w, W, ?_, g5, ?_⟩
          · show m5.1 84 98 0 = 0
            rw [FS_g f5 84 98 0 (by omega), k84]
          · show m5.2.1 172 138 0 = _
            rw [f5.2, kJ]
          · refine RC_FC ?_ (FS_FC f5 (fun r hr => by omega))
            rw [← hM]
            exact RC_FC (RC_uJ c4) (FC_uI (by omega))
          · refine Iv_more (Iv_lk ?_ he) (by omega : c ≤ c + 1) (by omega)
            have i1 := Iv_47 (a0 := 4 * e + s) (x := nI (t + 1)) h3 (by have := hn.1; clear h h1 h2 h3 bad hrd g0 k51 k47 k49 k53 c1 c3 c4 e3 e4 f3 f4 g g1 g5 f5 x y fm hI fin; grind [nI_T])
            unfold lsV1
            refine Iv_52 i1 ?_
            split
            · exact .inr rfl
            · have d := i1.2.1 (4 * e + s) ha
              unfold IN at d
              exact d.2.2.2.1
        · have hz : nI (rd (fun j => m.1 53 (0 + 1 + 5 + 30 * e + 6 + 1 + 1 + 2 * s + 1) j) (64 - t) t) = 0 := by
            by_cases ht' : t < 64
            · have k53 := c53 h1 he hs ht' (p := 0 + 1 + 5 + 30 * e + 6 + 1 + 1 + 2 * s + 1) (by omega)
              obtain ⟨q, hq⟩ : ∃ q, 64 - t = q + 1 := ⟨63 - t, by omega⟩
              rw [hq]
              unfold rd
              rw [if_pos]
              · rfl
              · show m.1 53 (0 + 1 + 5 + 30 * e + 6 + 1 + 1 + 2 * s + 1) t = -1
                rw [k53]
                have a1 := (hI.2.2.2.2.1 t ht').1
                have a2 : ¬ 0 ≤ V 53 (4 * e + s) t := fun z => hn ⟨ht', z⟩
                clear h h1 h2 h3 bad hrd g0 k51 k47 k49 k53 hI
                grind
            · rw [show 64 - t = 0 by omega]
              rfl
          have x : ∃ L, b_X_read_0 50000 0 (nI e) (nI s) m = some (.inr (72, L, [], m)) := by
            rw [b_X_read_0_eq, s_isStream]
            simp only [if_pos hv, ab_ix_nI he (show 2 < 2 ^ 31 by decide), ab_ix_nI hs (show 4 < 2 ^ 31 by decide), k51, k47, k49, ob_s, lt_eq, ib_if]
            rw [if_pos z51, if_neg z49, hrd]
            simp only [ob_s, lt_eq]
            rw [if_pos hz]
            exact ⟨_, rfl⟩
          obtain ⟨L, x⟩ := x
          have x := lr_no (v3 := 138) x
          refine bad 4 x (by decide) ?_
          have g := g0 _ (RM_th h2)
          rw [r_M_read_eq, b_M_read_0_eq]
          simp only [t_isStream, if_pos hv, nI_4, ab_ix_nI ha (show 8 < 2 ^ 31 by decide), n51 g ha (p := 98 + 15) rfl rfl, n49 g ha (p := 98 + 12) rfl rfl, n47 g ha (p := 98 + 13) rfl rfl, ob_s, lt_eq, ib_if]
          rw [if_pos z51, if_neg (fun z => z49 z.symm), b_M_read_91_eq, t_fails, h47]
          by_cases ht' : t < 64
          · rw [if_neg (by clear h h1 h2 h3 bad hrd g0 k51 k47 k49 x g hI; grind [nI_T]), nI_64, ab_ix_nI (show 64 * (4 * e + s) + t < 512 by omega) (by decide)]
            simp only [ob_s, lt_eq]
            rw [n53 g ha ht' (p := 98 + 10) rfl rfl, if_neg (fun z => hn ⟨ht', z⟩)]
            rfl
          · rw [if_pos (by clear h h1 h2 h3 bad hrd g0 k51 k47 k49 x g hI; grind [nI_T])]
            rfl
    · have x : ∃ L, b_X_read_0 50000 0 (nI e) (nI s) m = some (.inr (38, L, [], m)) := by
        rw [b_X_read_0_eq, s_isStream]
        simp only [if_pos hv, ab_ix_nI he (show 2 < 2 ^ 31 by decide), ab_ix_nI hs (show 4 < 2 ^ 31 by decide), k51, k47, k49, ob_s, lt_eq, ib_if]
        rw [if_neg z51]
        exact ⟨_, rfl⟩
      obtain ⟨L, x⟩ := x
      have x := lr_no (v3 := 138) x
      refine bad 2 x (by decide) ?_
      have g := g0 _ (RM_th h2)
      rw [r_M_read_eq, b_M_read_0_eq]
      simp only [t_isStream, if_pos hv, nI_4, ab_ix_nI ha (show 8 < 2 ^ 31 by decide), n51 g ha (p := 98 + 15) rfl rfl, ob_s, lt_eq, ib_if, t_fails]
      rw [if_neg z51]
      rfl
  · have x : ∃ L, b_X_read_0 50000 0 v u m = some (.inr (8, L, [], m)) := by
      rw [b_X_read_0_eq, s_isStream]
      simp only [ob_s, lt_eq, ib_if]
      rw [if_neg hv]
      exact ⟨_, rfl⟩
    obtain ⟨L, x⟩ := x
    have x := lr_no (v3 := 138) x
    refine bad 1 x (by decide) ?_
    rw [r_M_read_eq, b_M_read_0_eq]
    simp only [t_isStream, ob_s, lt_eq, ib_if, t_fails]
    rw [if_neg hv]
    rfl
end
