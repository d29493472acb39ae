section
/-! What the Statement gives at the law's entry. -/
theorem na_spec {args : Array Value} {s : State} {a b : String} (h : (Cond.not (.castable a b)).before args s = true) : th_na (a, b) s := by
  unfold th_na
  simp only [Cond.before, Cond.holds, Cond.value] at h
  cases h1 : s.vm.findClass a with
  | none => simp [h1] at h
  | some c =>
    cases h2 : s.vm.findClass b with
    | none => simp [h1, h2] at h
    | some t => exact ⟨c, t, rfl, rfl, by simpa [h1, h2] using h⟩
theorem bg_X {args : Array Value} {s : State} (hts : ∀ w ∈ lw_tbl, w.before args s = true) : ab_X s := by
  have g : ∀ (i : Nat) (w : Cond), lw_tbl[i]? = some w → w.before args s = true := fun i w h => hts w (List.mem_of_getElem? h)
  refine ⟨?_, ?_⟩
  · unfold ab_gN
    exact List.forall_mem_cons.mpr ⟨va_Nw.of rfl (g 95 _ (by decide +kernel)), List.forall_mem_cons.mpr ⟨va_Nw.of rfl (g 123 _ (by decide +kernel)), List.forall_mem_cons.mpr ⟨va_Nw.of rfl (g 138 _ (by decide +kernel)), List.forall_mem_cons.mpr ⟨va_Nw.of rfl (g 483 _ (by decide +kernel)), List.forall_mem_cons.mpr ⟨va_Nw.of rfl (g 506 _ (by decide +kernel)), List.forall_mem_cons.mpr ⟨va_Nw.of rfl (g 536 _ (by decide +kernel)), List.forall_mem_cons.mpr ⟨va_Nw.of rfl (g 932 _ (by decide +kernel)), fun q hq => by cases hq⟩⟩⟩⟩⟩⟩⟩
  · unfold ab_gO
    exact List.forall_mem_cons.mpr ⟨va_AO.of (g 91 _ (by decide +kernel)), List.forall_mem_cons.mpr ⟨va_AO.of (g 93 _ (by decide +kernel)), List.forall_mem_cons.mpr ⟨va_AO.of (g 165 _ (by decide +kernel)), List.forall_mem_cons.mpr ⟨va_AO.of (g 173 _ (by decide +kernel)), List.forall_mem_cons.mpr ⟨va_AO.of (g 238 _ (by decide +kernel)), fun q hq => by cases hq⟩⟩⟩⟩⟩
theorem bg_T {args : Array Value} {s : State} (hts : ∀ w ∈ lw_tbl, w.before args s = true) (hgv : (Jvm.Cond.and given_1 narrow_1).before args s = true) : th_T s := by
  have g : ∀ (i : Nat) (w : Cond), lw_tbl[i]? = some w → w.onTables = true → w.before #[] s = true := fun i w h hw => va_tabs hw rfl (hts w (List.mem_of_getElem? h))
  have hs := flat_of_before _ hgv
  refine ⟨?_, ?_⟩
  · unfold th_F
    exact List.forall_mem_cons.mpr ⟨g 852 _ (by decide +kernel) rfl, List.forall_mem_cons.mpr ⟨g 854 _ (by decide +kernel) rfl, List.forall_mem_cons.mpr ⟨g 856 _ (by decide +kernel) rfl, List.forall_mem_cons.mpr ⟨g 851 _ (by decide +kernel) rfl, List.forall_mem_cons.mpr ⟨g 915 _ (by decide +kernel) rfl, List.forall_mem_cons.mpr ⟨g 944 _ (by decide +kernel) rfl, List.forall_mem_cons.mpr ⟨g 959 _ (by decide +kernel) rfl, fun q hq => by cases hq⟩⟩⟩⟩⟩⟩⟩
  · unfold th_Ns
    exact List.forall_mem_cons.mpr ⟨na_spec (hs _ (by decide +kernel)), List.forall_mem_cons.mpr ⟨na_spec (hs _ (by decide +kernel)), List.forall_mem_cons.mpr ⟨na_spec (hs _ (by decide +kernel)), List.forall_mem_cons.mpr ⟨na_spec (hs _ (by decide +kernel)), List.forall_mem_cons.mpr ⟨na_spec (hs _ (by decide +kernel)), List.forall_mem_cons.mpr ⟨na_spec (hs _ (by decide +kernel)), fun q hq => by cases hq⟩⟩⟩⟩⟩⟩
theorem bg_R {args : Array Value} {s : State} (hts : ∀ w ∈ lw_tbl, w.before args s = true) (hgv : (Jvm.Cond.and given_1 narrow_1).before args s = true) : th_R s := by
  have hs := flat_of_before _ hgv
  have hr : ∀ C n d, (Cond.isRef (.static C n d)).before args s = true → (Cond.isRef (.static C n d)).before #[] s = true := by
    intro C n d hh
    obtain ⟨v, hv, hvr⟩ := Cond.isRef_spec hh
    have h2 := th_sv (V := s) (U := s) (a' := #[]) rfl (fun _ _ h _ => h) hv
    cases v <;> simp [Value.isRef] at hvr <;> simp [Cond.before, Cond.holds, Cond.value, h2]
  unfold th_R th_S
  exact List.forall_mem_cons.mpr ⟨hr _ _ _ (hs _ (by decide +kernel)), List.forall_mem_cons.mpr ⟨hr _ _ _ (hs _ (by decide +kernel)), List.forall_mem_cons.mpr ⟨th_lv (V := s) (U := s) (a := args) rfl (fun _ _ h _ => h) (hts _ (List.mem_of_getElem? (i := 876) (by decide +kernel))), List.forall_mem_cons.mpr ⟨th_lv (V := s) (U := s) (a := args) rfl (fun _ _ h _ => h) (hts _ (List.mem_of_getElem? (i := 878) (by decide +kernel))), fun q hq => by cases hq⟩⟩⟩⟩
theorem bg_K {args : Array Value} {s : State} (hts : ∀ w ∈ lw_tbl, w.before args s = true) : ∃ D : va_G, va_K D CL [] s := by
  have htg : ∀ w ∈ ab_gW, w.before args s = true := fun w h => hts w (List.mem_filter.mp h).1
  have hk : ∀ q ∈ CL, ∃ (cC : ClassId) (iS : Nat → Nat), u_Kn s q.1 q.2.1 q.2.2 cC iS := by
    unfold CL
    exact List.forall_mem_cons.mpr ⟨u_known htg uw_End (hts (.instantiable "StreamTransport$End" 14) (List.mem_of_getElem? (i := 116) (by decide +kernel))), List.forall_mem_cons.mpr ⟨u_known htg uw_Inc (hts (.instantiable "StreamTransport$Incoming" 7) (List.mem_of_getElem? (i := 174) (by decide +kernel))), List.forall_mem_cons.mpr ⟨u_known htg uw_Int (hts (.instantiable "StreamTransport$Intake" 5) (List.mem_of_getElem? (i := 167) (by decide +kernel))), List.forall_mem_cons.mpr ⟨u_known htg uw_Num (hts (.instantiable "StreamTransport$Numbers" 2) (List.mem_of_getElem? (i := 122) (by decide +kernel))), List.forall_mem_cons.mpr ⟨u_known htg uw_Otf (hts (.instantiable "StreamTransport$Outflow" 2) (List.mem_of_getElem? (i := 232) (by decide +kernel))), List.forall_mem_cons.mpr ⟨u_known htg uw_Out (hts (.instantiable "StreamTransport$Outgoing" 9) (List.mem_of_getElem? (i := 239) (by decide +kernel))), List.forall_mem_cons.mpr ⟨u_known htg uw_Rdr (hts (.instantiable "StreamTransport$Reader" 6) (List.mem_of_getElem? (i := 137) (by decide +kernel))), List.forall_mem_cons.mpr ⟨u_known htg uw_Row (hts (.instantiable "StreamTransport$Row" 3) (List.mem_of_getElem? (i := 94) (by decide +kernel))), List.forall_mem_cons.mpr ⟨u_known htg uw_Snt (hts (.instantiable "StreamTransport$Sent" 8) (List.mem_of_getElem? (i := 402) (by decide +kernel))), List.forall_mem_cons.mpr ⟨u_known htg uw_X (hts (.instantiable "StreamTransport" 7) (List.mem_of_getElem? (i := 83) (by decide +kernel))), List.forall_mem_cons.mpr ⟨u_known htg uw_M (hts (.instantiable "StreamTransportModel" 52) (List.mem_of_getElem? (i := 981) (by decide +kernel))), fun q hq => by cases hq⟩⟩⟩⟩⟩⟩⟩⟩⟩⟩⟩
  have hz : ∀ c : Nat, ∃ z : ClassId × (Nat → Nat), ∀ q, CL[c]? = some q → u_Kn s q.1 q.2.1 q.2.2 z.1 z.2 := by
    intro c
    cases h : CL[c]? with
    | none => exact ⟨(0, fun _ => 0), fun q hq => by cases hq⟩
    | some q =>
      obtain ⟨cC, iS, g⟩ := hk q (List.mem_of_getElem? h)
      exact ⟨(cC, iS), fun q' hq => by cases hq; exact g⟩
  refine ⟨(fun c => (Classical.choose (hz c)).1, fun c => (Classical.choose (hz c)).2), fun c q hq => Classical.choose_spec (hz c) q hq, fun k q hq => by cases hq⟩
theorem bg_wide {p : Program} {l : Launch} {e : Env} {R : Room} {s : State} {m : MethodId} {args : Array Value} {below : List Frame} {meth : Method} {c : Code} {H : Heap} {locs : List Loc} {cells slots cells' slots' : Nat} {Q : State → Prop} {g : JFrame} (hc : cells ≤ cells') (hs : slots ≤ slots')
    (k : W p l e R s m args below meth c H locs cells' slots' Q g) : W p l e R s m args below meth c H locs cells slots Q g := fun T hT X =>
  k T hT ⟨X.admits, X.cas, X.clock, X.frames, X.room, X.hears, X.method, X.code, X.here, X.tail, X.warmed, X.limits, X.bytes, X.same.mono hc hs⟩
/-! The run of the constructors. -/
theorem s_cell (sL : Nat) (sX : Nat → Int32) (v0 : Nat) {k : Nat} (hL : sL ≤ 3074) (hk : k < 2) : ∃ x, ∀ m, r_Law_cell sL sX v0 (nI k) m = some (x, m) := by
  by_cases h : sL ≤ k
  · refine ⟨0, fun m => ?_⟩
    rw [r_Law_cell_eq, b_Law_cell_0_eq, if_pos (show Int32.ofNat sL ≤ nI k from by
      rw [show Int32.ofNat sL = nI sL from rfl]
      grind [nI_T])]
    rfl
  · refine ⟨sX k, fun m => ?_⟩
    rw [r_Law_cell_eq, b_Law_cell_0_eq, if_neg (show ¬ Int32.ofNat sL ≤ nI k from by
      rw [show Int32.ofNat sL = nI sL from rfl]
      grind [nI_T]), ab_ix_nI (by omega) (by omega), ob_s]
    rfl
theorem xm_2 (a b : Int32) : (xm a b).2 = (xm 0 0).2 := by
  simp only [xm, x_m, x_e, x_0, end_m, otf_m, otf_s, out_m, int_m, int_s, inc_m, rdr_m, num_m, row_m, ap2_eq, uR2_eq, uI2_eq, fl2_eq, w2_eq]
theorem xm0_len : (xm 0 0).2.2.2.1.length = 98 := by decide +kernel
theorem xm_len (a b : Int32) : (xm a b).2.2.2.1.length = 98 := by rw [xm_2 a b, xm0_len]
theorem mm_len (a b : Int32) : (mm a b).2.2.2.1.length = 138 := by
  have h : (lm a b).2.2.2.1.length = 139 := by rw [lm_ks a b, lm0_len]
  have e : ∀ m : Mm, (ab_ap m 68).2.2.2.1.length = m.2.2.2.1.length + 1 := fun m => kl_ap m 68
  unfold lm at h
  rw [e] at h
  exact Nat.add_right_cancel h
theorem run_a {sL : Nat} {sX : Nat → Int32} (hL : sL ≤ 3074) (v0 : Nat) : ∃ x y, b_Law_a_0 sL sX 50000 v0 mem0 = some (.inr (43, [some (.inr (.inr (0, some v0))), some (.inr (.inr (69, some 0))), some (.inr (.inr (83, some 98))), some (.inr (.inr (68, some 138))), some (.inl 2), none, none], [], lm x y)) := by
  obtain ⟨x, hx⟩ := s_cell sL sX v0 hL (k := 0) (by omega)
  obtain ⟨y, hy⟩ := s_cell sL sX v0 hL (k := 1) (by omega)
  have hx : ∀ m, r_Law_cell sL sX v0 0 m = some (x, m) := hx
  have hy : ∀ m, r_Law_cell sL sX v0 1 m = some (y, m) := hy
  refine ⟨x, y, ?_⟩
  rw [b_Law_a_0_eq]
  simp only [lt_eq, hx, hy, ob_s]
  rw [show mem0.2.2.2.1.length = 0 from rfl, r_X_init_spec 0 x y _ rfl]
  simp only [lt_eq, hx, hy, ob_s]
  rw [show x_m 0 x y (ab_ap mem0 69) = xm x y from rfl, xm_len, r_M_init_spec 98 x y _ (by rw [kl_ap]; show (xm x y).2.2.2.1.length + 1 = _; rw [xm_len])]
  simp only [lt_eq, ob_s]
  rw [show m_m 98 x y (ab_ap (xm x y) 83) = mm x y from rfl, mm_len, if_pos (by decide)]
  rfl
theorem ok_mem0 : ab_ok KT mem0 := ⟨(fun q k ci f r k' d fs h => by cases h), (fun q k r len k' a st j h => by cases h), (fun q k ci f r k' d q' fs h => by cases h), (fun q k r len k' a st j q' h => by cases h), fun r q j _ => ⟨rfl, rfl, rfl⟩⟩
theorem fks_sum : (fks.map (ab_len KT)).sum ≤ 100000 := by decide +kernel
theorem fks_len : fks.length = 139 := by decide +kernel
end
