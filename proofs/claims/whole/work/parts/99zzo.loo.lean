section
/-! The law's walk. -/
def R_law : String := "StreamTransportLaw"
def lw_P (b : Addr) (xs : List Int32) (args : Array Value) (s : State) : Prop := args = #[.ref b] ∧ s.IntsAt b xs ∧ xs.length ≤ 3074 ∧ (Jvm.Cond.and given_1 narrow_1).before args s = true
def lw_Q (_ : Array Value) (s : State) (o : Outcome) (t : State) : Prop := o = .returned (some (.int 1)) ∧ Framed s o t [] 601024 7293000
def lw_Z (below : List Frame) (a : Array Value) (s : State) : State → Prop := fun t => ∃ o, t.status = .running ∧ Ended t below o ∧ lw_Q a s o t
/-- the law's own end, with 1 on the stack, nothing written that was there before, its room as the claim has it -/
theorem lw_ret {p : Program} {l : Launch} {e : Env} {s : State} {m : MethodId} {below : List Frame} {meth : Method} {c : Code} {b : Nat} (hx : p.tables.exec = Jvm.exec) (hb : c.code = code) (hr : meth.sig.returnType = ret) (hlocks : meth.locks = false) {pc : Nat} {H : Heap} {ls : Array Slot} (hdg : decode code pc = .ok (.ireturn, 1)) : W p l e room_1 s m #[Value.ref b] below meth c H [] 601024 7293000 (lw_Z below #[Value.ref b] s) (F0 m pc ls [.int 1]) := by
  intro T hT X
  obtain ⟨fs, hret, hrun, hended, hW, hframe⟩ := X.leave (v := some (.int 1)) (hlocks := hlocks) (fun h => by rw [hr] at h; cases h)
  have hmeth' : T.vm.method? m = some meth := X.method'
  refine ⟨T.setFrames fs, ?_, .returned (some (.int 1)), hrun, hended, rfl, ⟨_, rfl⟩, hW, hframe⟩
  jvm_step X.here [X.here.top, hx, hb, hdg, hmeth', hr, ret, narrow_b1]
  (try refine ⟨rfl, ?_⟩); (try refine ⟨rfl, ?_⟩)
  first | (intro acts; rw [hret _ acts rfl rfl rfl]) | rw [hret _ _ rfl rfl rfl]
  exact Steps.refl _
/-- what holds at the law's entry: the machine, the code, the tables' words (any of lw_tbl by 'hts w (by decide +kernel)'), the script of L ints xs at the cell b, what the Statement gives of the start (any of its parts by flat_of_before) -/
def lw_At (p : Program) (s : State) (m : MethodId) (meth : Method) (c : Code) (b L : Nat) (xs : Nat → Int32) : Prop :=
  p.tables.exec = Jvm.exec ∧ c.code = code ∧ meth.sig.returnType = ret ∧ c.maxLocals = 7 ∧ s.vm.findClass R_law = some m.cls ∧ (∀ w ∈ lw_tbl, w.before #[Value.ref b] s = true) ∧ va_X b L xs s s.heap ∧ b < s.heap.size ∧ meth.locks = false ∧ (Jvm.Cond.and given_1 narrow_1).before #[Value.ref b] s = true
section
variable {p : Program} {l : Launch} {e : Env} {s : State} {m0 : MethodId} {below : List Frame} {meth : Method} {c : Code} {b L : Nat} {xs : Nat → Int32} {D : va_G}
/-- the walk's goal at a place of the law -/
def lg_W (p : Program) (l : Launch) (e : Env) (s : State) (m0 : MethodId) (below : List Frame) (meth : Method) (c : Code) (b L : Nat) (xs : Nat → Int32) (D : va_G) (z : Cf) : Prop :=
  ab_W p l e room_1 s m0 #[Value.ref b] below meth c (lw_Z below #[Value.ref b] s) KT CL D (some (L, xs)) b (fun q => s.heap.size ≤ q) s.heap [] 0 0 7 601024 7293000 (fun _ => 0) (fun _ => 0) z
theorem lg_ok {z : Cf} (h1 : ab_gc z.2.2.2 ≤ 601024) (h2 : ab_gs KT z.2.2.2 ≤ 7293000) (h : ab_ok KT z.2.2.2 → lg_W p l e s m0 below meth c b L xs D z) : lg_W p l e s m0 below meth c b L xs D z :=
  ⟨h1, h2, fun ad ac ls H locs cells slots hI hF => (h hI.2.2.2.2.1).2.2 ad ac ls H locs cells slots hI hF⟩
/-- the law's end -/
theorem lg_end (C0 : lw_At p s m0 meth c b L xs) {m : Mm} {Lo : List (Option AV)} (h1 : ab_gc m ≤ 601024) (h2 : ab_gs KT m ≤ 7293000) : lg_W p l e s m0 below meth c b L xs D (886, Lo, [], m) := by
  obtain ⟨hx, hb, hr, hml, hown, hts, hXs, hbl, hlocks, hgv⟩ := C0
  refine ⟨h1, h2, fun ad ac ls H locs cells slots hI hF => ?_⟩
  have e1 : cells + 0 = ab_gc m := hI.2.2.2.2.2.2.2.1
  have e2 : slots + 0 = ab_gs KT m := hI.2.2.2.2.2.2.2.2
  refine va_forget (fun q hq => hI.2.2.1.2.2 q hq) ?_
  refine bg_wide (cells' := 601024) (slots' := 7293000) (by omega) (by omega) ?_
  refine lv_iconst hx hb (n := 1) (v := 1) (show decode code 886 = .ok (.iconst 1, 1) by decide +kernel) rfl ?_
  exact lw_ret hx hb hr hlocks (show decode code 887 = .ok (.ireturn, 1) by decide +kernel)
/-- a run of the law's loop -/
theorem lg_run (hl : l.flags = flags0) (C0 : lw_At p s m0 meth c b L xs) (hK0 : va_K D CL [] s) {m m' : Mm} {Lo Lo' : List (Option AV)} {pc' : Nat}
    (hrun : ab_ex KT (some (L, xs)) s_Law_b (eV_Law_b L xs) (eI_Law_b L xs) i_Law_b h_Law_b 50000 43 Lo [] m = some (.inr (pc', Lo', [], m'))) (w : lg_W p l e s m0 below meth c b L xs D (pc', Lo', [], m')) : lg_W p l e s m0 below meth c b L xs D (43, Lo, [], m) := by
  obtain ⟨hx, hb, hr, hml, hown, hts, hXs, hbl, hlocks, hgv⟩ := C0
  have htg : ∀ w ∈ ab_gW, w.before #[Value.ref b] s = true := fun w h => hts w (List.mem_filter.mp h).1
  have hX := bg_X hts
  have hTT := bg_T hts hgv
  have hRR := bg_R hts hgv
  have hA : ∀ q : Nat, s.heap.size ≤ q → (fun q => s.heap.size ≤ q) q := fun q h => h
  have hG : 601024 ≤ 0 + room_1.cells := by decide
  have hHs : 7293000 ≤ 0 + room_1.slots := by decide
  have hsc : ∀ z, some (L, xs) = some z → va_X b z.1 z.2 s s.heap ∧ b < s.heap.size ∧ ¬ (fun q => s.heap.size ≤ q) b := fun z hz => by
    cases hz
    exact ⟨hXs, hbl, Nat.not_le.mpr hbl⟩
  have hstat : ∀ (q : Nat) (cell : Cell), s.heap[q]? = some cell → cell.vm.isStatics = true → s.heap[q]? = some cell ∧ q < s.heap.size ∧ ¬ (fun q => s.heap.size ≤ q) q := fun q cell h1 _ => ⟨h1, (Array.getElem?_eq_some_iff.mp h1).1, Nat.not_le.mpr (Array.getElem?_eq_some_iff.mp h1).1⟩
  refine ab_soundQ hX hx hb htg hown hK0 KT_0 KT_nd KT_k3 hA hG hHs hsc hlocks (ρ := .inr (pc', Lo', [], m')) (fun r m' h => by cases h) (fun c' hc' => by cases hc'; exact w) (fun pc q hq => ?_) (fun pc q hq hi => ?_) 50000 43 Lo [] m hrun
  · rw [hr]
    exact E_Law_b meth.name pc q hq
  · by_cases h1 : pc = 190
    · subst h1
      cases (Option.some.inj hq : ((.invokestatic 39, 173, 6, 1, 0) : Ent) = q)
      refine ⟨fun L' S m m' hwd he w => (by cases he), fun L' S m z hwd he w => ?_⟩
      have hc : c_Law_write (S.take 6).reverse m = some z := he
      obtain ⟨h2, h7, hM⟩ := cm_Law_write l hl hc
      exact lw_cS (r := some (.inl z.1)) (idx := 39) hTT hRR hstat hX hx hb hml htg hown hK0 hA hG hHs rfl h2 hwd hM h7 (ab_gW_in 842 (by decide +kernel) rfl) (ab_gW_in 60 (by decide +kernel) rfl) (ab_gW_in 840 (by decide +kernel) rfl) (ab_gW_in 841 (by decide +kernel) rfl) (by decide +kernel) (by decide) (by decide +kernel) (fun v hv => by cases hv; exact ⟨_, rfl⟩) w
    · by_cases h2 : pc = 360
      · subst h2
        cases (Option.some.inj hq : ((.invokestatic 56, 174, 4, 1, 0) : Ent) = q)
        refine ⟨fun L' S m m' hwd he w => (by cases he), fun L' S m z hwd he w => ?_⟩
        have hc : c_Law_read (S.take 4).reverse m = some z := he
        obtain ⟨h2, h7, hM⟩ := cm_Law_read l hl hc
        exact lw_cS (r := some (.inl z.1)) (idx := 56) hTT hRR hstat hX hx hb hml htg hown hK0 hA hG hHs rfl h2 hwd hM h7 (ab_gW_in 935 (by decide +kernel) rfl) (ab_gW_in 60 (by decide +kernel) rfl) (ab_gW_in 933 (by decide +kernel) rfl) (ab_gW_in 934 (by decide +kernel) rfl) (by decide +kernel) (by decide) (by decide +kernel) (fun v hv => by cases hv; exact ⟨_, rfl⟩) w
      · exact cl_Law_b l L xs pc q hq hi h1 h2 p e room_1 s m0 _ below meth c _ D b _ _ _ _ _ _ _ _ _ hX hx hb hml htg hown hK0 hA hG hHs rfl rfl hsc
/-- the loop -/
theorem lg_loop (hl : l.flags = flags0) (C0 : lw_At p s m0 meth c b L xs) (hK0 : va_K D CL [] s) (hL : L ≤ 3074) : ∀ (n k i : Nat) (m : Mm), i ≤ 3080 → L < i + 6 * (n + 1) → k + n ≤ 512 → St k m → 139 ≤ m.2.2.2.1.length → ab_gc m + 6 * n ≤ 601024 → ab_gs KT m + 28 * n ≤ 7293000 → lg_W p l e s m0 below meth c b L xs D (43, LW 0 (nI i), [], m) := by
  intro n
  induction n with
  | zero =>
    intro k i m hi hlt hk hst hn h1 h2
    exact lg_run hl C0 hK0 (it_end (f := 49999) hL hi (by omega)) (lg_end C0 (by omega) (by omega))
  | succ n ih =>
    intro k i m hi hlt hk hst hn h1 h2
    by_cases hd : L < i + 6
    · exact lg_run hl C0 hK0 (it_end (f := 49999) hL hi hd) (lg_end C0 (by omega) (by omega))
    · refine lg_ok (z := (43, LW 0 (nI i), [], m)) (by show ab_gc m ≤ _; omega) (by show ab_gs KT m ≤ _; omega) fun hok => ?_
      have hz : Zr m := fun r q j h => (hok.2.2.2.2 r q j h).1
      obtain ⟨m', e1, st, g1, g2, g3⟩ := it_go (sX := xs) (v0 := 0) hL (show i + 6 ≤ L by omega) hst (by omega) hz hn
      exact lg_run hl C0 hK0 e1 (ih (k + 1) (i + 6) m' (by omega) (by omega) (by omega) st (by omega) (by omega) (by omega))
end
end
