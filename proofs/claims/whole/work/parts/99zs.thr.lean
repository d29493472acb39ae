section
/-! 'throw new X()': new, dup, invokespecial, athrow. -/
def th_1 : Cond := .isRef (.static "java/lang/Throwable" "UNASSIGNED_STACK" "[Ljava/lang/StackTraceElement;")
def th_2 : Cond := .isRef (.static "java/lang/Throwable" "SUPPRESSED_SENTINEL" "Ljava/util/List;")
def th_3 : Cond := .laysStatic "java/lang/Throwable" "UNASSIGNED_STACK" "[Ljava/lang/StackTraceElement;"
def th_4 : Cond := .laysStatic "java/lang/Throwable" "SUPPRESSED_SENTINEL" "Ljava/util/List;"
/-- words that read Throwable's statics -/
def th_S : List Cond := [th_1, th_2, th_3, th_4]
/-- words of the tables that aren't among ab_gW -/
def th_F : List Cond := [.declares ⟨"java/lang/RuntimeException", "<init>", "()V"⟩, .declares ⟨"java/lang/Exception", "<init>", "()V"⟩, .declares ⟨"java/lang/Throwable", "<init>", "()V"⟩, .castable "java/lang/IllegalArgumentException" "java/lang/IllegalArgumentException", .castable "java/lang/IllegalStateException" "java/lang/IllegalStateException", .castable "java/lang/UnsupportedOperationException" "java/lang/UnsupportedOperationException", .castable "java/util/NoSuchElementException" "java/util/NoSuchElementException"]
def th_wi (i : Nat) (w : Cond) : Bool := bif Nat.beq i 99999 then (decide (w ∈ th_S) || decide (w ∈ th_F)) else ab_wi i w
def th_ws : List Nat → List Cond → Bool
  | i :: is, w :: ws => th_wi i w && th_ws is ws
  | [], [] => true
  | _, _ => false
theorem th_ws_ok : ∀ {is : List Nat} {ws : List Cond}, th_ws is ws = true → ∀ w ∈ ws, w ∈ ab_gW ∨ w ∈ th_S ∨ w ∈ th_F
  | i :: is, w :: ws, h, z, hz => by
    unfold th_ws at h
    have h2 := Bool.and_eq_true_iff.mp h
    rcases List.mem_cons.mp hz with rfl | hz
    · have h3 := h2.1
      unfold th_wi at h3
      cases hb : Nat.beq i 99999 with
      | true =>
        rw [hb] at h3
        rcases Bool.or_eq_true_iff.mp h3 with g | g
        · exact .inr (.inl (of_decide_eq_true g))
        · exact .inr (.inr (of_decide_eq_true g))
      | false =>
        rw [hb] at h3
        exact .inl (ab_wi_in h3)
    · exact th_ws_ok h2.2 z hz
  | [], [], _, z, hz => by cases hz
  | [], _ :: _, h, _, _ => by cases h
  | _ :: _, [], h, _, _ => by cases h
/-- no object of the first class is one of the second -/
def th_na (q : String × String) (U : State) : Prop := ∃ cA cB, U.vm.findClass q.1 = some cA ∧ U.vm.findClass q.2 = some cB ∧ U.vm.assignable cA cB = false
def th_Ns : List (String × String) := [("java/lang/IllegalStateException", "java/lang/IllegalArgumentException"), ("java/lang/UnsupportedOperationException", "java/lang/IllegalArgumentException"), ("java/lang/UnsupportedOperationException", "java/lang/IllegalStateException"), ("java/util/NoSuchElementException", "java/lang/IllegalArgumentException"), ("java/util/NoSuchElementException", "java/lang/IllegalStateException"), ("java/util/NoSuchElementException", "java/lang/UnsupportedOperationException")]
def th_T (U : State) : Prop := (∀ w ∈ th_F, w.before #[] U = true) ∧ ∀ q ∈ th_Ns, th_na q U
def th_R (U : State) : Prop := ∀ w ∈ th_S, w.before #[] U = true
theorem th_face : ∀ w ∈ th_F, (w.onTables && w.keepsFace) = true := by decide +kernel
theorem th_stat : ∀ w ∈ th_S, w.keepsFace = true := by decide +kernel
theorem th_T.warm {s U : State} (hW : s.WarmedH U.vm) (h : th_T s) : th_T U := by
  refine ⟨fun w hw => ?_, fun q hq => ?_⟩
  · have f := Bool.and_eq_true_iff.mp (th_face w hw)
    have h1 := Cond.before_shiftedFace (args := #[]) (State.Shifted.of_warmed hW) w f.2 (h.1 w hw)
    rw [Cond.onTables_vm (A := #[]) (A' := #[]) (U := s) (U' := U) U.vm w f.1, State.setVm_self] at h1
    exact h1
  · obtain ⟨cA, cB, h1, h2, h3⟩ := h.2 q hq
    refine ⟨cA, cB, by rw [hW.alike.findClass]; exact h1, by rw [hW.alike.findClass]; exact h2, by rw [hW.alike.assignable]; exact h3⟩
theorem th_T.any {s : State} (h : th_T s) (a : Array Value) : ∀ w ∈ th_F, w.before a s = true := by
  intro w hw
  have f := Bool.and_eq_true_iff.mp (th_face w hw)
  have h1 := h.1 w hw
  have h2 := Cond.onTables_vm (A := #[]) (A' := a) (U := s) (U' := s) s.vm w f.1
  rw [State.setVm_self] at h2
  rw [← h2]
  exact h1
theorem th_sv {V U : State} (e : V.vm = U.vm) (hk : ∀ (q : Nat) (cell : Cell), V.heap[q]? = some cell → cell.vm.isStatics = true → U.heap[q]? = some cell) {C n d : String} {v : Value} {a a' : Array Value} (h : (Term.static C n d).eval a V none [] V = some v) : (Term.static C n d).eval a' U none [] U = some v := by
  have fn : U.fieldNamed? C n d true = V.fieldNamed? C n d true := by
    unfold State.fieldNamed? State.fieldFound?
    rw [e]
  simp only [Term.eval, fn] at h ⊢
  cases h1 : V.fieldNamed? C n d true with
  | none => simp [h1] at h
  | some q =>
    obtain ⟨c, k, sl⟩ := q
    simp only [h1, Option.bind_eq_bind, Option.bind_some] at h ⊢
    cases h2 : k.statics with
    | none => simp [h2] at h
    | some x =>
      simp only [h2, Option.bind_some] at h ⊢
      cases h3 : V.heap[x]? with
      | none => simp [h3] at h
      | some cell =>
        simp only [h3, Option.bind_some] at h
        by_cases h4 : cell.vm.isStatics = true
        · rw [hk x cell h3 h4]
          simp only [Option.bind_some]
          exact h
        · rw [if_neg h4] at h
          cases h
theorem th_lv {V U : State} (e : V.vm = U.vm) (hk : ∀ (q : Nat) (cell : Cell), V.heap[q]? = some cell → cell.vm.isStatics = true → U.heap[q]? = some cell) {C n d : String} {a a' : Array Value} (h : (Cond.laysStatic C n d).before a V = true) : (Cond.laysStatic C n d).before a' U = true := by
  obtain ⟨c, k, i, f, x, cell, h1, h2, h3, h4, h5, h6, h7, h8, h9⟩ := Cond.laysStatic_spec h
  have fn : U.fieldFound? C n d = V.fieldFound? C n d := by
    unfold State.fieldFound?
    rw [e]
  have h5' := hk x cell h5 h6
  simp [Cond.before, Cond.holds, Cond.value, fn, ← e, h1, h2, h3, h4, h5', h6, h7, h8, h9]
theorem th_R.moved {s U : State} (hW : s.WarmedH U.vm) (hk : ∀ (q : Nat) (cell : Cell), s.heap[q]? = some cell → cell.vm.isStatics = true → U.heap[q]? = some cell) (h : th_R s) : ∀ (a : Array Value), ∀ w ∈ th_S, w.before a U = true := by
  intro a w hw
  have h1 : w.before #[] (s.setVm U.vm) = true := Cond.before_shiftedFace (args := #[]) (State.Shifted.of_warmed hW) w (th_stat w hw) (h w hw)
  have hr : ∀ C n d, (Cond.isRef (.static C n d)).before #[] (s.setVm U.vm) = true → (Cond.isRef (.static C n d)).before a U = true := by
    intro C n d hh
    obtain ⟨v, hv, hvr⟩ := Cond.isRef_spec hh
    have h2 := th_sv (V := s.setVm U.vm) (U := U) (a' := a) rfl hk hv
    cases v <;> simp [Value.isRef] at hvr <;> simp [Cond.before, Cond.holds, Cond.value, h2]
  simp only [th_S, List.mem_cons, List.not_mem_nil, or_false] at hw
  rcases hw with rfl | rfl | rfl | rfl
  · exact hr _ _ _ h1
  · exact hr _ _ _ h1
  · exact th_lv (V := s.setVm U.vm) (U := U) rfl hk h1
  · exact th_lv (V := s.setVm U.vm) (U := U) rfl hk h1
/-- the walk, begun anew where it stands -/
theorem th_base {p : Program} {l : Launch} {e : Env} {R R' : Room} {s : State} {m : MethodId} {args : Array Value} {below : List Frame} {meth : Method} {c : Code} {T : State} {locs : List Loc} {cells slots : Nat}
    (X : Stand p l e R s m args below meth c T locs cells slots) (hf : R'.frames = R.frames) (hl : R'.locals = R.locals) (hc : cells + R'.cells ≤ R.cells) (hs : slots + R'.slots ≤ R.slots) : Stand p l e R' { s with heap := T.heap, slotsUsed := T.slotsUsed } m args below meth c T [] 0 0 := by
  have hz := X.heapSize
  have hu := X.used
  have hb := X.book
  have hr := X.room
  refine ⟨X.admits, X.cas, X.clock, X.frames, ?_, X.hears, X.method, X.code, X.here, X.tail, X.warmed, X.limits, X.bytes, ?_⟩
  · simp only [State.hasRoom, Bool.and_eq_true, decide_eq_true_eq] at hr ⊢
    obtain ⟨⟨⟨⟨h1, h2⟩, h3⟩, h4⟩, h5⟩ := hr
    rw [hf, hl]
    refine ⟨⟨⟨⟨h1, h2⟩, ?_⟩, ?_⟩, hb⟩
    · show T.heap.size + R'.cells ≤ _
      omega
    · show T.slotsUsed + R'.slots ≤ _
      omega
  · refine ⟨X.same.1, Nat.le_refl _, Nat.le_refl _, ?_, ?_, fun a c h => ⟨c, h, rfl, rfl, fun _ _ => rfl⟩⟩
    · show T.slotsUsed = T.slotsUsed + ((T.heap.toList.drop T.heap.size).map (·.slots.size)).sum
      rw [List.drop_eq_nil_of_le (by rw [Array.length_toList]; exact Nat.le_refl _)]
      rfl
    · show ((T.heap.toList.drop T.heap.size).map (·.slots.size)).sum ≤ 0
      rw [List.drop_eq_nil_of_le (by rw [Array.length_toList]; exact Nat.le_refl _)]
      exact Nat.le_refl _
theorem th_keep {s U : State} {k n : Nat} (h : s.sameButNew U [] k n) : ∀ q, q < s.heap.size → U.heap[q]? = s.heap[q]? := by
  intro q hq
  obtain ⟨c', e1, e2, e3, e4⟩ := h.2.2.2.2.2 q s.heap[q] (Array.getElem?_eq_getElem hq)
  rw [e1, Array.getElem?_eq_getElem hq]
  have : c'.slots = s.heap[q].slots := by
    apply Array.ext_getElem?
    intro i
    exact e4 i (by simp)
  rw [e2, this]
theorem th_throw {p : Program} {l : Launch} {e : Env} {R : Room} {s : State} {m : MethodId} {args : Array Value} {below : List Frame} {meth : Method} {cd : Code} {H : Heap} {locs : List Loc} {cells slots : Nat} {Q : State → Prop} {cc : ByteArray} {own cls : String} {names : List String} {ik ic pc : Nat} {ls : Array Slot}
    (hl : l.flags = flags0) (hx : p.tables.exec = Jvm.exec) (hb : cd.code = cc) (hlocks : meth.locks = false) (hown : s.vm.findClass own = some m.cls) (hts : ∀ w ∈ ab_gW, w.before args s = true) (hT0 : th_T s) (hR : ∀ U : State, U.heap = H → s.WarmedH U.vm → ∀ w ∈ th_S, w.before args U = true)
    (hw : ∀ w ∈ Bundle.ownAtoms0 own ic cls names, w ∈ ab_gW ∨ w ∈ th_S ∨ w ∈ th_F) (hcl : Cond.classLink own ik cls ∈ ab_gW) (hini : Cond.initialized cls ∈ ab_gW) (hfit : Bundle.fit cls = true) (hfits : ∀ n ∈ names, Bundle.fit n = true)
    (hsz : ls.size = cd.maxLocals) (d0 : decode cc pc = .ok (.new ik, 3)) (d3 : decode cc (pc + 3) = .ok (.dup, 1)) (d4 : decode cc (pc + 4) = .ok (.invokespecial ic, 3)) (d7 : decode cc (pc + 7) = .ok (.athrow, 1)) (hout : ∀ x ∈ cd.exceptionTable.toList, covers x (pc + 7) = false)
    (hc : cells + 1 ≤ R.cells) (hs : slots + 6 ≤ R.slots) (hRf : names.length + 3 < R.frames) (hRl : 13 * (names.length + 1) + 42 ≤ R.locals)
    (hk : ∀ U : State, U.status = .running → Ended U below (.threw H.size) → s.WarmedH U.vm → s.sameButNew ({ U with vm := s.vm } : State) locs (cells + 1) (slots + 6) → (∀ q, q < H.size → U.heap[q]? = H[q]?) → (∃ ce, U.heap[H.size]? = some ce ∧ s.vm.findClass cls = some ce.cls ∧ ce.vm = .none) → Q U) :
    W p l e R s m args below meth cd H locs cells slots Q (F0 m pc ls []) := by
  intro T hT X
  have X' := th_base (R' := { R with cells := 1, slots := 6 }) X rfl rfl (by show cells + 1 ≤ R.cells; exact hc) (by show slots + 6 ≤ R.slots; exact hs)
  have hat : ∀ w ∈ Bundle.ownAtoms0 own ic cls names, w.before args ({ s with heap := T.heap, slotsUsed := T.slotsUsed } : State) = true := by
    intro w hwi
    have hWs : s.WarmedH ({ s with heap := T.heap, slotsUsed := T.slotsUsed } : State).vm := State.WarmedH.refl s
    have hr := hR ({ s with heap := T.heap, slotsUsed := T.slotsUsed } : State) hT hWs
    rcases hw w hwi with g | g | g
    · exact word_at hWs (good_of_word (List.mem_filter.mp g).2) (hts w g)
    · exact hr w g
    · exact (th_T.warm hWs hT0).any args w g
  have wat : ∀ w ∈ ab_gW, w.before args ({ s with heap := T.heap, slotsUsed := T.slotsUsed } : State) = true := fun w g => word_at (show s.WarmedH ({ s with heap := T.heap, slotsUsed := T.slotsUsed } : State).vm from State.WarmedH.refl s) (good_of_word (List.mem_filter.mp g).2) (hts w g)
  have hin : (Cond.instantiable cls 6).before args ({ s with heap := T.heap, slotsUsed := T.slotsUsed } : State) = true := hat _ (by simp [Bundle.ownAtoms0])
  have inner : W p l e { R with cells := 1, slots := 6 } { s with heap := T.heap, slotsUsed := T.slotsUsed } m args below meth cd H [] 0 0 Q (F0 m pc ls []) := by
    refine W.newc hx hb (show ({ s with heap := T.heap, slotsUsed := T.slotsUsed } : State).vm.findClass own = some m.cls from hown) (wat _ hcl) hin (wat _ hini) rfl d0 (Nat.le_refl _) (Nat.le_refl _) fun cC kC h1 h2 h3 h4 => ?_
    refine lv_dup hx hb d3 rfl ?_
    intro T1 hT1 X1
    have hcell : T1.heap[H.size]? = some (freshCell cC kC) := by
      rw [hT1]
      simp
    subst hb
    obtain ⟨U, u1, u2, u3, u4, u5, ce, u6, u7⟩ := X1.ctorThrow0 hx (Launch.traces_off hl X.admits) (own := own) (cls := cls) (names := names) (ic := ic) (show ({ s with heap := T.heap, slotsUsed := T.slotsUsed } : State).vm.findClass own = some m.cls from hown) hfit hfits hat (fun x hx => by cases hx) h1 h2 hcell (by show T.heap.size ≤ H.size; rw [hT]; exact Nat.le_refl _) (g := F0 m (pc + 4) ls [.ref H.size, .ref H.size]) rfl hsz rfl rfl rfl d4 d7 hout hRf (by
      show 2 * 0 + (1 + 0) + (13 * (names.length + 1) + 41) ≤ R.locals
      omega) hlocks
    refine ⟨U, u1, hk U u2 u3 u4 ?_ ?_ ⟨ce, u6, u7.cls, u7.vm⟩⟩
    · have q1 : (T.setVm s.vm).sameButNew ({ U with vm := s.vm } : State) [] 1 6 := by
        refine ⟨?_, u5.2⟩
        have a1 := u5.1
        have a2 := X.same.1
        rw [a2]
        refine a1.trans ?_
        show ({ s.setFrames U.frames with heap := U.heap, slotsUsed := U.slotsUsed } : State) = { ((s.setFrames T.frames).setFrames U.frames) with heap := U.heap, slotsUsed := U.slotsUsed }
        rw [State.setFrames_setFrames]
      have q2 := X.same.trans q1
      rw [List.append_nil] at q2
      exact q2
    · intro q hq
      have := th_keep u5 q (by show q < T.heap.size; rw [hT]; exact hq)
      rw [← hT]
      exact this
  exact inner T hT X'
theorem thw_IA : ∀ w ∈ Bundle.ownAtoms0 "StreamTransport" 43 "java/lang/IllegalArgumentException" ["java/lang/RuntimeException", "java/lang/Exception"], w ∈ ab_gW ∨ w ∈ th_S ∨ w ∈ th_F := th_ws_ok (is := [72, 871, 880, 885, 888, 890, 872, 873, 88, 89, 874, 879, 886, 902, 861, 903, 863, 904, 865, 875, 99999, 877, 99999, 867, 892, 893, 894, 895, 99999, 895, 896, 897, 898, 99999, 898, 899, 900, 872, 99999, 891, 850, 99999, 858, 859, 860, 862, 864, 866, 99999, 99999, 870, 869, 868]) (by decide +kernel)
theorem thw_IS : ∀ w ∈ Bundle.ownAtoms0 "StreamTransport" 69 "java/lang/IllegalStateException" ["java/lang/RuntimeException", "java/lang/Exception"], w ∈ ab_gW ∨ w ∈ th_S ∨ w ∈ th_F := th_ws_ok (is := [72, 871, 880, 885, 888, 890, 872, 873, 88, 89, 874, 879, 886, 902, 861, 903, 863, 904, 865, 875, 99999, 877, 99999, 867, 923, 924, 925, 895, 99999, 895, 896, 897, 898, 99999, 898, 899, 900, 872, 99999, 922, 914, 99999, 916, 882, 917, 918, 919, 920, 99999, 99999, 870, 869, 921]) (by decide +kernel)
theorem thw_UO : ∀ w ∈ Bundle.ownAtoms0 "StreamTransport" 101 "java/lang/UnsupportedOperationException" ["java/lang/RuntimeException", "java/lang/Exception"], w ∈ ab_gW ∨ w ∈ th_S ∨ w ∈ th_F := th_ws_ok (is := [72, 871, 880, 885, 888, 890, 872, 873, 88, 89, 874, 879, 886, 902, 861, 903, 863, 904, 865, 875, 99999, 877, 99999, 867, 952, 953, 954, 895, 99999, 895, 896, 897, 898, 99999, 898, 899, 900, 872, 99999, 951, 943, 99999, 945, 883, 946, 947, 948, 949, 99999, 99999, 870, 869, 950]) (by decide +kernel)
theorem thw_NS : ∀ w ∈ Bundle.ownAtoms0 "StreamTransport" 108 "java/util/NoSuchElementException" ["java/lang/RuntimeException", "java/lang/Exception"], w ∈ ab_gW ∨ w ∈ th_S ∨ w ∈ th_F := th_ws_ok (is := [72, 871, 880, 885, 888, 890, 872, 873, 88, 89, 874, 879, 886, 902, 861, 903, 863, 904, 865, 875, 99999, 877, 99999, 867, 967, 968, 969, 895, 99999, 895, 896, 897, 898, 99999, 898, 899, 900, 872, 99999, 966, 958, 99999, 960, 884, 961, 962, 963, 964, 99999, 99999, 870, 869, 965]) (by decide +kernel)
end
