/-! A method's table, checked by program; call sites by their callees. -/
section
def ab_dk (cc : ByteArray) (pc : Nat) (i : Instr) (n : Nat) : Bool := match decode cc pc with
  | .ok q => decide (q = (i, n))
  | _ => false
theorem ab_dk_ok {cc : ByteArray} {pc : Nat} {i : Instr} {n : Nat} (h : ab_dk cc pc i n = true) : decode cc pc = .ok (i, n) := by
  unfold ab_dk at h
  split at h
  · rename_i q hq
    rw [hq, of_decide_eq_true h]
  · cases h
def ab_dsw (cc : ByteArray) (pc : Nat) (i : Instr) : Bool := match decode cc pc with
  | .ok q => decide (q.1 = i)
  | _ => false
theorem ab_dsw_ok {cc : ByteArray} {pc : Nat} {i : Instr} (h : ab_dsw cc pc i = true) : ∃ n, decode cc pc = .ok (i, n) := by
  unfold ab_dsw at h
  split at h
  · rename_i q hq
    exact ⟨q.2, by rw [hq, ← of_decide_eq_true h]⟩
  · cases h
def ab_swb (pc : Nat) (dflt lo hi : Int) (offs : Array Int) (q : List (Int32 × Nat) × Nat) : Bool :=
  q.1.all (fun z => decide (¬ z.1.toInt < lo) && decide (¬ hi < z.1.toInt) && (match offs[(z.1.toInt - lo).toNat]? with | some off => decide ((pc : Int) + off = (z.2 : Int)) | none => false)) &&
  (List.range (hi - lo + 1).toNat).all (fun k => q.1.any fun z => decide (z.1.toInt = lo + k)) && decide ((pc : Int) + dflt = (q.2 : Int))
theorem ab_swb_ok {pc : Nat} {dflt lo hi : Int} {offs : Array Int} {q : List (Int32 × Nat) × Nat} (h : ab_swb pc dflt lo hi offs q = true) : ab_swok pc dflt lo hi offs q := by
  unfold ab_swb at h
  simp only [Bool.and_eq_true] at h
  obtain ⟨⟨h1, h2⟩, h3⟩ := h
  refine ⟨fun z hz => ?_, fun k hk => ?_, of_decide_eq_true h3⟩
  · have h4 := List.all_eq_true.mp h1 z hz
    simp only [Bool.and_eq_true] at h4
    obtain ⟨⟨h5, h6⟩, h7⟩ := h4
    refine ⟨of_decide_eq_true h5, of_decide_eq_true h6, ?_⟩
    split at h7
    · rename_i off ho
      exact ⟨off, ho, of_decide_eq_true h7⟩
    · cases h7
  · have h4 := List.all_eq_true.mp h2 k (List.mem_range.mpr hk)
    obtain ⟨z, hz, h5⟩ := List.any_eq_true.mp h4
    exact ⟨z, hz, of_decide_eq_true h5⟩
/-- the check of an entry. LC, LJ: constants; FL, FP: fields read, written; NW, NA, NQ: what is made -/
def ab_Eb (ret : Option FieldType) (cc : ByteArray) (sw : Nat → List (Int32 × Nat) × Nat) (nL : Nat) (LC : List (Nat × Int32)) (LJ : List (Nat × Nat)) (FL FP : List (Nat × Nat × Nat)) (NW : List (Nat × Nat)) (NA : List (Nat × Nat)) (NQ : List (Nat × Nat)) (pc : Nat) (i : Instr) (a b' d : Nat) (x : Int32) : Bool := match i with
  | .iconst n => ab_dk cc pc (.iconst n) 1 && decide (Int32.ofInt n = x)
  | .bipush n => ab_dk cc pc (.bipush n) 2 && decide ((Int8.ofInt n).toInt32 = x)
  | .sipush n => ab_dk cc pc (.sipush n) 3 && decide ((Int16.ofInt n).toInt32 = x)
  | .ldc idx => ab_dk cc pc (.ldc idx) 2 && decide ((idx, x) ∈ LC)
  | .lconst n => ab_dk cc pc (.lconst n) 1 && decide (Int64.ofNat (n : Nat) = Int64.ofNat a)
  | .ldc2_w idx => ab_dk cc pc (.ldc2_w idx) 3 && decide ((idx, a) ∈ LJ)
  | .iload j => ab_dk cc pc (.iload j) 2 && decide (j = a)
  | .iload_n j => ab_dk cc pc (.iload_n j) 1 && decide ((j : Nat) = a)
  | .lload j => ab_dk cc pc (.lload j) 2 && decide (j = a)
  | .lload_n j => ab_dk cc pc (.lload_n j) 1 && decide ((j : Nat) = a)
  | .aload j => ab_dk cc pc (.aload j) 2 && decide (j = a)
  | .aload_n j => ab_dk cc pc (.aload_n j) 1 && decide ((j : Nat) = a)
  | .istore j => ab_dk cc pc (.istore j) 2 && (decide (j = a) && decide (a < nL))
  | .istore_n j => ab_dk cc pc (.istore_n j) 1 && (decide ((j : Nat) = a) && decide (a < nL))
  | .lstore j => ab_dk cc pc (.lstore j) 2 && (decide (j = a) && decide (a + 1 < nL))
  | .lstore_n j => ab_dk cc pc (.lstore_n j) 1 && (decide ((j : Nat) = a) && decide (a + 1 < nL))
  | .astore j => ab_dk cc pc (.astore j) 2 && (decide (j = a) && decide (a < nL))
  | .astore_n j => ab_dk cc pc (.astore_n j) 1 && (decide ((j : Nat) = a) && decide (a < nL))
  | .iinc j n => ab_dk cc pc (.iinc j n) 3 && (decide (j = a) && (decide (Int32.ofInt n = x) && decide (a < nL)))
  | .goto off => ab_dk cc pc (.goto off) 3 && decide ((pc : Int) + off = (a : Int))
  | .ifCond c off => ab_dk cc pc (.ifCond c off) 3 && decide ((pc : Int) + off = (a : Int))
  | .if_icmp c off => ab_dk cc pc (.if_icmp c off) 3 && decide ((pc : Int) + off = (a : Int))
  | .ifnull off => ab_dk cc pc (.ifnull off) 3 && decide ((pc : Int) + off = (a : Int))
  | .ifnonnull off => ab_dk cc pc (.ifnonnull off) 3 && decide ((pc : Int) + off = (a : Int))
  | .tableswitch dflt lo hi offs => ab_dsw cc pc (.tableswitch dflt lo hi offs) && ab_swb pc dflt lo hi offs (sw pc)
  | .getfield idx => ab_dk cc pc (.getfield idx) 3 && decide ((idx, a, b') ∈ FL)
  | .putfield idx => ab_dk cc pc (.putfield idx) 3 && decide ((idx, a, b') ∈ FP)
  | .new idx => ab_dk cc pc (.new idx) 3 && decide ((idx, a) ∈ NW)
  | .newarray .int => ab_dk cc pc (.newarray .int) 2 && decide ((0, a) ∈ NA)
  | .newarray .boolean => ab_dk cc pc (.newarray .boolean) 2 && decide ((1, a) ∈ NA)
  | .newarray .long => ab_dk cc pc (.newarray .long) 2 && decide ((2, a) ∈ NA)
  | .newarray _ => false
  | .anewarray idx => ab_dk cc pc (.anewarray idx) 3 && decide ((idx, a) ∈ NQ)
  | .ireturn => ab_dk cc pc .ireturn 1 && (if d = 0 then decide (ret = some .int) else decide (ret = some .boolean))
  | .return_ => ab_dk cc pc .return_ 1 && decide (ret = none)
  | .invokevirtual idx => ab_dk cc pc (.invokevirtual idx) 3
  | .invokespecial idx => ab_dk cc pc (.invokespecial idx) 3
  | .invokestatic idx => ab_dk cc pc (.invokestatic idx) 3
  | i => ab_dk cc pc i 1
set_option maxHeartbeats 1000000 in
theorem ab_Eb_ok {KT : List KS} {cl : List vw_C} {gW : List Cond} {own nm : String} {ret : Option FieldType} {cc : ByteArray} {sw : Nat → List (Int32 × Nat) × Nat} {nL : Nat} {LC : List (Nat × Int32)} {LJ : List (Nat × Nat)} {FL FP : List (Nat × Nat × Nat)} {NW : List (Nat × Nat)} {NA : List (Nat × Nat)} {NQ : List (Nat × Nat)}
    (hLC : ∀ q ∈ LC, Cond.constant own q.1 q.2 ∈ gW) (hLJ : ∀ q ∈ LJ, Cond.constantLong own q.1 (Int64.ofNat q.2) ∈ gW) (hFL : ∀ q ∈ FL, ab_fld cl gW own q.1 q.2.1 q.2.2)
    (hFP : ∀ q ∈ FP, ∃ ty, ab_fldp cl gW own nm q.1 q.2.1 q.2.2 ty ∧ ∀ (k t r k' d' : Nat), ab_fs KT q.2.1 q.2.2 k = some (t, r, k', d') → (t = 0 → ty = .int) ∧ (t = 1 → ty = .boolean) ∧ (t = 2 → ((∃ n, ty = .object n) ∨ ∃ t, ty = .array t) ∧ k' ≠ 0))
    (hNW : ∀ q ∈ NW, ab_newok KT cl gW own q.1 q.2) (hNA : ∀ q ∈ NA, (q.1 = 0 → ab_naok KT cl gW .int q.2) ∧ (q.1 = 1 → ab_naok KT cl gW .boolean q.2) ∧ (q.1 = 2 → ab_naok KT cl gW .long q.2)) (hNQ : ∀ q ∈ NQ, ab_nqok KT cl gW own q.1 q.2)
    {pc : Nat} {i : Instr} {a b' d : Nat} {x : Int32} (h : ab_Eb ret cc sw nL LC LJ FL FP NW NA NQ pc i a b' d x = true) : ab_E KT cl gW own nm ret cc sw nL pc i a b' d x := by
  cases i with
  | ldc idx =>
    have h := Bool.and_eq_true_iff.mp h
    exact ⟨ab_dk_ok h.1, hLC _ (of_decide_eq_true h.2)⟩
  | ldc2_w idx =>
    have h := Bool.and_eq_true_iff.mp h
    exact ⟨ab_dk_ok h.1, hLJ _ (of_decide_eq_true h.2)⟩
  | tableswitch dflt lo hi offs =>
    have h := Bool.and_eq_true_iff.mp h
    exact ⟨ab_dsw_ok h.1, ab_swb_ok h.2⟩
  | getfield idx =>
    have h := Bool.and_eq_true_iff.mp h
    exact ⟨ab_dk_ok h.1, hFL _ (of_decide_eq_true h.2)⟩
  | putfield idx =>
    have h := Bool.and_eq_true_iff.mp h
    exact ⟨ab_dk_ok h.1, hFP _ (of_decide_eq_true h.2)⟩
  | new idx =>
    have h := Bool.and_eq_true_iff.mp h
    exact ⟨ab_dk_ok h.1, hNW _ (of_decide_eq_true h.2)⟩
  | newarray at' =>
    cases at' with
    | int =>
      have h := Bool.and_eq_true_iff.mp h
      exact ⟨ab_dk_ok h.1, (hNA _ (of_decide_eq_true h.2)).1 rfl⟩
    | boolean =>
      have h := Bool.and_eq_true_iff.mp h
      exact ⟨ab_dk_ok h.1, (hNA _ (of_decide_eq_true h.2)).2.1 rfl⟩
    | long =>
      have h := Bool.and_eq_true_iff.mp h
      exact ⟨ab_dk_ok h.1, (hNA _ (of_decide_eq_true h.2)).2.2 rfl⟩
    | _ => cases h
  | anewarray idx =>
    have h := Bool.and_eq_true_iff.mp h
    exact ⟨ab_dk_ok h.1, hNQ _ (of_decide_eq_true h.2)⟩
  | ireturn =>
    have h := Bool.and_eq_true_iff.mp h
    refine ⟨ab_dk_ok h.1, fun hd => ?_, fun hd => ?_⟩
    · have h2 := h.2
      rw [if_pos hd] at h2
      exact of_decide_eq_true h2
    · have h2 := h.2
      rw [if_neg hd] at h2
      exact of_decide_eq_true h2
  | return_ =>
    have h := Bool.and_eq_true_iff.mp h
    exact ⟨ab_dk_ok h.1, of_decide_eq_true h.2⟩
  | iconst n =>
    have h := Bool.and_eq_true_iff.mp h
    exact ⟨ab_dk_ok h.1, of_decide_eq_true h.2⟩
  | bipush n =>
    have h := Bool.and_eq_true_iff.mp h
    exact ⟨ab_dk_ok h.1, of_decide_eq_true h.2⟩
  | sipush n =>
    have h := Bool.and_eq_true_iff.mp h
    exact ⟨ab_dk_ok h.1, of_decide_eq_true h.2⟩
  | lconst n =>
    have h := Bool.and_eq_true_iff.mp h
    exact ⟨ab_dk_ok h.1, of_decide_eq_true h.2⟩
  | iload j =>
    have h := Bool.and_eq_true_iff.mp h
    exact ⟨ab_dk_ok h.1, of_decide_eq_true h.2⟩
  | iload_n j =>
    have h := Bool.and_eq_true_iff.mp h
    exact ⟨ab_dk_ok h.1, of_decide_eq_true h.2⟩
  | lload j =>
    have h := Bool.and_eq_true_iff.mp h
    exact ⟨ab_dk_ok h.1, of_decide_eq_true h.2⟩
  | lload_n j =>
    have h := Bool.and_eq_true_iff.mp h
    exact ⟨ab_dk_ok h.1, of_decide_eq_true h.2⟩
  | aload j =>
    have h := Bool.and_eq_true_iff.mp h
    exact ⟨ab_dk_ok h.1, of_decide_eq_true h.2⟩
  | aload_n j =>
    have h := Bool.and_eq_true_iff.mp h
    exact ⟨ab_dk_ok h.1, of_decide_eq_true h.2⟩
  | istore j =>
    have h := Bool.and_eq_true_iff.mp h
    have h2 := Bool.and_eq_true_iff.mp h.2
    exact ⟨ab_dk_ok h.1, of_decide_eq_true h2.1, of_decide_eq_true h2.2⟩
  | istore_n j =>
    have h := Bool.and_eq_true_iff.mp h
    have h2 := Bool.and_eq_true_iff.mp h.2
    exact ⟨ab_dk_ok h.1, of_decide_eq_true h2.1, of_decide_eq_true h2.2⟩
  | lstore j =>
    have h := Bool.and_eq_true_iff.mp h
    have h2 := Bool.and_eq_true_iff.mp h.2
    exact ⟨ab_dk_ok h.1, of_decide_eq_true h2.1, of_decide_eq_true h2.2⟩
  | lstore_n j =>
    have h := Bool.and_eq_true_iff.mp h
    have h2 := Bool.and_eq_true_iff.mp h.2
    exact ⟨ab_dk_ok h.1, of_decide_eq_true h2.1, of_decide_eq_true h2.2⟩
  | astore j =>
    have h := Bool.and_eq_true_iff.mp h
    have h2 := Bool.and_eq_true_iff.mp h.2
    exact ⟨ab_dk_ok h.1, of_decide_eq_true h2.1, of_decide_eq_true h2.2⟩
  | astore_n j =>
    have h := Bool.and_eq_true_iff.mp h
    have h2 := Bool.and_eq_true_iff.mp h.2
    exact ⟨ab_dk_ok h.1, of_decide_eq_true h2.1, of_decide_eq_true h2.2⟩
  | iinc j n =>
    have h := Bool.and_eq_true_iff.mp h
    have h2 := Bool.and_eq_true_iff.mp h.2
    have h3 := Bool.and_eq_true_iff.mp h2.2
    exact ⟨ab_dk_ok h.1, of_decide_eq_true h2.1, of_decide_eq_true h3.1, of_decide_eq_true h3.2⟩
  | goto off =>
    have h := Bool.and_eq_true_iff.mp h
    exact ⟨ab_dk_ok h.1, of_decide_eq_true h.2⟩
  | ifCond c off =>
    have h := Bool.and_eq_true_iff.mp h
    exact ⟨ab_dk_ok h.1, of_decide_eq_true h.2⟩
  | if_icmp c off =>
    have h := Bool.and_eq_true_iff.mp h
    exact ⟨ab_dk_ok h.1, of_decide_eq_true h.2⟩
  | ifnull off =>
    have h := Bool.and_eq_true_iff.mp h
    exact ⟨ab_dk_ok h.1, of_decide_eq_true h.2⟩
  | ifnonnull off =>
    have h := Bool.and_eq_true_iff.mp h
    exact ⟨ab_dk_ok h.1, of_decide_eq_true h.2⟩
  | invokevirtual idx => trivial
  | invokespecial idx => trivial
  | invokestatic idx => trivial
  | _ => exact ab_dk_ok h
def ab_tab (N : Nat) (t : Nat → Option Ent) (pc : Nat) : Option Ent := bif Nat.blt pc N then t pc else none
theorem ab_tab_all {N : Nat} {t : Nat → Option Ent} {chk : Nat → Ent → Bool} (h : (List.range N).all (fun pc => match t pc with | some q => chk pc q | none => true) = true) {pc : Nat} {q : Ent} (hq : ab_tab N t pc = some q) : chk pc q = true := by
  unfold ab_tab at hq
  cases hb : Nat.blt pc N with
  | false => rw [hb] at hq; cases hq
  | true =>
    rw [hb] at hq
    have hq : t pc = some q := hq
    have h1 := List.all_eq_true.mp h pc (List.mem_range.mpr (by
      have : Nat.ble (pc + 1) N = true := hb
      exact Nat.le_of_ble_eq_true this))
    rw [hq] at h1
    exact h1
/-- a row of a table that is decided: what it says of the words, by their places -/
def ab_wi (i : Nat) (w : Cond) : Bool := decide (lw_tbl[i]? = some w) && goodWord w
theorem ab_wi_in {i : Nat} {w : Cond} (h : ab_wi i w = true) : w ∈ ab_gW := by
  have h := Bool.and_eq_true_iff.mp h
  exact ab_gW_in i (of_decide_eq_true h.1) h.2
theorem ab_uws {C : String} {T : u_T} {N : Nat} (ix : List Nat) (h : (List.range N).all (fun k => ab_wi (ix.getD k 0) (u_lay C T k)) = true) : ∀ w ∈ u_ws C T N, w ∈ ab_gW := by
  intro w hw
  obtain ⟨k, hk, rfl⟩ := List.mem_map.mp hw
  exact ab_wi_in (List.all_eq_true.mp h k hk)
end
