/-! The words that aren't kept by program: links between nest mates, arrays over classes. -/
section
def ab_gN : List (String × Nat × MethodName) := [("StreamTransport", 21, ⟨"StreamTransport$Row", "<init>", "()V"⟩), ("StreamTransport$End", 11, ⟨"StreamTransport$Numbers", "<init>", "()V"⟩), ("StreamTransport$End", 20, ⟨"StreamTransport$Reader", "<init>", "()V"⟩), ("StreamTransport$Row", 26, ⟨"StreamTransport", "sizeOf", "(I)I"⟩), ("StreamTransport$Intake", 128, ⟨"StreamTransport", "sizeOf", "(I)I"⟩), ("StreamTransport$Outflow", 44, ⟨"StreamTransport", "sizeOf", "(I)I"⟩), ("StreamTransport$Outgoing", 38, ⟨"StreamTransport", "byteOf", "(JI)I"⟩)]
def ab_gO : List String := ["StreamTransport$End", "StreamTransport$Row", "StreamTransport$Sent", "StreamTransport$Incoming", "StreamTransport$Outgoing"]
def ab_X (U : State) : Prop := (∀ q ∈ ab_gN, va_Nw (.methodLinkNest q.1 q.2.1 q.2.2 "StreamTransport") U) ∧ ∀ C ∈ ab_gO, va_AO C U
theorem ab_X.warm {s U : State} (hW : s.WarmedH U.vm) (h : ab_X s) : ab_X U := ⟨fun q hq => va_Nw.warmM hW (h.1 q hq), fun C hC => va_AO.moved hW.alike (h.2 C hC)⟩
theorem ab_X.same {u U : State} (e : u.vm = U.vm) (h : ab_X u) : ab_X U := ⟨fun q hq => va_Nw.same rfl e (h.1 q hq), fun C hC => va_AO.moved (by rw [e]; exact Vm.Alike.refl _) (h.2 C hC)⟩
/-- the words that a program keeps -/
def ab_gW : List Cond := lw_tbl.filter goodWord
theorem ab_gW_in {w : Cond} (i : Nat) (h : lw_tbl[i]? = some w) (hg : goodWord w = true) : w ∈ ab_gW := List.mem_filter.mpr ⟨List.mem_of_getElem? h, hg⟩
theorem ab_gW_good {y : MethodName} {cc : ByteArray} {maxL : Nat} {ret : Option FieldType} (h : Cond.code y cc maxL ret ∈ ab_gW) : GoodIn ab_gW (Cond.code y cc maxL ret :: ab_gW) := by
  intro w hw
  rcases List.mem_cons.mp hw with rfl | hw
  · exact ⟨h, good_of_word (List.mem_filter.mp h).2⟩
  · exact ⟨hw, good_of_word (List.mem_filter.mp hw).2⟩
end
