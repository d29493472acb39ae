section
/-! The tables of this system: kinds, classes, fields, links. Written by a program out of the Statement. -/
def KT : List KS := [
  .inr (0, 0, 9, 0, 0, 0),
  .inl (9, [(3, 1, 2, 1), (3, 2, 3, 2), (3, 3, 4, 3), (3, 4, 6, 5), (0, 5, 0, 0), (0, 6, 0, 0), (0, 7, 0, 0)]),
  .inr (8, 2, 4, 7, 5, 30),
  .inr (9, 16, 3, 4, 0, 0),
  .inl (7, [(3, 10, 5, 1), (0, 11, 0, 0), (0, 12, 0, 0)]),
  .inr (13, 40, 0, 0, 0, 0),
  .inr (14, 37, 0, 0, 0, 0),
  .inl (0, [(0, 15, 0, 0), (3, 16, 13, 6), (3, 17, 17, 16), (3, 18, 8, 1), (3, 19, 10, 3), (3, 20, 12, 5), (0, 21, 0, 0), (0, 22, 0, 0), (0, 23, 0, 0), (0, 24, 0, 0), (0, 25, 0, 0), (1, 26, 0, 0), (1, 27, 0, 0), (1, 28, 0, 0)]),
  .inl (3, [(3, 29, 9, 1), (0, 30, 0, 0)]),
  .inr (31, 320, 0, 0, 0, 0),
  .inl (6, [(3, 32, 11, 1), (0, 33, 0, 0), (2, 34, 4, 0), (0, 35, 0, 0), (0, 36, 0, 0), (0, 37, 0, 0)]),
  .inr (38, 7, 0, 0, 0, 0),
  .inr (39, 512, 3, 22, 0, 0),
  .inl (2, [(3, 40, 14, 1), (0, 41, 0, 0), (0, 42, 0, 0), (0, 43, 0, 0), (1, 44, 0, 0)]),
  .inr (45, 4, 4, 15, 1, 2),
  .inl (1, [(3, 46, 16, 1), (0, 47, 0, 0), (0, 48, 0, 0), (0, 49, 0, 0), (0, 50, 0, 0), (1, 51, 0, 0), (1, 52, 0, 0)]),
  .inr (53, 64, 0, 0, 0, 0),
  .inl (4, [(3, 54, 18, 1), (0, 55, 0, 0)]),
  .inr (56, 4, 4, 19, 1, 3),
  .inl (5, [(3, 57, 20, 1), (3, 58, 21, 2), (0, 59, 0, 0), (0, 60, 0, 0), (0, 61, 0, 0), (1, 62, 0, 0), (1, 63, 0, 0), (0, 64, 0, 0), (0, 65, 0, 0)]),
  .inr (66, 64, 0, 0, 0, 0),
  .inr (67, 64, 0, 0, 0, 0),
  .inl (8, [(0, 68, 0, 0), (1, 69, 0, 0), (0, 70, 0, 0), (3, 71, 23, 1), (3, 72, 24, 2), (3, 73, 25, 3), (3, 74, 26, 4), (3, 75, 27, 5)]),
  .inr (76, 4, 0, 0, 0, 0),
  .inr (77, 4, 0, 0, 0, 0),
  .inr (78, 4, 0, 0, 0, 0),
  .inr (79, 4, 1, 0, 0, 0),
  .inr (80, 4, 1, 0, 0, 0),
  .inl (10, [(0, 81, 0, 0), (0, 82, 0, 0), (0, 83, 0, 0), (0, 84, 0, 0), (3, 85, 29, 1), (3, 86, 30, 2), (3, 87, 31, 3), (3, 88, 32, 4), (3, 89, 33, 5), (3, 90, 34, 6), (3, 91, 35, 7), (3, 92, 36, 8), (3, 93, 37, 9), (3, 94, 38, 10), (3, 95, 39, 11), (3, 96, 40, 12), (3, 97, 41, 13), (3, 98, 42, 14), (3, 99, 43, 15), (3, 100, 44, 16), (3, 101, 45, 17), (3, 102, 46, 18), (3, 103, 47, 19), (3, 104, 48, 20), (3, 105, 49, 21), (3, 106, 50, 22), (3, 107, 51, 23), (3, 108, 52, 24), (3, 109, 53, 25), (3, 110, 54, 26), (3, 111, 55, 27), (3, 112, 56, 28), (3, 113, 57, 29), (3, 114, 58, 30), (3, 115, 59, 31), (3, 116, 60, 32), (3, 117, 61, 33), (0, 118, 0, 0), (3, 119, 62, 34), (3, 120, 63, 35), (3, 121, 64, 36), (3, 122, 65, 37), (0, 123, 0, 0), (0, 124, 0, 0), (0, 125, 0, 0), (0, 126, 0, 0), (1, 127, 0, 0), (3, 128, 66, 38), (3, 129, 67, 39), (0, 130, 0, 0), (0, 131, 0, 0), (1, 132, 0, 0)]),
  .inr (133, 512, 0, 0, 0, 0),
  .inr (134, 512, 0, 0, 0, 0),
  .inr (135, 8, 0, 0, 0, 0),
  .inr (136, 8, 0, 0, 0, 0),
  .inr (137, 8, 0, 0, 0, 0),
  .inr (138, 8, 0, 0, 0, 0),
  .inr (139, 8, 0, 0, 0, 0),
  .inr (140, 8, 1, 0, 0, 0),
  .inr (141, 8, 1, 0, 0, 0),
  .inr (142, 512, 0, 0, 0, 0),
  .inr (143, 8, 0, 0, 0, 0),
  .inr (144, 8, 0, 0, 0, 0),
  .inr (145, 8, 0, 0, 0, 0),
  .inr (146, 8, 0, 0, 0, 0),
  .inr (147, 8, 1, 0, 0, 0),
  .inr (148, 8, 1, 0, 0, 0),
  .inr (149, 2, 0, 0, 0, 0),
  .inr (150, 2, 0, 0, 0, 0),
  .inr (151, 2, 0, 0, 0, 0),
  .inr (152, 2, 0, 0, 0, 0),
  .inr (153, 2, 0, 0, 0, 0),
  .inr (154, 2, 0, 0, 0, 0),
  .inr (155, 2, 0, 0, 0, 0),
  .inr (156, 2, 0, 0, 0, 0),
  .inr (157, 2, 1, 0, 0, 0),
  .inr (158, 2, 1, 0, 0, 0),
  .inr (159, 2, 1, 0, 0, 0),
  .inr (160, 2, 1, 0, 0, 0),
  .inr (161, 640, 0, 0, 0, 0),
  .inr (162, 1120, 0, 0, 0, 0),
  .inr (163, 1120, 0, 0, 0, 0),
  .inr (164, 1120, 0, 0, 0, 0),
  .inr (165, 4480, 0, 0, 0, 0),
  .inr (166, 672, 0, 0, 0, 0),
  .inr (167, 48, 0, 0, 0, 0),
  .inr (168, 48, 0, 0, 0, 0),
  .inr (169, 37, 0, 0, 0, 0),
  .inr (170, 3, 0, 0, 0, 0),
  .inr (171, 3, 0, 0, 0, 0),
  .inr (172, 1, 2, 0, 0, 0),
  .inl (9, [(2, 1, 70, 0), (2, 2, 71, 0), (2, 3, 72, 0), (2, 4, 6, 0), (0, 5, 0, 0), (0, 6, 0, 0), (0, 7, 0, 0)]),
  .inr (8, 2, 3, 73, 0, 0),
  .inr (9, 16, 3, 72, 0, 0),
  .inl (7, [(2, 10, 5, 0), (0, 11, 0, 0), (0, 12, 0, 0)]),
  .inl (0, [(0, 15, 0, 0), (2, 16, 76, 0), (2, 17, 79, 0), (2, 18, 74, 0), (2, 19, 75, 0), (2, 20, 12, 0), (0, 21, 0, 0), (0, 22, 0, 0), (0, 23, 0, 0), (0, 24, 0, 0), (0, 25, 0, 0), (1, 26, 0, 0), (1, 27, 0, 0), (1, 28, 0, 0)]),
  .inl (3, [(2, 29, 9, 0), (0, 30, 0, 0)]),
  .inl (6, [(2, 32, 11, 0), (0, 33, 0, 0), (2, 34, 4, 0), (0, 35, 0, 0), (0, 36, 0, 0), (0, 37, 0, 0)]),
  .inl (2, [(2, 40, 77, 0), (0, 41, 0, 0), (0, 42, 0, 0), (0, 43, 0, 0), (1, 44, 0, 0)]),
  .inr (45, 4, 3, 78, 0, 0),
  .inl (1, [(2, 46, 16, 0), (0, 47, 0, 0), (0, 48, 0, 0), (0, 49, 0, 0), (0, 50, 0, 0), (1, 51, 0, 0), (1, 52, 0, 0)]),
  .inl (4, [(2, 54, 80, 0), (0, 55, 0, 0)]),
  .inr (56, 4, 3, 81, 0, 0),
  .inl (5, [(2, 57, 20, 0), (2, 58, 21, 0), (0, 59, 0, 0), (0, 60, 0, 0), (0, 61, 0, 0), (1, 62, 0, 0), (1, 63, 0, 0), (0, 64, 0, 0), (0, 65, 0, 0)]),
  .inl (8, [(0, 68, 0, 0), (1, 69, 0, 0), (0, 70, 0, 0), (2, 71, 23, 0), (2, 72, 24, 0), (2, 73, 25, 0), (2, 74, 26, 0), (2, 75, 27, 0)]),
  .inl (10, [(0, 81, 0, 0), (0, 82, 0, 0), (0, 83, 0, 0), (0, 84, 0, 0), (2, 85, 29, 0), (2, 86, 30, 0), (2, 87, 31, 0), (2, 88, 32, 0), (2, 89, 33, 0), (2, 90, 34, 0), (2, 91, 35, 0), (2, 92, 36, 0), (2, 93, 37, 0), (2, 94, 38, 0), (2, 95, 39, 0), (2, 96, 40, 0), (2, 97, 41, 0), (2, 98, 42, 0), (2, 99, 43, 0), (2, 100, 44, 0), (2, 101, 45, 0), (2, 102, 46, 0), (2, 103, 47, 0), (2, 104, 48, 0), (2, 105, 49, 0), (2, 106, 50, 0), (2, 107, 51, 0), (2, 108, 52, 0), (2, 109, 53, 0), (2, 110, 54, 0), (2, 111, 55, 0), (2, 112, 56, 0), (2, 113, 57, 0), (2, 114, 58, 0), (2, 115, 59, 0), (2, 116, 60, 0), (2, 117, 61, 0), (0, 118, 0, 0), (2, 119, 62, 0), (2, 120, 63, 0), (2, 121, 64, 0), (2, 122, 65, 0), (0, 123, 0, 0), (0, 124, 0, 0), (0, 125, 0, 0), (0, 126, 0, 0), (1, 127, 0, 0), (2, 128, 66, 0), (2, 129, 67, 0), (0, 130, 0, 0), (0, 131, 0, 0), (1, 132, 0, 0)])]
theorem KT_0 : KT[0]? = some (.inr (0, 0, 9, 0, 0, 0)) := rfl
def T_End : u_T := fun k => match k with
  | 0 => ("StreamTransport$End", "side", "I", true)
  | 1 => ("StreamTransport$End", "intake", "LStreamTransport$Intake;", true)
  | 2 => ("StreamTransport$End", "outflow", "LStreamTransport$Outflow;", true)
  | 3 => ("StreamTransport$End", "processed", "LStreamTransport$Numbers;", true)
  | 4 => ("StreamTransport$End", "reader", "LStreamTransport$Reader;", true)
  | 5 => ("StreamTransport$End", "sent", "[LStreamTransport$Sent;", true)
  | 6 => ("StreamTransport$End", "next", "I", false)
  | 7 => ("StreamTransport$End", "code", "I", false)
  | 8 => ("StreamTransport$End", "backoff", "I", false)
  | 9 => ("StreamTransport$End", "greatestAcked", "I", false)
  | 10 => ("StreamTransport$End", "timerStart", "I", false)
  | 11 => ("StreamTransport$End", "isAckDue", "Z", false)
  | 12 => ("StreamTransport$End", "isProbeDue", "Z", false)
  | _ => ("StreamTransport$End", "isCloseDue", "Z", false)
def ty_End : Nat → FieldType := fun k => match k with
  | 0 => .int
  | 1 => .object "StreamTransport$Intake"
  | 2 => .object "StreamTransport$Outflow"
  | 3 => .object "StreamTransport$Numbers"
  | 4 => .object "StreamTransport$Reader"
  | 5 => .array (.object "StreamTransport$Sent")
  | 6 => .int
  | 7 => .int
  | 8 => .int
  | 9 => .int
  | 10 => .int
  | 11 => .boolean
  | 12 => .boolean
  | _ => .boolean
theorem nm_End : ∀ a, a < 14 → ∀ b, b < 14 → a ≠ b → (T_End a).2.1 ≠ (T_End b).2.1 := by decide +kernel
theorem tyok_End : ∀ k, k < 14 → parseFieldDescriptor (T_End k).2.2.1 = some (ty_End k) := by decide +kernel
theorem uw_End : ∀ w ∈ u_ws "StreamTransport$End" T_End 14, w ∈ ab_gW := ab_uws [312, 314, 316, 318, 320, 322, 324, 326, 328, 330, 332, 334, 336, 338] (by decide +kernel)
def T_Inc : u_T := fun k => match k with
  | 0 => ("StreamTransport$Incoming", "bytes", "[I", true)
  | 1 => ("StreamTransport$Incoming", "taken", "I", false)
  | 2 => ("StreamTransport$Incoming", "reach", "I", false)
  | 3 => ("StreamTransport$Incoming", "size", "I", false)
  | 4 => ("StreamTransport$Incoming", "given", "I", false)
  | 5 => ("StreamTransport$Incoming", "isReset", "Z", false)
  | _ => ("StreamTransport$Incoming", "isLimitDue", "Z", false)
def ty_Inc : Nat → FieldType := fun k => match k with
  | 0 => .array .int
  | 1 => .int
  | 2 => .int
  | 3 => .int
  | 4 => .int
  | 5 => .boolean
  | _ => .boolean
theorem nm_Inc : ∀ a, a < 7 → ∀ b, b < 7 → a ≠ b → (T_Inc a).2.1 ≠ (T_Inc b).2.1 := by decide +kernel
theorem tyok_Inc : ∀ k, k < 7 → parseFieldDescriptor (T_Inc k).2.2.1 = some (ty_Inc k) := by decide +kernel
theorem uw_Inc : ∀ w ∈ u_ws "StreamTransport$Incoming" T_Inc 7, w ∈ ab_gW := ab_uws [198, 200, 202, 204, 206, 208, 210] (by decide +kernel)
def T_Int : u_T := fun k => match k with
  | 0 => ("StreamTransport$Intake", "streams", "[LStreamTransport$Incoming;", true)
  | 1 => ("StreamTransport$Intake", "streamWindow", "I", true)
  | 2 => ("StreamTransport$Intake", "window", "I", true)
  | 3 => ("StreamTransport$Intake", "givenAll", "I", false)
  | _ => ("StreamTransport$Intake", "isAllDue", "Z", false)
def ty_Int : Nat → FieldType := fun k => match k with
  | 0 => .array (.object "StreamTransport$Incoming")
  | 1 => .int
  | 2 => .int
  | 3 => .int
  | _ => .boolean
theorem nm_Int : ∀ a, a < 5 → ∀ b, b < 5 → a ≠ b → (T_Int a).2.1 ≠ (T_Int b).2.1 := by decide +kernel
theorem tyok_Int : ∀ k, k < 5 → parseFieldDescriptor (T_Int k).2.2.1 = some (ty_Int k) := by decide +kernel
theorem uw_Int : ∀ w ∈ u_ws "StreamTransport$Intake" T_Int 5, w ∈ ab_gW := ab_uws [220, 222, 224, 226, 228] (by decide +kernel)
def T_Num : u_T := fun k => match k with
  | 0 => ("StreamTransport$Numbers", "bits", "[I", true)
  | _ => ("StreamTransport$Numbers", "greatest", "I", false)
def ty_Num : Nat → FieldType := fun k => match k with
  | 0 => .array .int
  | _ => .int
theorem nm_Num : ∀ a, a < 2 → ∀ b, b < 2 → a ≠ b → (T_Num a).2.1 ≠ (T_Num b).2.1 := by decide +kernel
theorem tyok_Num : ∀ k, k < 2 → parseFieldDescriptor (T_Num k).2.2.1 = some (ty_Num k) := by decide +kernel
theorem uw_Num : ∀ w ∈ u_ws "StreamTransport$Numbers" T_Num 2, w ∈ ab_gW := ab_uws [131, 133] (by decide +kernel)
def T_Otf : u_T := fun k => match k with
  | 0 => ("StreamTransport$Outflow", "streams", "[LStreamTransport$Outgoing;", true)
  | _ => ("StreamTransport$Outflow", "limitAll", "I", false)
def ty_Otf : Nat → FieldType := fun k => match k with
  | 0 => .array (.object "StreamTransport$Outgoing")
  | _ => .int
theorem nm_Otf : ∀ a, a < 2 → ∀ b, b < 2 → a ≠ b → (T_Otf a).2.1 ≠ (T_Otf b).2.1 := by decide +kernel
theorem tyok_Otf : ∀ k, k < 2 → parseFieldDescriptor (T_Otf k).2.2.1 = some (ty_Otf k) := by decide +kernel
theorem uw_Otf : ∀ w ∈ u_ws "StreamTransport$Outflow" T_Otf 2, w ∈ ab_gW := ab_uws [287, 289] (by decide +kernel)
def T_Out : u_T := fun k => match k with
  | 0 => ("StreamTransport$Outgoing", "bytes", "[I", true)
  | 1 => ("StreamTransport$Outgoing", "fates", "[I", true)
  | 2 => ("StreamTransport$Outgoing", "written", "I", false)
  | 3 => ("StreamTransport$Outgoing", "sent", "I", false)
  | 4 => ("StreamTransport$Outgoing", "limit", "I", false)
  | 5 => ("StreamTransport$Outgoing", "finished", "Z", false)
  | 6 => ("StreamTransport$Outgoing", "isReset", "Z", false)
  | 7 => ("StreamTransport$Outgoing", "endFate", "I", false)
  | _ => ("StreamTransport$Outgoing", "resetFate", "I", false)
def ty_Out : Nat → FieldType := fun k => match k with
  | 0 => .array .int
  | 1 => .array .int
  | 2 => .int
  | 3 => .int
  | 4 => .int
  | 5 => .boolean
  | 6 => .boolean
  | 7 => .int
  | _ => .int
theorem nm_Out : ∀ a, a < 9 → ∀ b, b < 9 → a ≠ b → (T_Out a).2.1 ≠ (T_Out b).2.1 := by decide +kernel
theorem tyok_Out : ∀ k, k < 9 → parseFieldDescriptor (T_Out k).2.2.1 = some (ty_Out k) := by decide +kernel
theorem uw_Out : ∀ w ∈ u_ws "StreamTransport$Outgoing" T_Out 9, w ∈ ab_gW := ab_uws [264, 266, 268, 270, 272, 274, 276, 278, 280] (by decide +kernel)
def T_Rdr : u_T := fun k => match k with
  | 0 => ("StreamTransport$Reader", "numbers", "[I", true)
  | 1 => ("StreamTransport$Reader", "kind", "I", false)
  | 2 => ("StreamTransport$Reader", "row", "LStreamTransport$Row;", false)
  | 3 => ("StreamTransport$Reader", "data", "I", false)
  | 4 => ("StreamTransport$Reader", "at", "I", false)
  | _ => ("StreamTransport$Reader", "stop", "I", false)
def ty_Rdr : Nat → FieldType := fun k => match k with
  | 0 => .array .int
  | 1 => .int
  | 2 => .object "StreamTransport$Row"
  | 3 => .int
  | 4 => .int
  | _ => .int
theorem nm_Rdr : ∀ a, a < 6 → ∀ b, b < 6 → a ≠ b → (T_Rdr a).2.1 ≠ (T_Rdr b).2.1 := by decide +kernel
theorem tyok_Rdr : ∀ k, k < 6 → parseFieldDescriptor (T_Rdr k).2.2.1 = some (ty_Rdr k) := by decide +kernel
theorem uw_Rdr : ∀ w ∈ u_ws "StreamTransport$Reader" T_Rdr 6, w ∈ ab_gW := ab_uws [151, 153, 155, 157, 159, 161] (by decide +kernel)
def T_Row : u_T := fun k => match k with
  | 0 => ("StreamTransport$Row", "bytes", "[I", true)
  | 1 => ("StreamTransport$Row", "size", "I", false)
  | _ => ("StreamTransport$Row", "sender", "I", false)
def ty_Row : Nat → FieldType := fun k => match k with
  | 0 => .array .int
  | 1 => .int
  | _ => .int
theorem nm_Row : ∀ a, a < 3 → ∀ b, b < 3 → a ≠ b → (T_Row a).2.1 ≠ (T_Row b).2.1 := by decide +kernel
theorem tyok_Row : ∀ k, k < 3 → parseFieldDescriptor (T_Row k).2.2.1 = some (ty_Row k) := by decide +kernel
theorem uw_Row : ∀ w ∈ u_ws "StreamTransport$Row" T_Row 3, w ∈ ab_gW := ab_uws [108, 110, 112] (by decide +kernel)
def T_Snt : u_T := fun k => match k with
  | 0 => ("StreamTransport$Sent", "fate", "I", false)
  | 1 => ("StreamTransport$Sent", "hasMoreThanAck", "Z", false)
  | 2 => ("StreamTransport$Sent", "limitAll", "I", false)
  | 3 => ("StreamTransport$Sent", "limit", "[I", true)
  | 4 => ("StreamTransport$Sent", "from", "[I", true)
  | 5 => ("StreamTransport$Sent", "count", "[I", true)
  | 6 => ("StreamTransport$Sent", "end", "[Z", true)
  | _ => ("StreamTransport$Sent", "reset", "[Z", true)
def ty_Snt : Nat → FieldType := fun k => match k with
  | 0 => .int
  | 1 => .boolean
  | 2 => .int
  | 3 => .array .int
  | 4 => .array .int
  | 5 => .array .int
  | 6 => .array .boolean
  | _ => .array .boolean
theorem nm_Snt : ∀ a, a < 8 → ∀ b, b < 8 → a ≠ b → (T_Snt a).2.1 ≠ (T_Snt b).2.1 := by decide +kernel
theorem tyok_Snt : ∀ k, k < 8 → parseFieldDescriptor (T_Snt k).2.2.1 = some (ty_Snt k) := by decide +kernel
theorem uw_Snt : ∀ w ∈ u_ws "StreamTransport$Sent" T_Snt 8, w ∈ ab_gW := ab_uws [427, 429, 431, 433, 435, 437, 439, 441] (by decide +kernel)
def T_X : u_T := fun k => match k with
  | 0 => ("StreamTransport", "ends", "[LStreamTransport$End;", true)
  | 1 => ("StreamTransport", "way", "[LStreamTransport$Row;", true)
  | 2 => ("StreamTransport", "spare", "LStreamTransport$Row;", true)
  | 3 => ("StreamTransport", "rawBytes", "[I", true)
  | 4 => ("StreamTransport", "wayCount", "I", false)
  | 5 => ("StreamTransport", "rawCount", "I", false)
  | _ => ("StreamTransport", "time", "I", false)
def ty_X : Nat → FieldType := fun k => match k with
  | 0 => .array (.object "StreamTransport$End")
  | 1 => .array (.object "StreamTransport$Row")
  | 2 => .object "StreamTransport$Row"
  | 3 => .array .int
  | 4 => .int
  | 5 => .int
  | _ => .int
theorem nm_X : ∀ a, a < 7 → ∀ b, b < 7 → a ≠ b → (T_X a).2.1 ≠ (T_X b).2.1 := by decide +kernel
theorem tyok_X : ∀ k, k < 7 → parseFieldDescriptor (T_X k).2.2.1 = some (ty_X k) := by decide +kernel
theorem uw_X : ∀ w ∈ u_ws "StreamTransport" T_X 7, w ∈ ab_gW := ab_uws [348, 350, 352, 354, 356, 358, 360] (by decide +kernel)
def T_M : u_T := fun k => match k with
  | 0 => ("StreamTransportModel", "streamWindow", "I", true)
  | 1 => ("StreamTransportModel", "window", "I", true)
  | 2 => ("StreamTransportModel", "time", "I", false)
  | 3 => ("StreamTransportModel", "fault", "I", false)
  | 4 => ("StreamTransportModel", "content", "[I", true)
  | 5 => ("StreamTransportModel", "fate", "[I", true)
  | 6 => ("StreamTransportModel", "written", "[I", true)
  | 7 => ("StreamTransportModel", "sentTo", "[I", true)
  | 8 => ("StreamTransportModel", "endFate", "[I", true)
  | 9 => ("StreamTransportModel", "resetFate", "[I", true)
  | 10 => ("StreamTransportModel", "limit", "[I", true)
  | 11 => ("StreamTransportModel", "finished", "[Z", true)
  | 12 => ("StreamTransportModel", "stopped", "[Z", true)
  | 13 => ("StreamTransportModel", "came", "[I", true)
  | 14 => ("StreamTransportModel", "high", "[I", true)
  | 15 => ("StreamTransportModel", "size", "[I", true)
  | 16 => ("StreamTransportModel", "taken", "[I", true)
  | 17 => ("StreamTransportModel", "given", "[I", true)
  | 18 => ("StreamTransportModel", "gone", "[Z", true)
  | 19 => ("StreamTransportModel", "due", "[Z", true)
  | 20 => ("StreamTransportModel", "limitAll", "[I", true)
  | 21 => ("StreamTransportModel", "givenAll", "[I", true)
  | 22 => ("StreamTransportModel", "next", "[I", true)
  | 23 => ("StreamTransportModel", "top", "[I", true)
  | 24 => ("StreamTransportModel", "acked", "[I", true)
  | 25 => ("StreamTransportModel", "closed", "[I", true)
  | 26 => ("StreamTransportModel", "over", "[I", true)
  | 27 => ("StreamTransportModel", "backoff", "[I", true)
  | 28 => ("StreamTransportModel", "dueAll", "[Z", true)
  | 29 => ("StreamTransportModel", "ackDue", "[Z", true)
  | 30 => ("StreamTransportModel", "closeDue", "[Z", true)
  | 31 => ("StreamTransportModel", "probe", "[Z", true)
  | 32 => ("StreamTransportModel", "seen", "[I", true)
  | 33 => ("StreamTransportModel", "state", "[I", true)
  | 34 => ("StreamTransportModel", "bears", "[I", true)
  | 35 => ("StreamTransportModel", "allAt", "[I", true)
  | 36 => ("StreamTransportModel", "bore", "[I", true)
  | 37 => ("StreamTransportModel", "flying", "I", false)
  | 38 => ("StreamTransportModel", "row", "[I", true)
  | 39 => ("StreamTransportModel", "cur", "[I", true)
  | 40 => ("StreamTransportModel", "out", "[I", true)
  | 41 => ("StreamTransportModel", "raw", "[I", true)
  | 42 => ("StreamTransportModel", "curSize", "I", false)
  | 43 => ("StreamTransportModel", "pos", "I", false)
  | 44 => ("StreamTransportModel", "used", "I", false)
  | 45 => ("StreamTransportModel", "raws", "I", false)
  | 46 => ("StreamTransportModel", "missing", "Z", false)
  | 47 => ("StreamTransportModel", "high0", "[I", true)
  | 48 => ("StreamTransportModel", "low0", "[I", true)
  | 49 => ("StreamTransportModel", "planFrom", "I", false)
  | 50 => ("StreamTransportModel", "planMany", "I", false)
  | _ => ("StreamTransportModel", "planEnd", "Z", false)
def ty_M : Nat → FieldType := fun k => match k with
  | 0 => .int
  | 1 => .int
  | 2 => .int
  | 3 => .int
  | 4 => .array .int
  | 5 => .array .int
  | 6 => .array .int
  | 7 => .array .int
  | 8 => .array .int
  | 9 => .array .int
  | 10 => .array .int
  | 11 => .array .boolean
  | 12 => .array .boolean
  | 13 => .array .int
  | 14 => .array .int
  | 15 => .array .int
  | 16 => .array .int
  | 17 => .array .int
  | 18 => .array .boolean
  | 19 => .array .boolean
  | 20 => .array .int
  | 21 => .array .int
  | 22 => .array .int
  | 23 => .array .int
  | 24 => .array .int
  | 25 => .array .int
  | 26 => .array .int
  | 27 => .array .int
  | 28 => .array .boolean
  | 29 => .array .boolean
  | 30 => .array .boolean
  | 31 => .array .boolean
  | 32 => .array .int
  | 33 => .array .int
  | 34 => .array .int
  | 35 => .array .int
  | 36 => .array .int
  | 37 => .int
  | 38 => .array .int
  | 39 => .array .int
  | 40 => .array .int
  | 41 => .array .int
  | 42 => .int
  | 43 => .int
  | 44 => .int
  | 45 => .int
  | 46 => .boolean
  | 47 => .array .int
  | 48 => .array .int
  | 49 => .int
  | 50 => .int
  | _ => .boolean
theorem nm_M : ∀ a, a < 52 → ∀ b, b < 52 → a ≠ b → (T_M a).2.1 ≠ (T_M b).2.1 := by decide +kernel
theorem tyok_M : ∀ k, k < 52 → parseFieldDescriptor (T_M k).2.2.1 = some (ty_M k) := by decide +kernel
theorem uw_M : ∀ w ∈ u_ws "StreamTransportModel" T_M 52, w ∈ ab_gW := ab_uws [1038, 1040, 1042, 1044, 1046, 1048, 1050, 1052, 1054, 1056, 1058, 1060, 1062, 1064, 1066, 1068, 1070, 1072, 1074, 1076, 1078, 1080, 1082, 1084, 1086, 1088, 1090, 1092, 1094, 1096, 1098, 1100, 1102, 1104, 1106, 1108, 1110, 1112, 1114, 1116, 1118, 1120, 1122, 1124, 1126, 1128, 1130, 1132, 1134, 1136, 1138, 1140] (by decide +kernel)
def CL : List vw_C := [("StreamTransport$End", T_End, 14), ("StreamTransport$Incoming", T_Inc, 7), ("StreamTransport$Intake", T_Int, 5), ("StreamTransport$Numbers", T_Num, 2), ("StreamTransport$Outflow", T_Otf, 2), ("StreamTransport$Outgoing", T_Out, 9), ("StreamTransport$Reader", T_Rdr, 6), ("StreamTransport$Row", T_Row, 3), ("StreamTransport$Sent", T_Snt, 8), ("StreamTransport", T_X, 7), ("StreamTransportModel", T_M, 52)]
def TY (ci : Nat) : Nat → FieldType := match ci with
  | 0 => ty_End
  | 1 => ty_Inc
  | 2 => ty_Int
  | 3 => ty_Num
  | 4 => ty_Otf
  | 5 => ty_Out
  | 6 => ty_Rdr
  | 7 => ty_Row
  | 8 => ty_Snt
  | 9 => ty_X
  | _ => ty_M
theorem CL_uw : ∀ (ci : Nat) (C : String) (T : u_T) (N : Nat), CL[ci]? = some (C, T, N) → ∀ w ∈ u_ws C T N, w ∈ ab_gW
  | 0, C, T, N, h => by cases h; exact uw_End
  | 1, C, T, N, h => by cases h; exact uw_Inc
  | 2, C, T, N, h => by cases h; exact uw_Int
  | 3, C, T, N, h => by cases h; exact uw_Num
  | 4, C, T, N, h => by cases h; exact uw_Otf
  | 5, C, T, N, h => by cases h; exact uw_Out
  | 6, C, T, N, h => by cases h; exact uw_Rdr
  | 7, C, T, N, h => by cases h; exact uw_Row
  | 8, C, T, N, h => by cases h; exact uw_Snt
  | 9, C, T, N, h => by cases h; exact uw_X
  | 10, C, T, N, h => by cases h; exact uw_M
  | n + 11, C, T, N, h => by cases h
theorem CL_ty : ∀ (ci : Nat) (C : String) (T : u_T) (N : Nat), CL[ci]? = some (C, T, N) → ∀ k, k < N → parseFieldDescriptor (T k).2.2.1 = some (TY ci k)
  | 0, C, T, N, h => by cases h; exact tyok_End
  | 1, C, T, N, h => by cases h; exact tyok_Inc
  | 2, C, T, N, h => by cases h; exact tyok_Int
  | 3, C, T, N, h => by cases h; exact tyok_Num
  | 4, C, T, N, h => by cases h; exact tyok_Otf
  | 5, C, T, N, h => by cases h; exact tyok_Out
  | 6, C, T, N, h => by cases h; exact tyok_Rdr
  | 7, C, T, N, h => by cases h; exact tyok_Row
  | 8, C, T, N, h => by cases h; exact tyok_Snt
  | 9, C, T, N, h => by cases h; exact tyok_X
  | 10, C, T, N, h => by cases h; exact tyok_M
  | n + 11, C, T, N, h => by cases h
theorem CL_nm : ∀ (ci : Nat) (C : String) (T : u_T) (N : Nat), CL[ci]? = some (C, T, N) → ∀ a, a < N → ∀ b, b < N → a ≠ b → (T a).2.1 ≠ (T b).2.1
  | 0, C, T, N, h => by cases h; exact nm_End
  | 1, C, T, N, h => by cases h; exact nm_Inc
  | 2, C, T, N, h => by cases h; exact nm_Int
  | 3, C, T, N, h => by cases h; exact nm_Num
  | 4, C, T, N, h => by cases h; exact nm_Otf
  | 5, C, T, N, h => by cases h; exact nm_Out
  | 6, C, T, N, h => by cases h; exact nm_Rdr
  | 7, C, T, N, h => by cases h; exact nm_Row
  | 8, C, T, N, h => by cases h; exact nm_Snt
  | 9, C, T, N, h => by cases h; exact nm_X
  | 10, C, T, N, h => by cases h; exact nm_M
  | n + 11, C, T, N, h => by cases h
def ab_ndb (KT : List KS) : Bool := KT.all fun z => match z with
  | .inl (_, fs) => decide ((fs.map fun f => f.2.1).Nodup) && fs.all (fun f => decide (f.1 ≤ 3))
  | .inr (_, len, t, _, _, _) => decide (t ≤ 4 ∨ len = 0)
theorem ab_ndb_ok {KT : List KS} (h : ab_ndb KT = true) : ab_nd KT := by
  have h := List.all_eq_true.mp h
  refine ⟨?_, ?_, ?_⟩
  · intro k ci f f' r t k1 d1 t' k2 d2 fs h1 h2 h3
    have h4 := h _ (List.mem_of_getElem? h1)
    simp only [Bool.and_eq_true, decide_eq_true_eq] at h4
    obtain ⟨l1, e1⟩ := List.getElem?_eq_some_iff.mp h2
    obtain ⟨l2, e2⟩ := List.getElem?_eq_some_iff.mp h3
    have g1 : (fs.map fun f => f.2.1)[f]? = (fs.map fun f => f.2.1)[f']? := by
      rw [List.getElem?_map, List.getElem?_map, h2, h3]; rfl
    exact (List.getElem?_inj (by rw [List.length_map]; exact l1) h4.1).mp g1
  · intro k ci f t r k1 d1 fs h1 h2
    have h4 := h _ (List.mem_of_getElem? h1)
    simp only [Bool.and_eq_true] at h4
    exact of_decide_eq_true (List.all_eq_true.mp h4.2 _ (List.mem_of_getElem? h2))
  · intro k r len t k1 a st h1
    exact of_decide_eq_true (h _ (List.mem_of_getElem? h1))
theorem KT_nd : ab_nd KT := ab_ndb_ok (by decide +kernel)
def ab_k3b (KT : List KS) (cl : List vw_C) : Bool := KT.all fun z => match z with
  | .inr (_, _, 3, k2, _, _) => decide (k2 ≠ 0) && (match KT[k2]? with | some (.inl (ci, _)) => decide (ci < cl.length) | _ => false)
  | _ => true
theorem ab_k3b_ok {KT : List KS} {cl : List vw_C} (h : ab_k3b KT cl = true) : ab_k3 KT cl := by
  intro k r len k2 a st h1
  have h2 := List.all_eq_true.mp h _ (List.mem_of_getElem? h1)
  simp only [Bool.and_eq_true, decide_eq_true_eq] at h2
  refine ⟨h2.1, ?_⟩
  have h3 := h2.2
  split at h3
  · rename_i ci fs hk
    exact ⟨ci, fs, cl[ci]'(of_decide_eq_true h3), hk, List.getElem?_eq_getElem _⟩
  · cases h3
theorem KT_k3 : ab_k3 KT CL := ab_k3b_ok (by decide +kernel)
def ab_flb (own : String) (q : (Nat × Nat × Nat) × Nat) : Bool := match CL[q.1.2.1]? with
  | some (_, T, N) => decide (q.1.2.2 < N) && ab_wi q.2 (.fieldLink own q.1.1 (T q.1.2.2).1 (T q.1.2.2).2.1 (T q.1.2.2).2.2.1)
  | none => false
theorem ab_flb_ok {own : String} {l : List ((Nat × Nat × Nat) × Nat)} (h : l.all (ab_flb own) = true) : ∀ q ∈ l.map (fun z => z.1), ab_fld CL ab_gW own q.1 q.2.1 q.2.2 := by
  intro q hq
  obtain ⟨z, hz, rfl⟩ := List.mem_map.mp hq
  have h1 := List.all_eq_true.mp h z hz
  unfold ab_flb at h1
  split at h1
  · rename_i C T N hc
    have h2 := Bool.and_eq_true_iff.mp h1
    exact ⟨C, T, N, hc, of_decide_eq_true h2.1, CL_uw _ _ _ _ hc, ab_wi_in h2.2⟩
  · cases h1
def ab_fpk (ci f : Nat) : Bool := (List.range KT.length).all fun k => match ab_fs KT ci f k with
  | some (0, _, _, _) => decide (TY ci f = .int)
  | some (1, _, _, _) => decide (TY ci f = .boolean)
  | some (2, _, k', _) => (match TY ci f with | .object _ => true | .array _ => true | _ => false) && decide (k' ≠ 0)
  | _ => true
def ab_fpb (own nm : String) (q : (Nat × Nat × Nat) × Nat) : Bool := match CL[q.1.2.1]? with
  | some (_, T, N) => decide (q.1.2.2 < N) && (ab_wi q.2 (.fieldLink own q.1.1 (T q.1.2.2).1 (T q.1.2.2).2.1 (T q.1.2.2).2.2.1) && ((decide ((T q.1.2.2).2.2.2 = false) || (decide ((T q.1.2.2).2.2.2 = true) && (decide (nm = "<init>") && decide ((T q.1.2.2).1 = own)))) && ab_fpk q.1.2.1 q.1.2.2))
  | none => false
theorem ab_fpb_ok {own nm : String} {l : List ((Nat × Nat × Nat) × Nat)} (h : l.all (ab_fpb own nm) = true) : ∀ q ∈ l.map (fun z => z.1), ∃ ty, ab_fldp CL ab_gW own nm q.1 q.2.1 q.2.2 ty ∧ ∀ (k t r k' d' : Nat), ab_fs KT q.2.1 q.2.2 k = some (t, r, k', d') → (t = 0 → ty = .int) ∧ (t = 1 → ty = .boolean) ∧ (t = 2 → ((∃ n, ty = .object n) ∨ ∃ t, ty = .array t) ∧ k' ≠ 0) := by
  intro q hq
  obtain ⟨z, hz, rfl⟩ := List.mem_map.mp hq
  have h1 := List.all_eq_true.mp h z hz
  unfold ab_fpb at h1
  split at h1
  · rename_i C T N hc
    have h2 := Bool.and_eq_true_iff.mp h1
    have h3 := Bool.and_eq_true_iff.mp h2.2
    have h4 := Bool.and_eq_true_iff.mp h3.2
    refine ⟨TY z.1.2.1 z.1.2.2, ⟨C, T, N, TY z.1.2.1, hc, of_decide_eq_true h2.1, CL_uw _ _ _ _ hc, ab_wi_in h3.1, CL_ty _ _ _ _ hc, CL_nm _ _ _ _ hc, rfl, ?_⟩, ?_⟩
    · rcases Bool.or_eq_true_iff.mp h4.1 with g | g
      · exact Or.inl (of_decide_eq_true g)
      · have g1 := Bool.and_eq_true_iff.mp g
        have g2 := Bool.and_eq_true_iff.mp g1.2
        exact Or.inr ⟨of_decide_eq_true g1.1, of_decide_eq_true g2.1, of_decide_eq_true g2.2⟩
    · intro k t r k' d' hf
      have hk : k < KT.length := by
        obtain ⟨fs, g1, -⟩ := ab_fs_inv hf
        exact (List.getElem?_eq_some_iff.mp g1).1
      have h5 := List.all_eq_true.mp h4.2 k (List.mem_range.mpr hk)
      rw [hf] at h5
      refine ⟨fun e => ?_, fun e => ?_, fun e => ?_⟩
      · subst e; exact of_decide_eq_true h5
      · subst e; exact of_decide_eq_true h5
      · subst e
        have h6 := Bool.and_eq_true_iff.mp h5
        refine ⟨?_, of_decide_eq_true h6.2⟩
        have h7 := h6.1
        split at h7
        · rename_i n e; exact Or.inl ⟨n, e⟩
        · rename_i t e; exact Or.inr ⟨t, e⟩
        · cases h7
  · cases h1
def ab_nwb (own : String) (q : (Nat × Nat) × Nat × Nat × Nat) : Bool := match KT[q.1.2]? with
  | some (.inl (ci, fs)) => match CL[ci]? with
    | some (C, _, N) => decide (fs.length = N) && (decide (q.1.2 ≠ 0) && (ab_wi q.2.1 (.classLink own q.1.1 C) && (ab_wi q.2.2.1 (.instantiable C fs.length) && (ab_wi q.2.2.2 (.initialized C) && (List.range N).all (fun j => match fs[j]? with
        | some (t, _, _, _) => (decide (t ≤ 1) && decide (defaultValue (TY ci j) = .int 0)) || (decide (t = 2) && decide (defaultValue (TY ci j) = .null))
        | none => true)))))
    | none => false
  | _ => false
theorem ab_nwb_ok {own : String} {l : List ((Nat × Nat) × Nat × Nat × Nat)} (h : l.all (ab_nwb own) = true) : ∀ q ∈ l.map (fun z => z.1), ab_newok KT CL ab_gW own q.1 q.2 := by
  intro q hq
  obtain ⟨z, hz, rfl⟩ := List.mem_map.mp hq
  have h1 := List.all_eq_true.mp h z hz
  unfold ab_nwb at h1
  split at h1
  · rename_i ci fs hk
    split at h1
    · rename_i C T N hc
      have h2 := Bool.and_eq_true_iff.mp h1
      have hN := of_decide_eq_true h2.1
      have h3 := Bool.and_eq_true_iff.mp h2.2
      have h4 := Bool.and_eq_true_iff.mp h3.2
      have h5 := Bool.and_eq_true_iff.mp h4.2
      have h6 := Bool.and_eq_true_iff.mp h5.2
      subst hN
      refine ⟨C, T, TY ci, ci, fs, hc, hk, of_decide_eq_true h3.1, CL_uw _ _ _ _ hc, CL_ty _ _ _ _ hc, ab_wi_in h4.1, ab_wi_in h5.1, ab_wi_in h6.1, ?_⟩
      intro f t r k' d hf
      have h7 := List.all_eq_true.mp h6.2 f (List.mem_range.mpr (List.getElem?_eq_some_iff.mp hf).1)
      rw [hf] at h7
      rcases Bool.or_eq_true_iff.mp h7 with g | g
      · have g1 := Bool.and_eq_true_iff.mp g
        exact Or.inl ⟨of_decide_eq_true g1.1, of_decide_eq_true g1.2⟩
      · have g1 := Bool.and_eq_true_iff.mp g
        exact Or.inr ⟨of_decide_eq_true g1.1, of_decide_eq_true g1.2⟩
    · cases h1
  · cases h1
def ab_nqb (own : String) (q : (Nat × Nat) × Nat) : Bool := match KT[q.1.2]? with
  | some (.inr (_, len, 3, k', _, _)) => decide (q.1.2 ≠ 0) && (ab_wi q.2 (.classLink own q.1.1 (ab_cn KT CL k')) && (decide (ab_cn KT CL k' ∈ ab_gO) && decide (len < 65536)))
  | _ => false
theorem ab_nqb_ok {own : String} {l : List ((Nat × Nat) × Nat)} (h : l.all (ab_nqb own) = true) : ∀ q ∈ l.map (fun z => z.1), ab_nqok KT CL ab_gW own q.1 q.2 := by
  intro q hq
  obtain ⟨z, hz, rfl⟩ := List.mem_map.mp hq
  have h1 := List.all_eq_true.mp h z hz
  unfold ab_nqb at h1
  split at h1
  · rename_i r len k' a st hk
    have h3 := Bool.and_eq_true_iff.mp h1
    have h4 := Bool.and_eq_true_iff.mp h3.2
    have h5 := Bool.and_eq_true_iff.mp h4.2
    exact ⟨r, len, k', a, st, hk, of_decide_eq_true h3.1, ab_wi_in h4.1, of_decide_eq_true h5.1, of_decide_eq_true h5.2⟩
  · cases h1
def ab_nab (q : Nat × Nat) : Bool := match KT[q.2]? with
  | some (.inr (_, len, t, _, _, _)) => decide (q.2 ≠ 0) && (decide (q.1 = t) && (decide (t ≤ 2) && decide (len < 65536)))
  | _ => false
theorem ab_ai : Cond.arrayClass .int ∈ ab_gW := ab_gW_in 115 (by decide +kernel) rfl
theorem ab_az : Cond.arrayClass .boolean ∈ ab_gW := ab_gW_in 444 (by decide +kernel) rfl
theorem ab_aj : Cond.arrayClass .long ∈ ab_gW := ab_gW_in 1351 (by decide +kernel) rfl
theorem ab_nab_ok {l : List (Nat × Nat)} (h : l.all ab_nab = true) : ∀ q ∈ l, (q.1 = 0 → ab_naok KT CL ab_gW .int q.2) ∧ (q.1 = 1 → ab_naok KT CL ab_gW .boolean q.2) ∧ (q.1 = 2 → ab_naok KT CL ab_gW .long q.2) := by
  intro q hq
  have h1 := List.all_eq_true.mp h q hq
  unfold ab_nab at h1
  split at h1
  · rename_i r len t k' a st hk
    have h3 := Bool.and_eq_true_iff.mp h1
    have h4 := Bool.and_eq_true_iff.mp h3.2
    have h5 := Bool.and_eq_true_iff.mp h4.2
    have e := of_decide_eq_true h4.1
    refine ⟨fun z => ?_, fun z => ?_, fun z => ?_⟩
    · have ht : t = 0 := by omega
      subst ht
      exact ⟨r, len, 0, k', a, st, hk, of_decide_eq_true h3.1, by omega, rfl, ab_ai, of_decide_eq_true h5.2⟩
    · have ht : t = 1 := by omega
      subst ht
      exact ⟨r, len, 1, k', a, st, hk, of_decide_eq_true h3.1, by omega, rfl, ab_az, of_decide_eq_true h5.2⟩
    · have ht : t = 2 := by omega
      subst ht
      exact ⟨r, len, 2, k', a, st, hk, of_decide_eq_true h3.1, by omega, rfl, ab_aj, of_decide_eq_true h5.2⟩
  · cases h1
/-- a value that has a name -/
def ab_let {α β : Type} (x : α) (f : α → β) : β := f x
def ab_rV (o : Option Rs) : Option Mm := match o with
  | some (.inl (none, m)) => some m
  | _ => none
def ab_rI (o : Option Rs) : Option (Int32 × Mm) := match o with
  | some (.inl (some (.inl v), m)) => some (v, m)
  | _ => none
theorem ab_rV_inv {o : Option Rs} {m : Mm} (h : ab_rV o = some m) : o = some (.inl (none, m)) := by
  unfold ab_rV at h
  split at h
  · cases h; rfl
  · cases h
theorem ab_rI_inv {o : Option Rs} {z : Int32 × Mm} (h : ab_rI o = some z) : o = some (.inl (some (.inl z.1), z.2)) := by
  unfold ab_rI at h
  split at h
  · cases h; rfl
  · cases h
/-- nothing is made -/
def ab_kp (m m' : Mm) : Prop := m'.2.2.2 = m.2.2.2
theorem ab_kp_mono {m m' : Mm} (h : ab_kp m m') : ab_gc m ≤ ab_gc m' ∧ ab_gs KT m ≤ ab_gs KT m' := by
  unfold ab_kp at h
  unfold ab_gc ab_gs
  rw [h]
  exact ⟨Nat.le_refl _, Nat.le_refl _⟩
theorem ab_kprel {sc : Option (Nat × (Nat → Int32))} {sw : Nat → List (Int32 × Nat) × Nat} {eV : Nat → List AV → Mm → Option Mm} {eI : Nat → List AV → Mm → Option (Int32 × Mm)} {ρ : Rs} {ins : Nat → Option Ent} {hd : Nat → Nat × List Bool}
    (hN : ∀ pc q, ins pc = some q → ab_isn q.1 = false) (hV : ∀ a av m m', eV a av m = some m' → ab_kp m m') (hIv : ∀ a av m q, eI a av m = some q → ab_kp m q.2) {f pc : Nat} {L : List (Option AV)} {S : List AV} {m : Mm} (h : ab_ex KT sc sw eV eI ins hd f pc L S m = some ρ) : ab_kp m (ab_rm ρ) :=
  ab_rel (Rl := ab_kp) (fun _ => rfl) (fun _ _ _ h1 h2 => h2.trans h1) (fun _ _ _ _ _ => rfl) (fun _ _ _ _ _ => rfl) (fun _ _ _ _ _ => rfl) (fun pc q hq hn => by rw [hN pc q hq] at hn; cases hn) hV hIv _ _ _ _ _ h
def ab_mo (m m' : Mm) : Prop := ab_gc m ≤ ab_gc m' ∧ ab_gs KT m ≤ ab_gs KT m'
theorem ab_kp_mo {m m' : Mm} (h : ab_kp m m') : ab_mo m m' := ab_kp_mono h
theorem ab_morel {sc : Option (Nat × (Nat → Int32))} {sw : Nat → List (Int32 × Nat) × Nat} {eV : Nat → List AV → Mm → Option Mm} {eI : Nat → List AV → Mm → Option (Int32 × Mm)} {ρ : Rs} {ins : Nat → Option Ent} {hd : Nat → Nat × List Bool}
    (hV : ∀ a av m m', eV a av m = some m' → ab_mo m m') (hIv : ∀ a av m q, eI a av m = some q → ab_mo m q.2) {f pc : Nat} {L : List (Option AV)} {S : List AV} {m : Mm} (h : ab_ex KT sc sw eV eI ins hd f pc L S m = some ρ) : ab_mo m (ab_rm ρ) :=
  ab_rel (Rl := ab_mo) (fun _ => ⟨Nat.le_refl _, Nat.le_refl _⟩) (fun _ _ _ h1 h2 => ⟨Nat.le_trans h1.1 h2.1, Nat.le_trans h1.2 h2.2⟩) (fun _ _ _ _ _ => ⟨Nat.le_refl _, Nat.le_refl _⟩) (fun _ _ _ _ _ => ⟨Nat.le_refl _, Nat.le_refl _⟩) (fun _ _ _ _ _ => ⟨Nat.le_refl _, Nat.le_refl _⟩)
    (fun pc q hq hn m => ⟨by rw [ab_gc_ap]; exact Nat.le_succ _, by rw [ab_gs_ap]; exact Nat.le_add_right _ _⟩) hV hIv _ _ _ _ _ h
theorem ab_oI : Cond.instanceMethod objectInit ∈ ab_gW := ab_gW_in 88 (by decide +kernel) rfl
theorem ab_oC : Cond.code objectInit ⟨#[0xb1]⟩ 1 none ∈ ab_gW := ab_gW_in 89 (by decide +kernel) rfl
end
