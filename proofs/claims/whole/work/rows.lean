section
def RX0 : String := "KeyToken$Bytes"
def TX0 : u_T := fun k => match k with
  | 0 => ("KeyToken$Bytes", "cells", "[I", true)
  | 1 => ("KeyToken$Bytes", "first", "I", false)
  | _ => ("KeyToken$Bytes", "end", "I", false)
def tyX0 : Nat → FieldType := fun k => match k with
  | 0 => .array .int
  | 1 => .int
  | _ => .int
theorem tyX0_ok : ∀ k, k < 3 → parseFieldDescriptor (TX0 k).2.2.1 = some (tyX0 k) := by decide +kernel
theorem nmX0 : ∀ a, a < 3 → ∀ b, b < 3 → a ≠ b → (TX0 a).2.1 ≠ (TX0 b).2.1 := by decide +kernel
def RX1 : String := "KeyToken$RelyingParty"
def TX1 : u_T := fun k => match k with
  | 0 => ("KeyToken$RelyingParty", "number", "I", true)
  | 1 => ("KeyToken$RelyingParty", "keys", "[I", true)
  | 2 => ("KeyToken$RelyingParty", "users", "[I", true)
  | 3 => ("KeyToken$RelyingParty", "lasts", "[I", true)
  | 4 => ("KeyToken$RelyingParty", "registrations", "I", false)
  | 5 => ("KeyToken$RelyingParty", "challenge", "I", false)
  | _ => ("KeyToken$RelyingParty", "challengeUser", "I", false)
def tyX1 : Nat → FieldType := fun k => match k with
  | 0 => .int
  | 1 => .array .int
  | 2 => .array .int
  | 3 => .array .int
  | 4 => .int
  | 5 => .int
  | _ => .int
theorem tyX1_ok : ∀ k, k < 7 → parseFieldDescriptor (TX1 k).2.2.1 = some (tyX1 k) := by decide +kernel
theorem nmX1 : ∀ a, a < 7 → ∀ b, b < 7 → a ≠ b → (TX1 a).2.1 ≠ (TX1 b).2.1 := by decide +kernel
def RX2 : String := "KeyToken$Request"
def TX2 : u_T := fun k => match k with
  | 0 => ("KeyToken$Request", "input", "LKeyToken$Bytes;", true)
  | 1 => ("KeyToken$Request", "kinds", "[I", true)
  | 2 => ("KeyToken$Request", "numbers", "[I", true)
  | 3 => ("KeyToken$Request", "ends", "[I", true)
  | 4 => ("KeyToken$Request", "at", "I", false)
  | 5 => ("KeyToken$Request", "major", "I", false)
  | _ => ("KeyToken$Request", "number", "I", false)
def tyX2 : Nat → FieldType := fun k => match k with
  | 0 => .object "KeyToken$Bytes"
  | 1 => .array .int
  | 2 => .array .int
  | 3 => .array .int
  | 4 => .int
  | 5 => .int
  | _ => .int
theorem tyX2_ok : ∀ k, k < 7 → parseFieldDescriptor (TX2 k).2.2.1 = some (tyX2 k) := by decide +kernel
theorem nmX2 : ∀ a, a < 7 → ∀ b, b < 7 → a ≠ b → (TX2 a).2.1 ≠ (TX2 b).2.1 := by decide +kernel
def RX3 : String := "KeyToken$Signatures"
def TX3 : u_T := fun k => match k with
  | 0 => ("KeyToken$Signatures", "fields", "[I", true)
  | _ => ("KeyToken$Signatures", "made", "I", false)
def tyX3 : Nat → FieldType := fun k => match k with
  | 0 => .array .int
  | _ => .int
theorem tyX3_ok : ∀ k, k < 2 → parseFieldDescriptor (TX3 k).2.2.1 = some (tyX3 k) := by decide +kernel
theorem nmX3 : ∀ a, a < 2 → ∀ b, b < 2 → a ≠ b → (TX3 a).2.1 ≠ (TX3 b).2.1 := by decide +kernel
def RX4 : String := "KeyToken$Store"
def TX4 : u_T := fun k => match k with
  | 0 => ("KeyToken$Store", "cells", "[I", true)
  | 1 => ("KeyToken$Store", "writes", "I", false)
  | _ => ("KeyToken$Store", "writesUntilCut", "I", false)
def tyX4 : Nat → FieldType := fun k => match k with
  | 0 => .array .int
  | 1 => .int
  | _ => .int
theorem tyX4_ok : ∀ k, k < 3 → parseFieldDescriptor (TX4 k).2.2.1 = some (tyX4 k) := by decide +kernel
theorem nmX4 : ∀ a, a < 3 → ∀ b, b < 3 → a ≠ b → (TX4 a).2.1 ≠ (TX4 b).2.1 := by decide +kernel
def RX5 : String := "KeyToken$Token"
def TX5 : u_T := fun k => match k with
  | 0 => ("KeyToken$Token", "store", "LKeyToken$Store;", true)
  | 1 => ("KeyToken$Token", "signatures", "LKeyToken$Signatures;", true)
  | 2 => ("KeyToken$Token", "request", "LKeyToken$Request;", true)
  | 3 => ("KeyToken$Token", "output", "LKeyToken$Bytes;", true)
  | 4 => ("KeyToken$Token", "nextNames", "[I", true)
  | 5 => ("KeyToken$Token", "powered", "Z", false)
  | 6 => ("KeyToken$Token", "pressed", "Z", false)
  | 7 => ("KeyToken$Token", "wrong", "I", false)
  | 8 => ("KeyToken$Token", "ticket", "I", false)
  | 9 => ("KeyToken$Token", "nextAt", "I", false)
  | 10 => ("KeyToken$Token", "nextEnd", "I", false)
  | 11 => ("KeyToken$Token", "nextChallenge", "I", false)
  | 12 => ("KeyToken$Token", "nextVerified", "Z", false)
  | 13 => ("KeyToken$Token", "keysMade", "I", false)
  | _ => ("KeyToken$Token", "ticketsMade", "I", false)
def tyX5 : Nat → FieldType := fun k => match k with
  | 0 => .object "KeyToken$Store"
  | 1 => .object "KeyToken$Signatures"
  | 2 => .object "KeyToken$Request"
  | 3 => .object "KeyToken$Bytes"
  | 4 => .array .int
  | 5 => .boolean
  | 6 => .boolean
  | 7 => .int
  | 8 => .int
  | 9 => .int
  | 10 => .int
  | 11 => .int
  | 12 => .boolean
  | 13 => .int
  | _ => .int
theorem tyX5_ok : ∀ k, k < 15 → parseFieldDescriptor (TX5 k).2.2.1 = some (tyX5 k) := by decide +kernel
theorem nmX5 : ∀ a, a < 15 → ∀ b, b < 15 → a ≠ b → (TX5 a).2.1 ≠ (TX5 b).2.1 := by decide +kernel
def RX6 : String := "KeyToken"
def TX6 : u_T := fun k => match k with
  | 0 => ("KeyToken", "token", "LKeyToken$Token;", true)
  | 1 => ("KeyToken", "parties", "[LKeyToken$RelyingParty;", true)
  | _ => ("KeyToken", "challengesMade", "I", false)
def tyX6 : Nat → FieldType := fun k => match k with
  | 0 => .object "KeyToken$Token"
  | 1 => .array (.object "KeyToken$RelyingParty")
  | _ => .int
theorem tyX6_ok : ∀ k, k < 3 → parseFieldDescriptor (TX6 k).2.2.1 = some (tyX6 k) := by decide +kernel
theorem nmX6 : ∀ a, a < 3 → ∀ b, b < 3 → a ≠ b → (TX6 a).2.1 ≠ (TX6 b).2.1 := by decide +kernel
def RX7 : String := "KeyTokenModel"
def TX7 : u_T := fun k => match k with
  | 0 => ("KeyTokenModel", "thrown", "I", false)
  | 1 => ("KeyTokenModel", "cells", "[I", true)
  | 2 => ("KeyTokenModel", "writes", "I", false)
  | 3 => ("KeyTokenModel", "made", "I", false)
  | 4 => ("KeyTokenModel", "cutAt", "I", false)
  | 5 => ("KeyTokenModel", "power", "Z", false)
  | 6 => ("KeyTokenModel", "pressed", "Z", false)
  | 7 => ("KeyTokenModel", "wrong", "I", false)
  | 8 => ("KeyTokenModel", "ticket", "I", false)
  | 9 => ("KeyTokenModel", "input", "[I", true)
  | 10 => ("KeyTokenModel", "inSize", "I", false)
  | 11 => ("KeyTokenModel", "output", "[I", true)
  | 12 => ("KeyTokenModel", "outSize", "I", false)
  | 13 => ("KeyTokenModel", "left", "I", false)
  | 14 => ("KeyTokenModel", "nexts", "[I", true)
  | 15 => ("KeyTokenModel", "nextChallenge", "I", false)
  | 16 => ("KeyTokenModel", "nextVerified", "I", false)
  | 17 => ("KeyTokenModel", "keys", "I", false)
  | 18 => ("KeyTokenModel", "tickets", "I", false)
  | 19 => ("KeyTokenModel", "signatures", "I", false)
  | 20 => ("KeyTokenModel", "challenges", "I", false)
  | 21 => ("KeyTokenModel", "signed", "[I", true)
  | 22 => ("KeyTokenModel", "at", "I", false)
  | 23 => ("KeyTokenModel", "major", "I", false)
  | 24 => ("KeyTokenModel", "number", "I", false)
  | 25 => ("KeyTokenModel", "bad", "Z", false)
  | 26 => ("KeyTokenModel", "isMap", "[Z", true)
  | 27 => ("KeyTokenModel", "more", "[I", true)
  | 28 => ("KeyTokenModel", "before", "[I", true)
  | 29 => ("KeyTokenModel", "wantsKey", "[Z", true)
  | 30 => ("KeyTokenModel", "pairs", "I", false)
  | 31 => ("KeyTokenModel", "key", "[I", true)
  | 32 => ("KeyTokenModel", "kind", "[I", true)
  | 33 => ("KeyTokenModel", "value", "[I", true)
  | 34 => ("KeyTokenModel", "place", "[I", true)
  | 35 => ("KeyTokenModel", "numbers", "[Z", true)
  | 36 => ("KeyTokenModel", "registered", "[I", true)
  | 37 => ("KeyTokenModel", "registrations", "[I", true)
  | 38 => ("KeyTokenModel", "opened", "[I", true)
  | _ => ("KeyTokenModel", "wanted", "[I", true)
def tyX7 : Nat → FieldType := fun k => match k with
  | 0 => .int
  | 1 => .array .int
  | 2 => .int
  | 3 => .int
  | 4 => .int
  | 5 => .boolean
  | 6 => .boolean
  | 7 => .int
  | 8 => .int
  | 9 => .array .int
  | 10 => .int
  | 11 => .array .int
  | 12 => .int
  | 13 => .int
  | 14 => .array .int
  | 15 => .int
  | 16 => .int
  | 17 => .int
  | 18 => .int
  | 19 => .int
  | 20 => .int
  | 21 => .array .int
  | 22 => .int
  | 23 => .int
  | 24 => .int
  | 25 => .boolean
  | 26 => .array .boolean
  | 27 => .array .int
  | 28 => .array .int
  | 29 => .array .boolean
  | 30 => .int
  | 31 => .array .int
  | 32 => .array .int
  | 33 => .array .int
  | 34 => .array .int
  | 35 => .array .boolean
  | 36 => .array .int
  | 37 => .array .int
  | 38 => .array .int
  | _ => .array .int
theorem tyX7_ok : ∀ k, k < 40 → parseFieldDescriptor (TX7 k).2.2.1 = some (tyX7 k) := by decide +kernel
theorem nmX7 : ∀ a, a < 40 → ∀ b, b < 40 → a ≠ b → (TX7 a).2.1 ≠ (TX7 b).2.1 := by decide +kernel
abbrev vwCl : List vw_C := [(RX0, TX0, 3), (RX1, TX1, 7), (RX2, TX2, 7), (RX3, TX3, 2), (RX4, TX4, 3), (RX5, TX5, 15), (RX6, TX6, 3), (RX7, TX7, 40)]
def kt_tab (cc : ByteArray) (t : List (Nat × Instr × Nat)) : Bool := t.all (fun q => match decode cc q.1 with
  | .ok x => decide (x = q.2)
  | _ => false)
theorem kt_tab_get {cc : ByteArray} {t : List (Nat × Instr × Nat)} (h : kt_tab cc t = true) (j : Nat) {pc n : Nat} {i : Instr} (hj : t[j]? = some (pc, i, n)) : decode cc pc = .ok (i, n) := by
  have h1 := List.all_eq_true.mp h _ (List.mem_of_getElem? hj)
  dsimp only at h1
  split at h1
  · next x hx => rw [hx, of_decide_eq_true h1]
  · cases h1
abbrev kb_B_clear : ByteArray := prog_2_method_2_code
def ky_B_clear : MethodName := ⟨RX0, "clear", "()V"⟩
def kw_B_clear : List (Nat × Instr × Nat) := [(0, .aload_n 0, 1), (1, .iconst 0, 1), (2, .putfield 15, 3), (5, .aload_n 0, 1), (6, .iconst 0, 1), (7, .putfield 19, 3), (10, .return_, 1)]
theorem kx_B_clear : kt_tab kb_B_clear kw_B_clear = true := by decide +kernel
abbrev kb_B_left : ByteArray := prog_2_method_3_code
def ky_B_left : MethodName := ⟨RX0, "left", "()I"⟩
def kw_B_left : List (Nat × Instr × Nat) := [(0, .aload_n 0, 1), (1, .getfield 19, 3), (4, .aload_n 0, 1), (5, .getfield 15, 3), (8, .isub, 1), (9, .ireturn, 1)]
theorem kx_B_left : kt_tab kb_B_left kw_B_left = true := by decide +kernel
abbrev kb_B_room : ByteArray := prog_2_method_4_code
def ky_B_room : MethodName := ⟨RX0, "room", "()I"⟩
def kw_B_room : List (Nat × Instr × Nat) := [(0, .aload_n 0, 1), (1, .getfield 9, 3), (4, .arraylength, 1), (5, .aload_n 0, 1), (6, .getfield 19, 3), (9, .isub, 1), (10, .ireturn, 1)]
theorem kx_B_room : kt_tab kb_B_room kw_B_room = true := by decide +kernel
abbrev kb_B_removeFirst : ByteArray := prog_2_method_5_code
def ky_B_removeFirst : MethodName := ⟨RX0, "removeFirst", "()I"⟩
def kw_B_removeFirst : List (Nat × Instr × Nat) := [(0, .aload_n 0, 1), (1, .getfield 15, 3), (4, .ifCond .lt 14, 3), (7, .aload_n 0, 1), (8, .getfield 15, 3), (11, .aload_n 0, 1), (12, .getfield 19, 3), (15, .if_icmp .lt 5, 3), (18, .iconst 0, 1), (19, .ireturn, 1), (20, .aload_n 0, 1), (21, .dup, 1), (22, .getfield 15, 3), (25, .iconst 1, 1), (26, .iadd, 1), (27, .putfield 15, 3), (30, .aload_n 0, 1), (31, .getfield 9, 3), (34, .aload_n 0, 1), (35, .getfield 15, 3), (38, .iconst 1, 1), (39, .isub, 1), (40, .iaload, 1), (41, .ireturn, 1)]
theorem kx_B_removeFirst : kt_tab kb_B_removeFirst kw_B_removeFirst = true := by decide +kernel
abbrev kb_B_add : ByteArray := prog_2_method_6_code
def ky_B_add : MethodName := ⟨RX0, "add", "(I)V"⟩
def kw_B_add : List (Nat × Instr × Nat) := [(0, .aload_n 0, 1), (1, .getfield 19, 3), (4, .ifCond .lt 39, 3), (7, .aload_n 0, 1), (8, .getfield 19, 3), (11, .aload_n 0, 1), (12, .getfield 9, 3), (15, .arraylength, 1), (16, .if_icmp .ge 27, 3), (19, .aload_n 0, 1), (20, .getfield 9, 3), (23, .aload_n 0, 1), (24, .getfield 19, 3), (27, .iload_n 1, 1), (28, .sipush 255, 3), (31, .iand, 1), (32, .iastore, 1), (33, .aload_n 0, 1), (34, .dup, 1), (35, .getfield 19, 3), (38, .iconst 1, 1), (39, .iadd, 1), (40, .putfield 19, 3), (43, .return_, 1)]
theorem kx_B_add : kt_tab kb_B_add kw_B_add = true := by decide +kernel
abbrev kb_B_addHead : ByteArray := prog_2_method_7_code
def ky_B_addHead : MethodName := ⟨RX0, "addHead", "(II)V"⟩
def kw_B_addHead : List (Nat × Instr × Nat) := [(0, .iload_n 2, 1), (1, .invokestatic 22, 3), (4, .istore_n 3, 1), (5, .aload_n 0, 1), (6, .bipush 32, 2), (8, .iload_n 1, 1), (9, .imul, 1), (10, .iload_n 3, 1), (11, .ifCond .ne 7, 3), (14, .iload_n 2, 1), (15, .goto 25, 3), (18, .iload_n 3, 1), (19, .iconst 1, 1), (20, .if_icmp .ne 8, 3), (23, .bipush 24, 2), (25, .goto 15, 3), (28, .iload_n 3, 1), (29, .iconst 2, 1), (30, .if_icmp .ne 8, 3), (33, .bipush 25, 2), (35, .goto 5, 3), (38, .bipush 26, 2), (40, .iadd, 1), (41, .invokevirtual 26, 3), (44, .iload_n 3, 1), (45, .iconst 1, 1), (46, .isub, 1), (47, .istore 4, 2), (49, .iload 4, 2), (51, .ifCond .lt 20, 3), (54, .aload_n 0, 1), (55, .iload_n 2, 1), (56, .bipush 8, 2), (58, .iload 4, 2), (60, .imul, 1), (61, .ishr, 1), (62, .invokevirtual 26, 3), (65, .iinc 4 (-1), 3), (68, .goto (-19), 3), (71, .return_, 1)]
theorem kx_B_addHead : kt_tab kb_B_addHead kw_B_addHead = true := by decide +kernel
abbrev kb_B_addPair : ByteArray := prog_2_method_8_code
def ky_B_addPair : MethodName := ⟨RX0, "addPair", "(II)V"⟩
def kw_B_addPair : List (Nat × Instr × Nat) := [(0, .aload_n 0, 1), (1, .iconst 0, 1), (2, .iload_n 1, 1), (3, .invokevirtual 30, 3), (6, .aload_n 0, 1), (7, .iconst 0, 1), (8, .iload_n 2, 1), (9, .invokevirtual 30, 3), (12, .return_, 1)]
theorem kx_B_addPair : kt_tab kb_B_addPair kw_B_addPair = true := by decide +kernel
abbrev kb_B_widthOf : ByteArray := prog_2_method_9_code
def ky_B_widthOf : MethodName := ⟨RX0, "widthOf", "(I)I"⟩
def kw_B_widthOf : List (Nat × Instr × Nat) := [(0, .iload_n 0, 1), (1, .bipush 24, 2), (3, .if_icmp .ge 7, 3), (6, .iconst 0, 1), (7, .goto 25, 3), (10, .iload_n 0, 1), (11, .sipush 256, 3), (14, .if_icmp .ge 7, 3), (17, .iconst 1, 1), (18, .goto 14, 3), (21, .iload_n 0, 1), (22, .ldc 34, 2), (24, .if_icmp .ge 7, 3), (27, .iconst 2, 1), (28, .goto 4, 3), (31, .iconst 4, 1), (32, .ireturn, 1)]
theorem kx_B_widthOf : kt_tab kb_B_widthOf kw_B_widthOf = true := by decide +kernel
abbrev kb_P_judge : ByteArray := prog_3_method_2_code
def ky_P_judge : MethodName := ⟨RX1, "judge", "(IIIIIZ)I"⟩
def kw_P_judge : List (Nat × Instr × Nat) := [(0, .iload 4, 2), (2, .iconst 4, 1), (3, .aload_n 0, 1), (4, .getfield 25, 3), (7, .imul, 1), (8, .aload_n 0, 1), (9, .getfield 21, 3), (12, .iadd, 1), (13, .if_icmp .eq 5, 3), (16, .iconst 2, 1), (17, .ireturn, 1), (18, .iload_n 3, 1), (19, .sipush 752, 3), (22, .aload_n 0, 1), (23, .getfield 21, 3), (26, .iadd, 1), (27, .if_icmp .eq 5, 3), (30, .iconst 3, 1), (31, .ireturn, 1), (32, .iload 6, 2), (34, .ifCond .eq 6, 3), (37, .bipush 6, 2), (39, .ireturn, 1), (40, .iload_n 1, 1), (41, .iconst 1, 1), (42, .if_icmp .ne 13, 3), (45, .aload_n 0, 1), (46, .iload_n 2, 1), (47, .iload 5, 2), (49, .invokevirtual 28, 3), (52, .goto 10, 3), (55, .aload_n 0, 1), (56, .iload_n 2, 1), (57, .iload 5, 2), (59, .invokevirtual 32, 3), (62, .istore 7, 2), (64, .iload 7, 2), (66, .ifCond .ne 8, 3), (69, .aload_n 0, 1), (70, .iconst 0, 1), (71, .putfield 25, 3), (74, .iload 7, 2), (76, .ireturn, 1)]
theorem kx_P_judge : kt_tab kb_P_judge kw_P_judge = true := by decide +kernel
abbrev kb_P_register : ByteArray := prog_3_method_3_code
def ky_P_register : MethodName := ⟨RX1, "register", "(II)I"⟩
def kw_P_register : List (Nat × Instr × Nat) := [(0, .aload_n 0, 1), (1, .iload_n 1, 1), (2, .invokevirtual 35, 3), (5, .ifCond .lt 6, 3), (8, .bipush 8, 2), (10, .ireturn, 1), (11, .aload_n 0, 1), (12, .getfield 39, 3), (15, .bipush 6, 2), (17, .if_icmp .lt 6, 3), (20, .bipush 9, 2), (22, .ireturn, 1), (23, .aload_n 0, 1), (24, .getfield 11, 3), (27, .aload_n 0, 1), (28, .getfield 39, 3), (31, .iload_n 1, 1), (32, .iastore, 1), (33, .aload_n 0, 1), (34, .getfield 15, 3), (37, .aload_n 0, 1), (38, .getfield 39, 3), (41, .aload_n 0, 1), (42, .getfield 42, 3), (45, .iastore, 1), (46, .aload_n 0, 1), (47, .getfield 18, 3), (50, .aload_n 0, 1), (51, .getfield 39, 3), (54, .iload_n 2, 1), (55, .iastore, 1), (56, .aload_n 0, 1), (57, .dup, 1), (58, .getfield 39, 3), (61, .iconst 1, 1), (62, .iadd, 1), (63, .putfield 39, 3), (66, .iconst 0, 1), (67, .ireturn, 1)]
theorem kx_P_register : kt_tab kb_P_register kw_P_register = true := by decide +kernel
abbrev kb_P_accept : ByteArray := prog_3_method_4_code
def ky_P_accept : MethodName := ⟨RX1, "accept", "(II)I"⟩
def kw_P_accept : List (Nat × Instr × Nat) := [(0, .aload_n 0, 1), (1, .iload_n 1, 1), (2, .invokevirtual 35, 3), (5, .istore_n 3, 1), (6, .iload_n 3, 1), (7, .ifCond .ge 6, 3), (10, .bipush 8, 2), (12, .ireturn, 1), (13, .iload_n 2, 1), (14, .aload_n 0, 1), (15, .getfield 18, 3), (18, .iload_n 3, 1), (19, .iaload, 1), (20, .if_icmp .gt 6, 3), (23, .bipush 7, 2), (25, .ireturn, 1), (26, .aload_n 0, 1), (27, .getfield 18, 3), (30, .iload_n 3, 1), (31, .iload_n 2, 1), (32, .iastore, 1), (33, .iconst 0, 1), (34, .ireturn, 1)]
theorem kx_P_accept : kt_tab kb_P_accept kw_P_accept = true := by decide +kernel
abbrev kb_P_find : ByteArray := prog_3_method_5_code
def ky_P_find : MethodName := ⟨RX1, "find", "(I)I"⟩
def kw_P_find : List (Nat × Instr × Nat) := [(0, .iconst 0, 1), (1, .istore_n 2, 1), (2, .iload_n 2, 1), (3, .aload_n 0, 1), (4, .getfield 39, 3), (7, .if_icmp .ge 27, 3), (10, .iload_n 2, 1), (11, .bipush 6, 2), (13, .if_icmp .ge 21, 3), (16, .aload_n 0, 1), (17, .getfield 11, 3), (20, .iload_n 2, 1), (21, .iaload, 1), (22, .iload_n 1, 1), (23, .if_icmp .ne 5, 3), (26, .iload_n 2, 1), (27, .ireturn, 1), (28, .iinc 2 1, 3), (31, .goto (-29), 3), (34, .iconst (-1), 1), (35, .ireturn, 1)]
theorem kx_P_find : kt_tab kb_P_find kw_P_find = true := by decide +kernel
abbrev kb_P_tell : ByteArray := prog_3_method_6_code
def ky_P_tell : MethodName := ⟨RX1, "tell", "(I)I"⟩
def kw_P_tell : List (Nat × Instr × Nat) := [(0, .iload_n 1, 1), (1, .ifCond .ne 8, 3), (4, .aload_n 0, 1), (5, .getfield 39, 3), (8, .ireturn, 1), (9, .iload_n 1, 1), (10, .iconst 1, 1), (11, .if_icmp .ne 8, 3), (14, .aload_n 0, 1), (15, .getfield 25, 3), (18, .ireturn, 1), (19, .iload_n 1, 1), (20, .bipush 10, 2), (22, .irem, 1), (23, .istore_n 2, 1), (24, .iload_n 2, 1), (25, .ifCond .lt 11, 3), (28, .iload_n 2, 1), (29, .aload_n 0, 1), (30, .getfield 39, 3), (33, .if_icmp .lt 5, 3), (36, .iconst (-1), 1), (37, .ireturn, 1), (38, .iload_n 1, 1), (39, .bipush 10, 2), (41, .idiv, 1), (42, .tableswitch 47 1 3 #[26, 33, 40], 26), (68, .aload_n 0, 1), (69, .getfield 11, 3), (72, .iload_n 2, 1), (73, .iaload, 1), (74, .ireturn, 1), (75, .aload_n 0, 1), (76, .getfield 15, 3), (79, .iload_n 2, 1), (80, .iaload, 1), (81, .ireturn, 1), (82, .aload_n 0, 1), (83, .getfield 18, 3), (86, .iload_n 2, 1), (87, .iaload, 1), (88, .ireturn, 1), (89, .iconst (-1), 1), (90, .ireturn, 1)]
theorem kx_P_tell : kt_tab kb_P_tell kw_P_tell = true := by decide +kernel
abbrev kb_R_command : ByteArray := prog_4_method_2_code
def ky_R_command : MethodName := ⟨RX2, "command", "()I"⟩
def kw_R_command : List (Nat × Instr × Nat) := [(0, .aload_n 0, 1), (1, .getfield 16, 3), (4, .invokevirtual 30, 3), (7, .ifCond .ne 7, 3), (10, .iconst 0, 1), (11, .goto 12, 3), (14, .aload_n 0, 1), (15, .getfield 16, 3), (18, .getfield 34, 3), (21, .iconst 0, 1), (22, .iaload, 1), (23, .ireturn, 1)]
theorem kx_R_command : kt_tab kb_R_command kw_R_command = true := by decide +kernel
abbrev kb_R_parse : ByteArray := prog_4_method_3_code
def ky_R_parse : MethodName := ⟨RX2, "parse", "()Z"⟩
def kw_R_parse : List (Nat × Instr × Nat) := [(0, .aload_n 0, 1), (1, .getfield 20, 3), (4, .iconst (-1), 1), (5, .invokestatic 37, 3), (8, .aload_n 0, 1), (9, .iconst 1, 1), (10, .putfield 43, 3), (13, .aload_n 0, 1), (14, .getfield 16, 3), (17, .getfield 47, 3), (20, .iconst 1, 1), (21, .if_icmp .le 26, 3), (24, .aload_n 0, 1), (25, .iconst 0, 1), (26, .invokevirtual 50, 3), (29, .iconst 5, 1), (30, .if_icmp .ne 21, 3), (33, .aload_n 0, 1), (34, .getfield 43, 3), (37, .aload_n 0, 1), (38, .getfield 16, 3), (41, .getfield 47, 3), (44, .if_icmp .ne 7, 3), (47, .iconst 1, 1), (48, .goto 4, 3), (51, .iconst 0, 1), (52, .ireturn, 1)]
theorem kx_R_parse : kt_tab kb_R_parse kw_R_parse = true := by decide +kernel
abbrev kb_R_readItem : ByteArray := prog_4_method_4_code
def ky_R_readItem : MethodName := ⟨RX2, "readItem", "(I)I"⟩
def kw_R_readItem : List (Nat × Instr × Nat) := [(0, .aload_n 0, 1), (1, .invokevirtual 54, 3), (4, .ifCond .ne 6, 3), (7, .bipush (-2), 2), (9, .ireturn, 1), (10, .aload_n 0, 1), (11, .getfield 58, 3), (14, .iconst 2, 1), (15, .if_icmp .eq 11, 3), (18, .aload_n 0, 1), (19, .getfield 58, 3), (22, .iconst 3, 1), (23, .if_icmp .ne 20, 3), (26, .aload_n 0, 1), (27, .invokevirtual 61, 3), (30, .ifCond .eq 10, 3), (33, .aload_n 0, 1), (34, .getfield 58, 3), (37, .goto 5, 3), (40, .bipush (-2), 2), (42, .ireturn, 1), (43, .aload_n 0, 1), (44, .getfield 58, 3), (47, .iconst 4, 1), (48, .if_icmp .eq 16, 3), (51, .aload_n 0, 1), (52, .getfield 58, 3), (55, .iconst 5, 1), (56, .if_icmp .eq 8, 3), (59, .aload_n 0, 1), (60, .getfield 58, 3), (63, .ireturn, 1), (64, .iload_n 1, 1), (65, .iconst 3, 1), (66, .if_icmp .lt 6, 3), (69, .bipush (-2), 2), (71, .ireturn, 1), (72, .aload_n 0, 1), (73, .getfield 58, 3), (76, .iconst 4, 1), (77, .if_icmp .ne 17, 3), (80, .aload_n 0, 1), (81, .aload_n 0, 1), (82, .getfield 64, 3), (85, .iload_n 1, 1), (86, .iconst 1, 1), (87, .iadd, 1), (88, .invokevirtual 67, 3), (91, .goto 14, 3), (94, .aload_n 0, 1), (95, .aload_n 0, 1), (96, .getfield 64, 3), (99, .iload_n 1, 1), (100, .iconst 1, 1), (101, .iadd, 1), (102, .invokevirtual 71, 3), (105, .ireturn, 1)]
theorem kx_R_readItem : kt_tab kb_R_readItem kw_R_readItem = true := by decide +kernel
abbrev kb_R_readList : ByteArray := prog_4_method_5_code
def ky_R_readList : MethodName := ⟨RX2, "readList", "(II)I"⟩
def kw_R_readList : List (Nat × Instr × Nat) := [(0, .iconst 4, 1), (1, .istore_n 3, 1), (2, .iconst 0, 1), (3, .istore 4, 2), (5, .iconst 0, 1), (6, .istore 5, 2), (8, .iload 5, 2), (10, .iload_n 1, 1), (11, .if_icmp .ge 57, 3), (14, .aload_n 0, 1), (15, .iload_n 2, 1), (16, .invokevirtual 50, 3), (19, .istore 6, 2), (21, .iload 6, 2), (23, .bipush (-2), 2), (25, .if_icmp .ne 6, 3), (28, .bipush (-2), 2), (30, .ireturn, 1), (31, .iload 6, 2), (33, .ifCond .eq 9, 3), (36, .bipush 8, 2), (38, .istore_n 3, 1), (39, .goto 23, 3), (42, .aload_n 0, 1), (43, .getfield 64, 3), (46, .bipush 6, 2), (48, .if_icmp .gt 14, 3), (51, .iload 4, 2), (53, .iconst 1, 1), (54, .aload_n 0, 1), (55, .getfield 64, 3), (58, .ishl, 1), (59, .ior, 1), (60, .istore 4, 2), (62, .iinc 5 1, 3), (65, .goto (-57), 3), (68, .aload_n 0, 1), (69, .iload 4, 2), (71, .putfield 64, 3), (74, .iload_n 3, 1), (75, .ireturn, 1)]
theorem kx_R_readList : kt_tab kb_R_readList kw_R_readList = true := by decide +kernel
abbrev kb_R_readMap : ByteArray := prog_4_method_6_code
def ky_R_readMap : MethodName := ⟨RX2, "readMap", "(II)I"⟩
def kw_R_readMap : List (Nat × Instr × Nat) := [(0, .iconst (-1), 1), (1, .istore_n 3, 1), (2, .iconst 0, 1), (3, .istore 4, 2), (5, .iload 4, 2), (7, .iload_n 1, 1), (8, .if_icmp .ge 95, 3), (11, .aload_n 0, 1), (12, .invokevirtual 54, 3), (15, .ifCond .eq 18, 3), (18, .aload_n 0, 1), (19, .getfield 58, 3), (22, .ifCond .ne 11, 3), (25, .aload_n 0, 1), (26, .getfield 64, 3), (29, .iload_n 3, 1), (30, .if_icmp .gt 6, 3), (33, .bipush (-2), 2), (35, .ireturn, 1), (36, .aload_n 0, 1), (37, .getfield 64, 3), (40, .istore_n 3, 1), (41, .aload_n 0, 1), (42, .iload_n 2, 1), (43, .invokevirtual 50, 3), (46, .istore 5, 2), (48, .iload 5, 2), (50, .bipush (-2), 2), (52, .if_icmp .ne 6, 3), (55, .bipush (-2), 2), (57, .ireturn, 1), (58, .iload_n 2, 1), (59, .iconst 1, 1), (60, .if_icmp .ne 37, 3), (63, .iload_n 3, 1), (64, .bipush 8, 2), (66, .if_icmp .gt 31, 3), (69, .aload_n 0, 1), (70, .getfield 20, 3), (73, .iload_n 3, 1), (74, .iload 5, 2), (76, .iastore, 1), (77, .aload_n 0, 1), (78, .getfield 24, 3), (81, .iload_n 3, 1), (82, .aload_n 0, 1), (83, .getfield 64, 3), (86, .iastore, 1), (87, .aload_n 0, 1), (88, .getfield 27, 3), (91, .iload_n 3, 1), (92, .aload_n 0, 1), (93, .getfield 43, 3), (96, .iastore, 1), (97, .iinc 4 1, 3), (100, .goto (-95), 3), (103, .iconst 5, 1), (104, .ireturn, 1)]
theorem kx_R_readMap : kt_tab kb_R_readMap kw_R_readMap = true := by decide +kernel
abbrev kb_R_readHead : ByteArray := prog_4_method_7_code
def ky_R_readHead : MethodName := ⟨RX2, "readHead", "()Z"⟩
def kw_R_readHead : List (Nat × Instr × Nat) := [(0, .aload_n 0, 1), (1, .getfield 43, 3), (4, .ifCond .lt 17, 3), (7, .aload_n 0, 1), (8, .getfield 43, 3), (11, .aload_n 0, 1), (12, .getfield 16, 3), (15, .getfield 47, 3), (18, .if_icmp .lt 5, 3), (21, .iconst 0, 1), (22, .ireturn, 1), (23, .aload_n 0, 1), (24, .aload_n 0, 1), (25, .getfield 16, 3), (28, .getfield 34, 3), (31, .aload_n 0, 1), (32, .getfield 43, 3), (35, .iaload, 1), (36, .iconst 5, 1), (37, .ishr, 1), (38, .putfield 58, 3), (41, .aload_n 0, 1), (42, .aload_n 0, 1), (43, .getfield 16, 3), (46, .getfield 34, 3), (49, .aload_n 0, 1), (50, .getfield 43, 3), (53, .iaload, 1), (54, .bipush 31, 2), (56, .iand, 1), (57, .putfield 64, 3), (60, .aload_n 0, 1), (61, .dup, 1), (62, .getfield 43, 3), (65, .iconst 1, 1), (66, .iadd, 1), (67, .putfield 43, 3), (70, .aload_n 0, 1), (71, .getfield 58, 3), (74, .bipush 7, 2), (76, .if_icmp .ne 27, 3), (79, .aload_n 0, 1), (80, .getfield 64, 3), (83, .bipush 20, 2), (85, .if_icmp .eq 12, 3), (88, .aload_n 0, 1), (89, .getfield 64, 3), (92, .bipush 21, 2), (94, .if_icmp .ne 7, 3), (97, .iconst 1, 1), (98, .goto 4, 3), (101, .iconst 0, 1), (102, .ireturn, 1), (103, .aload_n 0, 1), (104, .getfield 58, 3), (107, .iconst 1, 1), (108, .if_icmp .eq 12, 3), (111, .aload_n 0, 1), (112, .getfield 58, 3), (115, .bipush 6, 2), (117, .if_icmp .ne 5, 3), (120, .iconst 0, 1), (121, .ireturn, 1), (122, .aload_n 0, 1), (123, .getfield 64, 3), (126, .bipush 24, 2), (128, .if_icmp .lt 28, 3), (131, .aload_n 0, 1), (132, .getfield 64, 3), (135, .bipush 26, 2), (137, .if_icmp .gt 23, 3), (140, .aload_n 0, 1), (141, .iconst 1, 1), (142, .aload_n 0, 1), (143, .getfield 64, 3), (146, .bipush 24, 2), (148, .isub, 1), (149, .ishl, 1), (150, .invokevirtual 74, 3), (153, .ifCond .eq 7, 3), (156, .iconst 1, 1), (157, .goto 4, 3), (160, .iconst 0, 1), (161, .ireturn, 1)]
theorem kx_R_readHead : kt_tab kb_R_readHead kw_R_readHead = true := by decide +kernel
abbrev kb_R_readWide : ByteArray := prog_4_method_8_code
def ky_R_readWide : MethodName := ⟨RX2, "readWide", "(I)Z"⟩
def kw_R_readWide : List (Nat × Instr × Nat) := [(0, .iload_n 1, 1), (1, .aload_n 0, 1), (2, .getfield 16, 3), (5, .getfield 47, 3), (8, .aload_n 0, 1), (9, .getfield 43, 3), (12, .isub, 1), (13, .if_icmp .le 5, 3), (16, .iconst 0, 1), (17, .ireturn, 1), (18, .aload_n 0, 1), (19, .iconst 0, 1), (20, .putfield 64, 3), (23, .iconst 0, 1), (24, .istore_n 2, 1), (25, .iload_n 2, 1), (26, .iload_n 1, 1), (27, .if_icmp .ge 43, 3), (30, .aload_n 0, 1), (31, .aload_n 0, 1), (32, .getfield 64, 3), (35, .bipush 8, 2), (37, .ishl, 1), (38, .aload_n 0, 1), (39, .getfield 16, 3), (42, .getfield 34, 3), (45, .aload_n 0, 1), (46, .getfield 43, 3), (49, .iaload, 1), (50, .ior, 1), (51, .putfield 64, 3), (54, .aload_n 0, 1), (55, .dup, 1), (56, .getfield 43, 3), (59, .iconst 1, 1), (60, .iadd, 1), (61, .putfield 43, 3), (64, .iinc 2 1, 3), (67, .goto (-42), 3), (70, .aload_n 0, 1), (71, .getfield 64, 3), (74, .iload_n 1, 1), (75, .iconst 1, 1), (76, .if_icmp .ne 8, 3), (79, .bipush 24, 2), (81, .goto 16, 3), (84, .iload_n 1, 1), (85, .iconst 2, 1), (86, .if_icmp .ne 9, 3), (89, .sipush 256, 3), (92, .goto 5, 3), (95, .ldc 78, 2), (97, .if_icmp .lt 7, 3), (100, .iconst 1, 1), (101, .goto 4, 3), (104, .iconst 0, 1), (105, .ireturn, 1)]
theorem kx_R_readWide : kt_tab kb_R_readWide kw_R_readWide = true := by decide +kernel
abbrev kb_R_passBytes : ByteArray := prog_4_method_9_code
def ky_R_passBytes : MethodName := ⟨RX2, "passBytes", "()Z"⟩
def kw_R_passBytes : List (Nat × Instr × Nat) := [(0, .aload_n 0, 1), (1, .getfield 64, 3), (4, .aload_n 0, 1), (5, .getfield 16, 3), (8, .getfield 47, 3), (11, .aload_n 0, 1), (12, .getfield 43, 3), (15, .isub, 1), (16, .if_icmp .le 5, 3), (19, .iconst 0, 1), (20, .ireturn, 1), (21, .aload_n 0, 1), (22, .getfield 43, 3), (25, .istore_n 1, 1), (26, .aload_n 0, 1), (27, .dup, 1), (28, .getfield 43, 3), (31, .aload_n 0, 1), (32, .getfield 64, 3), (35, .iadd, 1), (36, .putfield 43, 3), (39, .iload_n 1, 1), (40, .istore_n 2, 1), (41, .iload_n 2, 1), (42, .aload_n 0, 1), (43, .getfield 43, 3), (46, .if_icmp .ge 47, 3), (49, .aload_n 0, 1), (50, .getfield 58, 3), (53, .iconst 3, 1), (54, .if_icmp .ne 39, 3), (57, .aload_n 0, 1), (58, .getfield 16, 3), (61, .getfield 34, 3), (64, .iload_n 2, 1), (65, .iaload, 1), (66, .bipush 32, 2), (68, .if_icmp .lt 17, 3), (71, .aload_n 0, 1), (72, .getfield 16, 3), (75, .getfield 34, 3), (78, .iload_n 2, 1), (79, .iaload, 1), (80, .bipush 126, 2), (82, .if_icmp .le 5, 3), (85, .iconst 0, 1), (86, .ireturn, 1), (87, .iinc 2 1, 3), (90, .goto (-49), 3), (93, .iconst 1, 1), (94, .ireturn, 1)]
theorem kx_R_passBytes : kt_tab kb_R_passBytes kw_R_passBytes = true := by decide +kernel
abbrev kb_R_checkMake : ByteArray := prog_4_method_10_code
def ky_R_checkMake : MethodName := ⟨RX2, "checkMake", "()I"⟩
def kw_R_checkMake : List (Nat × Instr × Nat) := [(0, .aload_n 0, 1), (1, .getstatic 79, 3), (4, .getstatic 82, 3), (7, .invokevirtual 85, 3), (10, .ireturn, 1)]
theorem kx_R_checkMake : kt_tab kb_R_checkMake kw_R_checkMake = true := by decide +kernel
abbrev kb_R_checkAssert : ByteArray := prog_4_method_11_code
def ky_R_checkAssert : MethodName := ⟨RX2, "checkAssert", "()I"⟩
def kw_R_checkAssert : List (Nat × Instr × Nat) := [(0, .aload_n 0, 1), (1, .getstatic 89, 3), (4, .getstatic 92, 3), (7, .invokevirtual 85, 3), (10, .ireturn, 1)]
theorem kx_R_checkAssert : kt_tab kb_R_checkAssert kw_R_checkAssert = true := by decide +kernel
abbrev kb_R_checkPin : ByteArray := prog_4_method_12_code
def ky_R_checkPin : MethodName := ⟨RX2, "checkPin", "()I"⟩
def kw_R_checkPin : List (Nat × Instr × Nat) := [(0, .aload_n 0, 1), (1, .getstatic 95, 3), (4, .getstatic 98, 3), (7, .invokevirtual 85, 3), (10, .istore_n 1, 1), (11, .iload_n 1, 1), (12, .ifCond .eq 5, 3), (15, .iload_n 1, 1), (16, .ireturn, 1), (17, .aload_n 0, 1), (18, .iconst 1, 1), (19, .invokevirtual 101, 3), (22, .istore_n 2, 1), (23, .iload_n 2, 1), (24, .iconst 4, 1), (25, .if_icmp .eq 8, 3), (28, .iload_n 2, 1), (29, .iconst 5, 1), (30, .if_icmp .ne 15, 3), (33, .aload_n 0, 1), (34, .iconst 2, 1), (35, .invokevirtual 104, 3), (38, .ifCond .ne 7, 3), (41, .iconst 1, 1), (42, .goto 4, 3), (45, .iconst 0, 1), (46, .istore_n 3, 1), (47, .iload_n 2, 1), (48, .iconst 3, 1), (49, .if_icmp .eq 8, 3), (52, .iload_n 2, 1), (53, .iconst 4, 1), (54, .if_icmp .ne 15, 3), (57, .aload_n 0, 1), (58, .iconst 3, 1), (59, .invokevirtual 104, 3), (62, .ifCond .ne 7, 3), (65, .iconst 1, 1), (66, .goto 4, 3), (69, .iconst 0, 1), (70, .istore 4, 2), (72, .iload_n 3, 1), (73, .ifCond .ne 8, 3), (76, .iload 4, 2), (78, .ifCond .eq 7, 3), (81, .iconst 4, 1), (82, .goto 4, 3), (85, .iconst 0, 1), (86, .ireturn, 1)]
theorem kx_R_checkPin : kt_tab kb_R_checkPin kw_R_checkPin = true := by decide +kernel
abbrev kb_R_check : ByteArray := prog_4_method_13_code
def ky_R_check : MethodName := ⟨RX2, "check", "([I[I)I"⟩
def kw_R_check : List (Nat × Instr × Nat) := [(0, .iconst 1, 1), (1, .istore_n 3, 1), (2, .iload_n 3, 1), (3, .aload_n 1, 1), (4, .arraylength, 1), (5, .if_icmp .ge 44, 3), (8, .iload_n 3, 1), (9, .bipush 8, 2), (11, .if_icmp .gt 38, 3), (14, .aload_n 1, 1), (15, .iload_n 3, 1), (16, .iaload, 1), (17, .iconst (-1), 1), (18, .if_icmp .eq 25, 3), (21, .aload_n 0, 1), (22, .iload_n 3, 1), (23, .invokevirtual 104, 3), (26, .ifCond .eq 17, 3), (29, .aload_n 0, 1), (30, .getfield 20, 3), (33, .iload_n 3, 1), (34, .iaload, 1), (35, .aload_n 1, 1), (36, .iload_n 3, 1), (37, .iaload, 1), (38, .if_icmp .eq 5, 3), (41, .iconst 3, 1), (42, .ireturn, 1), (43, .iinc 3 1, 3), (46, .goto (-44), 3), (49, .aload_n 2, 1), (50, .astore_n 3, 1), (51, .aload_n 3, 1), (52, .arraylength, 1), (53, .istore 4, 2), (55, .iconst 0, 1), (56, .istore 5, 2), (58, .iload 5, 2), (60, .iload 4, 2), (62, .if_icmp .ge 26, 3), (65, .aload_n 3, 1), (66, .iload 5, 2), (68, .iaload, 1), (69, .istore 6, 2), (71, .aload_n 0, 1), (72, .iload 6, 2), (74, .invokevirtual 104, 3), (77, .ifCond .ne 5, 3), (80, .iconst 4, 1), (81, .ireturn, 1), (82, .iinc 5 1, 3), (85, .goto (-27), 3), (88, .iconst 0, 1), (89, .ireturn, 1)]
theorem kx_R_check : kt_tab kb_R_check kw_R_check = true := by decide +kernel
abbrev kb_R_has : ByteArray := prog_4_method_14_code
def ky_R_has : MethodName := ⟨RX2, "has", "(I)Z"⟩
def kw_R_has : List (Nat × Instr × Nat) := [(0, .iload_n 1, 1), (1, .ifCond .lt 23, 3), (4, .iload_n 1, 1), (5, .bipush 8, 2), (7, .if_icmp .gt 17, 3), (10, .aload_n 0, 1), (11, .getfield 20, 3), (14, .iload_n 1, 1), (15, .iaload, 1), (16, .iconst (-1), 1), (17, .if_icmp .eq 7, 3), (20, .iconst 1, 1), (21, .goto 4, 3), (24, .iconst 0, 1), (25, .ireturn, 1)]
theorem kx_R_has : kt_tab kb_R_has kw_R_has = true := by decide +kernel
abbrev kb_R_numberOf : ByteArray := prog_4_method_15_code
def ky_R_numberOf : MethodName := ⟨RX2, "numberOf", "(I)I"⟩
def kw_R_numberOf : List (Nat × Instr × Nat) := [(0, .aload_n 0, 1), (1, .iload_n 1, 1), (2, .invokevirtual 104, 3), (5, .ifCond .eq 12, 3), (8, .aload_n 0, 1), (9, .getfield 24, 3), (12, .iload_n 1, 1), (13, .iaload, 1), (14, .goto 4, 3), (17, .iconst 0, 1), (18, .ireturn, 1)]
theorem kx_R_numberOf : kt_tab kb_R_numberOf kw_R_numberOf = true := by decide +kernel
abbrev kb_R_lists : ByteArray := prog_4_method_16_code
def ky_R_lists : MethodName := ⟨RX2, "lists", "(II)Z"⟩
def kw_R_lists : List (Nat × Instr × Nat) := [(0, .aload_n 0, 1), (1, .iload_n 1, 1), (2, .invokevirtual 101, 3), (5, .iload_n 2, 1), (6, .ishr, 1), (7, .iconst 1, 1), (8, .iand, 1), (9, .iconst 1, 1), (10, .if_icmp .ne 7, 3), (13, .iconst 1, 1), (14, .goto 4, 3), (17, .iconst 0, 1), (18, .ireturn, 1)]
theorem kx_R_lists : kt_tab kb_R_lists kw_R_lists = true := by decide +kernel
abbrev kb_R_textHas : ByteArray := prog_4_method_17_code
def ky_R_textHas : MethodName := ⟨RX2, "textHas", "(III)Z"⟩
def kw_R_textHas : List (Nat × Instr × Nat) := [(0, .aload_n 0, 1), (1, .iload_n 1, 1), (2, .invokevirtual 101, 3), (5, .iload_n 2, 1), (6, .if_icmp .lt 16, 3), (9, .aload_n 0, 1), (10, .iload_n 1, 1), (11, .invokevirtual 101, 3), (14, .iload_n 3, 1), (15, .if_icmp .gt 7, 3), (18, .iconst 1, 1), (19, .goto 4, 3), (22, .iconst 0, 1), (23, .ireturn, 1)]
theorem kx_R_textHas : kt_tab kb_R_textHas kw_R_textHas = true := by decide +kernel
abbrev kb_R_textNumber : ByteArray := prog_4_method_18_code
def ky_R_textNumber : MethodName := ⟨RX2, "textNumber", "(I)I"⟩
def kw_R_textNumber : List (Nat × Instr × Nat) := [(0, .aload_n 0, 1), (1, .iload_n 1, 1), (2, .invokevirtual 104, 3), (5, .ifCond .eq 12, 3), (8, .aload_n 0, 1), (9, .getfield 27, 3), (12, .iload_n 1, 1), (13, .iaload, 1), (14, .goto 4, 3), (17, .iconst 0, 1), (18, .istore_n 2, 1), (19, .iconst 5, 1), (20, .istore_n 3, 1), (21, .iconst 0, 1), (22, .iload_n 2, 1), (23, .aload_n 0, 1), (24, .iload_n 1, 1), (25, .invokevirtual 101, 3), (28, .isub, 1), (29, .invokestatic 107, 3), (32, .istore 4, 2), (34, .iload 4, 2), (36, .iload_n 2, 1), (37, .if_icmp .ge 33, 3), (40, .iload 4, 2), (42, .bipush 48, 2), (44, .if_icmp .ge 26, 3), (47, .iload_n 3, 1), (48, .sipush 131, 3), (51, .imul, 1), (52, .aload_n 0, 1), (53, .getfield 16, 3), (56, .getfield 34, 3), (59, .iload 4, 2), (61, .iaload, 1), (62, .iadd, 1), (63, .istore_n 3, 1), (64, .iinc 4 1, 3), (67, .goto (-33), 3), (70, .iload_n 3, 1), (71, .ireturn, 1)]
theorem kx_R_textNumber : kt_tab kb_R_textNumber kw_R_textNumber = true := by decide +kernel
abbrev kb_G_has : ByteArray := prog_5_method_2_code
def ky_G_has : MethodName := ⟨RX3, "has", "(I)Z"⟩
def kw_G_has : List (Nat × Instr × Nat) := [(0, .iload_n 1, 1), (1, .ifCond .le 26, 3), (4, .iload_n 1, 1), (5, .aload_n 0, 1), (6, .getfield 15, 3), (9, .if_icmp .gt 18, 3), (12, .iload_n 1, 1), (13, .aload_n 0, 1), (14, .getfield 15, 3), (17, .bipush 40, 2), (19, .isub, 1), (20, .if_icmp .le 7, 3), (23, .iconst 1, 1), (24, .goto 4, 3), (27, .iconst 0, 1), (28, .ireturn, 1)]
theorem kx_G_has : kt_tab kb_G_has kw_G_has = true := by decide +kernel
abbrev kb_G_field : ByteArray := prog_5_method_3_code
def ky_G_field : MethodName := ⟨RX3, "field", "(II)I"⟩
def kw_G_field : List (Nat × Instr × Nat) := [(0, .aload_n 0, 1), (1, .iload_n 1, 1), (2, .invokevirtual 19, 3), (5, .ifCond .eq 18, 3), (8, .iload_n 2, 1), (9, .iconst 1, 1), (10, .if_icmp .lt 13, 3), (13, .iload_n 2, 1), (14, .bipush 6, 2), (16, .if_icmp .gt 7, 3), (19, .iconst 1, 1), (20, .goto 4, 3), (23, .iconst 0, 1), (24, .istore_n 3, 1), (25, .iload_n 3, 1), (26, .ifCond .eq 22, 3), (29, .aload_n 0, 1), (30, .getfield 11, 3), (33, .iload_n 1, 1), (34, .bipush 40, 2), (36, .irem, 1), (37, .bipush 6, 2), (39, .imul, 1), (40, .iload_n 2, 1), (41, .iadd, 1), (42, .iconst 1, 1), (43, .isub, 1), (44, .iaload, 1), (45, .goto 4, 3), (48, .iconst 0, 1), (49, .ireturn, 1)]
theorem kx_G_field : kt_tab kb_G_field kw_G_field = true := by decide +kernel
abbrev kb_G_make : ByteArray := prog_5_method_4_code
def ky_G_make : MethodName := ⟨RX3, "make", "(IIIIIZ)V"⟩
def kw_G_make : List (Nat × Instr × Nat) := [(0, .aload_n 0, 1), (1, .dup, 1), (2, .getfield 15, 3), (5, .iconst 1, 1), (6, .iadd, 1), (7, .putfield 15, 3), (10, .aload_n 0, 1), (11, .getfield 15, 3), (14, .bipush 40, 2), (16, .irem, 1), (17, .bipush 6, 2), (19, .imul, 1), (20, .iconst 1, 1), (21, .isub, 1), (22, .istore 7, 2), (24, .aload_n 0, 1), (25, .getfield 11, 3), (28, .iload 7, 2), (30, .iconst 1, 1), (31, .iadd, 1), (32, .iload_n 1, 1), (33, .iastore, 1), (34, .aload_n 0, 1), (35, .getfield 11, 3), (38, .iload 7, 2), (40, .iconst 2, 1), (41, .iadd, 1), (42, .iload_n 2, 1), (43, .iastore, 1), (44, .aload_n 0, 1), (45, .getfield 11, 3), (48, .iload 7, 2), (50, .iconst 3, 1), (51, .iadd, 1), (52, .iload_n 3, 1), (53, .iastore, 1), (54, .aload_n 0, 1), (55, .getfield 11, 3), (58, .iload 7, 2), (60, .iconst 4, 1), (61, .iadd, 1), (62, .iload 4, 2), (64, .iastore, 1), (65, .aload_n 0, 1), (66, .getfield 11, 3), (69, .iload 7, 2), (71, .iconst 5, 1), (72, .iadd, 1), (73, .iload 5, 2), (75, .iastore, 1), (76, .aload_n 0, 1), (77, .getfield 11, 3), (80, .iload 7, 2), (82, .bipush 6, 2), (84, .iadd, 1), (85, .iload 6, 2), (87, .ifCond .eq 7, 3), (90, .iconst 1, 1), (91, .goto 4, 3), (94, .iconst 0, 1), (95, .iastore, 1), (96, .return_, 1)]
theorem kx_G_make : kt_tab kb_G_make kw_G_make = true := by decide +kernel
abbrev kb_S_read : ByteArray := prog_6_method_2_code
def ky_S_read : MethodName := ⟨RX4, "read", "(II)I"⟩
def kw_S_read : List (Nat × Instr × Nat) := [(0, .iload_n 1, 1), (1, .ifCond .lt 33, 3), (4, .iload_n 1, 1), (5, .bipush 7, 2), (7, .if_icmp .ge 27, 3), (10, .iload_n 2, 1), (11, .ifCond .lt 23, 3), (14, .iload_n 2, 1), (15, .bipush 6, 2), (17, .if_icmp .ge 17, 3), (20, .aload_n 0, 1), (21, .getfield 9, 3), (24, .iload_n 1, 1), (25, .bipush 6, 2), (27, .imul, 1), (28, .iload_n 2, 1), (29, .iadd, 1), (30, .iaload, 1), (31, .goto 4, 3), (34, .iconst 0, 1), (35, .ireturn, 1)]
theorem kx_S_read : kt_tab kb_S_read kw_S_read = true := by decide +kernel
abbrev kb_S_pageOf : ByteArray := prog_6_method_3_code
def ky_S_pageOf : MethodName := ⟨RX4, "pageOf", "(I)I"⟩
def kw_S_pageOf : List (Nat × Instr × Nat) := [(0, .iconst 0, 1), (1, .istore_n 2, 1), (2, .iload_n 2, 1), (3, .bipush 7, 2), (5, .if_icmp .ge 31, 3), (8, .aload_n 0, 1), (9, .iload_n 2, 1), (10, .iconst 0, 1), (11, .invokevirtual 23, 3), (14, .istore_n 3, 1), (15, .iload_n 3, 1), (16, .iconst (-1), 1), (17, .if_icmp .eq 13, 3), (20, .iload_n 3, 1), (21, .bipush 16, 2), (23, .irem, 1), (24, .iload_n 1, 1), (25, .if_icmp .ne 5, 3), (28, .iload_n 2, 1), (29, .ireturn, 1), (30, .iinc 2 1, 3), (33, .goto (-31), 3), (36, .iconst (-1), 1), (37, .ireturn, 1)]
theorem kx_S_pageOf : kt_tab kb_S_pageOf kw_S_pageOf = true := by decide +kernel
abbrev kb_S_has : ByteArray := prog_6_method_4_code
def ky_S_has : MethodName := ⟨RX4, "has", "(I)Z"⟩
def kw_S_has : List (Nat × Instr × Nat) := [(0, .aload_n 0, 1), (1, .iload_n 1, 1), (2, .invokevirtual 27, 3), (5, .ifCond .lt 7, 3), (8, .iconst 1, 1), (9, .goto 4, 3), (12, .iconst 0, 1), (13, .ireturn, 1)]
theorem kx_S_has : kt_tab kb_S_has kw_S_has = true := by decide +kernel
abbrev kb_S_erasedPages : ByteArray := prog_6_method_5_code
def ky_S_erasedPages : MethodName := ⟨RX4, "erasedPages", "()I"⟩
def kw_S_erasedPages : List (Nat × Instr × Nat) := [(0, .iconst 0, 1), (1, .istore_n 1, 1), (2, .iconst 0, 1), (3, .istore_n 2, 1), (4, .iload_n 2, 1), (5, .bipush 7, 2), (7, .if_icmp .ge 27, 3), (10, .iload_n 1, 1), (11, .aload_n 0, 1), (12, .iload_n 2, 1), (13, .iconst 0, 1), (14, .invokevirtual 23, 3), (17, .iconst (-1), 1), (18, .if_icmp .ne 7, 3), (21, .iconst 1, 1), (22, .goto 4, 3), (25, .iconst 0, 1), (26, .iadd, 1), (27, .istore_n 1, 1), (28, .iinc 2 1, 3), (31, .goto (-27), 3), (34, .iload_n 1, 1), (35, .ireturn, 1)]
theorem kx_S_erasedPages : kt_tab kb_S_erasedPages kw_S_erasedPages = true := by decide +kernel
abbrev kb_S_labelBelow : ByteArray := prog_6_method_6_code
def ky_S_labelBelow : MethodName := ⟨RX4, "labelBelow", "(I)I"⟩
def kw_S_labelBelow : List (Nat × Instr × Nat) := [(0, .iconst (-1), 1), (1, .istore_n 2, 1), (2, .iconst 0, 1), (3, .istore_n 3, 1), (4, .iload_n 3, 1), (5, .bipush 7, 2), (7, .if_icmp .ge 32, 3), (10, .aload_n 0, 1), (11, .iload_n 3, 1), (12, .iconst 0, 1), (13, .invokevirtual 23, 3), (16, .istore 4, 2), (18, .iload 4, 2), (20, .iload_n 1, 1), (21, .if_icmp .ge 12, 3), (24, .iload 4, 2), (26, .iload_n 2, 1), (27, .if_icmp .le 6, 3), (30, .iload 4, 2), (32, .istore_n 2, 1), (33, .iinc 3 1, 3), (36, .goto (-32), 3), (39, .iload_n 2, 1), (40, .ireturn, 1)]
theorem kx_S_labelBelow : kt_tab kb_S_labelBelow kw_S_labelBelow = true := by decide +kernel
abbrev kb_S_hasRoomFor : ByteArray := prog_6_method_7_code
def ky_S_hasRoomFor : MethodName := ⟨RX4, "hasRoomFor", "(I)Z"⟩
def kw_S_hasRoomFor : List (Nat × Instr × Nat) := [(0, .aload_n 0, 1), (1, .iload_n 1, 1), (2, .invokevirtual 27, 3), (5, .ifCond .ge 11, 3), (8, .aload_n 0, 1), (9, .invokevirtual 31, 3), (12, .iconst 2, 1), (13, .if_icmp .lt 7, 3), (16, .iconst 1, 1), (17, .goto 4, 3), (20, .iconst 0, 1), (21, .ireturn, 1)]
theorem kx_S_hasRoomFor : kt_tab kb_S_hasRoomFor kw_S_hasRoomFor = true := by decide +kernel
abbrev kb_S_put : ByteArray := prog_6_method_8_code
def ky_S_put : MethodName := ⟨RX4, "put", "(IIIII)Z"⟩
def kw_S_put : List (Nat × Instr × Nat) := [(0, .aload_n 0, 1), (1, .iload_n 1, 1), (2, .invokevirtual 27, 3), (5, .istore 6, 2), (7, .aload_n 0, 1), (8, .invokevirtual 35, 3), (11, .istore 7, 2), (13, .iconst 0, 1), (14, .aload_n 0, 1), (15, .ldc 38, 2), (17, .invokevirtual 39, 3), (20, .invokestatic 42, 3), (23, .bipush 16, 2), (25, .idiv, 1), (26, .iconst 1, 1), (27, .iadd, 1), (28, .istore 8, 2), (30, .aload_n 0, 1), (31, .iload 7, 2), (33, .iconst 0, 1), (34, .iload_n 1, 1), (35, .bipush 16, 2), (37, .iload 8, 2), (39, .imul, 1), (40, .iadd, 1), (41, .invokevirtual 47, 3), (44, .ifCond .eq 83, 3), (47, .aload_n 0, 1), (48, .iload 7, 2), (50, .iconst 1, 1), (51, .iload_n 2, 1), (52, .invokevirtual 47, 3), (55, .ifCond .eq 72, 3), (58, .aload_n 0, 1), (59, .iload 7, 2), (61, .iconst 2, 1), (62, .iload_n 3, 1), (63, .invokevirtual 47, 3), (66, .ifCond .eq 61, 3), (69, .aload_n 0, 1), (70, .iload 7, 2), (72, .iconst 3, 1), (73, .iload 4, 2), (75, .invokevirtual 47, 3), (78, .ifCond .eq 49, 3), (81, .aload_n 0, 1), (82, .iload 7, 2), (84, .iconst 4, 1), (85, .iload 5, 2), (87, .invokevirtual 47, 3), (90, .ifCond .eq 37, 3), (93, .aload_n 0, 1), (94, .iload 7, 2), (96, .iconst 5, 1), (97, .aload_n 0, 1), (98, .iload 7, 2), (100, .invokevirtual 51, 3), (103, .invokevirtual 47, 3), (106, .ifCond .eq 21, 3), (109, .iload 6, 2), (111, .ifCond .lt 12, 3), (114, .aload_n 0, 1), (115, .iload 6, 2), (117, .invokevirtual 54, 3), (120, .ifCond .eq 7, 3), (123, .iconst 1, 1), (124, .goto 4, 3), (127, .iconst 0, 1), (128, .ireturn, 1)]
theorem kx_S_put : kt_tab kb_S_put kw_S_put = true := by decide +kernel
abbrev kb_S_dropAll : ByteArray := prog_6_method_9_code
def ky_S_dropAll : MethodName := ⟨RX4, "dropAll", "()Z"⟩
def kw_S_dropAll : List (Nat × Instr × Nat) := [(0, .iconst 0, 1), (1, .istore_n 1, 1), (2, .iload_n 1, 1), (3, .bipush 7, 2), (5, .if_icmp .ge 29, 3), (8, .aload_n 0, 1), (9, .iload_n 1, 1), (10, .iconst 0, 1), (11, .invokevirtual 23, 3), (14, .iconst (-1), 1), (15, .if_icmp .eq 13, 3), (18, .aload_n 0, 1), (19, .iload_n 1, 1), (20, .invokevirtual 54, 3), (23, .ifCond .ne 5, 3), (26, .iconst 0, 1), (27, .ireturn, 1), (28, .iinc 1 1, 3), (31, .goto (-29), 3), (34, .iconst 1, 1), (35, .ireturn, 1)]
theorem kx_S_dropAll : kt_tab kb_S_dropAll kw_S_dropAll = true := by decide +kernel
abbrev kb_S_lookThrough : ByteArray := prog_6_method_10_code
def ky_S_lookThrough : MethodName := ⟨RX4, "lookThrough", "()V"⟩
def kw_S_lookThrough : List (Nat × Instr × Nat) := [(0, .iconst 0, 1), (1, .istore_n 1, 1), (2, .iload_n 1, 1), (3, .bipush 7, 2), (5, .if_icmp .ge 41, 3), (8, .aload_n 0, 1), (9, .iload_n 1, 1), (10, .iconst 0, 1), (11, .invokevirtual 23, 3), (14, .iconst (-1), 1), (15, .if_icmp .eq 25, 3), (18, .aload_n 0, 1), (19, .iload_n 1, 1), (20, .invokevirtual 58, 3), (23, .ifCond .eq 11, 3), (26, .aload_n 0, 1), (27, .iload_n 1, 1), (28, .invokevirtual 61, 3), (31, .ifCond .eq 9, 3), (34, .aload_n 0, 1), (35, .iload_n 1, 1), (36, .invokevirtual 54, 3), (39, .pop, 1), (40, .iinc 1 1, 3), (43, .goto (-41), 3), (46, .return_, 1)]
theorem kx_S_lookThrough : kt_tab kb_S_lookThrough kw_S_lookThrough = true := by decide +kernel
abbrev kb_S_isOutdated : ByteArray := prog_6_method_11_code
def ky_S_isOutdated : MethodName := ⟨RX4, "isOutdated", "(I)Z"⟩
def kw_S_isOutdated : List (Nat × Instr × Nat) := [(0, .aload_n 0, 1), (1, .iload_n 1, 1), (2, .iconst 0, 1), (3, .invokevirtual 23, 3), (6, .istore_n 2, 1), (7, .iconst 0, 1), (8, .istore_n 3, 1), (9, .iload_n 3, 1), (10, .bipush 7, 2), (12, .if_icmp .ge 45, 3), (15, .aload_n 0, 1), (16, .iload_n 3, 1), (17, .iconst 0, 1), (18, .invokevirtual 23, 3), (21, .istore 4, 2), (23, .aload_n 0, 1), (24, .iload_n 3, 1), (25, .invokevirtual 58, 3), (28, .ifCond .eq 23, 3), (31, .iload 4, 2), (33, .bipush 16, 2), (35, .irem, 1), (36, .iload_n 2, 1), (37, .bipush 16, 2), (39, .irem, 1), (40, .if_icmp .ne 11, 3), (43, .iload 4, 2), (45, .iload_n 2, 1), (46, .if_icmp .le 5, 3), (49, .iconst 1, 1), (50, .ireturn, 1), (51, .iinc 3 1, 3), (54, .goto (-45), 3), (57, .iconst 0, 1), (58, .ireturn, 1)]
theorem kx_S_isOutdated : kt_tab kb_S_isOutdated kw_S_isOutdated = true := by decide +kernel
abbrev kb_S_isSealed : ByteArray := prog_6_method_12_code
def ky_S_isSealed : MethodName := ⟨RX4, "isSealed", "(I)Z"⟩
def kw_S_isSealed : List (Nat × Instr × Nat) := [(0, .aload_n 0, 1), (1, .iload_n 1, 1), (2, .iconst 5, 1), (3, .invokevirtual 23, 3), (6, .aload_n 0, 1), (7, .iload_n 1, 1), (8, .invokevirtual 51, 3), (11, .if_icmp .ne 7, 3), (14, .iconst 1, 1), (15, .goto 4, 3), (18, .iconst 0, 1), (19, .ireturn, 1)]
theorem kx_S_isSealed : kt_tab kb_S_isSealed kw_S_isSealed = true := by decide +kernel
abbrev kb_S_sealOf : ByteArray := prog_6_method_13_code
def ky_S_sealOf : MethodName := ⟨RX4, "sealOf", "(I)I"⟩
def kw_S_sealOf : List (Nat × Instr × Nat) := [(0, .bipush 7, 2), (2, .istore_n 2, 1), (3, .iconst 0, 1), (4, .istore_n 3, 1), (5, .iload_n 3, 1), (6, .iconst 5, 1), (7, .if_icmp .ge 23, 3), (10, .iload_n 2, 1), (11, .aload_n 0, 1), (12, .iload_n 1, 1), (13, .iload_n 3, 1), (14, .invokevirtual 23, 3), (17, .ixor, 1), (18, .ldc 64, 2), (20, .imul, 1), (21, .iconst 1, 1), (22, .iadd, 1), (23, .istore_n 2, 1), (24, .iinc 3 1, 3), (27, .goto (-22), 3), (30, .iload_n 2, 1), (31, .ldc 38, 2), (33, .iand, 1), (34, .ireturn, 1)]
theorem kx_S_sealOf : kt_tab kb_S_sealOf kw_S_sealOf = true := by decide +kernel
abbrev kb_S_firstErased : ByteArray := prog_6_method_14_code
def ky_S_firstErased : MethodName := ⟨RX4, "firstErased", "()I"⟩
def kw_S_firstErased : List (Nat × Instr × Nat) := [(0, .iconst 0, 1), (1, .istore_n 1, 1), (2, .iload_n 1, 1), (3, .bipush 7, 2), (5, .if_icmp .ge 21, 3), (8, .aload_n 0, 1), (9, .iload_n 1, 1), (10, .iconst 0, 1), (11, .invokevirtual 23, 3), (14, .iconst (-1), 1), (15, .if_icmp .ne 5, 3), (18, .iload_n 1, 1), (19, .ireturn, 1), (20, .iinc 1 1, 3), (23, .goto (-21), 3), (26, .iconst (-1), 1), (27, .ireturn, 1)]
theorem kx_S_firstErased : kt_tab kb_S_firstErased kw_S_firstErased = true := by decide +kernel
abbrev kb_S_write : ByteArray := prog_6_method_15_code
def ky_S_write : MethodName := ⟨RX4, "write", "(III)Z"⟩
def kw_S_write : List (Nat × Instr × Nat) := [(0, .iload_n 1, 1), (1, .ifCond .lt 26, 3), (4, .iload_n 1, 1), (5, .bipush 7, 2), (7, .if_icmp .ge 20, 3), (10, .iload_n 2, 1), (11, .ifCond .lt 16, 3), (14, .iload_n 2, 1), (15, .bipush 6, 2), (17, .if_icmp .ge 10, 3), (20, .aload_n 0, 1), (21, .invokevirtual 65, 3), (24, .ifCond .ne 5, 3), (27, .iconst 0, 1), (28, .ireturn, 1), (29, .aload_n 0, 1), (30, .getfield 9, 3), (33, .iload_n 1, 1), (34, .bipush 6, 2), (36, .imul, 1), (37, .iload_n 2, 1), (38, .iadd, 1), (39, .iload_n 3, 1), (40, .iastore, 1), (41, .iconst 1, 1), (42, .ireturn, 1)]
theorem kx_S_write : kt_tab kb_S_write kw_S_write = true := by decide +kernel
abbrev kb_S_erase : ByteArray := prog_6_method_16_code
def ky_S_erase : MethodName := ⟨RX4, "erase", "(I)Z"⟩
def kw_S_erase : List (Nat × Instr × Nat) := [(0, .iload_n 1, 1), (1, .ifCond .lt 16, 3), (4, .iload_n 1, 1), (5, .bipush 7, 2), (7, .if_icmp .ge 10, 3), (10, .aload_n 0, 1), (11, .invokevirtual 65, 3), (14, .ifCond .ne 5, 3), (17, .iconst 0, 1), (18, .ireturn, 1), (19, .iconst 0, 1), (20, .istore_n 2, 1), (21, .iload_n 2, 1), (22, .bipush 6, 2), (24, .if_icmp .ge 21, 3), (27, .aload_n 0, 1), (28, .getfield 9, 3), (31, .iload_n 1, 1), (32, .bipush 6, 2), (34, .imul, 1), (35, .iload_n 2, 1), (36, .iadd, 1), (37, .iconst (-1), 1), (38, .iastore, 1), (39, .iinc 2 1, 3), (42, .goto (-21), 3), (45, .iconst 1, 1), (46, .ireturn, 1)]
theorem kx_S_erase : kt_tab kb_S_erase kw_S_erase = true := by decide +kernel
abbrev kb_S_spendWrite : ByteArray := prog_6_method_17_code
def ky_S_spendWrite : MethodName := ⟨RX4, "spendWrite", "()Z"⟩
def kw_S_spendWrite : List (Nat × Instr × Nat) := [(0, .aload_n 0, 1), (1, .getfield 13, 3), (4, .ifCond .ne 5, 3), (7, .iconst 0, 1), (8, .ireturn, 1), (9, .aload_n 0, 1), (10, .getfield 13, 3), (13, .iconst (-1), 1), (14, .if_icmp .eq 13, 3), (17, .aload_n 0, 1), (18, .dup, 1), (19, .getfield 13, 3), (22, .iconst 1, 1), (23, .isub, 1), (24, .putfield 13, 3), (27, .aload_n 0, 1), (28, .dup, 1), (29, .getfield 69, 3), (32, .iconst 1, 1), (33, .iadd, 1), (34, .putfield 69, 3), (37, .iconst 1, 1), (38, .ireturn, 1)]
theorem kx_S_spendWrite : kt_tab kb_S_spendWrite kw_S_spendWrite = true := by decide +kernel
abbrev kb_T_comeOn : ByteArray := prog_7_method_2_code
def ky_T_comeOn : MethodName := ⟨RX5, "comeOn", "()V"⟩
def kw_T_comeOn : List (Nat × Instr × Nat) := [(0, .aload_n 0, 1), (1, .iconst 1, 1), (2, .putfield 45, 3), (5, .aload_n 0, 1), (6, .getfield 12, 3), (9, .invokevirtual 49, 3), (12, .return_, 1)]
theorem kx_T_comeOn : kt_tab kb_T_comeOn kw_T_comeOn = true := by decide +kernel
abbrev kb_T_goOff : ByteArray := prog_7_method_3_code
def ky_T_goOff : MethodName := ⟨RX5, "goOff", "()V"⟩
def kw_T_goOff : List (Nat × Instr × Nat) := [(0, .aload_n 0, 1), (1, .iconst 0, 1), (2, .putfield 45, 3), (5, .aload_n 0, 1), (6, .iconst 0, 1), (7, .putfield 52, 3), (10, .aload_n 0, 1), (11, .iconst 0, 1), (12, .putfield 55, 3), (15, .aload_n 0, 1), (16, .iconst 0, 1), (17, .putfield 59, 3), (20, .aload_n 0, 1), (21, .getfield 28, 3), (24, .getfield 62, 3), (27, .invokevirtual 65, 3), (30, .aload_n 0, 1), (31, .getfield 37, 3), (34, .invokevirtual 65, 3), (37, .aload_n 0, 1), (38, .invokevirtual 68, 3), (41, .aload_n 0, 1), (42, .getfield 12, 3), (45, .iconst (-1), 1), (46, .putfield 71, 3), (49, .return_, 1)]
theorem kx_T_goOff : kt_tab kb_T_goOff kw_T_goOff = true := by decide +kernel
abbrev kb_T_serve : ByteArray := prog_7_method_4_code
def ky_T_serve : MethodName := ⟨RX5, "serve", "()I"⟩
def kw_T_serve : List (Nat × Instr × Nat) := [(0, .aload_n 0, 1), (1, .getfield 37, 3), (4, .invokevirtual 65, 3), (7, .aload_n 0, 1), (8, .invokevirtual 74, 3), (11, .istore_n 1, 1), (12, .aload_n 0, 1), (13, .getfield 28, 3), (16, .getfield 62, 3), (19, .invokevirtual 65, 3), (22, .aload_n 0, 1), (23, .getfield 12, 3), (26, .iconst (-1), 1), (27, .putfield 71, 3), (30, .iload_n 1, 1), (31, .iconst (-1), 1), (32, .if_icmp .ne 10, 3), (35, .aload_n 0, 1), (36, .invokevirtual 78, 3), (39, .goto 33, 3), (42, .iload_n 1, 1), (43, .ifCond .eq 14, 3), (46, .aload_n 0, 1), (47, .getfield 37, 3), (50, .iload_n 1, 1), (51, .invokevirtual 81, 3), (54, .goto 18, 3), (57, .aload_n 0, 1), (58, .getfield 37, 3), (61, .invokevirtual 84, 3), (64, .ifCond .ne 8, 3), (67, .aload_n 0, 1), (68, .iconst 0, 1), (69, .invokevirtual 87, 3), (72, .iload_n 1, 1), (73, .ireturn, 1)]
theorem kx_T_serve : kt_tab kb_T_serve kw_T_serve = true := by decide +kernel
abbrev kb_T_perform : ByteArray := prog_7_method_5_code
def ky_T_perform : MethodName := ⟨RX5, "perform", "()I"⟩
def kw_T_perform : List (Nat × Instr × Nat) := [(0, .aload_n 0, 1), (1, .getfield 28, 3), (4, .invokevirtual 90, 3), (7, .istore_n 1, 1), (8, .iload_n 1, 1), (9, .invokestatic 93, 3), (12, .ifCond .ne 5, 3), (15, .iconst 1, 1), (16, .ireturn, 1), (17, .aload_n 0, 1), (18, .getfield 28, 3), (21, .invokevirtual 97, 3), (24, .ifCond .ne 5, 3), (27, .iconst 2, 1), (28, .ireturn, 1), (29, .iload_n 1, 1), (30, .bipush 8, 2), (32, .if_icmp .ne 8, 3), (35, .aload_n 0, 1), (36, .invokevirtual 101, 3), (39, .ireturn, 1), (40, .aload_n 0, 1), (41, .invokevirtual 68, 3), (44, .iload_n 1, 1), (45, .tableswitch 59 1 6 #[39, 44, 59, 49, 59, 54], 39), (84, .aload_n 0, 1), (85, .invokevirtual 104, 3), (88, .ireturn, 1), (89, .aload_n 0, 1), (90, .invokevirtual 107, 3), (93, .ireturn, 1), (94, .aload_n 0, 1), (95, .invokevirtual 110, 3), (98, .ireturn, 1), (99, .aload_n 0, 1), (100, .invokevirtual 113, 3), (103, .ireturn, 1), (104, .aload_n 0, 1), (105, .invokevirtual 116, 3), (108, .ireturn, 1)]
theorem kx_T_perform : kt_tab kb_T_perform kw_T_perform = true := by decide +kernel
abbrev kb_T_isCommand : ByteArray := prog_7_method_6_code
def ky_T_isCommand : MethodName := ⟨RX5, "isCommand", "(I)Z"⟩
def kw_T_isCommand : List (Nat × Instr × Nat) := [(0, .iload_n 0, 1), (1, .iconst 1, 1), (2, .if_icmp .eq 31, 3), (5, .iload_n 0, 1), (6, .iconst 2, 1), (7, .if_icmp .eq 26, 3), (10, .iload_n 0, 1), (11, .iconst 4, 1), (12, .if_icmp .eq 21, 3), (15, .iload_n 0, 1), (16, .bipush 6, 2), (18, .if_icmp .eq 15, 3), (21, .iload_n 0, 1), (22, .bipush 7, 2), (24, .if_icmp .eq 9, 3), (27, .iload_n 0, 1), (28, .bipush 8, 2), (30, .if_icmp .ne 7, 3), (33, .iconst 1, 1), (34, .goto 4, 3), (37, .iconst 0, 1), (38, .ireturn, 1)]
theorem kx_T_isCommand : kt_tab kb_T_isCommand kw_T_isCommand = true := by decide +kernel
abbrev kb_T_makeCredential : ByteArray := prog_7_method_7_code
def ky_T_makeCredential : MethodName := ⟨RX5, "makeCredential", "()I"⟩
def kw_T_makeCredential : List (Nat × Instr × Nat) := [(0, .aload_n 0, 1), (1, .getfield 28, 3), (4, .invokevirtual 119, 3), (7, .istore_n 1, 1), (8, .iload_n 1, 1), (9, .ifCond .eq 5, 3), (12, .iload_n 1, 1), (13, .ireturn, 1), (14, .aload_n 0, 1), (15, .getfield 28, 3), (18, .iconst 2, 1), (19, .iconst 1, 1), (20, .bipush 8, 2), (22, .invokevirtual 122, 3), (25, .ifCond .ne 5, 3), (28, .iconst 5, 1), (29, .ireturn, 1), (30, .aload_n 0, 1), (31, .getfield 12, 3), (34, .iconst 0, 1), (35, .invokevirtual 126, 3), (38, .istore_n 2, 1), (39, .iload_n 2, 1), (40, .ifCond .eq 15, 3), (43, .aload_n 0, 1), (44, .bipush 8, 2), (46, .invokevirtual 129, 3), (49, .ifCond .ne 6, 3), (52, .bipush 14, 2), (54, .ireturn, 1), (55, .aload_n 0, 1), (56, .getfield 28, 3), (59, .iconst 2, 1), (60, .invokevirtual 132, 3), (63, .istore_n 3, 1), (64, .aload_n 0, 1), (65, .iload_n 3, 1), (66, .invokevirtual 136, 3), (69, .ifCond .eq 6, 3), (72, .bipush 8, 2), (74, .ireturn, 1), (75, .aload_n 0, 1), (76, .invokevirtual 139, 3), (79, .ifCond .ne 6, 3), (82, .bipush 7, 2), (84, .ireturn, 1), (85, .aload_n 0, 1), (86, .getfield 28, 3), (89, .iconst 3, 1), (90, .invokevirtual 142, 3), (93, .istore 4, 2), (95, .aload_n 0, 1), (96, .iload_n 3, 1), (97, .iload 4, 2), (99, .invokevirtual 145, 3), (102, .istore 5, 2), (104, .iload 5, 2), (106, .bipush 6, 2), (108, .if_icmp .gt 15, 3), (111, .aload_n 0, 1), (112, .getfield 12, 3), (115, .iload 5, 2), (117, .invokevirtual 149, 3), (120, .ifCond .ne 6, 3), (123, .bipush 6, 2), (125, .ireturn, 1), (126, .aload_n 0, 1), (127, .dup, 1), (128, .getfield 152, 3), (131, .iconst 1, 1), (132, .iadd, 1), (133, .putfield 152, 3), (136, .aload_n 0, 1), (137, .getfield 152, 3), (140, .istore 6, 2), (142, .aload_n 0, 1), (143, .getfield 12, 3), (146, .iload 5, 2), (148, .iload_n 3, 1), (149, .iload 4, 2), (151, .iload 6, 2), (153, .iconst 0, 1), (154, .invokevirtual 155, 3), (157, .ifCond .ne 5, 3), (160, .iconst (-1), 1), (161, .ireturn, 1), (162, .aload_n 0, 1), (163, .getfield 21, 3), (166, .iconst 1, 1), (167, .iload 6, 2), (169, .iload_n 3, 1), (170, .aload_n 0, 1), (171, .getfield 28, 3), (174, .iconst 1, 1), (175, .invokevirtual 142, 3), (178, .iconst 0, 1), (179, .iload_n 2, 1), (180, .invokevirtual 159, 3), (183, .aload_n 0, 1), (184, .iconst 3, 1), (185, .invokevirtual 87, 3), (188, .aload_n 0, 1), (189, .getfield 37, 3), (192, .iconst 1, 1), (193, .iload 5, 2), (195, .invokevirtual 163, 3), (198, .aload_n 0, 1), (199, .getfield 37, 3), (202, .iconst 2, 1), (203, .iload 6, 2), (205, .invokevirtual 163, 3), (208, .aload_n 0, 1), (209, .getfield 37, 3), (212, .iconst 3, 1), (213, .aload_n 0, 1), (214, .getfield 21, 3), (217, .getfield 167, 3), (220, .invokevirtual 163, 3), (223, .iconst 0, 1), (224, .ireturn, 1)]
theorem kx_T_makeCredential : kt_tab kb_T_makeCredential kw_T_makeCredential = true := by decide +kernel
abbrev kb_T_isTicket : ByteArray := prog_7_method_8_code
def ky_T_isTicket : MethodName := ⟨RX5, "isTicket", "(I)Z"⟩
def kw_T_isTicket : List (Nat × Instr × Nat) := [(0, .aload_n 0, 1), (1, .getfield 59, 3), (4, .ifCond .eq 33, 3), (7, .aload_n 0, 1), (8, .getfield 28, 3), (11, .iload_n 1, 1), (12, .invokevirtual 170, 3), (15, .ifCond .eq 22, 3), (18, .aload_n 0, 1), (19, .getfield 28, 3), (22, .iload_n 1, 1), (23, .invokevirtual 142, 3), (26, .aload_n 0, 1), (27, .getfield 59, 3), (30, .if_icmp .ne 7, 3), (33, .iconst 1, 1), (34, .goto 4, 3), (37, .iconst 0, 1), (38, .ireturn, 1)]
theorem kx_T_isTicket : kt_tab kb_T_isTicket kw_T_isTicket = true := by decide +kernel
abbrev kb_T_usePress : ByteArray := prog_7_method_9_code
def ky_T_usePress : MethodName := ⟨RX5, "usePress", "()Z"⟩
def kw_T_usePress : List (Nat × Instr × Nat) := [(0, .aload_n 0, 1), (1, .getfield 52, 3), (4, .istore_n 1, 1), (5, .aload_n 0, 1), (6, .iconst 0, 1), (7, .putfield 52, 3), (10, .iload_n 1, 1), (11, .ireturn, 1)]
theorem kx_T_usePress : kt_tab kb_T_usePress kw_T_usePress = true := by decide +kernel
abbrev kb_T_isExcluded : ByteArray := prog_7_method_10_code
def ky_T_isExcluded : MethodName := ⟨RX5, "isExcluded", "(I)Z"⟩
def kw_T_isExcluded : List (Nat × Instr × Nat) := [(0, .iconst 1, 1), (1, .istore_n 2, 1), (2, .iload_n 2, 1), (3, .bipush 6, 2), (5, .if_icmp .gt 32, 3), (8, .aload_n 0, 1), (9, .iload_n 2, 1), (10, .iload_n 1, 1), (11, .invokevirtual 171, 3), (14, .ifCond .eq 17, 3), (17, .aload_n 0, 1), (18, .getfield 28, 3), (21, .iconst 5, 1), (22, .iload_n 2, 1), (23, .invokevirtual 175, 3), (26, .ifCond .eq 5, 3), (29, .iconst 1, 1), (30, .ireturn, 1), (31, .iinc 2 1, 3), (34, .goto (-32), 3), (37, .iconst 0, 1), (38, .ireturn, 1)]
theorem kx_T_isExcluded : kt_tab kb_T_isExcluded kw_T_isExcluded = true := by decide +kernel
abbrev kb_T_isCredential : ByteArray := prog_7_method_11_code
def ky_T_isCredential : MethodName := ⟨RX5, "isCredential", "(II)Z"⟩
def kw_T_isCredential : List (Nat × Instr × Nat) := [(0, .aload_n 0, 1), (1, .getfield 12, 3), (4, .iload_n 1, 1), (5, .invokevirtual 178, 3), (8, .istore_n 3, 1), (9, .iload_n 1, 1), (10, .ifCond .eq 24, 3), (13, .iload_n 3, 1), (14, .ifCond .lt 20, 3), (17, .aload_n 0, 1), (18, .getfield 12, 3), (21, .iload_n 3, 1), (22, .iconst 1, 1), (23, .invokevirtual 181, 3), (26, .iload_n 2, 1), (27, .if_icmp .ne 7, 3), (30, .iconst 1, 1), (31, .goto 4, 3), (34, .iconst 0, 1), (35, .ireturn, 1)]
theorem kx_T_isCredential : kt_tab kb_T_isCredential kw_T_isCredential = true := by decide +kernel
abbrev kb_T_nameFor : ByteArray := prog_7_method_12_code
def ky_T_nameFor : MethodName := ⟨RX5, "nameFor", "(II)I"⟩
def kw_T_nameFor : List (Nat × Instr × Nat) := [(0, .bipush 7, 2), (2, .istore_n 3, 1), (3, .bipush 6, 2), (5, .istore 4, 2), (7, .iload 4, 2), (9, .ifCond .le 62, 3), (12, .aload_n 0, 1), (13, .getfield 12, 3), (16, .iload 4, 2), (18, .invokevirtual 178, 3), (21, .istore 5, 2), (23, .iload 5, 2), (25, .ifCond .ge 9, 3), (28, .iload 4, 2), (30, .istore_n 3, 1), (31, .goto 34, 3), (34, .aload_n 0, 1), (35, .getfield 12, 3), (38, .iload 5, 2), (40, .iconst 1, 1), (41, .invokevirtual 181, 3), (44, .iload_n 1, 1), (45, .if_icmp .ne 20, 3), (48, .aload_n 0, 1), (49, .getfield 12, 3), (52, .iload 5, 2), (54, .iconst 2, 1), (55, .invokevirtual 181, 3), (58, .iload_n 2, 1), (59, .if_icmp .ne 6, 3), (62, .iload 4, 2), (64, .ireturn, 1), (65, .iinc 4 (-1), 3), (68, .goto (-61), 3), (71, .iload_n 3, 1), (72, .ireturn, 1)]
theorem kx_T_nameFor : kt_tab kb_T_nameFor kw_T_nameFor = true := by decide +kernel
abbrev kb_T_signFirst : ByteArray := prog_7_method_13_code
def ky_T_signFirst : MethodName := ⟨RX5, "signFirst", "()I"⟩
def kw_T_signFirst : List (Nat × Instr × Nat) := [(0, .aload_n 0, 1), (1, .getfield 28, 3), (4, .invokevirtual 184, 3), (7, .istore_n 1, 1), (8, .iload_n 1, 1), (9, .ifCond .eq 5, 3), (12, .iload_n 1, 1), (13, .ireturn, 1), (14, .aload_n 0, 1), (15, .getfield 28, 3), (18, .iconst 1, 1), (19, .iconst 1, 1), (20, .bipush 8, 2), (22, .invokevirtual 122, 3), (25, .ifCond .ne 5, 3), (28, .iconst 5, 1), (29, .ireturn, 1), (30, .aload_n 0, 1), (31, .getfield 28, 3), (34, .bipush 6, 2), (36, .invokevirtual 170, 3), (39, .istore_n 2, 1), (40, .iload_n 2, 1), (41, .ifCond .eq 15, 3), (44, .aload_n 0, 1), (45, .bipush 6, 2), (47, .invokevirtual 129, 3), (50, .ifCond .ne 6, 3), (53, .bipush 14, 2), (55, .ireturn, 1), (56, .aload_n 0, 1), (57, .aload_n 0, 1), (58, .getfield 28, 3), (61, .iconst 1, 1), (62, .invokevirtual 132, 3), (65, .invokevirtual 187, 3), (68, .istore_n 3, 1), (69, .iload_n 3, 1), (70, .ifCond .ne 6, 3), (73, .bipush 9, 2), (75, .ireturn, 1), (76, .aload_n 0, 1), (77, .invokevirtual 139, 3), (80, .ifCond .ne 6, 3), (83, .bipush 7, 2), (85, .ireturn, 1), (86, .aload_n 0, 1), (87, .iload_n 3, 1), (88, .putfield 190, 3), (91, .aload_n 0, 1), (92, .aload_n 0, 1), (93, .getfield 28, 3), (96, .iconst 2, 1), (97, .invokevirtual 142, 3), (100, .putfield 193, 3), (103, .aload_n 0, 1), (104, .iload_n 2, 1), (105, .putfield 196, 3), (108, .aload_n 0, 1), (109, .aload_n 0, 1), (110, .getfield 41, 3), (113, .iconst 0, 1), (114, .iaload, 1), (115, .iload_n 3, 1), (116, .invokevirtual 199, 3), (119, .ireturn, 1)]
theorem kx_T_signFirst : kt_tab kb_T_signFirst kw_T_signFirst = true := by decide +kernel
abbrev kb_T_signNext : ByteArray := prog_7_method_14_code
def ky_T_signNext : MethodName := ⟨RX5, "signNext", "()I"⟩
def kw_T_signNext : List (Nat × Instr × Nat) := [(0, .aload_n 0, 1), (1, .getfield 202, 3), (4, .ifCond .lt 23, 3), (7, .aload_n 0, 1), (8, .getfield 202, 3), (11, .aload_n 0, 1), (12, .getfield 190, 3), (15, .if_icmp .ge 12, 3), (18, .aload_n 0, 1), (19, .getfield 202, 3), (22, .bipush 6, 2), (24, .if_icmp .lt 5, 3), (27, .iconst 5, 1), (28, .ireturn, 1), (29, .aload_n 0, 1), (30, .aload_n 0, 1), (31, .getfield 41, 3), (34, .aload_n 0, 1), (35, .getfield 202, 3), (38, .iaload, 1), (39, .iconst 0, 1), (40, .invokevirtual 199, 3), (43, .ireturn, 1)]
theorem kx_T_signNext : kt_tab kb_T_signNext kw_T_signNext = true := by decide +kernel
abbrev kb_T_signWith : ByteArray := prog_7_method_15_code
def ky_T_signWith : MethodName := ⟨RX5, "signWith", "(II)I"⟩
def kw_T_signWith : List (Nat × Instr × Nat) := [(0, .aload_n 0, 1), (1, .dup, 1), (2, .getfield 202, 3), (5, .iconst 1, 1), (6, .iadd, 1), (7, .putfield 202, 3), (10, .aload_n 0, 1), (11, .getfield 12, 3), (14, .iload_n 1, 1), (15, .invokevirtual 178, 3), (18, .istore_n 3, 1), (19, .aload_n 0, 1), (20, .getfield 12, 3), (23, .iload_n 3, 1), (24, .iconst 1, 1), (25, .invokevirtual 181, 3), (28, .istore 4, 2), (30, .aload_n 0, 1), (31, .getfield 12, 3), (34, .iload_n 3, 1), (35, .iconst 2, 1), (36, .invokevirtual 181, 3), (39, .istore 5, 2), (41, .aload_n 0, 1), (42, .getfield 12, 3), (45, .iload_n 3, 1), (46, .iconst 3, 1), (47, .invokevirtual 181, 3), (50, .istore 6, 2), (52, .aload_n 0, 1), (53, .getfield 12, 3), (56, .iload_n 3, 1), (57, .iconst 4, 1), (58, .invokevirtual 181, 3), (61, .iconst 1, 1), (62, .iadd, 1), (63, .istore 7, 2), (65, .aload_n 0, 1), (66, .getfield 12, 3), (69, .iload_n 1, 1), (70, .iload 4, 2), (72, .iload 5, 2), (74, .iload 6, 2), (76, .iload 7, 2), (78, .invokevirtual 155, 3), (81, .ifCond .ne 5, 3), (84, .iconst (-1), 1), (85, .ireturn, 1), (86, .aload_n 0, 1), (87, .getfield 21, 3), (90, .iconst 2, 1), (91, .iload 6, 2), (93, .iload 4, 2), (95, .aload_n 0, 1), (96, .getfield 193, 3), (99, .iload 7, 2), (101, .aload_n 0, 1), (102, .getfield 196, 3), (105, .invokevirtual 159, 3), (108, .aload_n 0, 1), (109, .iload_n 2, 1), (110, .ifCond .le 8, 3), (113, .bipush 6, 2), (115, .goto 4, 3), (118, .iconst 5, 1), (119, .invokevirtual 87, 3), (122, .aload_n 0, 1), (123, .getfield 37, 3), (126, .iconst 1, 1), (127, .iload_n 1, 1), (128, .invokevirtual 163, 3), (131, .aload_n 0, 1), (132, .getfield 37, 3), (135, .iconst 2, 1), (136, .iload 6, 2), (138, .invokevirtual 163, 3), (141, .aload_n 0, 1), (142, .getfield 37, 3), (145, .iconst 3, 1), (146, .aload_n 0, 1), (147, .getfield 21, 3), (150, .getfield 167, 3), (153, .invokevirtual 163, 3), (156, .aload_n 0, 1), (157, .getfield 37, 3), (160, .iconst 4, 1), (161, .iload 7, 2), (163, .invokevirtual 163, 3), (166, .iload_n 2, 1), (167, .ifCond .le 12, 3), (170, .aload_n 0, 1), (171, .getfield 37, 3), (174, .iconst 5, 1), (175, .iload_n 2, 1), (176, .invokevirtual 163, 3), (179, .aload_n 0, 1), (180, .getfield 37, 3), (183, .bipush 6, 2), (185, .iload 5, 2), (187, .invokevirtual 163, 3), (190, .iconst 0, 1), (191, .ireturn, 1)]
theorem kx_T_signWith : kt_tab kb_T_signWith kw_T_signWith = true := by decide +kernel
abbrev kb_T_forgetNext : ByteArray := prog_7_method_16_code
def ky_T_forgetNext : MethodName := ⟨RX5, "forgetNext", "()V"⟩
def kw_T_forgetNext : List (Nat × Instr × Nat) := [(0, .aload_n 0, 1), (1, .iconst 0, 1), (2, .putfield 202, 3), (5, .aload_n 0, 1), (6, .iconst 0, 1), (7, .putfield 190, 3), (10, .return_, 1)]
theorem kx_T_forgetNext : kt_tab kb_T_forgetNext kw_T_forgetNext = true := by decide +kernel
abbrev kb_T_findCredentials : ByteArray := prog_7_method_17_code
def ky_T_findCredentials : MethodName := ⟨RX5, "findCredentials", "(I)I"⟩
def kw_T_findCredentials : List (Nat × Instr × Nat) := [(0, .aload_n 0, 1), (1, .getfield 28, 3), (4, .iconst 3, 1), (5, .invokevirtual 170, 3), (8, .istore_n 2, 1), (9, .iconst 0, 1), (10, .istore_n 3, 1), (11, .aload_n 0, 1), (12, .getfield 12, 3), (15, .ldc 205, 2), (17, .invokevirtual 206, 3), (20, .istore 4, 2), (22, .iconst 0, 1), (23, .istore 5, 2), (25, .iload 5, 2), (27, .bipush 7, 2), (29, .if_icmp .ge 77, 3), (32, .iload 4, 2), (34, .iconst (-1), 1), (35, .if_icmp .eq 71, 3), (38, .iload_n 3, 1), (39, .bipush 6, 2), (41, .if_icmp .ge 65, 3), (44, .iload 4, 2), (46, .bipush 16, 2), (48, .irem, 1), (49, .istore 6, 2), (51, .aload_n 0, 1), (52, .iload 6, 2), (54, .iload_n 1, 1), (55, .invokevirtual 171, 3), (58, .ifCond .eq 31, 3), (61, .iload_n 2, 1), (62, .ifCond .eq 16, 3), (65, .aload_n 0, 1), (66, .getfield 28, 3), (69, .iconst 3, 1), (70, .iload 6, 2), (72, .invokevirtual 175, 3), (75, .ifCond .eq 14, 3), (78, .aload_n 0, 1), (79, .getfield 41, 3), (82, .iload_n 3, 1), (83, .iload 6, 2), (85, .iastore, 1), (86, .iinc 3 1, 3), (89, .aload_n 0, 1), (90, .getfield 12, 3), (93, .iload 4, 2), (95, .invokevirtual 206, 3), (98, .istore 4, 2), (100, .iinc 5 1, 3), (103, .goto (-78), 3), (106, .iload_n 3, 1), (107, .ireturn, 1)]
theorem kx_T_findCredentials : kt_tab kb_T_findCredentials kw_T_findCredentials = true := by decide +kernel
abbrev kb_T_tellInfo : ByteArray := prog_7_method_18_code
def ky_T_tellInfo : MethodName := ⟨RX5, "tellInfo", "()I"⟩
def kw_T_tellInfo : List (Nat × Instr × Nat) := [(0, .aload_n 0, 1), (1, .getfield 12, 3), (4, .iconst 0, 1), (5, .invokevirtual 126, 3), (8, .istore_n 1, 1), (9, .aload_n 0, 1), (10, .getfield 12, 3), (13, .invokevirtual 209, 3), (16, .istore_n 2, 1), (17, .aload_n 0, 1), (18, .iconst 3, 1), (19, .invokevirtual 87, 3), (22, .aload_n 0, 1), (23, .getfield 37, 3), (26, .iconst 1, 1), (27, .bipush 7, 2), (29, .iload_n 2, 1), (30, .isub, 1), (31, .iload_n 1, 1), (32, .ifCond .eq 7, 3), (35, .iconst 1, 1), (36, .goto 4, 3), (39, .iconst 0, 1), (40, .isub, 1), (41, .invokevirtual 163, 3), (44, .aload_n 0, 1), (45, .getfield 37, 3), (48, .iconst 0, 1), (49, .iconst 2, 1), (50, .invokevirtual 212, 3), (53, .aload_n 0, 1), (54, .getfield 37, 3), (57, .bipush 7, 2), (59, .iload_n 1, 1), (60, .ifCond .eq 8, 3), (63, .bipush 21, 2), (65, .goto 5, 3), (68, .bipush 20, 2), (70, .invokevirtual 212, 3), (73, .aload_n 0, 1), (74, .getfield 37, 3), (77, .iconst 3, 1), (78, .iload_n 2, 1), (79, .invokevirtual 163, 3), (82, .iconst 0, 1), (83, .ireturn, 1)]
theorem kx_T_tellInfo : kt_tab kb_T_tellInfo kw_T_tellInfo = true := by decide +kernel
abbrev kb_T_doPin : ByteArray := prog_7_method_19_code
def ky_T_doPin : MethodName := ⟨RX5, "doPin", "()I"⟩
def kw_T_doPin : List (Nat × Instr × Nat) := [(0, .aload_n 0, 1), (1, .getfield 28, 3), (4, .invokevirtual 215, 3), (7, .istore_n 1, 1), (8, .iload_n 1, 1), (9, .ifCond .eq 5, 3), (12, .iload_n 1, 1), (13, .ireturn, 1), (14, .aload_n 0, 1), (15, .getfield 28, 3), (18, .iconst 1, 1), (19, .invokevirtual 142, 3), (22, .istore_n 2, 1), (23, .iload_n 2, 1), (24, .tableswitch 61 1 5 #[36, 61, 41, 46, 46], 36), (60, .aload_n 0, 1), (61, .invokevirtual 218, 3), (64, .ireturn, 1), (65, .aload_n 0, 1), (66, .invokevirtual 221, 3), (69, .ireturn, 1), (70, .aload_n 0, 1), (71, .iload_n 2, 1), (72, .iconst 4, 1), (73, .if_icmp .ne 7, 3), (76, .iconst 1, 1), (77, .goto 4, 3), (80, .iconst 0, 1), (81, .invokevirtual 224, 3), (84, .ireturn, 1), (85, .iconst 5, 1), (86, .ireturn, 1)]
theorem kx_T_doPin : kt_tab kb_T_doPin kw_T_doPin = true := by decide +kernel
abbrev kb_T_tellTries : ByteArray := prog_7_method_20_code
def ky_T_tellTries : MethodName := ⟨RX5, "tellTries", "()I"⟩
def kw_T_tellTries : List (Nat × Instr × Nat) := [(0, .aload_n 0, 1), (1, .getfield 12, 3), (4, .iconst 0, 1), (5, .invokevirtual 178, 3), (8, .istore_n 1, 1), (9, .aload_n 0, 1), (10, .iconst 1, 1), (11, .invokevirtual 87, 3), (14, .aload_n 0, 1), (15, .getfield 37, 3), (18, .iconst 1, 1), (19, .iload_n 1, 1), (20, .ifCond .ge 8, 3), (23, .bipush 8, 2), (25, .goto 12, 3), (28, .aload_n 0, 1), (29, .getfield 12, 3), (32, .iload_n 1, 1), (33, .iconst 2, 1), (34, .invokevirtual 181, 3), (37, .invokevirtual 163, 3), (40, .iconst 0, 1), (41, .ireturn, 1)]
theorem kx_T_tellTries : kt_tab kb_T_tellTries kw_T_tellTries = true := by decide +kernel
abbrev kb_T_setPin : ByteArray := prog_7_method_21_code
def ky_T_setPin : MethodName := ⟨RX5, "setPin", "()I"⟩
def kw_T_setPin : List (Nat × Instr × Nat) := [(0, .aload_n 0, 1), (1, .getfield 12, 3), (4, .iconst 0, 1), (5, .invokevirtual 126, 3), (8, .ifCond .eq 5, 3), (11, .iconst 5, 1), (12, .ireturn, 1), (13, .aload_n 0, 1), (14, .getfield 28, 3), (17, .iconst 3, 1), (18, .iconst 4, 1), (19, .bipush 8, 2), (21, .invokevirtual 122, 3), (24, .ifCond .ne 6, 3), (27, .bipush 15, 2), (29, .ireturn, 1), (30, .aload_n 0, 1), (31, .getfield 12, 3), (34, .iconst 0, 1), (35, .invokevirtual 149, 3), (38, .ifCond .ne 6, 3), (41, .bipush 6, 2), (43, .ireturn, 1), (44, .aload_n 0, 1), (45, .getfield 12, 3), (48, .iconst 0, 1), (49, .aload_n 0, 1), (50, .getfield 28, 3), (53, .iconst 3, 1), (54, .invokevirtual 132, 3), (57, .bipush 8, 2), (59, .iconst 0, 1), (60, .iconst 0, 1), (61, .invokevirtual 155, 3), (64, .ifCond .ne 5, 3), (67, .iconst (-1), 1), (68, .ireturn, 1), (69, .iconst 0, 1), (70, .ireturn, 1)]
theorem kx_T_setPin : kt_tab kb_T_setPin kw_T_setPin = true := by decide +kernel
abbrev kb_T_provePin : ByteArray := prog_7_method_22_code
def ky_T_provePin : MethodName := ⟨RX5, "provePin", "(Z)I"⟩
def kw_T_provePin : List (Nat × Instr × Nat) := [(0, .aload_n 0, 1), (1, .getfield 12, 3), (4, .iconst 0, 1), (5, .invokevirtual 178, 3), (8, .istore_n 2, 1), (9, .iload_n 2, 1), (10, .ifCond .ge 6, 3), (13, .bipush 13, 2), (15, .ireturn, 1), (16, .aload_n 0, 1), (17, .getfield 12, 3), (20, .iload_n 2, 1), (21, .iconst 1, 1), (22, .invokevirtual 181, 3), (25, .istore_n 3, 1), (26, .aload_n 0, 1), (27, .getfield 12, 3), (30, .iload_n 2, 1), (31, .iconst 2, 1), (32, .invokevirtual 181, 3), (35, .istore 4, 2), (37, .iload 4, 2), (39, .ifCond .ne 6, 3), (42, .bipush 11, 2), (44, .ireturn, 1), (45, .aload_n 0, 1), (46, .getfield 55, 3), (49, .iconst 3, 1), (50, .if_icmp .ne 6, 3), (53, .bipush 12, 2), (55, .ireturn, 1), (56, .iload_n 1, 1), (57, .ifCond .eq 20, 3), (60, .aload_n 0, 1), (61, .getfield 28, 3), (64, .iconst 3, 1), (65, .iconst 4, 1), (66, .bipush 8, 2), (68, .invokevirtual 122, 3), (71, .ifCond .ne 6, 3), (74, .bipush 15, 2), (76, .ireturn, 1), (77, .aload_n 0, 1), (78, .getfield 12, 3), (81, .iconst 0, 1), (82, .iload_n 3, 1), (83, .iload 4, 2), (85, .iconst 1, 1), (86, .isub, 1), (87, .iconst 0, 1), (88, .iconst 0, 1), (89, .invokevirtual 155, 3), (92, .ifCond .ne 5, 3), (95, .iconst (-1), 1), (96, .ireturn, 1), (97, .aload_n 0, 1), (98, .getfield 28, 3), (101, .iconst 2, 1), (102, .invokevirtual 132, 3), (105, .iload_n 3, 1), (106, .if_icmp .eq 12, 3), (109, .aload_n 0, 1), (110, .iload 4, 2), (112, .iconst 1, 1), (113, .isub, 1), (114, .invokevirtual 228, 3), (117, .ireturn, 1), (118, .aload_n 0, 1), (119, .iconst 0, 1), (120, .putfield 55, 3), (123, .iload_n 1, 1), (124, .ifCond .eq 14, 3), (127, .aload_n 0, 1), (128, .getfield 28, 3), (131, .iconst 3, 1), (132, .invokevirtual 132, 3), (135, .goto 4, 3), (138, .iload_n 3, 1), (139, .istore 5, 2), (141, .aload_n 0, 1), (142, .getfield 12, 3), (145, .iconst 0, 1), (146, .iload 5, 2), (148, .bipush 8, 2), (150, .iconst 0, 1), (151, .iconst 0, 1), (152, .invokevirtual 155, 3), (155, .ifCond .ne 5, 3), (158, .iconst (-1), 1), (159, .ireturn, 1), (160, .iload_n 1, 1), (161, .ifCond .eq 10, 3), (164, .aload_n 0, 1), (165, .iconst 0, 1), (166, .putfield 59, 3), (169, .iconst 0, 1), (170, .ireturn, 1), (171, .aload_n 0, 1), (172, .dup, 1), (173, .getfield 231, 3), (176, .iconst 1, 1), (177, .iadd, 1), (178, .putfield 231, 3), (181, .aload_n 0, 1), (182, .aload_n 0, 1), (183, .getfield 231, 3), (186, .putfield 59, 3), (189, .aload_n 0, 1), (190, .iconst 1, 1), (191, .invokevirtual 87, 3), (194, .aload_n 0, 1), (195, .getfield 37, 3), (198, .iconst 1, 1), (199, .aload_n 0, 1), (200, .getfield 59, 3), (203, .invokevirtual 163, 3), (206, .iconst 0, 1), (207, .ireturn, 1)]
theorem kx_T_provePin : kt_tab kb_T_provePin kw_T_provePin = true := by decide +kernel
abbrev kb_T_countWrong : ByteArray := prog_7_method_23_code
def ky_T_countWrong : MethodName := ⟨RX5, "countWrong", "(I)I"⟩
def kw_T_countWrong : List (Nat × Instr × Nat) := [(0, .aload_n 0, 1), (1, .dup, 1), (2, .getfield 55, 3), (5, .iconst 1, 1), (6, .iadd, 1), (7, .putfield 55, 3), (10, .aload_n 0, 1), (11, .iconst 0, 1), (12, .putfield 59, 3), (15, .iload_n 1, 1), (16, .ifCond .ne 6, 3), (19, .bipush 11, 2), (21, .ireturn, 1), (22, .aload_n 0, 1), (23, .getfield 55, 3), (26, .iconst 3, 1), (27, .if_icmp .ne 8, 3), (30, .bipush 12, 2), (32, .goto 5, 3), (35, .bipush 10, 2), (37, .ireturn, 1)]
theorem kx_T_countWrong : kt_tab kb_T_countWrong kw_T_countWrong = true := by decide +kernel
abbrev kb_T_reset : ByteArray := prog_7_method_24_code
def ky_T_reset : MethodName := ⟨RX5, "reset", "()I"⟩
def kw_T_reset : List (Nat × Instr × Nat) := [(0, .aload_n 0, 1), (1, .invokevirtual 139, 3), (4, .ifCond .ne 6, 3), (7, .bipush 7, 2), (9, .ireturn, 1), (10, .aload_n 0, 1), (11, .getfield 12, 3), (14, .invokevirtual 234, 3), (17, .ifCond .ne 5, 3), (20, .iconst (-1), 1), (21, .ireturn, 1), (22, .aload_n 0, 1), (23, .iconst 0, 1), (24, .putfield 59, 3), (27, .aload_n 0, 1), (28, .iconst 0, 1), (29, .putfield 55, 3), (32, .iconst 0, 1), (33, .ireturn, 1)]
theorem kx_T_reset : kt_tab kb_T_reset kw_T_reset = true := by decide +kernel
abbrev kb_T_beginAnswer : ByteArray := prog_7_method_25_code
def ky_T_beginAnswer : MethodName := ⟨RX5, "beginAnswer", "(I)V"⟩
def kw_T_beginAnswer : List (Nat × Instr × Nat) := [(0, .aload_n 0, 1), (1, .getfield 37, 3), (4, .iconst 0, 1), (5, .invokevirtual 81, 3), (8, .aload_n 0, 1), (9, .getfield 37, 3), (12, .iconst 5, 1), (13, .iload_n 1, 1), (14, .invokevirtual 212, 3), (17, .return_, 1)]
theorem kx_T_beginAnswer : kt_tab kb_T_beginAnswer kw_T_beginAnswer = true := by decide +kernel
abbrev kb_K_press : ByteArray := prog_1_method_2_code
def ky_K_press : MethodName := ⟨RX6, "press", "()Z"⟩
def kw_K_press : List (Nat × Instr × Nat) := [(0, .aload_n 0, 1), (1, .getfield 10, 3), (4, .getfield 25, 3), (7, .ifCond .ne 5, 3), (10, .iconst 0, 1), (11, .ireturn, 1), (12, .aload_n 0, 1), (13, .getfield 10, 3), (16, .iconst 1, 1), (17, .putfield 29, 3), (20, .iconst 1, 1), (21, .ireturn, 1)]
theorem kx_K_press : kt_tab kb_K_press kw_K_press = true := by decide +kernel
abbrev kb_K_waiting : ByteArray := prog_1_method_5_code
def ky_K_waiting : MethodName := ⟨RX6, "waiting", "()I"⟩
def kw_K_waiting : List (Nat × Instr × Nat) := [(0, .aload_n 0, 1), (1, .getfield 10, 3), (4, .getfield 66, 3), (7, .invokevirtual 69, 3), (10, .ireturn, 1)]
theorem kx_K_waiting : kt_tab kb_K_waiting kw_K_waiting = true := by decide +kernel
abbrev kb_K_power : ByteArray := prog_1_method_7_code
def ky_K_power : MethodName := ⟨RX6, "power", "(Z)Z"⟩
def kw_K_power : List (Nat × Instr × Nat) := [(0, .aload_n 0, 1), (1, .getfield 10, 3), (4, .getfield 25, 3), (7, .iload_n 1, 1), (8, .if_icmp .ne 5, 3), (11, .iconst 0, 1), (12, .ireturn, 1), (13, .iload_n 1, 1), (14, .ifCond .eq 13, 3), (17, .aload_n 0, 1), (18, .getfield 10, 3), (21, .invokevirtual 80, 3), (24, .goto 10, 3), (27, .aload_n 0, 1), (28, .getfield 10, 3), (31, .invokevirtual 83, 3), (34, .iconst 1, 1), (35, .ireturn, 1)]
theorem kx_K_power : kt_tab kb_K_power kw_K_power = true := by decide +kernel
abbrev kb_K_cut : ByteArray := prog_1_method_8_code
def ky_K_cut : MethodName := ⟨RX6, "cut", "(I)Z"⟩
def kw_K_cut : List (Nat × Instr × Nat) := [(0, .iload_n 1, 1), (1, .ifCond .lt 13, 3), (4, .aload_n 0, 1), (5, .getfield 10, 3), (8, .getfield 25, 3), (11, .ifCond .ne 5, 3), (14, .iconst 0, 1), (15, .ireturn, 1), (16, .aload_n 0, 1), (17, .getfield 10, 3), (20, .getfield 86, 3), (23, .iload_n 1, 1), (24, .putfield 90, 3), (27, .iconst 1, 1), (28, .ireturn, 1)]
theorem kx_K_cut : kt_tab kb_K_cut kw_K_cut = true := by decide +kernel
abbrev kb_K_party : ByteArray := prog_1_method_13_code
def ky_K_party : MethodName := ⟨RX6, "party", "(II)I"⟩
def kw_K_party : List (Nat × Instr × Nat) := [(0, .aload_n 0, 1), (1, .iload_n 1, 1), (2, .invokevirtual 96, 3), (5, .astore_n 3, 1), (6, .aload_n 3, 1), (7, .ifnonnull 7, 3), (10, .iconst (-1), 1), (11, .goto 8, 3), (14, .aload_n 3, 1), (15, .iload_n 2, 1), (16, .invokevirtual 158, 3), (19, .ireturn, 1)]
theorem kx_K_party : kt_tab kb_K_party kw_K_party = true := by decide +kernel
abbrev kb_K_cell : ByteArray := prog_1_method_14_code
def ky_K_cell : MethodName := ⟨RX6, "cell", "(II)I"⟩
def kw_K_cell : List (Nat × Instr × Nat) := [(0, .aload_n 0, 1), (1, .getfield 10, 3), (4, .getfield 86, 3), (7, .iload_n 1, 1), (8, .iload_n 2, 1), (9, .invokevirtual 162, 3), (12, .ireturn, 1)]
theorem kx_K_cell : kt_tab kb_K_cell kw_K_cell = true := by decide +kernel
abbrev kb_K_look : ByteArray := prog_1_method_15_code
def ky_K_look : MethodName := ⟨RX6, "look", "(I)I"⟩
def kw_K_look : List (Nat × Instr × Nat) := [(0, .iload_n 1, 1), (1, .tableswitch 159 0 8 #[51, 67, 83, 91, 99, 115, 126, 140, 148], 51), (52, .aload_n 0, 1), (53, .getfield 10, 3), (56, .getfield 25, 3), (59, .ifCond .eq 7, 3), (62, .iconst 1, 1), (63, .goto 4, 3), (66, .iconst 0, 1), (67, .ireturn, 1), (68, .aload_n 0, 1), (69, .getfield 10, 3), (72, .getfield 29, 3), (75, .ifCond .eq 7, 3), (78, .iconst 1, 1), (79, .goto 4, 3), (82, .iconst 0, 1), (83, .ireturn, 1), (84, .aload_n 0, 1), (85, .getfield 10, 3), (88, .getfield 165, 3), (91, .ireturn, 1), (92, .aload_n 0, 1), (93, .getfield 10, 3), (96, .getfield 168, 3), (99, .ireturn, 1), (100, .aload_n 0, 1), (101, .getfield 10, 3), (104, .getfield 171, 3), (107, .aload_n 0, 1), (108, .getfield 10, 3), (111, .getfield 174, 3), (114, .isub, 1), (115, .ireturn, 1), (116, .aload_n 0, 1), (117, .getfield 10, 3), (120, .getfield 86, 3), (123, .getfield 177, 3), (126, .ireturn, 1), (127, .aload_n 0, 1), (128, .getfield 10, 3), (131, .getfield 39, 3), (134, .getfield 43, 3), (137, .invokevirtual 69, 3), (140, .ireturn, 1), (141, .aload_n 0, 1), (142, .getfield 10, 3), (145, .getfield 180, 3), (148, .ireturn, 1), (149, .aload_n 0, 1), (150, .getfield 10, 3), (153, .getfield 129, 3), (156, .getfield 133, 3), (159, .ireturn, 1), (160, .iconst (-1), 1), (161, .ireturn, 1)]
theorem kx_K_look : kt_tab kb_K_look kw_K_look = true := by decide +kernel
abbrev kb_K_partyAt : ByteArray := prog_1_method_16_code
def ky_K_partyAt : MethodName := ⟨RX6, "partyAt", "(I)LKeyToken$RelyingParty;"⟩
def kw_K_partyAt : List (Nat × Instr × Nat) := [(0, .iload_n 1, 1), (1, .ifCond .lt 17, 3), (4, .iload_n 1, 1), (5, .iconst 4, 1), (6, .if_icmp .ge 12, 3), (9, .aload_n 0, 1), (10, .getfield 18, 3), (13, .iload_n 1, 1), (14, .aaload, 1), (15, .goto 4, 3), (18, .aconst_null, 1), (19, .areturn, 1)]
theorem kx_K_partyAt : kt_tab kb_K_partyAt kw_K_partyAt = true := by decide +kernel
abbrev kb_K_writeMake : ByteArray := prog_1_method_17_code
def ky_K_writeMake : MethodName := ⟨RX6, "writeMake", "(LKeyToken$Bytes;IIII)V"⟩
def kw_K_writeMake : List (Nat × Instr × Nat) := [(0, .aload_n 0, 1), (1, .invokevirtual 126, 3), (4, .aload_n 0, 1), (5, .iconst 1, 1), (6, .invokevirtual 60, 3), (9, .aload_n 0, 1), (10, .iconst 5, 1), (11, .iload 4, 2), (13, .ifCond .le 7, 3), (16, .iconst 4, 1), (17, .goto 4, 3), (20, .iconst 3, 1), (21, .invokevirtual 183, 3), (24, .aload_n 0, 1), (25, .iconst 1, 1), (26, .iload_n 1, 1), (27, .invokevirtual 187, 3), (30, .aload_n 0, 1), (31, .iconst 2, 1), (32, .iload_n 2, 1), (33, .invokestatic 190, 3), (36, .aload_n 0, 1), (37, .iconst 3, 1), (38, .iload_n 3, 1), (39, .invokevirtual 187, 3), (42, .iload 4, 2), (44, .ifCond .le 11, 3), (47, .aload_n 0, 1), (48, .bipush 8, 2), (50, .iload 4, 2), (52, .invokevirtual 187, 3), (55, .return_, 1)]
theorem kx_K_writeMake : kt_tab kb_K_writeMake kw_K_writeMake = true := by decide +kernel
abbrev kb_K_writeAssert : ByteArray := prog_1_method_18_code
def ky_K_writeAssert : MethodName := ⟨RX6, "writeAssert", "(LKeyToken$Bytes;III)V"⟩
def kw_K_writeAssert : List (Nat × Instr × Nat) := [(0, .aload_n 0, 1), (1, .invokevirtual 126, 3), (4, .aload_n 0, 1), (5, .iconst 2, 1), (6, .invokevirtual 60, 3), (9, .aload_n 0, 1), (10, .iconst 5, 1), (11, .iload_n 3, 1), (12, .ifCond .le 7, 3), (15, .iconst 3, 1), (16, .goto 4, 3), (19, .iconst 2, 1), (20, .invokevirtual 183, 3), (23, .aload_n 0, 1), (24, .iconst 1, 1), (25, .iload_n 2, 1), (26, .invokestatic 190, 3), (29, .aload_n 0, 1), (30, .iconst 2, 1), (31, .iload_n 1, 1), (32, .invokevirtual 187, 3), (35, .iload_n 3, 1), (36, .ifCond .le 10, 3), (39, .aload_n 0, 1), (40, .bipush 6, 2), (42, .iload_n 3, 1), (43, .invokevirtual 187, 3), (46, .return_, 1)]
theorem kx_K_writeAssert : kt_tab kb_K_writeAssert kw_K_writeAssert = true := by decide +kernel
abbrev kb_K_writeOrigin : ByteArray := prog_1_method_19_code
def ky_K_writeOrigin : MethodName := ⟨RX6, "writeOrigin", "(LKeyToken$Bytes;II)V"⟩
def kw_K_writeOrigin : List (Nat × Instr × Nat) := [(0, .aload_n 0, 1), (1, .iconst 0, 1), (2, .iload_n 1, 1), (3, .invokevirtual 183, 3), (6, .aload_n 0, 1), (7, .iconst 3, 1), (8, .iconst 1, 1), (9, .invokevirtual 183, 3), (12, .aload_n 0, 1), (13, .bipush 97, 2), (15, .iload_n 2, 1), (16, .iadd, 1), (17, .invokevirtual 60, 3), (20, .return_, 1)]
theorem kx_K_writeOrigin : kt_tab kb_K_writeOrigin kw_K_writeOrigin = true := by decide +kernel
abbrev kb_K_judge : ByteArray := prog_1_method_20_code
def ky_K_judge : MethodName := ⟨RX6, "judge", "(LKeyToken$RelyingParty;III)I"⟩
def kw_K_judge : List (Nat × Instr × Nat) := [(0, .iload_n 3, 1), (1, .ifCond .eq 12, 3), (4, .iload 4, 2), (6, .ifCond .eq 7, 3), (9, .iconst 1, 1), (10, .goto 4, 3), (13, .iconst 0, 1), (14, .istore 5, 2), (16, .aload_n 1, 1), (17, .aload_n 0, 1), (18, .iload_n 2, 1), (19, .iconst 1, 1), (20, .iload_n 3, 1), (21, .iload 4, 2), (23, .invokevirtual 194, 3), (26, .aload_n 0, 1), (27, .iload_n 2, 1), (28, .iconst 2, 1), (29, .iload_n 3, 1), (30, .iload 4, 2), (32, .invokevirtual 194, 3), (35, .aload_n 0, 1), (36, .iload_n 2, 1), (37, .iconst 3, 1), (38, .iload_n 3, 1), (39, .iload 4, 2), (41, .invokevirtual 194, 3), (44, .aload_n 0, 1), (45, .iload_n 2, 1), (46, .iconst 4, 1), (47, .iload_n 3, 1), (48, .iload 4, 2), (50, .invokevirtual 194, 3), (53, .aload_n 0, 1), (54, .iload_n 2, 1), (55, .iconst 5, 1), (56, .iload_n 3, 1), (57, .iload 4, 2), (59, .invokevirtual 194, 3), (62, .iload 5, 2), (64, .invokevirtual 198, 3), (67, .ireturn, 1)]
theorem kx_K_judge : kt_tab kb_K_judge kw_K_judge = true := by decide +kernel
abbrev kb_K_alteredField : ByteArray := prog_1_method_21_code
def ky_K_alteredField : MethodName := ⟨RX6, "alteredField", "(IIII)I"⟩
def kw_K_alteredField : List (Nat × Instr × Nat) := [(0, .aload_n 0, 1), (1, .getfield 10, 3), (4, .getfield 129, 3), (7, .iload_n 1, 1), (8, .iload_n 2, 1), (9, .invokevirtual 154, 3), (12, .istore 5, 2), (14, .iload_n 2, 1), (15, .iload_n 3, 1), (16, .if_icmp .ne 11, 3), (19, .iload 5, 2), (21, .iload 4, 2), (23, .iadd, 1), (24, .goto 5, 3), (27, .iload 5, 2), (29, .ireturn, 1)]
theorem kx_K_alteredField : kt_tab kb_K_alteredField kw_K_alteredField = true := by decide +kernel
abbrev kb_M_thrown : ByteArray := prog_9_method_2_code
def ky_M_thrown : MethodName := ⟨RX7, "thrown", "()I"⟩
def kw_M_thrown : List (Nat × Instr × Nat) := [(0, .aload_n 0, 1), (1, .getfield 73, 3), (4, .ireturn, 1)]
theorem kx_M_thrown : kt_tab kb_M_thrown kw_M_thrown = true := by decide +kernel
abbrev kb_M_erased : ByteArray := prog_9_method_3_code
def ky_M_erased : MethodName := ⟨RX7, "erased", "(I)Z"⟩
def kw_M_erased : List (Nat × Instr × Nat) := [(0, .iconst 1, 1), (1, .istore_n 2, 1), (2, .iconst 0, 1), (3, .istore_n 3, 1), (4, .iload_n 3, 1), (5, .bipush 6, 2), (7, .if_icmp .ge 34, 3), (10, .iload_n 2, 1), (11, .ifCond .eq 22, 3), (14, .aload_n 0, 1), (15, .getfield 7, 3), (18, .bipush 6, 2), (20, .iload_n 1, 1), (21, .imul, 1), (22, .iload_n 3, 1), (23, .iadd, 1), (24, .iaload, 1), (25, .iconst (-1), 1), (26, .if_icmp .ne 7, 3), (29, .iconst 1, 1), (30, .goto 4, 3), (33, .iconst 0, 1), (34, .istore_n 2, 1), (35, .iinc 3 1, 3), (38, .goto (-34), 3), (41, .iload_n 2, 1), (42, .ireturn, 1)]
theorem kx_M_erased : kt_tab kb_M_erased kw_M_erased = true := by decide +kernel
abbrev kb_M_erasedPages : ByteArray := prog_9_method_4_code
def ky_M_erasedPages : MethodName := ⟨RX7, "erasedPages", "()I"⟩
def kw_M_erasedPages : List (Nat × Instr × Nat) := [(0, .iconst 0, 1), (1, .istore_n 1, 1), (2, .iconst 0, 1), (3, .istore_n 2, 1), (4, .iload_n 2, 1), (5, .bipush 7, 2), (7, .if_icmp .ge 25, 3), (10, .aload_n 0, 1), (11, .iload_n 2, 1), (12, .invokevirtual 76, 3), (15, .ifCond .eq 9, 3), (18, .iload_n 1, 1), (19, .iconst 1, 1), (20, .iadd, 1), (21, .goto 4, 3), (24, .iload_n 1, 1), (25, .istore_n 1, 1), (26, .iinc 2 1, 3), (29, .goto (-25), 3), (32, .iload_n 1, 1), (33, .ireturn, 1)]
theorem kx_M_erasedPages : kt_tab kb_M_erasedPages kw_M_erasedPages = true := by decide +kernel
abbrev kb_M_seal : ByteArray := prog_9_method_5_code
def ky_M_seal : MethodName := ⟨RX7, "seal", "(I)I"⟩
def kw_M_seal : List (Nat × Instr × Nat) := [(0, .bipush 7, 2), (2, .istore_n 2, 1), (3, .iconst 0, 1), (4, .istore_n 3, 1), (5, .iload_n 3, 1), (6, .iconst 5, 1), (7, .if_icmp .ge 28, 3), (10, .iload_n 2, 1), (11, .aload_n 0, 1), (12, .getfield 7, 3), (15, .bipush 6, 2), (17, .iload_n 1, 1), (18, .imul, 1), (19, .iload_n 3, 1), (20, .iadd, 1), (21, .iaload, 1), (22, .ixor, 1), (23, .ldc 80, 2), (25, .imul, 1), (26, .iconst 1, 1), (27, .iadd, 1), (28, .istore_n 2, 1), (29, .iinc 3 1, 3), (32, .goto (-27), 3), (35, .iload_n 2, 1), (36, .ldc 81, 2), (38, .iand, 1), (39, .ireturn, 1)]
theorem kx_M_seal : kt_tab kb_M_seal kw_M_seal = true := by decide +kernel
abbrev kb_M_nameOf : ByteArray := prog_9_method_6_code
def ky_M_nameOf : MethodName := ⟨RX7, "nameOf", "(I)I"⟩
def kw_M_nameOf : List (Nat × Instr × Nat) := [(0, .aload_n 0, 1), (1, .getfield 7, 3), (4, .bipush 6, 2), (6, .iload_n 1, 1), (7, .imul, 1), (8, .iaload, 1), (9, .bipush 15, 2), (11, .iand, 1), (12, .ireturn, 1)]
theorem kx_M_nameOf : kt_tab kb_M_nameOf kw_M_nameOf = true := by decide +kernel
abbrev kb_M_serialOf : ByteArray := prog_9_method_7_code
def ky_M_serialOf : MethodName := ⟨RX7, "serialOf", "(I)I"⟩
def kw_M_serialOf : List (Nat × Instr × Nat) := [(0, .aload_n 0, 1), (1, .getfield 7, 3), (4, .bipush 6, 2), (6, .iload_n 1, 1), (7, .imul, 1), (8, .iaload, 1), (9, .iconst 4, 1), (10, .ishr, 1), (11, .ireturn, 1)]
theorem kx_M_serialOf : kt_tab kb_M_serialOf kw_M_serialOf = true := by decide +kernel
abbrev kb_M_page : ByteArray := prog_9_method_8_code
def ky_M_page : MethodName := ⟨RX7, "page", "(I)I"⟩
def kw_M_page : List (Nat × Instr × Nat) := [(0, .iconst 0, 1), (1, .istore_n 2, 1), (2, .iload_n 2, 1), (3, .bipush 7, 2), (5, .if_icmp .ge 28, 3), (8, .aload_n 0, 1), (9, .iload_n 2, 1), (10, .invokevirtual 76, 3), (13, .ifCond .ne 14, 3), (16, .aload_n 0, 1), (17, .iload_n 2, 1), (18, .invokevirtual 82, 3), (21, .iload_n 1, 1), (22, .if_icmp .ne 5, 3), (25, .iload_n 2, 1), (26, .ireturn, 1), (27, .iinc 2 1, 3), (30, .goto (-28), 3), (33, .iconst (-1), 1), (34, .ireturn, 1)]
theorem kx_M_page : kt_tab kb_M_page kw_M_page = true := by decide +kernel
abbrev kb_M_data : ByteArray := prog_9_method_9_code
def ky_M_data : MethodName := ⟨RX7, "data", "(II)I"⟩
def kw_M_data : List (Nat × Instr × Nat) := [(0, .aload_n 0, 1), (1, .getfield 7, 3), (4, .bipush 6, 2), (6, .aload_n 0, 1), (7, .iload_n 1, 1), (8, .invokevirtual 86, 3), (11, .imul, 1), (12, .iload_n 2, 1), (13, .iadd, 1), (14, .iaload, 1), (15, .ireturn, 1)]
theorem kx_M_data : kt_tab kb_M_data kw_M_data = true := by decide +kernel
abbrev kb_M_erase : ByteArray := prog_9_method_10_code
def ky_M_erase : MethodName := ⟨RX7, "erase", "(I)V"⟩
def kw_M_erase : List (Nat × Instr × Nat) := [(0, .iconst 0, 1), (1, .istore_n 2, 1), (2, .iload_n 2, 1), (3, .bipush 6, 2), (5, .if_icmp .ge 21, 3), (8, .aload_n 0, 1), (9, .getfield 7, 3), (12, .bipush 6, 2), (14, .iload_n 1, 1), (15, .imul, 1), (16, .iload_n 2, 1), (17, .iadd, 1), (18, .iconst (-1), 1), (19, .iastore, 1), (20, .iinc 2 1, 3), (23, .goto (-21), 3), (26, .return_, 1)]
theorem kx_M_erase : kt_tab kb_M_erase kw_M_erase = true := by decide +kernel
abbrev kb_M_mayWrite : ByteArray := prog_9_method_11_code
def ky_M_mayWrite : MethodName := ⟨RX7, "mayWrite", "()Z"⟩
def kw_M_mayWrite : List (Nat × Instr × Nat) := [(0, .aload_n 0, 1), (1, .getfield 89, 3), (4, .aload_n 0, 1), (5, .getfield 13, 3), (8, .if_icmp .ne 9, 3), (11, .aload_n 0, 1), (12, .invokevirtual 92, 3), (15, .iconst 0, 1), (16, .ireturn, 1), (17, .aload_n 0, 1), (18, .dup, 1), (19, .getfield 89, 3), (22, .iconst 1, 1), (23, .iadd, 1), (24, .putfield 89, 3), (27, .aload_n 0, 1), (28, .dup, 1), (29, .getfield 95, 3), (32, .iconst 1, 1), (33, .iadd, 1), (34, .putfield 95, 3), (37, .iconst 1, 1), (38, .ireturn, 1)]
theorem kx_M_mayWrite : kt_tab kb_M_mayWrite kw_M_mayWrite = true := by decide +kernel
abbrev kb_M_canPut : ByteArray := prog_9_method_12_code
def ky_M_canPut : MethodName := ⟨RX7, "canPut", "(I)Z"⟩
def kw_M_canPut : List (Nat × Instr × Nat) := [(0, .aload_n 0, 1), (1, .iload_n 1, 1), (2, .invokevirtual 86, 3), (5, .ifCond .ge 11, 3), (8, .aload_n 0, 1), (9, .invokevirtual 98, 3), (12, .iconst 1, 1), (13, .if_icmp .le 7, 3), (16, .iconst 1, 1), (17, .goto 4, 3), (20, .iconst 0, 1), (21, .ireturn, 1)]
theorem kx_M_canPut : kt_tab kb_M_canPut kw_M_canPut = true := by decide +kernel
abbrev kb_M_put : ByteArray := prog_9_method_13_code
def ky_M_put : MethodName := ⟨RX7, "put", "(IIIII)Z"⟩
def kw_M_put : List (Nat × Instr × Nat) := [(0, .aload_n 0, 1), (1, .iload_n 1, 1), (2, .invokevirtual 86, 3), (5, .istore 6, 2), (7, .iconst 0, 1), (8, .istore 7, 2), (10, .aload_n 0, 1), (11, .iload 7, 2), (13, .invokevirtual 76, 3), (16, .ifCond .ne 9, 3), (19, .iinc 7 1, 3), (22, .goto (-12), 3), (25, .iconst 0, 1), (26, .istore 8, 2), (28, .iconst 0, 1), (29, .istore 9, 2), (31, .iload 9, 2), (33, .bipush 7, 2), (35, .if_icmp .ge 42, 3), (38, .aload_n 0, 1), (39, .iload 9, 2), (41, .invokevirtual 76, 3), (44, .ifCond .ne 23, 3), (47, .aload_n 0, 1), (48, .iload 9, 2), (50, .invokevirtual 102, 3), (53, .iload 8, 2), (55, .if_icmp .le 12, 3), (58, .aload_n 0, 1), (59, .iload 9, 2), (61, .invokevirtual 102, 3), (64, .goto 5, 3), (67, .iload 8, 2), (69, .istore 8, 2), (71, .iinc 9 1, 3), (74, .goto (-43), 3), (77, .iconst 0, 1), (78, .istore 9, 2), (80, .iload 9, 2), (82, .bipush 6, 2), (84, .if_icmp .ge 96, 3), (87, .aload_n 0, 1), (88, .invokevirtual 105, 3), (91, .ifCond .ne 5, 3), (94, .iconst 0, 1), (95, .ireturn, 1), (96, .aload_n 0, 1), (97, .getfield 7, 3), (100, .bipush 6, 2), (102, .iload 7, 2), (104, .imul, 1), (105, .iload 9, 2), (107, .iadd, 1), (108, .iload 9, 2), (110, .ifCond .ne 15, 3), (113, .iload_n 1, 1), (114, .bipush 16, 2), (116, .iload 8, 2), (118, .iconst 1, 1), (119, .iadd, 1), (120, .imul, 1), (121, .iadd, 1), (122, .goto 51, 3), (125, .iload 9, 2), (127, .iconst 1, 1), (128, .if_icmp .ne 7, 3), (131, .iload_n 2, 1), (132, .goto 41, 3), (135, .iload 9, 2), (137, .iconst 2, 1), (138, .if_icmp .ne 7, 3), (141, .iload_n 3, 1), (142, .goto 31, 3), (145, .iload 9, 2), (147, .iconst 3, 1), (148, .if_icmp .ne 8, 3), (151, .iload 4, 2), (153, .goto 20, 3), (156, .iload 9, 2), (158, .iconst 4, 1), (159, .if_icmp .ne 8, 3), (162, .iload 5, 2), (164, .goto 9, 3), (167, .aload_n 0, 1), (168, .iload 7, 2), (170, .invokevirtual 109, 3), (173, .iastore, 1), (174, .iinc 9 1, 3), (177, .goto (-97), 3), (180, .iload 6, 2), (182, .ifCond .lt 18, 3), (185, .aload_n 0, 1), (186, .invokevirtual 105, 3), (189, .ifCond .ne 5, 3), (192, .iconst 0, 1), (193, .ireturn, 1), (194, .aload_n 0, 1), (195, .iload 6, 2), (197, .invokevirtual 112, 3), (200, .iconst 1, 1), (201, .ireturn, 1)]
theorem kx_M_put : kt_tab kb_M_put kw_M_put = true := by decide +kernel
abbrev kb_M_off : ByteArray := prog_9_method_14_code
def ky_M_off : MethodName := ⟨RX7, "off", "()V"⟩
def kw_M_off : List (Nat × Instr × Nat) := [(0, .aload_n 0, 1), (1, .iconst 0, 1), (2, .putfield 17, 3), (5, .aload_n 0, 1), (6, .invokevirtual 116, 3), (9, .aload_n 0, 1), (10, .iconst (-1), 1), (11, .putfield 13, 3), (14, .return_, 1)]
theorem kx_M_off : kt_tab kb_M_off kw_M_off = true := by decide +kernel
abbrev kb_M_empty : ByteArray := prog_9_method_15_code
def ky_M_empty : MethodName := ⟨RX7, "empty", "()V"⟩
def kw_M_empty : List (Nat × Instr × Nat) := [(0, .aload_n 0, 1), (1, .iconst 0, 1), (2, .putfield 119, 3), (5, .aload_n 0, 1), (6, .iconst 0, 1), (7, .putfield 122, 3), (10, .aload_n 0, 1), (11, .iconst 0, 1), (12, .putfield 125, 3), (15, .aload_n 0, 1), (16, .iconst 0, 1), (17, .putfield 128, 3), (20, .aload_n 0, 1), (21, .iconst 0, 1), (22, .putfield 131, 3), (25, .aload_n 0, 1), (26, .iconst 0, 1), (27, .putfield 134, 3), (30, .return_, 1)]
theorem kx_M_empty : kt_tab kb_M_empty kw_M_empty = true := by decide +kernel
abbrev kb_M_comeUp : ByteArray := prog_9_method_16_code
def ky_M_comeUp : MethodName := ⟨RX7, "comeUp", "()V"⟩
def kw_M_comeUp : List (Nat × Instr × Nat) := [(0, .aload_n 0, 1), (1, .iconst 1, 1), (2, .putfield 17, 3), (5, .aload_n 0, 1), (6, .invokevirtual 116, 3), (9, .iconst 0, 1), (10, .istore_n 1, 1), (11, .iload_n 1, 1), (12, .bipush 7, 2), (14, .if_icmp .ge 163, 3), (17, .aload_n 0, 1), (18, .iload_n 1, 1), (19, .invokevirtual 76, 3), (22, .ifCond .ne 26, 3), (25, .aload_n 0, 1), (26, .getfield 7, 3), (29, .bipush 6, 2), (31, .iload_n 1, 1), (32, .imul, 1), (33, .iconst 5, 1), (34, .iadd, 1), (35, .iaload, 1), (36, .aload_n 0, 1), (37, .iload_n 1, 1), (38, .invokevirtual 109, 3), (41, .if_icmp .eq 7, 3), (44, .iconst 1, 1), (45, .goto 4, 3), (48, .iconst 0, 1), (49, .istore_n 2, 1), (50, .iconst 0, 1), (51, .istore_n 3, 1), (52, .iload_n 3, 1), (53, .bipush 7, 2), (55, .if_icmp .ge 97, 3), (58, .iload_n 2, 1), (59, .ifCond .ne 93, 3), (62, .aload_n 0, 1), (63, .iload_n 1, 1), (64, .invokevirtual 76, 3), (67, .ifCond .ne 85, 3), (70, .iload_n 3, 1), (71, .iload_n 1, 1), (72, .if_icmp .eq 34, 3), (75, .aload_n 0, 1), (76, .iload_n 3, 1), (77, .invokevirtual 76, 3), (80, .ifCond .ne 26, 3), (83, .aload_n 0, 1), (84, .getfield 7, 3), (87, .bipush 6, 2), (89, .iload_n 3, 1), (90, .imul, 1), (91, .iconst 5, 1), (92, .iadd, 1), (93, .iaload, 1), (94, .aload_n 0, 1), (95, .iload_n 3, 1), (96, .invokevirtual 109, 3), (99, .if_icmp .ne 7, 3), (102, .iconst 1, 1), (103, .goto 4, 3), (106, .iconst 0, 1), (107, .istore 4, 2), (109, .iload 4, 2), (111, .ifCond .eq 33, 3), (114, .aload_n 0, 1), (115, .iload_n 3, 1), (116, .invokevirtual 82, 3), (119, .aload_n 0, 1), (120, .iload_n 1, 1), (121, .invokevirtual 82, 3), (124, .if_icmp .ne 20, 3), (127, .aload_n 0, 1), (128, .iload_n 3, 1), (129, .invokevirtual 102, 3), (132, .aload_n 0, 1), (133, .iload_n 1, 1), (134, .invokevirtual 102, 3), (137, .if_icmp .le 7, 3), (140, .iconst 1, 1), (141, .goto 4, 3), (144, .iconst 0, 1), (145, .istore_n 2, 1), (146, .iinc 3 1, 3), (149, .goto (-97), 3), (152, .iload_n 2, 1), (153, .ifCond .eq 18, 3), (156, .aload_n 0, 1), (157, .iload_n 1, 1), (158, .invokevirtual 112, 3), (161, .aload_n 0, 1), (162, .dup, 1), (163, .getfield 95, 3), (166, .iconst 1, 1), (167, .iadd, 1), (168, .putfield 95, 3), (171, .iinc 1 1, 3), (174, .goto (-163), 3), (177, .return_, 1)]
theorem kx_M_comeUp : kt_tab kb_M_comeUp kw_M_comeUp = true := by decide +kernel
abbrev kb_M_head : ByteArray := prog_9_method_17_code
def ky_M_head : MethodName := ⟨RX7, "head", "()V"⟩
def kw_M_head : List (Nat × Instr × Nat) := [(0, .aload_n 0, 1), (1, .iconst 0, 1), (2, .putfield 137, 3), (5, .aload_n 0, 1), (6, .iconst 0, 1), (7, .putfield 140, 3), (10, .aload_n 0, 1), (11, .getfield 143, 3), (14, .aload_n 0, 1), (15, .getfield 128, 3), (18, .if_icmp .lt 9, 3), (21, .aload_n 0, 1), (22, .iconst 1, 1), (23, .putfield 146, 3), (26, .return_, 1), (27, .aload_n 0, 1), (28, .getfield 21, 3), (31, .aload_n 0, 1), (32, .getfield 143, 3), (35, .iaload, 1), (36, .istore_n 1, 1), (37, .aload_n 0, 1), (38, .dup, 1), (39, .getfield 143, 3), (42, .iconst 1, 1), (43, .iadd, 1), (44, .putfield 143, 3), (47, .aload_n 0, 1), (48, .iload_n 1, 1), (49, .iconst 5, 1), (50, .ishr, 1), (51, .putfield 137, 3), (54, .iload_n 1, 1), (55, .bipush 31, 2), (57, .iand, 1), (58, .istore_n 2, 1), (59, .iload_n 2, 1), (60, .bipush 24, 2), (62, .if_icmp .ge 7, 3), (65, .iconst 0, 1), (66, .goto 34, 3), (69, .iload_n 2, 1), (70, .bipush 24, 2), (72, .if_icmp .ne 7, 3), (75, .iconst 1, 1), (76, .goto 24, 3), (79, .iload_n 2, 1), (80, .bipush 25, 2), (82, .if_icmp .ne 7, 3), (85, .iconst 2, 1), (86, .goto 14, 3), (89, .iload_n 2, 1), (90, .bipush 26, 2), (92, .if_icmp .ne 7, 3), (95, .iconst 4, 1), (96, .goto 4, 3), (99, .iconst (-1), 1), (100, .istore_n 3, 1), (101, .iload_n 3, 1), (102, .ifCond .lt 54, 3), (105, .aload_n 0, 1), (106, .getfield 143, 3), (109, .iload_n 3, 1), (110, .iadd, 1), (111, .aload_n 0, 1), (112, .getfield 128, 3), (115, .if_icmp .gt 41, 3), (118, .aload_n 0, 1), (119, .getfield 137, 3), (122, .iconst 1, 1), (123, .if_icmp .eq 33, 3), (126, .aload_n 0, 1), (127, .getfield 137, 3), (130, .bipush 6, 2), (132, .if_icmp .eq 24, 3), (135, .aload_n 0, 1), (136, .getfield 137, 3), (139, .bipush 7, 2), (141, .if_icmp .ne 21, 3), (144, .iload_n 2, 1), (145, .bipush 20, 2), (147, .if_icmp .eq 15, 3), (150, .iload_n 2, 1), (151, .bipush 21, 2), (153, .if_icmp .eq 9, 3), (156, .aload_n 0, 1), (157, .iconst 1, 1), (158, .putfield 146, 3), (161, .return_, 1), (162, .iload_n 2, 1), (163, .i2l, 1), (164, .lstore 4, 2), (166, .iload_n 3, 1), (167, .ifCond .le 101, 3), (170, .lconst 0, 1), (171, .lstore 4, 2), (173, .iconst 0, 1), (174, .istore 6, 2), (176, .iload 6, 2), (178, .iload_n 3, 1), (179, .if_icmp .ge 30, 3), (182, .lload 4, 2), (184, .bipush 8, 2), (186, .lshl, 1), (187, .aload_n 0, 1), (188, .getfield 21, 3), (191, .aload_n 0, 1), (192, .getfield 143, 3), (195, .iload 6, 2), (197, .iadd, 1), (198, .iaload, 1), (199, .i2l, 1), (200, .lor, 1), (201, .lstore 4, 2), (203, .iinc 6 1, 3), (206, .goto (-30), 3), (209, .aload_n 0, 1), (210, .dup, 1), (211, .getfield 143, 3), (214, .iload_n 3, 1), (215, .iadd, 1), (216, .putfield 143, 3), (219, .aload_n 0, 1), (220, .lload 4, 2), (222, .iload_n 3, 1), (223, .iconst 1, 1), (224, .if_icmp .ne 9, 3), (227, .ldc2_w 149, 3), (230, .goto 17, 3), (233, .iload_n 3, 1), (234, .iconst 2, 1), (235, .if_icmp .ne 9, 3), (238, .ldc2_w 151, 3), (241, .goto 6, 3), (244, .ldc2_w 153, 3), (247, .lcmp, 1), (248, .ifCond .lt 12, 3), (251, .lload 4, 2), (253, .ldc2_w 155, 3), (256, .lcmp, 1), (257, .ifCond .le 7, 3), (260, .iconst 1, 1), (261, .goto 4, 3), (264, .iconst 0, 1), (265, .putfield 146, 3), (268, .aload_n 0, 1), (269, .lload 4, 2), (271, .l2i, 1), (272, .putfield 140, 3), (275, .return_, 1)]
theorem kx_M_head : kt_tab kb_M_head kw_M_head = true := by decide +kernel
abbrev kb_M_string : ByteArray := prog_9_method_18_code
def ky_M_string : MethodName := ⟨RX7, "string", "()Z"⟩
def kw_M_string : List (Nat × Instr × Nat) := [(0, .aload_n 0, 1), (1, .getfield 140, 3), (4, .aload_n 0, 1), (5, .getfield 128, 3), (8, .aload_n 0, 1), (9, .getfield 143, 3), (12, .isub, 1), (13, .if_icmp .le 5, 3), (16, .iconst 0, 1), (17, .ireturn, 1), (18, .iconst 1, 1), (19, .istore_n 1, 1), (20, .iconst 0, 1), (21, .istore_n 2, 1), (22, .iload_n 2, 1), (23, .aload_n 0, 1), (24, .getfield 140, 3), (27, .if_icmp .ge 59, 3), (30, .aload_n 0, 1), (31, .getfield 137, 3), (34, .iconst 3, 1), (35, .if_icmp .ne 51, 3), (38, .iload_n 1, 1), (39, .ifCond .eq 39, 3), (42, .aload_n 0, 1), (43, .getfield 21, 3), (46, .aload_n 0, 1), (47, .getfield 143, 3), (50, .iload_n 2, 1), (51, .iadd, 1), (52, .iaload, 1), (53, .bipush 31, 2), (55, .if_icmp .le 23, 3), (58, .aload_n 0, 1), (59, .getfield 21, 3), (62, .aload_n 0, 1), (63, .getfield 143, 3), (66, .iload_n 2, 1), (67, .iadd, 1), (68, .iaload, 1), (69, .bipush 127, 2), (71, .if_icmp .ge 7, 3), (74, .iconst 1, 1), (75, .goto 4, 3), (78, .iconst 0, 1), (79, .istore_n 1, 1), (80, .iinc 2 1, 3), (83, .goto (-61), 3), (86, .iload_n 1, 1), (87, .ireturn, 1)]
theorem kx_M_string : kt_tab kb_M_string kw_M_string = true := by decide +kernel
abbrev kb_M_formed : ByteArray := prog_9_method_19_code
def ky_M_formed : MethodName := ⟨RX7, "formed", "()Z"⟩
def kw_M_formed : List (Nat × Instr × Nat) := [(0, .aload_n 0, 1), (1, .iconst 0, 1), (2, .putfield 157, 3), (5, .aload_n 0, 1), (6, .iconst 1, 1), (7, .putfield 143, 3), (10, .aload_n 0, 1), (11, .iconst 0, 1), (12, .putfield 146, 3), (15, .aload_n 0, 1), (16, .getfield 128, 3), (19, .iconst 1, 1), (20, .if_icmp .ne 5, 3), (23, .iconst 1, 1), (24, .ireturn, 1), (25, .aload_n 0, 1), (26, .invokevirtual 160, 3), (29, .aload_n 0, 1), (30, .getfield 146, 3), (33, .ifCond .ne 11, 3), (36, .aload_n 0, 1), (37, .getfield 137, 3), (40, .iconst 5, 1), (41, .if_icmp .eq 5, 3), (44, .iconst 0, 1), (45, .ireturn, 1), (46, .aload_n 0, 1), (47, .iconst 1, 1), (48, .invokevirtual 163, 3), (51, .iconst 1, 1), (52, .istore_n 1, 1), (53, .iload_n 1, 1), (54, .ifCond .le 60, 3), (57, .aload_n 0, 1), (58, .getfield 146, 3), (61, .ifCond .ne 53, 3), (64, .aload_n 0, 1), (65, .getfield 37, 3), (68, .iload_n 1, 1), (69, .iaload, 1), (70, .ifCond .ne 9, 3), (73, .iinc 1 (-1), 3), (76, .goto (-23), 3), (79, .aload_n 0, 1), (80, .getfield 33, 3), (83, .iload_n 1, 1), (84, .baload, 1), (85, .ifCond .eq 20, 3), (88, .aload_n 0, 1), (89, .getfield 43, 3), (92, .iload_n 1, 1), (93, .baload, 1), (94, .ifCond .eq 11, 3), (97, .aload_n 0, 1), (98, .iload_n 1, 1), (99, .invokevirtual 166, 3), (102, .goto (-49), 3), (105, .aload_n 0, 1), (106, .iload_n 1, 1), (107, .invokevirtual 169, 3), (110, .istore_n 1, 1), (111, .goto (-58), 3), (114, .aload_n 0, 1), (115, .getfield 146, 3), (118, .ifCond .ne 18, 3), (121, .aload_n 0, 1), (122, .getfield 143, 3), (125, .aload_n 0, 1), (126, .getfield 128, 3), (129, .if_icmp .ne 7, 3), (132, .iconst 1, 1), (133, .goto 4, 3), (136, .iconst 0, 1), (137, .ireturn, 1)]
theorem kx_M_formed : kt_tab kb_M_formed kw_M_formed = true := by decide +kernel
abbrev kb_M_enter : ByteArray := prog_9_method_20_code
def ky_M_enter : MethodName := ⟨RX7, "enter", "(I)V"⟩
def kw_M_enter : List (Nat × Instr × Nat) := [(0, .aload_n 0, 1), (1, .getfield 33, 3), (4, .iload_n 1, 1), (5, .aload_n 0, 1), (6, .getfield 137, 3), (9, .iconst 5, 1), (10, .if_icmp .ne 7, 3), (13, .iconst 1, 1), (14, .goto 4, 3), (17, .iconst 0, 1), (18, .bastore, 1), (19, .aload_n 0, 1), (20, .getfield 37, 3), (23, .iload_n 1, 1), (24, .aload_n 0, 1), (25, .getfield 140, 3), (28, .iastore, 1), (29, .aload_n 0, 1), (30, .getfield 40, 3), (33, .iload_n 1, 1), (34, .iconst (-1), 1), (35, .iastore, 1), (36, .aload_n 0, 1), (37, .getfield 43, 3), (40, .iload_n 1, 1), (41, .iconst 1, 1), (42, .bastore, 1), (43, .return_, 1)]
theorem kx_M_enter : kt_tab kb_M_enter kw_M_enter = true := by decide +kernel
abbrev kb_M_readKey : ByteArray := prog_9_method_21_code
def ky_M_readKey : MethodName := ⟨RX7, "readKey", "(I)V"⟩
def kw_M_readKey : List (Nat × Instr × Nat) := [(0, .aload_n 0, 1), (1, .invokevirtual 160, 3), (4, .aload_n 0, 1), (5, .aload_n 0, 1), (6, .getfield 146, 3), (9, .ifCond .ne 23, 3), (12, .aload_n 0, 1), (13, .getfield 137, 3), (16, .ifCond .ne 16, 3), (19, .aload_n 0, 1), (20, .getfield 140, 3), (23, .aload_n 0, 1), (24, .getfield 40, 3), (27, .iload_n 1, 1), (28, .iaload, 1), (29, .if_icmp .gt 7, 3), (32, .iconst 1, 1), (33, .goto 4, 3), (36, .iconst 0, 1), (37, .putfield 146, 3), (40, .aload_n 0, 1), (41, .getfield 40, 3), (44, .iload_n 1, 1), (45, .aload_n 0, 1), (46, .getfield 140, 3), (49, .iastore, 1), (50, .aload_n 0, 1), (51, .getfield 43, 3), (54, .iload_n 1, 1), (55, .iconst 0, 1), (56, .bastore, 1), (57, .iload_n 1, 1), (58, .iconst 1, 1), (59, .if_icmp .ne 23, 3), (62, .aload_n 0, 1), (63, .getfield 146, 3), (66, .ifCond .ne 16, 3), (69, .aload_n 0, 1), (70, .getfield 46, 3), (73, .aload_n 0, 1), (74, .getfield 157, 3), (77, .aload_n 0, 1), (78, .getfield 140, 3), (81, .iastore, 1), (82, .return_, 1)]
theorem kx_M_readKey : kt_tab kb_M_readKey kw_M_readKey = true := by decide +kernel
abbrev kb_M_item : ByteArray := prog_9_method_22_code
def ky_M_item : MethodName := ⟨RX7, "item", "(I)I"⟩
def kw_M_item : List (Nat × Instr × Nat) := [(0, .aload_n 0, 1), (1, .getfield 143, 3), (4, .istore_n 2, 1), (5, .aload_n 0, 1), (6, .invokevirtual 160, 3), (9, .aload_n 0, 1), (10, .getfield 37, 3), (13, .iload_n 1, 1), (14, .dup2, 1), (15, .iaload, 1), (16, .iconst 1, 1), (17, .isub, 1), (18, .iastore, 1), (19, .aload_n 0, 1), (20, .getfield 43, 3), (23, .iload_n 1, 1), (24, .iconst 1, 1), (25, .bastore, 1), (26, .aload_n 0, 1), (27, .getfield 146, 3), (30, .ifCond .eq 5, 3), (33, .iload_n 1, 1), (34, .ireturn, 1), (35, .iload_n 1, 1), (36, .iconst 1, 1), (37, .if_icmp .ne 62, 3), (40, .aload_n 0, 1), (41, .getfield 49, 3), (44, .aload_n 0, 1), (45, .getfield 157, 3), (48, .aload_n 0, 1), (49, .getfield 137, 3), (52, .iastore, 1), (53, .aload_n 0, 1), (54, .getfield 52, 3), (57, .aload_n 0, 1), (58, .getfield 157, 3), (61, .aload_n 0, 1), (62, .getfield 140, 3), (65, .iastore, 1), (66, .aload_n 0, 1), (67, .getfield 55, 3), (70, .aload_n 0, 1), (71, .getfield 157, 3), (74, .aload_n 0, 1), (75, .getfield 143, 3), (78, .iastore, 1), (79, .aload_n 0, 1), (80, .getfield 58, 3), (83, .aload_n 0, 1), (84, .getfield 157, 3), (87, .iconst 1, 1), (88, .bastore, 1), (89, .aload_n 0, 1), (90, .dup, 1), (91, .getfield 157, 3), (94, .iconst 1, 1), (95, .iadd, 1), (96, .putfield 157, 3), (99, .iload_n 1, 1), (100, .iconst 2, 1), (101, .if_icmp .ne 22, 3), (104, .aload_n 0, 1), (105, .getfield 137, 3), (108, .ifCond .eq 15, 3), (111, .aload_n 0, 1), (112, .getfield 58, 3), (115, .aload_n 0, 1), (116, .getfield 157, 3), (119, .iconst 1, 1), (120, .isub, 1), (121, .iconst 0, 1), (122, .bastore, 1), (123, .aload_n 0, 1), (124, .getfield 137, 3), (127, .iconst 2, 1), (128, .if_icmp .eq 11, 3), (131, .aload_n 0, 1), (132, .getfield 137, 3), (135, .iconst 3, 1), (136, .if_icmp .ne 43, 3), (139, .aload_n 0, 1), (140, .aload_n 0, 1), (141, .invokevirtual 172, 3), (144, .ifCond .ne 7, 3), (147, .iconst 1, 1), (148, .goto 4, 3), (151, .iconst 0, 1), (152, .putfield 146, 3), (155, .aload_n 0, 1), (156, .aload_n 0, 1), (157, .getfield 146, 3), (160, .ifCond .eq 7, 3), (163, .iload_n 2, 1), (164, .goto 12, 3), (167, .aload_n 0, 1), (168, .getfield 143, 3), (171, .aload_n 0, 1), (172, .getfield 140, 3), (175, .iadd, 1), (176, .putfield 143, 3), (179, .aload_n 0, 1), (180, .getfield 137, 3), (183, .iconst 4, 1), (184, .if_icmp .eq 13, 3), (187, .aload_n 0, 1), (188, .getfield 137, 3), (191, .iconst 5, 1), (192, .if_icmp .eq 5, 3), (195, .iload_n 1, 1), (196, .ireturn, 1), (197, .aload_n 0, 1), (198, .iload_n 1, 1), (199, .iconst 3, 1), (200, .if_icmp .ne 7, 3), (203, .iconst 1, 1), (204, .goto 4, 3), (207, .iconst 0, 1), (208, .putfield 146, 3), (211, .aload_n 0, 1), (212, .getfield 146, 3), (215, .ifCond .ne 10, 3), (218, .aload_n 0, 1), (219, .iload_n 1, 1), (220, .iconst 1, 1), (221, .iadd, 1), (222, .invokevirtual 163, 3), (225, .aload_n 0, 1), (226, .getfield 146, 3), (229, .ifCond .eq 7, 3), (232, .iload_n 1, 1), (233, .goto 6, 3), (236, .iload_n 1, 1), (237, .iconst 1, 1), (238, .iadd, 1), (239, .ireturn, 1)]
theorem kx_M_item : kt_tab kb_M_item kw_M_item = true := by decide +kernel
abbrev kb_M_find : ByteArray := prog_9_method_23_code
def ky_M_find : MethodName := ⟨RX7, "find", "(I)I"⟩
def kw_M_find : List (Nat × Instr × Nat) := [(0, .iconst 0, 1), (1, .istore_n 2, 1), (2, .iload_n 2, 1), (3, .aload_n 0, 1), (4, .getfield 157, 3), (7, .if_icmp .ge 21, 3), (10, .aload_n 0, 1), (11, .getfield 46, 3), (14, .iload_n 2, 1), (15, .iaload, 1), (16, .iload_n 1, 1), (17, .if_icmp .ne 5, 3), (20, .iload_n 2, 1), (21, .ireturn, 1), (22, .iinc 2 1, 3), (25, .goto (-23), 3), (28, .iconst (-1), 1), (29, .ireturn, 1)]
theorem kx_M_find : kt_tab kb_M_find kw_M_find = true := by decide +kernel
abbrev kb_M_is : ByteArray := prog_9_method_24_code
def ky_M_is : MethodName := ⟨RX7, "is", "(II)Z"⟩
def kw_M_is : List (Nat × Instr × Nat) := [(0, .aload_n 0, 1), (1, .iload_n 1, 1), (2, .invokevirtual 175, 3), (5, .istore_n 3, 1), (6, .iload_n 3, 1), (7, .ifCond .lt 27, 3), (10, .aload_n 0, 1), (11, .getfield 49, 3), (14, .iload_n 3, 1), (15, .iaload, 1), (16, .iload_n 2, 1), (17, .if_icmp .ne 21, 3), (20, .iload_n 2, 1), (21, .iconst 4, 1), (22, .if_icmp .ne 12, 3), (25, .aload_n 0, 1), (26, .getfield 58, 3), (29, .iload_n 3, 1), (30, .baload, 1), (31, .ifCond .eq 7, 3), (34, .iconst 1, 1), (35, .goto 4, 3), (38, .iconst 0, 1), (39, .ireturn, 1)]
theorem kx_M_is : kt_tab kb_M_is kw_M_is = true := by decide +kernel
abbrev kb_M_there : ByteArray := prog_9_method_25_code
def ky_M_there : MethodName := ⟨RX7, "there", "(I)Z"⟩
def kw_M_there : List (Nat × Instr × Nat) := [(0, .aload_n 0, 1), (1, .iload_n 1, 1), (2, .invokevirtual 175, 3), (5, .ifCond .lt 7, 3), (8, .iconst 1, 1), (9, .goto 4, 3), (12, .iconst 0, 1), (13, .ireturn, 1)]
theorem kx_M_there : kt_tab kb_M_there kw_M_there = true := by decide +kernel
abbrev kb_M_get : ByteArray := prog_9_method_26_code
def ky_M_get : MethodName := ⟨RX7, "get", "(I)I"⟩
def kw_M_get : List (Nat × Instr × Nat) := [(0, .aload_n 0, 1), (1, .getfield 52, 3), (4, .aload_n 0, 1), (5, .iload_n 1, 1), (6, .invokevirtual 175, 3), (9, .iaload, 1), (10, .ireturn, 1)]
theorem kx_M_get : kt_tab kb_M_get kw_M_get = true := by decide +kernel
abbrev kb_M_listed : ByteArray := prog_9_method_27_code
def ky_M_listed : MethodName := ⟨RX7, "listed", "(II)Z"⟩
def kw_M_listed : List (Nat × Instr × Nat) := [(0, .aload_n 0, 1), (1, .iload_n 1, 1), (2, .invokevirtual 175, 3), (5, .istore_n 3, 1), (6, .iconst 0, 1), (7, .istore 4, 2), (9, .aload_n 0, 1), (10, .aload_n 0, 1), (11, .getfield 55, 3), (14, .iload_n 3, 1), (15, .iaload, 1), (16, .putfield 143, 3), (19, .iconst 0, 1), (20, .istore 5, 2), (22, .iload 5, 2), (24, .aload_n 0, 1), (25, .getfield 52, 3), (28, .iload_n 3, 1), (29, .iaload, 1), (30, .if_icmp .ge 33, 3), (33, .aload_n 0, 1), (34, .invokevirtual 160, 3), (37, .iload 4, 2), (39, .ifCond .ne 11, 3), (42, .aload_n 0, 1), (43, .getfield 140, 3), (46, .iload_n 2, 1), (47, .if_icmp .ne 7, 3), (50, .iconst 1, 1), (51, .goto 4, 3), (54, .iconst 0, 1), (55, .istore 4, 2), (57, .iinc 5 1, 3), (60, .goto (-38), 3), (63, .iload 4, 2), (65, .ireturn, 1)]
theorem kx_M_listed : kt_tab kb_M_listed kw_M_listed = true := by decide +kernel
abbrev kb_M_textNumber : ByteArray := prog_9_method_28_code
def ky_M_textNumber : MethodName := ⟨RX7, "textNumber", "(I)I"⟩
def kw_M_textNumber : List (Nat × Instr × Nat) := [(0, .aload_n 0, 1), (1, .iload_n 1, 1), (2, .invokevirtual 175, 3), (5, .istore_n 2, 1), (6, .iconst 5, 1), (7, .istore_n 3, 1), (8, .iconst 0, 1), (9, .istore 4, 2), (11, .iload 4, 2), (13, .aload_n 0, 1), (14, .getfield 52, 3), (17, .iload_n 2, 1), (18, .iaload, 1), (19, .if_icmp .ge 30, 3), (22, .iload_n 3, 1), (23, .sipush 131, 3), (26, .imul, 1), (27, .aload_n 0, 1), (28, .getfield 21, 3), (31, .aload_n 0, 1), (32, .getfield 55, 3), (35, .iload_n 2, 1), (36, .iaload, 1), (37, .iload 4, 2), (39, .iadd, 1), (40, .iaload, 1), (41, .iadd, 1), (42, .istore_n 3, 1), (43, .iinc 4 1, 3), (46, .goto (-35), 3), (49, .iload_n 3, 1), (50, .ireturn, 1)]
theorem kx_M_textNumber : kt_tab kb_M_textNumber kw_M_textNumber = true := by decide +kernel
abbrev kb_M_out : ByteArray := prog_9_method_29_code
def ky_M_out : MethodName := ⟨RX7, "out", "(I)V"⟩
def kw_M_out : List (Nat × Instr × Nat) := [(0, .aload_n 0, 1), (1, .getfield 24, 3), (4, .aload_n 0, 1), (5, .getfield 131, 3), (8, .iload_n 1, 1), (9, .iastore, 1), (10, .aload_n 0, 1), (11, .dup, 1), (12, .getfield 131, 3), (15, .iconst 1, 1), (16, .iadd, 1), (17, .putfield 131, 3), (20, .return_, 1)]
theorem kx_M_out : kt_tab kb_M_out kw_M_out = true := by decide +kernel
abbrev kb_M_number : ByteArray := prog_9_method_30_code
def ky_M_number : MethodName := ⟨RX7, "number", "(I)V"⟩
def kw_M_number : List (Nat × Instr × Nat) := [(0, .iload_n 1, 1), (1, .bipush 24, 2), (3, .if_icmp .ge 11, 3), (6, .aload_n 0, 1), (7, .iload_n 1, 1), (8, .invokevirtual 178, 3), (11, .goto 84, 3), (14, .iload_n 1, 1), (15, .sipush 256, 3), (18, .if_icmp .ge 17, 3), (21, .aload_n 0, 1), (22, .bipush 24, 2), (24, .invokevirtual 178, 3), (27, .aload_n 0, 1), (28, .iload_n 1, 1), (29, .invokevirtual 178, 3), (32, .goto 63, 3), (35, .iload_n 1, 1), (36, .ldc 181, 2), (38, .if_icmp .ge 7, 3), (41, .iconst 1, 1), (42, .goto 4, 3), (45, .iconst 0, 1), (46, .istore_n 2, 1), (47, .aload_n 0, 1), (48, .iload_n 2, 1), (49, .ifCond .eq 8, 3), (52, .bipush 25, 2), (54, .goto 5, 3), (57, .bipush 26, 2), (59, .invokevirtual 178, 3), (62, .iload_n 2, 1), (63, .ifCond .eq 8, 3), (66, .bipush 8, 2), (68, .goto 5, 3), (71, .bipush 24, 2), (73, .istore_n 3, 1), (74, .iload_n 3, 1), (75, .ifCond .lt 20, 3), (78, .aload_n 0, 1), (79, .iload_n 1, 1), (80, .iload_n 3, 1), (81, .ishr, 1), (82, .sipush 255, 3), (85, .iand, 1), (86, .invokevirtual 178, 3), (89, .iinc 3 (-8), 3), (92, .goto (-18), 3), (95, .return_, 1)]
theorem kx_M_number : kt_tab kb_M_number kw_M_number = true := by decide +kernel
abbrev kb_M_pair : ByteArray := prog_9_method_31_code
def ky_M_pair : MethodName := ⟨RX7, "pair", "(II)V"⟩
def kw_M_pair : List (Nat × Instr × Nat) := [(0, .aload_n 0, 1), (1, .iload_n 1, 1), (2, .invokevirtual 178, 3), (5, .aload_n 0, 1), (6, .iload_n 2, 1), (7, .invokevirtual 182, 3), (10, .return_, 1)]
theorem kx_M_pair : kt_tab kb_M_pair kw_M_pair = true := by decide +kernel
abbrev kb_M_begin : ByteArray := prog_9_method_32_code
def ky_M_begin : MethodName := ⟨RX7, "begin", "(I)V"⟩
def kw_M_begin : List (Nat × Instr × Nat) := [(0, .aload_n 0, 1), (1, .iconst 0, 1), (2, .putfield 131, 3), (5, .aload_n 0, 1), (6, .iconst 0, 1), (7, .invokevirtual 178, 3), (10, .aload_n 0, 1), (11, .sipush 160, 3), (14, .iload_n 1, 1), (15, .iadd, 1), (16, .invokevirtual 178, 3), (19, .return_, 1)]
theorem kx_M_begin : kt_tab kb_M_begin kw_M_begin = true := by decide +kernel
abbrev kb_M_request : ByteArray := prog_9_method_33_code
def ky_M_request : MethodName := ⟨RX7, "request", "()I"⟩
def kw_M_request : List (Nat × Instr × Nat) := [(0, .aload_n 0, 1), (1, .iconst 0, 1), (2, .putfield 89, 3), (5, .aload_n 0, 1), (6, .iconst 0, 1), (7, .putfield 131, 3), (10, .aload_n 0, 1), (11, .getfield 128, 3), (14, .ifCond .ne 7, 3), (17, .iconst 0, 1), (18, .goto 9, 3), (21, .aload_n 0, 1), (22, .getfield 21, 3), (25, .iconst 0, 1), (26, .iaload, 1), (27, .istore_n 1, 1), (28, .iconst 1, 1), (29, .istore_n 2, 1), (30, .iload_n 1, 1), (31, .iconst 1, 1), (32, .if_icmp .eq 25, 3), (35, .iload_n 1, 1), (36, .iconst 2, 1), (37, .if_icmp .eq 20, 3), (40, .iload_n 1, 1), (41, .iconst 4, 1), (42, .if_icmp .eq 15, 3), (45, .iload_n 1, 1), (46, .bipush 6, 2), (48, .if_icmp .lt 55, 3), (51, .iload_n 1, 1), (52, .bipush 8, 2), (54, .if_icmp .gt 49, 3), (57, .aload_n 0, 1), (58, .invokevirtual 184, 3), (61, .ifCond .eq 7, 3), (64, .iconst 0, 1), (65, .goto 4, 3), (68, .iconst 2, 1), (69, .istore_n 2, 1), (70, .iload_n 2, 1), (71, .ifCond .ne 32, 3), (74, .aload_n 0, 1), (75, .iconst 0, 1), (76, .invokevirtual 187, 3), (79, .aload_n 0, 1), (80, .iload_n 1, 1), (81, .bipush 8, 2), (83, .if_icmp .ne 10, 3), (86, .aload_n 0, 1), (87, .getfield 134, 3), (90, .goto 4, 3), (93, .iconst 0, 1), (94, .putfield 134, 3), (97, .aload_n 0, 1), (98, .iload_n 1, 1), (99, .invokevirtual 190, 3), (102, .istore_n 2, 1), (103, .aload_n 0, 1), (104, .getfield 17, 3), (107, .ifCond .ne 5, 3), (110, .iconst (-1), 1), (111, .ireturn, 1), (112, .iload_n 2, 1), (113, .ifCond .eq 13, 3), (116, .aload_n 0, 1), (117, .iconst 0, 1), (118, .putfield 131, 3), (121, .aload_n 0, 1), (122, .iload_n 2, 1), (123, .invokevirtual 178, 3), (126, .aload_n 0, 1), (127, .iconst 0, 1), (128, .putfield 128, 3), (131, .aload_n 0, 1), (132, .iconst (-1), 1), (133, .putfield 13, 3), (136, .iload_n 2, 1), (137, .ireturn, 1)]
theorem kx_M_request : kt_tab kb_M_request kw_M_request = true := by decide +kernel
abbrev kb_M_perform : ByteArray := prog_9_method_34_code
def ky_M_perform : MethodName := ⟨RX7, "perform", "(I)I"⟩
def kw_M_perform : List (Nat × Instr × Nat) := [(0, .iload_n 1, 1), (1, .iconst 1, 1), (2, .if_icmp .ne 8, 3), (5, .aload_n 0, 1), (6, .invokevirtual 193, 3), (9, .ireturn, 1), (10, .iload_n 1, 1), (11, .iconst 2, 1), (12, .if_icmp .ne 8, 3), (15, .aload_n 0, 1), (16, .invokevirtual 196, 3), (19, .ireturn, 1), (20, .iload_n 1, 1), (21, .bipush 8, 2), (23, .if_icmp .ne 8, 3), (26, .aload_n 0, 1), (27, .invokevirtual 199, 3), (30, .ireturn, 1), (31, .iload_n 1, 1), (32, .bipush 6, 2), (34, .if_icmp .ne 8, 3), (37, .aload_n 0, 1), (38, .invokevirtual 202, 3), (41, .ireturn, 1), (42, .iload_n 1, 1), (43, .iconst 4, 1), (44, .if_icmp .ne 10, 3), (47, .aload_n 0, 1), (48, .invokevirtual 205, 3), (51, .goto 7, 3), (54, .aload_n 0, 1), (55, .invokevirtual 208, 3), (58, .ireturn, 1)]
theorem kx_M_perform : kt_tab kb_M_perform kw_M_perform = true := by decide +kernel
abbrev kb_M_ticketWrong : ByteArray := prog_9_method_35_code
def ky_M_ticketWrong : MethodName := ⟨RX7, "ticketWrong", "(I)Z"⟩
def kw_M_ticketWrong : List (Nat × Instr × Nat) := [(0, .aload_n 0, 1), (1, .getfield 125, 3), (4, .ifCond .eq 15, 3), (7, .aload_n 0, 1), (8, .iload_n 1, 1), (9, .invokevirtual 211, 3), (12, .aload_n 0, 1), (13, .getfield 125, 3), (16, .if_icmp .eq 7, 3), (19, .iconst 1, 1), (20, .goto 4, 3), (23, .iconst 0, 1), (24, .ireturn, 1)]
theorem kx_M_ticketWrong : kt_tab kb_M_ticketWrong kw_M_ticketWrong = true := by decide +kernel
abbrev kb_M_make : ByteArray := prog_9_method_36_code
def ky_M_make : MethodName := ⟨RX7, "make", "()I"⟩
def kw_M_make : List (Nat × Instr × Nat) := [(0, .aload_n 0, 1), (1, .iconst 1, 1), (2, .iconst 0, 1), (3, .invokevirtual 214, 3), (6, .ifCond .eq 40, 3), (9, .aload_n 0, 1), (10, .iconst 2, 1), (11, .iconst 3, 1), (12, .invokevirtual 214, 3), (15, .ifCond .eq 31, 3), (18, .aload_n 0, 1), (19, .iconst 3, 1), (20, .iconst 0, 1), (21, .invokevirtual 214, 3), (24, .ifCond .eq 22, 3), (27, .aload_n 0, 1), (28, .iconst 5, 1), (29, .iconst 4, 1), (30, .invokevirtual 214, 3), (33, .ifCond .eq 13, 3), (36, .aload_n 0, 1), (37, .bipush 8, 2), (39, .iconst 0, 1), (40, .invokevirtual 214, 3), (43, .ifCond .ne 5, 3), (46, .iconst 3, 1), (47, .ireturn, 1), (48, .aload_n 0, 1), (49, .iconst 1, 1), (50, .invokevirtual 218, 3), (53, .ifCond .eq 19, 3), (56, .aload_n 0, 1), (57, .iconst 2, 1), (58, .invokevirtual 218, 3), (61, .ifCond .eq 11, 3), (64, .aload_n 0, 1), (65, .iconst 3, 1), (66, .invokevirtual 218, 3), (69, .ifCond .ne 5, 3), (72, .iconst 4, 1), (73, .ireturn, 1), (74, .aload_n 0, 1), (75, .iconst 2, 1), (76, .invokevirtual 211, 3), (79, .iconst 1, 1), (80, .if_icmp .lt 13, 3), (83, .aload_n 0, 1), (84, .iconst 2, 1), (85, .invokevirtual 211, 3), (88, .bipush 8, 2), (90, .if_icmp .le 5, 3), (93, .iconst 5, 1), (94, .ireturn, 1), (95, .aload_n 0, 1), (96, .iconst 0, 1), (97, .invokevirtual 86, 3), (100, .ifCond .lt 7, 3), (103, .iconst 1, 1), (104, .goto 4, 3), (107, .iconst 0, 1), (108, .istore_n 1, 1), (109, .iload_n 1, 1), (110, .ifCond .eq 24, 3), (113, .aload_n 0, 1), (114, .bipush 8, 2), (116, .invokevirtual 218, 3), (119, .ifCond .eq 12, 3), (122, .aload_n 0, 1), (123, .bipush 8, 2), (125, .invokevirtual 221, 3), (128, .ifCond .eq 6, 3), (131, .bipush 14, 2), (133, .ireturn, 1), (134, .aload_n 0, 1), (135, .iconst 2, 1), (136, .invokevirtual 224, 3), (139, .istore_n 2, 1), (140, .iconst 1, 1), (141, .istore_n 3, 1), (142, .iload_n 3, 1), (143, .bipush 7, 2), (145, .if_icmp .ge 47, 3), (148, .aload_n 0, 1), (149, .iconst 5, 1), (150, .invokevirtual 218, 3), (153, .ifCond .eq 39, 3), (156, .aload_n 0, 1), (157, .iload_n 3, 1), (158, .invokevirtual 86, 3), (161, .ifCond .lt 25, 3), (164, .aload_n 0, 1), (165, .iload_n 3, 1), (166, .iconst 1, 1), (167, .invokevirtual 227, 3), (170, .iload_n 2, 1), (171, .if_icmp .ne 15, 3), (174, .aload_n 0, 1), (175, .iconst 5, 1), (176, .iload_n 3, 1), (177, .invokevirtual 231, 3), (180, .ifCond .eq 6, 3), (183, .bipush 8, 2), (185, .ireturn, 1), (186, .iinc 3 1, 3), (189, .goto (-47), 3), (192, .aload_n 0, 1), (193, .getfield 119, 3), (196, .ifCond .ne 6, 3), (199, .bipush 7, 2), (201, .ireturn, 1), (202, .aload_n 0, 1), (203, .iconst 0, 1), (204, .putfield 119, 3), (207, .aload_n 0, 1), (208, .iconst 3, 1), (209, .invokevirtual 211, 3), (212, .istore_n 3, 1), (213, .iconst 0, 1), (214, .istore 4, 2), (216, .bipush 6, 2), (218, .istore 5, 2), (220, .iload 5, 2), (222, .ifCond .le 27, 3), (225, .aload_n 0, 1), (226, .iload 5, 2), (228, .invokevirtual 86, 3), (231, .ifCond .ge 8, 3), (234, .iload 5, 2), (236, .goto 5, 3), (239, .iload 4, 2), (241, .istore 4, 2), (243, .iinc 5 (-1), 3), (246, .goto (-26), 3), (249, .iconst 1, 1), (250, .istore 5, 2), (252, .iload 5, 2), (254, .bipush 7, 2), (256, .if_icmp .ge 49, 3), (259, .aload_n 0, 1), (260, .iload 5, 2), (262, .invokevirtual 86, 3), (265, .ifCond .lt 30, 3), (268, .aload_n 0, 1), (269, .iload 5, 2), (271, .iconst 1, 1), (272, .invokevirtual 227, 3), (275, .iload_n 2, 1), (276, .if_icmp .ne 19, 3), (279, .aload_n 0, 1), (280, .iload 5, 2), (282, .iconst 2, 1), (283, .invokevirtual 227, 3), (286, .iload_n 3, 1), (287, .if_icmp .ne 8, 3), (290, .iload 5, 2), (292, .goto 5, 3), (295, .iload 4, 2), (297, .istore 4, 2), (299, .iinc 5 1, 3), (302, .goto (-50), 3), (305, .iload 4, 2), (307, .ifCond .eq 12, 3), (310, .aload_n 0, 1), (311, .iload 4, 2), (313, .invokevirtual 234, 3), (316, .ifCond .ne 6, 3), (319, .bipush 6, 2), (321, .ireturn, 1), (322, .aload_n 0, 1), (323, .dup, 1), (324, .getfield 237, 3), (327, .iconst 1, 1), (328, .iadd, 1), (329, .putfield 237, 3), (332, .aload_n 0, 1), (333, .iconst 1, 1), (334, .invokevirtual 211, 3), (337, .istore 5, 2), (339, .aload_n 0, 1), (340, .iload 4, 2), (342, .iload_n 2, 1), (343, .iload_n 3, 1), (344, .aload_n 0, 1), (345, .getfield 237, 3), (348, .iconst 0, 1), (349, .invokevirtual 240, 3), (352, .ifCond .ne 5, 3), (355, .iconst (-1), 1), (356, .ireturn, 1), (357, .aload_n 0, 1), (358, .iconst 1, 1), (359, .aload_n 0, 1), (360, .getfield 237, 3), (363, .iload_n 2, 1), (364, .iload 5, 2), (366, .iconst 0, 1), (367, .iload_n 1, 1), (368, .ifCond .eq 7, 3), (371, .iconst 1, 1), (372, .goto 4, 3), (375, .iconst 0, 1), (376, .invokevirtual 244, 3), (379, .aload_n 0, 1), (380, .iconst 3, 1), (381, .invokevirtual 187, 3), (384, .aload_n 0, 1), (385, .iconst 1, 1), (386, .iload 4, 2), (388, .invokevirtual 248, 3), (391, .aload_n 0, 1), (392, .iconst 2, 1), (393, .aload_n 0, 1), (394, .getfield 237, 3), (397, .invokevirtual 248, 3), (400, .aload_n 0, 1), (401, .iconst 3, 1), (402, .aload_n 0, 1), (403, .getfield 252, 3), (406, .invokevirtual 248, 3), (409, .iconst 0, 1), (410, .ireturn, 1)]
theorem kx_M_make : kt_tab kb_M_make kw_M_make = true := by decide +kernel
abbrev kb_M_sign : ByteArray := prog_9_method_37_code
def ky_M_sign : MethodName := ⟨RX7, "sign", "(IIIIII)V"⟩
def kw_M_sign : List (Nat × Instr × Nat) := [(0, .bipush 6, 2), (2, .aload_n 0, 1), (3, .getfield 252, 3), (6, .bipush 40, 2), (8, .irem, 1), (9, .imul, 1), (10, .istore 7, 2), (12, .aload_n 0, 1), (13, .dup, 1), (14, .getfield 252, 3), (17, .iconst 1, 1), (18, .iadd, 1), (19, .putfield 252, 3), (22, .aload_n 0, 1), (23, .getfield 30, 3), (26, .iload 7, 2), (28, .iload_n 1, 1), (29, .iastore, 1), (30, .aload_n 0, 1), (31, .getfield 30, 3), (34, .iload 7, 2), (36, .iconst 1, 1), (37, .iadd, 1), (38, .iload_n 2, 1), (39, .iastore, 1), (40, .aload_n 0, 1), (41, .getfield 30, 3), (44, .iload 7, 2), (46, .iconst 2, 1), (47, .iadd, 1), (48, .iload_n 3, 1), (49, .iastore, 1), (50, .aload_n 0, 1), (51, .getfield 30, 3), (54, .iload 7, 2), (56, .iconst 3, 1), (57, .iadd, 1), (58, .iload 4, 2), (60, .iastore, 1), (61, .aload_n 0, 1), (62, .getfield 30, 3), (65, .iload 7, 2), (67, .iconst 4, 1), (68, .iadd, 1), (69, .iload 5, 2), (71, .iastore, 1), (72, .aload_n 0, 1), (73, .getfield 30, 3), (76, .iload 7, 2), (78, .iconst 5, 1), (79, .iadd, 1), (80, .iload 6, 2), (82, .iastore, 1), (83, .return_, 1)]
theorem kx_M_sign : kt_tab kb_M_sign kw_M_sign = true := by decide +kernel
abbrev kb_M_ask : ByteArray := prog_9_method_38_code
def ky_M_ask : MethodName := ⟨RX7, "ask", "()I"⟩
def kw_M_ask : List (Nat × Instr × Nat) := [(0, .aload_n 0, 1), (1, .iconst 1, 1), (2, .iconst 3, 1), (3, .invokevirtual 214, 3), (6, .ifCond .eq 31, 3), (9, .aload_n 0, 1), (10, .iconst 2, 1), (11, .iconst 0, 1), (12, .invokevirtual 214, 3), (15, .ifCond .eq 22, 3), (18, .aload_n 0, 1), (19, .iconst 3, 1), (20, .iconst 4, 1), (21, .invokevirtual 214, 3), (24, .ifCond .eq 13, 3), (27, .aload_n 0, 1), (28, .bipush 6, 2), (30, .iconst 0, 1), (31, .invokevirtual 214, 3), (34, .ifCond .ne 5, 3), (37, .iconst 3, 1), (38, .ireturn, 1), (39, .aload_n 0, 1), (40, .iconst 1, 1), (41, .invokevirtual 218, 3), (44, .ifCond .eq 11, 3), (47, .aload_n 0, 1), (48, .iconst 2, 1), (49, .invokevirtual 218, 3), (52, .ifCond .ne 5, 3), (55, .iconst 4, 1), (56, .ireturn, 1), (57, .aload_n 0, 1), (58, .iconst 1, 1), (59, .invokevirtual 211, 3), (62, .iconst 1, 1), (63, .if_icmp .lt 13, 3), (66, .aload_n 0, 1), (67, .iconst 1, 1), (68, .invokevirtual 211, 3), (71, .bipush 8, 2), (73, .if_icmp .le 5, 3), (76, .iconst 5, 1), (77, .ireturn, 1), (78, .aload_n 0, 1), (79, .bipush 6, 2), (81, .invokevirtual 218, 3), (84, .ifCond .eq 15, 3), (87, .aload_n 0, 1), (88, .bipush 6, 2), (90, .invokevirtual 221, 3), (93, .ifCond .eq 6, 3), (96, .bipush 14, 2), (98, .ireturn, 1), (99, .aload_n 0, 1), (100, .iconst 1, 1), (101, .invokevirtual 224, 3), (104, .istore_n 1, 1), (105, .iconst 0, 1), (106, .istore_n 2, 1), (107, .iconst 1, 1), (108, .istore_n 3, 1), (109, .iload_n 3, 1), (110, .bipush 7, 2), (112, .if_icmp .ge 114, 3), (115, .aload_n 0, 1), (116, .iload_n 3, 1), (117, .invokevirtual 86, 3), (120, .ifCond .lt 100, 3), (123, .aload_n 0, 1), (124, .iload_n 3, 1), (125, .iconst 1, 1), (126, .invokevirtual 227, 3), (129, .iload_n 1, 1), (130, .if_icmp .ne 90, 3), (133, .aload_n 0, 1), (134, .iconst 3, 1), (135, .invokevirtual 218, 3), (138, .ifCond .eq 12, 3), (141, .aload_n 0, 1), (142, .iconst 3, 1), (143, .iload_n 3, 1), (144, .invokevirtual 231, 3), (147, .ifCond .eq 73, 3), (150, .iload_n 2, 1), (151, .istore 4, 2), (153, .iload 4, 2), (155, .ifCond .le 54, 3), (158, .aload_n 0, 1), (159, .aload_n 0, 1), (160, .aload_n 0, 1), (161, .getfield 27, 3), (164, .iload 4, 2), (166, .iconst 1, 1), (167, .isub, 1), (168, .iaload, 1), (169, .invokevirtual 86, 3), (172, .invokevirtual 102, 3), (175, .aload_n 0, 1), (176, .aload_n 0, 1), (177, .iload_n 3, 1), (178, .invokevirtual 86, 3), (181, .invokevirtual 102, 3), (184, .if_icmp .ge 25, 3), (187, .aload_n 0, 1), (188, .getfield 27, 3), (191, .iload 4, 2), (193, .aload_n 0, 1), (194, .getfield 27, 3), (197, .iload 4, 2), (199, .iconst 1, 1), (200, .isub, 1), (201, .iaload, 1), (202, .iastore, 1), (203, .iinc 4 (-1), 3), (206, .goto (-53), 3), (209, .aload_n 0, 1), (210, .getfield 27, 3), (213, .iload 4, 2), (215, .iload_n 3, 1), (216, .iastore, 1), (217, .iinc 2 1, 3), (220, .iinc 3 1, 3), (223, .goto (-114), 3), (226, .iload_n 2, 1), (227, .ifCond .ne 6, 3), (230, .bipush 9, 2), (232, .ireturn, 1), (233, .aload_n 0, 1), (234, .getfield 119, 3), (237, .ifCond .ne 6, 3), (240, .bipush 7, 2), (242, .ireturn, 1), (243, .aload_n 0, 1), (244, .iconst 0, 1), (245, .putfield 119, 3), (248, .aload_n 0, 1), (249, .iload_n 2, 1), (250, .putfield 134, 3), (253, .aload_n 0, 1), (254, .aload_n 0, 1), (255, .iconst 2, 1), (256, .invokevirtual 211, 3), (259, .putfield 255, 3), (262, .aload_n 0, 1), (263, .aload_n 0, 1), (264, .bipush 6, 2), (266, .invokevirtual 218, 3), (269, .ifCond .eq 7, 3), (272, .iconst 1, 1), (273, .goto 4, 3), (276, .iconst 0, 1), (277, .putfield 258, 3), (280, .aload_n 0, 1), (281, .iload_n 2, 1), (282, .invokevirtual 261, 3), (285, .ireturn, 1)]
theorem kx_M_ask : kt_tab kb_M_ask kw_M_ask = true := by decide +kernel
abbrev kb_M_signNext : ByteArray := prog_9_method_39_code
def ky_M_signNext : MethodName := ⟨RX7, "signNext", "(I)I"⟩
def kw_M_signNext : List (Nat × Instr × Nat) := [(0, .aload_n 0, 1), (1, .getfield 27, 3), (4, .iconst 0, 1), (5, .iaload, 1), (6, .istore_n 2, 1), (7, .iconst 1, 1), (8, .istore_n 3, 1), (9, .iload_n 3, 1), (10, .aload_n 0, 1), (11, .getfield 134, 3), (14, .if_icmp .ge 23, 3), (17, .aload_n 0, 1), (18, .getfield 27, 3), (21, .iload_n 3, 1), (22, .iconst 1, 1), (23, .isub, 1), (24, .aload_n 0, 1), (25, .getfield 27, 3), (28, .iload_n 3, 1), (29, .iaload, 1), (30, .iastore, 1), (31, .iinc 3 1, 3), (34, .goto (-25), 3), (37, .aload_n 0, 1), (38, .dup, 1), (39, .getfield 134, 3), (42, .iconst 1, 1), (43, .isub, 1), (44, .putfield 134, 3), (47, .aload_n 0, 1), (48, .iload_n 2, 1), (49, .iconst 1, 1), (50, .invokevirtual 227, 3), (53, .istore_n 3, 1), (54, .aload_n 0, 1), (55, .iload_n 2, 1), (56, .iconst 2, 1), (57, .invokevirtual 227, 3), (60, .istore 4, 2), (62, .aload_n 0, 1), (63, .iload_n 2, 1), (64, .iconst 3, 1), (65, .invokevirtual 227, 3), (68, .istore 5, 2), (70, .aload_n 0, 1), (71, .iload_n 2, 1), (72, .iconst 4, 1), (73, .invokevirtual 227, 3), (76, .iconst 1, 1), (77, .iadd, 1), (78, .istore 6, 2), (80, .aload_n 0, 1), (81, .iload_n 2, 1), (82, .iload_n 3, 1), (83, .iload 4, 2), (85, .iload 5, 2), (87, .iload 6, 2), (89, .invokevirtual 240, 3), (92, .ifCond .ne 5, 3), (95, .iconst (-1), 1), (96, .ireturn, 1), (97, .aload_n 0, 1), (98, .iconst 2, 1), (99, .iload 5, 2), (101, .iload_n 3, 1), (102, .aload_n 0, 1), (103, .getfield 255, 3), (106, .iload 6, 2), (108, .aload_n 0, 1), (109, .getfield 258, 3), (112, .invokevirtual 244, 3), (115, .aload_n 0, 1), (116, .iload_n 1, 1), (117, .ifCond .le 8, 3), (120, .bipush 6, 2), (122, .goto 4, 3), (125, .iconst 5, 1), (126, .invokevirtual 187, 3), (129, .aload_n 0, 1), (130, .iconst 1, 1), (131, .iload_n 2, 1), (132, .invokevirtual 248, 3), (135, .aload_n 0, 1), (136, .iconst 2, 1), (137, .iload 5, 2), (139, .invokevirtual 248, 3), (142, .aload_n 0, 1), (143, .iconst 3, 1), (144, .aload_n 0, 1), (145, .getfield 252, 3), (148, .invokevirtual 248, 3), (151, .aload_n 0, 1), (152, .iconst 4, 1), (153, .iload 6, 2), (155, .invokevirtual 248, 3), (158, .iload_n 1, 1), (159, .ifCond .le 9, 3), (162, .aload_n 0, 1), (163, .iconst 5, 1), (164, .iload_n 1, 1), (165, .invokevirtual 248, 3), (168, .aload_n 0, 1), (169, .bipush 6, 2), (171, .iload 4, 2), (173, .invokevirtual 248, 3), (176, .iconst 0, 1), (177, .ireturn, 1)]
theorem kx_M_signNext : kt_tab kb_M_signNext kw_M_signNext = true := by decide +kernel
abbrev kb_M_next : ByteArray := prog_9_method_40_code
def ky_M_next : MethodName := ⟨RX7, "next", "()I"⟩
def kw_M_next : List (Nat × Instr × Nat) := [(0, .aload_n 0, 1), (1, .getfield 134, 3), (4, .ifCond .ne 7, 3), (7, .iconst 5, 1), (8, .goto 8, 3), (11, .aload_n 0, 1), (12, .iconst 0, 1), (13, .invokevirtual 261, 3), (16, .ireturn, 1)]
theorem kx_M_next : kt_tab kb_M_next kw_M_next = true := by decide +kernel
abbrev kb_M_info : ByteArray := prog_9_method_41_code
def ky_M_info : MethodName := ⟨RX7, "info", "()I"⟩
def kw_M_info : List (Nat × Instr × Nat) := [(0, .iconst 0, 1), (1, .istore_n 1, 1), (2, .iconst 1, 1), (3, .istore_n 2, 1), (4, .iload_n 2, 1), (5, .bipush 7, 2), (7, .if_icmp .ge 25, 3), (10, .aload_n 0, 1), (11, .iload_n 2, 1), (12, .invokevirtual 86, 3), (15, .ifCond .lt 9, 3), (18, .iload_n 1, 1), (19, .iconst 1, 1), (20, .iadd, 1), (21, .goto 4, 3), (24, .iload_n 1, 1), (25, .istore_n 1, 1), (26, .iinc 2 1, 3), (29, .goto (-25), 3), (32, .aload_n 0, 1), (33, .iconst 3, 1), (34, .invokevirtual 187, 3), (37, .aload_n 0, 1), (38, .iconst 1, 1), (39, .iload_n 1, 1), (40, .invokevirtual 248, 3), (43, .aload_n 0, 1), (44, .iconst 2, 1), (45, .invokevirtual 178, 3), (48, .aload_n 0, 1), (49, .aload_n 0, 1), (50, .iconst 0, 1), (51, .invokevirtual 86, 3), (54, .ifCond .lt 9, 3), (57, .sipush 245, 3), (60, .goto 6, 3), (63, .sipush 244, 3), (66, .invokevirtual 178, 3), (69, .aload_n 0, 1), (70, .iconst 3, 1), (71, .aload_n 0, 1), (72, .invokevirtual 98, 3), (75, .invokevirtual 248, 3), (78, .iconst 0, 1), (79, .ireturn, 1)]
theorem kx_M_info : kt_tab kb_M_info kw_M_info = true := by decide +kernel
abbrev kb_M_reset : ByteArray := prog_9_method_42_code
def ky_M_reset : MethodName := ⟨RX7, "reset", "()I"⟩
def kw_M_reset : List (Nat × Instr × Nat) := [(0, .aload_n 0, 1), (1, .getfield 119, 3), (4, .ifCond .ne 6, 3), (7, .bipush 7, 2), (9, .ireturn, 1), (10, .aload_n 0, 1), (11, .iconst 0, 1), (12, .putfield 119, 3), (15, .iconst 0, 1), (16, .istore_n 1, 1), (17, .iload_n 1, 1), (18, .bipush 7, 2), (20, .if_icmp .ge 31, 3), (23, .aload_n 0, 1), (24, .iload_n 1, 1), (25, .invokevirtual 76, 3), (28, .ifCond .ne 17, 3), (31, .aload_n 0, 1), (32, .invokevirtual 105, 3), (35, .ifCond .ne 5, 3), (38, .iconst (-1), 1), (39, .ireturn, 1), (40, .aload_n 0, 1), (41, .iload_n 1, 1), (42, .invokevirtual 112, 3), (45, .iinc 1 1, 3), (48, .goto (-31), 3), (51, .aload_n 0, 1), (52, .iconst 0, 1), (53, .putfield 125, 3), (56, .aload_n 0, 1), (57, .iconst 0, 1), (58, .putfield 122, 3), (61, .iconst 0, 1), (62, .ireturn, 1)]
theorem kx_M_reset : kt_tab kb_M_reset kw_M_reset = true := by decide +kernel
abbrev kb_M_pin : ByteArray := prog_9_method_43_code
def ky_M_pin : MethodName := ⟨RX7, "pin", "()I"⟩
def kw_M_pin : List (Nat × Instr × Nat) := [(0, .aload_n 0, 1), (1, .iconst 1, 1), (2, .iconst 0, 1), (3, .invokevirtual 214, 3), (6, .ifCond .eq 21, 3), (9, .aload_n 0, 1), (10, .iconst 2, 1), (11, .iconst 3, 1), (12, .invokevirtual 214, 3), (15, .ifCond .eq 12, 3), (18, .aload_n 0, 1), (19, .iconst 3, 1), (20, .iconst 3, 1), (21, .invokevirtual 214, 3), (24, .ifCond .ne 5, 3), (27, .iconst 3, 1), (28, .ireturn, 1), (29, .aload_n 0, 1), (30, .iconst 1, 1), (31, .invokevirtual 218, 3), (34, .ifCond .eq 11, 3), (37, .aload_n 0, 1), (38, .iconst 1, 1), (39, .invokevirtual 211, 3), (42, .goto 4, 3), (45, .iconst 0, 1), (46, .istore_n 1, 1), (47, .aload_n 0, 1), (48, .iconst 1, 1), (49, .invokevirtual 218, 3), (52, .ifCond .eq 39, 3), (55, .iload_n 1, 1), (56, .iconst 4, 1), (57, .if_icmp .eq 8, 3), (60, .iload_n 1, 1), (61, .iconst 5, 1), (62, .if_icmp .ne 11, 3), (65, .aload_n 0, 1), (66, .iconst 2, 1), (67, .invokevirtual 218, 3), (70, .ifCond .eq 21, 3), (73, .iload_n 1, 1), (74, .iconst 3, 1), (75, .if_icmp .eq 8, 3), (78, .iload_n 1, 1), (79, .iconst 4, 1), (80, .if_icmp .ne 13, 3), (83, .aload_n 0, 1), (84, .iconst 3, 1), (85, .invokevirtual 218, 3), (88, .ifCond .ne 5, 3), (91, .iconst 4, 1), (92, .ireturn, 1), (93, .aload_n 0, 1), (94, .iconst 0, 1), (95, .invokevirtual 86, 3), (98, .ifCond .lt 7, 3), (101, .iconst 1, 1), (102, .goto 4, 3), (105, .iconst 0, 1), (106, .istore_n 2, 1), (107, .iload_n 1, 1), (108, .iconst 1, 1), (109, .if_icmp .ne 30, 3), (112, .aload_n 0, 1), (113, .iconst 1, 1), (114, .invokevirtual 187, 3), (117, .aload_n 0, 1), (118, .iconst 1, 1), (119, .iload_n 2, 1), (120, .ifCond .eq 12, 3), (123, .aload_n 0, 1), (124, .iconst 0, 1), (125, .iconst 2, 1), (126, .invokevirtual 227, 3), (129, .goto 5, 3), (132, .bipush 8, 2), (134, .invokevirtual 248, 3), (137, .iconst 0, 1), (138, .ireturn, 1), (139, .aload_n 0, 1), (140, .iconst 3, 1), (141, .invokevirtual 218, 3), (144, .ifCond .eq 26, 3), (147, .aload_n 0, 1), (148, .iconst 3, 1), (149, .invokevirtual 211, 3), (152, .iconst 4, 1), (153, .if_icmp .lt 17, 3), (156, .aload_n 0, 1), (157, .iconst 3, 1), (158, .invokevirtual 211, 3), (161, .bipush 8, 2), (163, .if_icmp .gt 7, 3), (166, .iconst 1, 1), (167, .goto 4, 3), (170, .iconst 0, 1), (171, .istore_n 3, 1), (172, .iload_n 1, 1), (173, .iconst 3, 1), (174, .if_icmp .ne 56, 3), (177, .iload_n 2, 1), (178, .ifCond .eq 7, 3), (181, .iconst 5, 1), (182, .goto 47, 3), (185, .iload_n 3, 1), (186, .ifCond .ne 8, 3), (189, .bipush 15, 2), (191, .goto 38, 3), (194, .aload_n 0, 1), (195, .iconst 0, 1), (196, .invokevirtual 234, 3), (199, .ifCond .ne 8, 3), (202, .bipush 6, 2), (204, .goto 25, 3), (207, .aload_n 0, 1), (208, .iconst 0, 1), (209, .aload_n 0, 1), (210, .iconst 3, 1), (211, .invokevirtual 224, 3), (214, .bipush 8, 2), (216, .iconst 0, 1), (217, .iconst 0, 1), (218, .invokevirtual 240, 3), (221, .ifCond .eq 7, 3), (224, .iconst 0, 1), (225, .goto 4, 3), (228, .iconst (-1), 1), (229, .ireturn, 1), (230, .iload_n 1, 1), (231, .iconst 4, 1), (232, .if_icmp .eq 10, 3), (235, .iload_n 1, 1), (236, .iconst 5, 1), (237, .if_icmp .eq 5, 3), (240, .iconst 5, 1), (241, .ireturn, 1), (242, .iload_n 2, 1), (243, .ifCond .ne 6, 3), (246, .bipush 13, 2), (248, .ireturn, 1), (249, .aload_n 0, 1), (250, .iconst 0, 1), (251, .iconst 2, 1), (252, .invokevirtual 227, 3), (255, .ifCond .ne 6, 3), (258, .bipush 11, 2), (260, .ireturn, 1), (261, .aload_n 0, 1), (262, .getfield 122, 3), (265, .iconst 3, 1), (266, .if_icmp .ne 6, 3), (269, .bipush 12, 2), (271, .ireturn, 1), (272, .iload_n 1, 1), (273, .iconst 4, 1), (274, .if_icmp .ne 12, 3), (277, .iload_n 3, 1), (278, .ifCond .ne 8, 3), (281, .bipush 15, 2), (283, .goto 8, 3), (286, .aload_n 0, 1), (287, .iload_n 1, 1), (288, .invokevirtual 264, 3), (291, .ireturn, 1)]
theorem kx_M_pin : kt_tab kb_M_pin kw_M_pin = true := by decide +kernel
abbrev kb_M_tried : ByteArray := prog_9_method_44_code
def ky_M_tried : MethodName := ⟨RX7, "tried", "(I)I"⟩
def kw_M_tried : List (Nat × Instr × Nat) := [(0, .aload_n 0, 1), (1, .iconst 0, 1), (2, .iconst 1, 1), (3, .invokevirtual 227, 3), (6, .istore_n 2, 1), (7, .aload_n 0, 1), (8, .iconst 0, 1), (9, .iconst 2, 1), (10, .invokevirtual 227, 3), (13, .iconst 1, 1), (14, .isub, 1), (15, .istore_n 3, 1), (16, .aload_n 0, 1), (17, .iconst 0, 1), (18, .iload_n 2, 1), (19, .iload_n 3, 1), (20, .iconst 0, 1), (21, .iconst 0, 1), (22, .invokevirtual 240, 3), (25, .ifCond .ne 5, 3), (28, .iconst (-1), 1), (29, .ireturn, 1), (30, .aload_n 0, 1), (31, .iconst 2, 1), (32, .invokevirtual 224, 3), (35, .iload_n 2, 1), (36, .if_icmp .eq 43, 3), (39, .aload_n 0, 1), (40, .dup, 1), (41, .getfield 122, 3), (44, .iconst 1, 1), (45, .iadd, 1), (46, .putfield 122, 3), (49, .aload_n 0, 1), (50, .iconst 0, 1), (51, .putfield 125, 3), (54, .iload_n 3, 1), (55, .ifCond .ne 8, 3), (58, .bipush 11, 2), (60, .goto 18, 3), (63, .aload_n 0, 1), (64, .getfield 122, 3), (67, .iconst 3, 1), (68, .if_icmp .ne 8, 3), (71, .bipush 12, 2), (73, .goto 5, 3), (76, .bipush 10, 2), (78, .ireturn, 1), (79, .aload_n 0, 1), (80, .iconst 0, 1), (81, .putfield 122, 3), (84, .aload_n 0, 1), (85, .iconst 0, 1), (86, .iload_n 1, 1), (87, .iconst 4, 1), (88, .if_icmp .ne 11, 3), (91, .aload_n 0, 1), (92, .iconst 3, 1), (93, .invokevirtual 224, 3), (96, .goto 4, 3), (99, .iload_n 2, 1), (100, .bipush 8, 2), (102, .iconst 0, 1), (103, .iconst 0, 1), (104, .invokevirtual 240, 3), (107, .ifCond .ne 5, 3), (110, .iconst (-1), 1), (111, .ireturn, 1), (112, .iload_n 1, 1), (113, .iconst 4, 1), (114, .if_icmp .ne 10, 3), (117, .aload_n 0, 1), (118, .iconst 0, 1), (119, .putfield 125, 3), (122, .iconst 0, 1), (123, .ireturn, 1), (124, .aload_n 0, 1), (125, .dup, 1), (126, .getfield 267, 3), (129, .iconst 1, 1), (130, .iadd, 1), (131, .putfield 267, 3), (134, .aload_n 0, 1), (135, .aload_n 0, 1), (136, .getfield 267, 3), (139, .putfield 125, 3), (142, .aload_n 0, 1), (143, .iconst 1, 1), (144, .invokevirtual 187, 3), (147, .aload_n 0, 1), (148, .iconst 1, 1), (149, .aload_n 0, 1), (150, .getfield 125, 3), (153, .invokevirtual 248, 3), (156, .iconst 0, 1), (157, .ireturn, 1)]
theorem kx_M_tried : kt_tab kb_M_tried kw_M_tried = true := by decide +kernel
abbrev kb_M_press : ByteArray := prog_9_method_45_code
def ky_M_press : MethodName := ⟨RX7, "press", "()Z"⟩
def kw_M_press : List (Nat × Instr × Nat) := [(0, .aload_n 0, 1), (1, .iconst 0, 1), (2, .putfield 73, 3), (5, .aload_n 0, 1), (6, .getfield 17, 3), (9, .ifCond .ne 5, 3), (12, .iconst 0, 1), (13, .ireturn, 1), (14, .aload_n 0, 1), (15, .iconst 1, 1), (16, .putfield 119, 3), (19, .iconst 1, 1), (20, .ireturn, 1)]
theorem kx_M_press : kt_tab kb_M_press kw_M_press = true := by decide +kernel
abbrev kb_M_feed : ByteArray := prog_9_method_46_code
def ky_M_feed : MethodName := ⟨RX7, "feed", "(JI)V"⟩
def kw_M_feed : List (Nat × Instr × Nat) := [(0, .aload_n 0, 1), (1, .aload_n 0, 1), (2, .getfield 17, 3), (5, .ifCond .ne 7, 3), (8, .iconst 1, 1), (9, .goto 30, 3), (12, .iload_n 3, 1), (13, .iconst 1, 1), (14, .if_icmp .lt 20, 3), (17, .iload_n 3, 1), (18, .bipush 8, 2), (20, .if_icmp .gt 14, 3), (23, .aload_n 0, 1), (24, .getfield 128, 3), (27, .iload_n 3, 1), (28, .iadd, 1), (29, .bipush 48, 2), (31, .if_icmp .le 7, 3), (34, .iconst 2, 1), (35, .goto 4, 3), (38, .iconst 0, 1), (39, .putfield 73, 3), (42, .iload_n 3, 1), (43, .iconst 1, 1), (44, .isub, 1), (45, .istore 4, 2), (47, .iload 4, 2), (49, .ifCond .lt 47, 3), (52, .aload_n 0, 1), (53, .getfield 73, 3), (56, .ifCond .ne 40, 3), (59, .aload_n 0, 1), (60, .getfield 21, 3), (63, .aload_n 0, 1), (64, .getfield 128, 3), (67, .lload_n 1, 1), (68, .bipush 8, 2), (70, .iload 4, 2), (72, .imul, 1), (73, .lshr, 1), (74, .ldc2_w 270, 3), (77, .land, 1), (78, .l2i, 1), (79, .iastore, 1), (80, .aload_n 0, 1), (81, .dup, 1), (82, .getfield 128, 3), (85, .iconst 1, 1), (86, .iadd, 1), (87, .putfield 128, 3), (90, .iinc 4 (-1), 3), (93, .goto (-46), 3), (96, .return_, 1)]
theorem kx_M_feed : kt_tab kb_M_feed kw_M_feed = true := by decide +kernel
abbrev kb_M_send : ByteArray := prog_9_method_47_code
def ky_M_send : MethodName := ⟨RX7, "send", "()I"⟩
def kw_M_send : List (Nat × Instr × Nat) := [(0, .aload_n 0, 1), (1, .aload_n 0, 1), (2, .getfield 17, 3), (5, .ifCond .eq 7, 3), (8, .iconst 0, 1), (9, .goto 4, 3), (12, .iconst 1, 1), (13, .putfield 73, 3), (16, .aload_n 0, 1), (17, .getfield 17, 3), (20, .ifCond .eq 10, 3), (23, .aload_n 0, 1), (24, .invokevirtual 272, 3), (27, .goto 4, 3), (30, .iconst 0, 1), (31, .ireturn, 1)]
theorem kx_M_send : kt_tab kb_M_send kw_M_send = true := by decide +kernel
abbrev kb_M_waiting : ByteArray := prog_9_method_48_code
def ky_M_waiting : MethodName := ⟨RX7, "waiting", "()I"⟩
def kw_M_waiting : List (Nat × Instr × Nat) := [(0, .aload_n 0, 1), (1, .iconst 0, 1), (2, .putfield 73, 3), (5, .aload_n 0, 1), (6, .getfield 131, 3), (9, .ireturn, 1)]
theorem kx_M_waiting : kt_tab kb_M_waiting kw_M_waiting = true := by decide +kernel
abbrev kb_M_take : ByteArray := prog_9_method_49_code
def ky_M_take : MethodName := ⟨RX7, "take", "()J"⟩
def kw_M_take : List (Nat × Instr × Nat) := [(0, .aload_n 0, 1), (1, .aload_n 0, 1), (2, .getfield 131, 3), (5, .ifCond .ne 7, 3), (8, .iconst 1, 1), (9, .goto 4, 3), (12, .iconst 0, 1), (13, .putfield 73, 3), (16, .aload_n 0, 1), (17, .getfield 131, 3), (20, .bipush 8, 2), (22, .if_icmp .ge 10, 3), (25, .aload_n 0, 1), (26, .getfield 131, 3), (29, .goto 5, 3), (32, .bipush 8, 2), (34, .istore_n 1, 1), (35, .lconst 0, 1), (36, .lstore_n 2, 1), (37, .iconst 0, 1), (38, .istore 4, 2), (40, .iload 4, 2), (42, .iload_n 1, 1), (43, .if_icmp .ge 23, 3), (46, .lload_n 2, 1), (47, .bipush 8, 2), (49, .lshl, 1), (50, .aload_n 0, 1), (51, .getfield 24, 3), (54, .iload 4, 2), (56, .iaload, 1), (57, .i2l, 1), (58, .lor, 1), (59, .lstore_n 2, 1), (60, .iinc 4 1, 3), (63, .goto (-23), 3), (66, .iload_n 1, 1), (67, .istore 4, 2), (69, .iload 4, 2), (71, .aload_n 0, 1), (72, .getfield 131, 3), (75, .if_icmp .ge 25, 3), (78, .aload_n 0, 1), (79, .getfield 24, 3), (82, .iload 4, 2), (84, .iload_n 1, 1), (85, .isub, 1), (86, .aload_n 0, 1), (87, .getfield 24, 3), (90, .iload 4, 2), (92, .iaload, 1), (93, .iastore, 1), (94, .iinc 4 1, 3), (97, .goto (-28), 3), (100, .aload_n 0, 1), (101, .dup, 1), (102, .getfield 131, 3), (105, .iload_n 1, 1), (106, .isub, 1), (107, .putfield 131, 3), (110, .lload_n 2, 1), (111, .lreturn, 1)]
theorem kx_M_take : kt_tab kb_M_take kw_M_take = true := by decide +kernel
abbrev kb_M_power : ByteArray := prog_9_method_50_code
def ky_M_power : MethodName := ⟨RX7, "power", "(Z)Z"⟩
def kw_M_power : List (Nat × Instr × Nat) := [(0, .aload_n 0, 1), (1, .iconst 0, 1), (2, .putfield 73, 3), (5, .iload_n 1, 1), (6, .aload_n 0, 1), (7, .getfield 17, 3), (10, .if_icmp .ne 5, 3), (13, .iconst 0, 1), (14, .ireturn, 1), (15, .iload_n 1, 1), (16, .ifCond .eq 10, 3), (19, .aload_n 0, 1), (20, .invokevirtual 275, 3), (23, .goto 7, 3), (26, .aload_n 0, 1), (27, .invokevirtual 92, 3), (30, .iconst 1, 1), (31, .ireturn, 1)]
theorem kx_M_power : kt_tab kb_M_power kw_M_power = true := by decide +kernel
abbrev kb_M_cut : ByteArray := prog_9_method_51_code
def ky_M_cut : MethodName := ⟨RX7, "cut", "(I)Z"⟩
def kw_M_cut : List (Nat × Instr × Nat) := [(0, .aload_n 0, 1), (1, .iconst 0, 1), (2, .putfield 73, 3), (5, .iload_n 1, 1), (6, .ifCond .lt 10, 3), (9, .aload_n 0, 1), (10, .getfield 17, 3), (13, .ifCond .ne 5, 3), (16, .iconst 0, 1), (17, .ireturn, 1), (18, .aload_n 0, 1), (19, .iload_n 1, 1), (20, .putfield 13, 3), (23, .iconst 1, 1), (24, .ireturn, 1)]
theorem kx_M_cut : kt_tab kb_M_cut kw_M_cut = true := by decide +kernel
abbrev kb_M_isParty : ByteArray := prog_9_method_52_code
def ky_M_isParty : MethodName := ⟨RX7, "isParty", "(I)Z"⟩
def kw_M_isParty : List (Nat × Instr × Nat) := [(0, .iload_n 0, 1), (1, .ifCond .lt 12, 3), (4, .iload_n 0, 1), (5, .iconst 4, 1), (6, .if_icmp .ge 7, 3), (9, .iconst 1, 1), (10, .goto 4, 3), (13, .iconst 0, 1), (14, .ireturn, 1)]
theorem kx_M_isParty : kt_tab kb_M_isParty kw_M_isParty = true := by decide +kernel
abbrev kb_M_open : ByteArray := prog_9_method_53_code
def ky_M_open : MethodName := ⟨RX7, "open", "(II)I"⟩
def kw_M_open : List (Nat × Instr × Nat) := [(0, .aload_n 0, 1), (1, .iload_n 1, 1), (2, .invokestatic 278, 3), (5, .ifCond .eq 13, 3), (8, .iload_n 2, 1), (9, .ifCond .lt 9, 3), (12, .iload_n 2, 1), (13, .bipush 99, 2), (15, .if_icmp .le 7, 3), (18, .iconst 1, 1), (19, .goto 4, 3), (22, .iconst 0, 1), (23, .putfield 73, 3), (26, .aload_n 0, 1), (27, .getfield 73, 3), (30, .ifCond .le 5, 3), (33, .iconst 0, 1), (34, .ireturn, 1), (35, .aload_n 0, 1), (36, .dup, 1), (37, .getfield 281, 3), (40, .iconst 1, 1), (41, .iadd, 1), (42, .putfield 281, 3), (45, .aload_n 0, 1), (46, .getfield 67, 3), (49, .iload_n 1, 1), (50, .aload_n 0, 1), (51, .getfield 281, 3), (54, .iastore, 1), (55, .aload_n 0, 1), (56, .getfield 70, 3), (59, .iload_n 1, 1), (60, .iload_n 2, 1), (61, .iastore, 1), (62, .aload_n 0, 1), (63, .getfield 281, 3), (66, .ireturn, 1)]
theorem kx_M_open : kt_tab kb_M_open kw_M_open = true := by decide +kernel
abbrev kb_M_in : ByteArray := prog_9_method_54_code
def ky_M_in : MethodName := ⟨RX7, "in", "(I)V"⟩
def kw_M_in : List (Nat × Instr × Nat) := [(0, .aload_n 0, 1), (1, .getfield 21, 3), (4, .aload_n 0, 1), (5, .getfield 128, 3), (8, .iload_n 1, 1), (9, .iastore, 1), (10, .aload_n 0, 1), (11, .dup, 1), (12, .getfield 128, 3), (15, .iconst 1, 1), (16, .iadd, 1), (17, .putfield 128, 3), (20, .return_, 1)]
theorem kx_M_in : kt_tab kb_M_in kw_M_in = true := by decide +kernel
abbrev kb_M_inPair : ByteArray := prog_9_method_55_code
def ky_M_inPair : MethodName := ⟨RX7, "inPair", "(II)V"⟩
def kw_M_inPair : List (Nat × Instr × Nat) := [(0, .aload_n 0, 1), (1, .iload_n 1, 1), (2, .invokevirtual 284, 3), (5, .aload_n 0, 1), (6, .getfield 131, 3), (9, .istore_n 3, 1), (10, .aload_n 0, 1), (11, .iconst 0, 1), (12, .putfield 131, 3), (15, .aload_n 0, 1), (16, .iload_n 2, 1), (17, .invokevirtual 182, 3), (20, .iconst 0, 1), (21, .istore 4, 2), (23, .iload 4, 2), (25, .aload_n 0, 1), (26, .getfield 131, 3), (29, .if_icmp .ge 20, 3), (32, .aload_n 0, 1), (33, .aload_n 0, 1), (34, .getfield 24, 3), (37, .iload 4, 2), (39, .iaload, 1), (40, .invokevirtual 284, 3), (43, .iinc 4 1, 3), (46, .goto (-23), 3), (49, .aload_n 0, 1), (50, .iload_n 3, 1), (51, .putfield 131, 3), (54, .return_, 1)]
theorem kx_M_inPair : kt_tab kb_M_inPair kw_M_inPair = true := by decide +kernel
abbrev kb_M_ceremony : ByteArray := prog_9_method_56_code
def ky_M_ceremony : MethodName := ⟨RX7, "ceremony", "(IIZI)I"⟩
def kw_M_ceremony : List (Nat × Instr × Nat) := [(0, .aload_n 0, 1), (1, .iload_n 1, 1), (2, .invokestatic 278, 3), (5, .ifCond .eq 10, 3), (8, .iload_n 2, 1), (9, .invokestatic 278, 3), (12, .ifCond .ne 7, 3), (15, .iconst 1, 1), (16, .goto 24, 3), (19, .aload_n 0, 1), (20, .getfield 17, 3), (23, .ifCond .eq 12, 3), (26, .aload_n 0, 1), (27, .getfield 67, 3), (30, .iload_n 1, 1), (31, .iaload, 1), (32, .ifCond .ne 7, 3), (35, .iconst 2, 1), (36, .goto 4, 3), (39, .iconst 0, 1), (40, .putfield 73, 3), (43, .aload_n 0, 1), (44, .getfield 73, 3), (47, .ifCond .le 5, 3), (50, .iconst 0, 1), (51, .ireturn, 1), (52, .aload_n 0, 1), (53, .iconst 0, 1), (54, .putfield 128, 3), (57, .aload_n 0, 1), (58, .iconst 0, 1), (59, .putfield 131, 3), (62, .iconst 4, 1), (63, .aload_n 0, 1), (64, .getfield 67, 3), (67, .iload_n 1, 1), (68, .iaload, 1), (69, .imul, 1), (70, .iload_n 2, 1), (71, .iadd, 1), (72, .istore 5, 2), (74, .aload_n 0, 1), (75, .iload_n 3, 1), (76, .ifCond .eq 7, 3), (79, .iconst 1, 1), (80, .goto 4, 3), (83, .iconst 2, 1), (84, .invokevirtual 284, 3), (87, .aload_n 0, 1), (88, .sipush 160, 3), (91, .iload_n 3, 1), (92, .ifCond .eq 7, 3), (95, .iconst 3, 1), (96, .goto 4, 3), (99, .iconst 2, 1), (100, .iadd, 1), (101, .iload 4, 2), (103, .ifCond .le 7, 3), (106, .iconst 1, 1), (107, .goto 4, 3), (110, .iconst 0, 1), (111, .iadd, 1), (112, .invokevirtual 284, 3), (115, .iload_n 3, 1), (116, .ifCond .eq 10, 3), (119, .aload_n 0, 1), (120, .iconst 1, 1), (121, .iload 5, 2), (123, .invokevirtual 287, 3), (126, .aload_n 0, 1), (127, .iload_n 3, 1), (128, .ifCond .eq 7, 3), (131, .iconst 2, 1), (132, .goto 4, 3), (135, .iconst 1, 1), (136, .invokevirtual 284, 3), (139, .aload_n 0, 1), (140, .bipush 97, 2), (142, .invokevirtual 284, 3), (145, .aload_n 0, 1), (146, .bipush 97, 2), (148, .iload_n 2, 1), (149, .iadd, 1), (150, .invokevirtual 284, 3), (153, .aload_n 0, 1), (154, .iload_n 3, 1), (155, .ifCond .eq 7, 3), (158, .iconst 3, 1), (159, .goto 4, 3), (162, .iconst 2, 1), (163, .iload_n 3, 1), (164, .ifCond .eq 12, 3), (167, .aload_n 0, 1), (168, .getfield 70, 3), (171, .iload_n 1, 1), (172, .iaload, 1), (173, .goto 5, 3), (176, .iload 5, 2), (178, .invokevirtual 287, 3), (181, .iload 4, 2), (183, .ifCond .le 20, 3), (186, .aload_n 0, 1), (187, .iload_n 3, 1), (188, .ifCond .eq 8, 3), (191, .bipush 8, 2), (193, .goto 5, 3), (196, .bipush 6, 2), (198, .iload 4, 2), (200, .invokevirtual 287, 3), (203, .aload_n 0, 1), (204, .invokevirtual 272, 3), (207, .istore 6, 2), (209, .aload_n 0, 1), (210, .iconst 0, 1), (211, .putfield 131, 3), (214, .iload 6, 2), (216, .iconst (-1), 1), (217, .if_icmp .ne 8, 3), (220, .bipush 99, 2), (222, .goto 29, 3), (225, .iload 6, 2), (227, .ifCond .eq 11, 3), (230, .bipush 100, 2), (232, .iload 6, 2), (234, .iadd, 1), (235, .goto 16, 3), (238, .aload_n 0, 1), (239, .iload_n 1, 1), (240, .aload_n 0, 1), (241, .getfield 252, 3), (244, .iconst 1, 1), (245, .isub, 1), (246, .iconst 0, 1), (247, .iconst 0, 1), (248, .invokevirtual 290, 3), (251, .ireturn, 1)]
theorem kx_M_ceremony : kt_tab kb_M_ceremony kw_M_ceremony = true := by decide +kernel
abbrev kb_M_judge : ByteArray := prog_9_method_57_code
def ky_M_judge : MethodName := ⟨RX7, "judge", "(IIII)I"⟩
def kw_M_judge : List (Nat × Instr × Nat) := [(0, .bipush 6, 2), (2, .iload_n 2, 1), (3, .bipush 40, 2), (5, .irem, 1), (6, .imul, 1), (7, .istore 5, 2), (9, .aload_n 0, 1), (10, .getfield 30, 3), (13, .iload 5, 2), (15, .iaload, 1), (16, .istore 6, 2), (18, .aload_n 0, 1), (19, .getfield 30, 3), (22, .iload 5, 2), (24, .iconst 1, 1), (25, .iadd, 1), (26, .iaload, 1), (27, .istore 7, 2), (29, .aload_n 0, 1), (30, .getfield 30, 3), (33, .iload 5, 2), (35, .iconst 4, 1), (36, .iadd, 1), (37, .iaload, 1), (38, .istore 8, 2), (40, .aload_n 0, 1), (41, .getfield 30, 3), (44, .iload 5, 2), (46, .iconst 2, 1), (47, .iadd, 1), (48, .iaload, 1), (49, .iload_n 3, 1), (50, .iconst 3, 1), (51, .if_icmp .ne 8, 3), (54, .iload 4, 2), (56, .goto 4, 3), (59, .iconst 0, 1), (60, .iadd, 1), (61, .istore 9, 2), (63, .aload_n 0, 1), (64, .getfield 30, 3), (67, .iload 5, 2), (69, .iconst 3, 1), (70, .iadd, 1), (71, .iaload, 1), (72, .iload_n 3, 1), (73, .iconst 4, 1), (74, .if_icmp .ne 8, 3), (77, .iload 4, 2), (79, .goto 4, 3), (82, .iconst 0, 1), (83, .iadd, 1), (84, .istore 10, 2), (86, .iload 10, 2), (88, .iconst 4, 1), (89, .aload_n 0, 1), (90, .getfield 67, 3), (93, .iload_n 1, 1), (94, .iaload, 1), (95, .imul, 1), (96, .iload_n 1, 1), (97, .iadd, 1), (98, .if_icmp .eq 5, 3), (101, .iconst 2, 1), (102, .ireturn, 1), (103, .iload 9, 2), (105, .sipush 752, 3), (108, .iload_n 1, 1), (109, .iadd, 1), (110, .if_icmp .eq 5, 3), (113, .iconst 3, 1), (114, .ireturn, 1), (115, .iload_n 3, 1), (116, .ifCond .eq 11, 3), (119, .iload 4, 2), (121, .ifCond .eq 6, 3), (124, .bipush 6, 2), (126, .ireturn, 1), (127, .iconst (-1), 1), (128, .istore 11, 2), (130, .iconst 0, 1), (131, .istore 12, 2), (133, .iload 12, 2), (135, .aload_n 0, 1), (136, .getfield 61, 3), (139, .iload_n 1, 1), (140, .iaload, 1), (141, .if_icmp .ge 37, 3), (144, .aload_n 0, 1), (145, .getfield 64, 3), (148, .bipush 18, 2), (150, .iload_n 1, 1), (151, .imul, 1), (152, .iconst 3, 1), (153, .iload 12, 2), (155, .imul, 1), (156, .iadd, 1), (157, .iaload, 1), (158, .iload 7, 2), (160, .if_icmp .ne 8, 3), (163, .iload 12, 2), (165, .goto 5, 3), (168, .iload 11, 2), (170, .istore 11, 2), (172, .iinc 12 1, 3), (175, .goto (-42), 3), (178, .iload 6, 2), (180, .iconst 1, 1), (181, .if_icmp .ne 7, 3), (184, .iconst 1, 1), (185, .goto 4, 3), (188, .iconst 0, 1), (189, .iload 11, 2), (191, .ifCond .lt 7, 3), (194, .iconst 1, 1), (195, .goto 4, 3), (198, .iconst 0, 1), (199, .if_icmp .ne 6, 3), (202, .bipush 8, 2), (204, .ireturn, 1), (205, .iload 6, 2), (207, .iconst 1, 1), (208, .if_icmp .ne 17, 3), (211, .aload_n 0, 1), (212, .getfield 61, 3), (215, .iload_n 1, 1), (216, .iaload, 1), (217, .bipush 6, 2), (219, .if_icmp .ne 6, 3), (222, .bipush 9, 2), (224, .ireturn, 1), (225, .iload 6, 2), (227, .iconst 2, 1), (228, .if_icmp .ne 27, 3), (231, .iload 8, 2), (233, .aload_n 0, 1), (234, .getfield 64, 3), (237, .bipush 18, 2), (239, .iload_n 1, 1), (240, .imul, 1), (241, .iconst 3, 1), (242, .iload 11, 2), (244, .imul, 1), (245, .iadd, 1), (246, .iconst 2, 1), (247, .iadd, 1), (248, .iaload, 1), (249, .if_icmp .gt 6, 3), (252, .bipush 7, 2), (254, .ireturn, 1), (255, .iload 6, 2), (257, .iconst 1, 1), (258, .if_icmp .ne 12, 3), (261, .aload_n 0, 1), (262, .getfield 61, 3), (265, .iload_n 1, 1), (266, .iaload, 1), (267, .goto 5, 3), (270, .iload 11, 2), (272, .istore 12, 2), (274, .iload 6, 2), (276, .iconst 1, 1), (277, .if_icmp .ne 51, 3), (280, .aload_n 0, 1), (281, .getfield 64, 3), (284, .bipush 18, 2), (286, .iload_n 1, 1), (287, .imul, 1), (288, .iconst 3, 1), (289, .iload 12, 2), (291, .imul, 1), (292, .iadd, 1), (293, .iload 7, 2), (295, .iastore, 1), (296, .aload_n 0, 1), (297, .getfield 64, 3), (300, .bipush 18, 2), (302, .iload_n 1, 1), (303, .imul, 1), (304, .iconst 3, 1), (305, .iload 12, 2), (307, .imul, 1), (308, .iadd, 1), (309, .iconst 1, 1), (310, .iadd, 1), (311, .aload_n 0, 1), (312, .getfield 70, 3), (315, .iload_n 1, 1), (316, .iaload, 1), (317, .iastore, 1), (318, .aload_n 0, 1), (319, .getfield 61, 3), (322, .iload_n 1, 1), (323, .dup2, 1), (324, .iaload, 1), (325, .iconst 1, 1), (326, .iadd, 1), (327, .iastore, 1), (328, .aload_n 0, 1), (329, .getfield 64, 3), (332, .bipush 18, 2), (334, .iload_n 1, 1), (335, .imul, 1), (336, .iconst 3, 1), (337, .iload 12, 2), (339, .imul, 1), (340, .iadd, 1), (341, .iconst 2, 1), (342, .iadd, 1), (343, .iload 8, 2), (345, .iastore, 1), (346, .aload_n 0, 1), (347, .getfield 67, 3), (350, .iload_n 1, 1), (351, .iconst 0, 1), (352, .iastore, 1), (353, .iconst 0, 1), (354, .ireturn, 1)]
theorem kx_M_judge : kt_tab kb_M_judge kw_M_judge = true := by decide +kernel
abbrev kb_M_isSignature : ByteArray := prog_9_method_58_code
def ky_M_isSignature : MethodName := ⟨RX7, "isSignature", "(I)Z"⟩
def kw_M_isSignature : List (Nat × Instr × Nat) := [(0, .iload_n 1, 1), (1, .iconst 1, 1), (2, .if_icmp .lt 26, 3), (5, .iload_n 1, 1), (6, .aload_n 0, 1), (7, .getfield 252, 3), (10, .if_icmp .gt 18, 3), (13, .iload_n 1, 1), (14, .aload_n 0, 1), (15, .getfield 252, 3), (18, .bipush 40, 2), (20, .isub, 1), (21, .if_icmp .le 7, 3), (24, .iconst 1, 1), (25, .goto 4, 3), (28, .iconst 0, 1), (29, .ireturn, 1)]
theorem kx_M_isSignature : kt_tab kb_M_isSignature kw_M_isSignature = true := by decide +kernel
abbrev kb_M_offer : ByteArray := prog_9_method_59_code
def ky_M_offer : MethodName := ⟨RX7, "offer", "(IIII)I"⟩
def kw_M_offer : List (Nat × Instr × Nat) := [(0, .aload_n 0, 1), (1, .iload_n 1, 1), (2, .invokestatic 278, 3), (5, .ifCond .eq 12, 3), (8, .iload_n 3, 1), (9, .ifCond .lt 8, 3), (12, .iload_n 3, 1), (13, .iconst 5, 1), (14, .if_icmp .le 7, 3), (17, .iconst 1, 1), (18, .goto 29, 3), (21, .aload_n 0, 1), (22, .iload_n 2, 1), (23, .invokevirtual 294, 3), (26, .ifCond .ne 7, 3), (29, .iconst 2, 1), (30, .goto 17, 3), (33, .aload_n 0, 1), (34, .getfield 67, 3), (37, .iload_n 1, 1), (38, .iaload, 1), (39, .ifCond .ne 7, 3), (42, .iconst 3, 1), (43, .goto 4, 3), (46, .iconst 0, 1), (47, .putfield 73, 3), (50, .aload_n 0, 1), (51, .getfield 73, 3), (54, .ifCond .le 7, 3), (57, .iconst 0, 1), (58, .goto 14, 3), (61, .aload_n 0, 1), (62, .iload_n 1, 1), (63, .iload_n 2, 1), (64, .iconst 1, 1), (65, .isub, 1), (66, .iload_n 3, 1), (67, .iload 4, 2), (69, .invokevirtual 290, 3), (72, .ireturn, 1)]
theorem kx_M_offer : kt_tab kb_M_offer kw_M_offer = true := by decide +kernel
abbrev kb_M_signature : ByteArray := prog_9_method_60_code
def ky_M_signature : MethodName := ⟨RX7, "signature", "(II)I"⟩
def kw_M_signature : List (Nat × Instr × Nat) := [(0, .aload_n 0, 1), (1, .aload_n 0, 1), (2, .iload_n 1, 1), (3, .invokevirtual 294, 3), (6, .ifCond .eq 14, 3), (9, .iload_n 2, 1), (10, .iconst 1, 1), (11, .if_icmp .lt 9, 3), (14, .iload_n 2, 1), (15, .bipush 6, 2), (17, .if_icmp .le 7, 3), (20, .iconst 1, 1), (21, .goto 4, 3), (24, .iconst 0, 1), (25, .putfield 73, 3), (28, .aload_n 0, 1), (29, .getfield 73, 3), (32, .ifCond .le 7, 3), (35, .iconst 0, 1), (36, .goto 21, 3), (39, .aload_n 0, 1), (40, .getfield 30, 3), (43, .bipush 6, 2), (45, .iload_n 1, 1), (46, .iconst 1, 1), (47, .isub, 1), (48, .bipush 40, 2), (50, .irem, 1), (51, .imul, 1), (52, .iload_n 2, 1), (53, .iadd, 1), (54, .iconst 1, 1), (55, .isub, 1), (56, .iaload, 1), (57, .ireturn, 1)]
theorem kx_M_signature : kt_tab kb_M_signature kw_M_signature = true := by decide +kernel
abbrev kb_M_party : ByteArray := prog_9_method_61_code
def ky_M_party : MethodName := ⟨RX7, "party", "(II)I"⟩
def kw_M_party : List (Nat × Instr × Nat) := [(0, .aload_n 0, 1), (1, .iconst 0, 1), (2, .putfield 73, 3), (5, .iload_n 1, 1), (6, .invokestatic 278, 3), (9, .ifCond .ne 5, 3), (12, .iconst (-1), 1), (13, .ireturn, 1), (14, .iload_n 2, 1), (15, .ifCond .eq 8, 3), (18, .iload_n 2, 1), (19, .iconst 1, 1), (20, .if_icmp .ne 23, 3), (23, .iload_n 2, 1), (24, .ifCond .ne 12, 3), (27, .aload_n 0, 1), (28, .getfield 61, 3), (31, .iload_n 1, 1), (32, .iaload, 1), (33, .goto 9, 3), (36, .aload_n 0, 1), (37, .getfield 67, 3), (40, .iload_n 1, 1), (41, .iaload, 1), (42, .ireturn, 1), (43, .iload_n 2, 1), (44, .bipush 10, 2), (46, .irem, 1), (47, .istore_n 3, 1), (48, .iload_n 2, 1), (49, .bipush 10, 2), (51, .if_icmp .lt 19, 3), (54, .iload_n 2, 1), (55, .bipush 39, 2), (57, .if_icmp .gt 13, 3), (60, .iload_n 3, 1), (61, .aload_n 0, 1), (62, .getfield 61, 3), (65, .iload_n 1, 1), (66, .iaload, 1), (67, .if_icmp .lt 7, 3), (70, .iconst (-1), 1), (71, .goto 23, 3), (74, .aload_n 0, 1), (75, .getfield 64, 3), (78, .bipush 18, 2), (80, .iload_n 1, 1), (81, .imul, 1), (82, .iconst 3, 1), (83, .iload_n 3, 1), (84, .imul, 1), (85, .iadd, 1), (86, .iload_n 2, 1), (87, .bipush 10, 2), (89, .idiv, 1), (90, .iadd, 1), (91, .iconst 1, 1), (92, .isub, 1), (93, .iaload, 1), (94, .ireturn, 1)]
theorem kx_M_party : kt_tab kb_M_party kw_M_party = true := by decide +kernel
abbrev kb_M_cell : ByteArray := prog_9_method_62_code
def ky_M_cell : MethodName := ⟨RX7, "cell", "(II)I"⟩
def kw_M_cell : List (Nat × Instr × Nat) := [(0, .aload_n 0, 1), (1, .iconst 0, 1), (2, .putfield 73, 3), (5, .iload_n 1, 1), (6, .ifCond .lt 18, 3), (9, .iload_n 1, 1), (10, .bipush 6, 2), (12, .if_icmp .gt 12, 3), (15, .iload_n 2, 1), (16, .ifCond .lt 8, 3), (19, .iload_n 2, 1), (20, .iconst 5, 1), (21, .if_icmp .le 7, 3), (24, .iconst 0, 1), (25, .goto 14, 3), (28, .aload_n 0, 1), (29, .getfield 7, 3), (32, .bipush 6, 2), (34, .iload_n 1, 1), (35, .imul, 1), (36, .iload_n 2, 1), (37, .iadd, 1), (38, .iaload, 1), (39, .ireturn, 1)]
theorem kx_M_cell : kt_tab kb_M_cell kw_M_cell = true := by decide +kernel
abbrev kb_M_look : ByteArray := prog_9_method_63_code
def ky_M_look : MethodName := ⟨RX7, "look", "(I)I"⟩
def kw_M_look : List (Nat × Instr × Nat) := [(0, .aload_n 0, 1), (1, .iconst 0, 1), (2, .putfield 73, 3), (5, .iload_n 1, 1), (6, .iconst 5, 1), (7, .if_icmp .ge 80, 3), (10, .iload_n 1, 1), (11, .ifCond .ne 18, 3), (14, .aload_n 0, 1), (15, .getfield 17, 3), (18, .ifCond .eq 7, 3), (21, .iconst 1, 1), (22, .goto 64, 3), (25, .iconst 0, 1), (26, .goto 60, 3), (29, .iload_n 1, 1), (30, .iconst 1, 1), (31, .if_icmp .ne 18, 3), (34, .aload_n 0, 1), (35, .getfield 119, 3), (38, .ifCond .eq 7, 3), (41, .iconst 1, 1), (42, .goto 44, 3), (45, .iconst 0, 1), (46, .goto 40, 3), (49, .iload_n 1, 1), (50, .iconst 2, 1), (51, .if_icmp .ne 10, 3), (54, .aload_n 0, 1), (55, .getfield 122, 3), (58, .goto 28, 3), (61, .iload_n 1, 1), (62, .iconst 3, 1), (63, .if_icmp .ne 10, 3), (66, .aload_n 0, 1), (67, .getfield 125, 3), (70, .goto 16, 3), (73, .iload_n 1, 1), (74, .iconst 4, 1), (75, .if_icmp .ne 10, 3), (78, .aload_n 0, 1), (79, .getfield 134, 3), (82, .goto 4, 3), (85, .iconst (-1), 1), (86, .ireturn, 1), (87, .iload_n 1, 1), (88, .iconst 5, 1), (89, .if_icmp .ne 10, 3), (92, .aload_n 0, 1), (93, .getfield 95, 3), (96, .goto 43, 3), (99, .iload_n 1, 1), (100, .bipush 6, 2), (102, .if_icmp .ne 10, 3), (105, .aload_n 0, 1), (106, .getfield 128, 3), (109, .goto 30, 3), (112, .iload_n 1, 1), (113, .bipush 7, 2), (115, .if_icmp .ne 10, 3), (118, .aload_n 0, 1), (119, .getfield 237, 3), (122, .goto 17, 3), (125, .iload_n 1, 1), (126, .bipush 8, 2), (128, .if_icmp .ne 10, 3), (131, .aload_n 0, 1), (132, .getfield 252, 3), (135, .goto 4, 3), (138, .iconst (-1), 1), (139, .ireturn, 1)]
theorem kx_M_look : kt_tab kb_M_look kw_M_look = true := by decide +kernel
abbrev kb_A_fill : ByteArray := prog_18_method_103_code
def ky_A_fill : MethodName := ⟨"java/util/Arrays", "fill", "([II)V"⟩
def kw_A_fill : List (Nat × Instr × Nat) := [(0, .iconst 0, 1), (1, .istore_n 2, 1), (2, .aload_n 0, 1), (3, .arraylength, 1), (4, .istore_n 3, 1), (5, .iload_n 2, 1), (6, .iload_n 3, 1), (7, .if_icmp .ge 13, 3), (10, .aload_n 0, 1), (11, .iload_n 2, 1), (12, .iload_n 1, 1), (13, .iastore, 1), (14, .iinc 2 1, 3), (17, .goto (-12), 3), (20, .return_, 1)]
theorem kx_A_fill : kt_tab kb_A_fill kw_A_fill = true := by decide +kernel
-- constants
theorem kc_b_10 : (Int8.ofInt 10).toInt32 = (10 : Int32) := by decide
theorem kc_b_100 : (Int8.ofInt 100).toInt32 = (100 : Int32) := by decide
theorem kc_b_11 : (Int8.ofInt 11).toInt32 = (11 : Int32) := by decide
theorem kc_b_12 : (Int8.ofInt 12).toInt32 = (12 : Int32) := by decide
theorem kc_b_126 : (Int8.ofInt 126).toInt32 = (126 : Int32) := by decide
theorem kc_b_127 : (Int8.ofInt 127).toInt32 = (127 : Int32) := by decide
theorem kc_b_13 : (Int8.ofInt 13).toInt32 = (13 : Int32) := by decide
theorem kc_b_14 : (Int8.ofInt 14).toInt32 = (14 : Int32) := by decide
theorem kc_b_15 : (Int8.ofInt 15).toInt32 = (15 : Int32) := by decide
theorem kc_b_16 : (Int8.ofInt 16).toInt32 = (16 : Int32) := by decide
theorem kc_b_18 : (Int8.ofInt 18).toInt32 = (18 : Int32) := by decide
theorem kc_b_20 : (Int8.ofInt 20).toInt32 = (20 : Int32) := by decide
theorem kc_b_21 : (Int8.ofInt 21).toInt32 = (21 : Int32) := by decide
theorem kc_b_24 : (Int8.ofInt 24).toInt32 = (24 : Int32) := by decide
theorem kc_b_25 : (Int8.ofInt 25).toInt32 = (25 : Int32) := by decide
theorem kc_b_26 : (Int8.ofInt 26).toInt32 = (26 : Int32) := by decide
theorem kc_b_31 : (Int8.ofInt 31).toInt32 = (31 : Int32) := by decide
theorem kc_b_32 : (Int8.ofInt 32).toInt32 = (32 : Int32) := by decide
theorem kc_b_39 : (Int8.ofInt 39).toInt32 = (39 : Int32) := by decide
theorem kc_b_40 : (Int8.ofInt 40).toInt32 = (40 : Int32) := by decide
theorem kc_b_48 : (Int8.ofInt 48).toInt32 = (48 : Int32) := by decide
theorem kc_b_6 : (Int8.ofInt 6).toInt32 = (6 : Int32) := by decide
theorem kc_b_7 : (Int8.ofInt 7).toInt32 = (7 : Int32) := by decide
theorem kc_b_8 : (Int8.ofInt 8).toInt32 = (8 : Int32) := by decide
theorem kc_b_9 : (Int8.ofInt 9).toInt32 = (9 : Int32) := by decide
theorem kc_b_97 : (Int8.ofInt 97).toInt32 = (97 : Int32) := by decide
theorem kc_b_99 : (Int8.ofInt 99).toInt32 = (99 : Int32) := by decide
theorem kc_b_m2 : (Int8.ofInt (-2)).toInt32 = ((-2) : Int32) := by decide
theorem kc_i_0 : Int32.ofInt 0 = (0 : Int32) := by decide
theorem kc_i_1 : Int32.ofInt 1 = (1 : Int32) := by decide
theorem kc_i_2 : Int32.ofInt 2 = (2 : Int32) := by decide
theorem kc_i_3 : Int32.ofInt 3 = (3 : Int32) := by decide
theorem kc_i_4 : Int32.ofInt 4 = (4 : Int32) := by decide
theorem kc_i_5 : Int32.ofInt 5 = (5 : Int32) := by decide
theorem kc_i_m1 : Int32.ofInt (-1) = ((-1) : Int32) := by decide
theorem kc_i_m8 : Int32.ofInt (-8) = ((-8) : Int32) := by decide
theorem kc_l_0 : Int64.ofNat ((0 : Fin 2) : Nat) = (0 : Int64) := by decide
theorem kc_s_131 : (Int16.ofInt 131).toInt32 = (131 : Int32) := by decide
theorem kc_s_160 : (Int16.ofInt 160).toInt32 = (160 : Int32) := by decide
theorem kc_s_244 : (Int16.ofInt 244).toInt32 = (244 : Int32) := by decide
theorem kc_s_245 : (Int16.ofInt 245).toInt32 = (245 : Int32) := by decide
theorem kc_s_255 : (Int16.ofInt 255).toInt32 = (255 : Int32) := by decide
theorem kc_s_256 : (Int16.ofInt 256).toInt32 = (256 : Int32) := by decide
theorem kc_s_752 : (Int16.ofInt 752).toInt32 = (752 : Int32) := by decide
-- words
def kg_B_clear : List Cond := [.code ky_B_clear kb_B_clear 1 none, .instanceMethod ky_B_clear, .selects RX0 ky_B_clear ky_B_clear, .initialized RX0, .fieldLink RX0 15 "KeyToken$Bytes" "first" "I", .fieldLink RX0 19 "KeyToken$Bytes" "end" "I"]
def kg_B_left : List Cond := [.code ky_B_left kb_B_left 1 (some .int), .instanceMethod ky_B_left, .selects RX0 ky_B_left ky_B_left, .initialized RX0, .fieldLink RX0 19 "KeyToken$Bytes" "end" "I", .fieldLink RX0 15 "KeyToken$Bytes" "first" "I"]
def kg_B_room : List Cond := [.code ky_B_room kb_B_room 1 (some .int), .instanceMethod ky_B_room, .selects RX0 ky_B_room ky_B_room, .initialized RX0, .fieldLink RX0 9 "KeyToken$Bytes" "cells" "[I", .fieldLink RX0 19 "KeyToken$Bytes" "end" "I"]
def kg_B_removeFirst : List Cond := [.code ky_B_removeFirst kb_B_removeFirst 1 (some .int), .instanceMethod ky_B_removeFirst, .selects RX0 ky_B_removeFirst ky_B_removeFirst, .initialized RX0, .fieldLink RX0 15 "KeyToken$Bytes" "first" "I", .fieldLink RX0 9 "KeyToken$Bytes" "cells" "[I", .fieldLink RX0 19 "KeyToken$Bytes" "end" "I"]
def kg_B_add : List Cond := [.code ky_B_add kb_B_add 2 none, .instanceMethod ky_B_add, .selects RX0 ky_B_add ky_B_add, .initialized RX0, .fieldLink RX0 9 "KeyToken$Bytes" "cells" "[I", .fieldLink RX0 19 "KeyToken$Bytes" "end" "I"]
def kg_B_addHead : List Cond := [.code ky_B_addHead kb_B_addHead 5 none, .instanceMethod ky_B_addHead, .selects RX0 ky_B_addHead ky_B_addHead, .initialized RX0, .methodLink RX0 26 ky_B_add, .methodLink RX0 22 ky_B_widthOf]
def kg_B_addPair : List Cond := [.code ky_B_addPair kb_B_addPair 3 none, .instanceMethod ky_B_addPair, .selects RX0 ky_B_addPair ky_B_addPair, .initialized RX0, .methodLink RX0 30 ky_B_addHead]
def kg_B_widthOf : List Cond := [.code ky_B_widthOf kb_B_widthOf 1 (some .int), .static ky_B_widthOf, .initialized RX0, .constant RX0 34 65536]
def kg_P_judge : List Cond := [.code ky_P_judge kb_P_judge 8 (some .int), .instanceMethod ky_P_judge, .selects RX1 ky_P_judge ky_P_judge, .initialized RX1, .fieldLink RX1 25 "KeyToken$RelyingParty" "challenge" "I", .methodLink RX1 32 ky_P_accept, .methodLink RX1 28 ky_P_register, .fieldLink RX1 21 "KeyToken$RelyingParty" "number" "I"]
def kg_P_register : List Cond := [.code ky_P_register kb_P_register 3 (some .int), .instanceMethod ky_P_register, .selects RX1 ky_P_register ky_P_register, .initialized RX1, .fieldLink RX1 11 "KeyToken$RelyingParty" "keys" "[I", .fieldLink RX1 39 "KeyToken$RelyingParty" "registrations" "I", .fieldLink RX1 15 "KeyToken$RelyingParty" "users" "[I", .fieldLink RX1 42 "KeyToken$RelyingParty" "challengeUser" "I", .fieldLink RX1 18 "KeyToken$RelyingParty" "lasts" "[I", .methodLink RX1 35 ky_P_find]
def kg_P_accept : List Cond := [.code ky_P_accept kb_P_accept 4 (some .int), .instanceMethod ky_P_accept, .selects RX1 ky_P_accept ky_P_accept, .initialized RX1, .fieldLink RX1 18 "KeyToken$RelyingParty" "lasts" "[I", .methodLink RX1 35 ky_P_find]
def kg_P_find : List Cond := [.code ky_P_find kb_P_find 3 (some .int), .instanceMethod ky_P_find, .selects RX1 ky_P_find ky_P_find, .initialized RX1, .fieldLink RX1 11 "KeyToken$RelyingParty" "keys" "[I", .fieldLink RX1 39 "KeyToken$RelyingParty" "registrations" "I"]
def kg_P_tell : List Cond := [.code ky_P_tell kb_P_tell 3 (some .int), .instanceMethod ky_P_tell, .selects RX1 ky_P_tell ky_P_tell, .initialized RX1, .fieldLink RX1 11 "KeyToken$RelyingParty" "keys" "[I", .fieldLink RX1 15 "KeyToken$RelyingParty" "users" "[I", .fieldLink RX1 18 "KeyToken$RelyingParty" "lasts" "[I", .fieldLink RX1 39 "KeyToken$RelyingParty" "registrations" "I", .fieldLink RX1 25 "KeyToken$RelyingParty" "challenge" "I"]
def kg_R_command : List Cond := [.code ky_R_command kb_R_command 1 (some .int), .instanceMethod ky_R_command, .selects RX2 ky_R_command ky_R_command, .initialized RX2, .fieldLink RX2 16 "KeyToken$Request" "input" "LKeyToken$Bytes;", .methodLink RX2 30 ky_B_left]
def kg_R_parse : List Cond := [.code ky_R_parse kb_R_parse 1 (some .boolean), .instanceMethod ky_R_parse, .selects RX2 ky_R_parse ky_R_parse, .initialized RX2, .fieldLink RX2 43 "KeyToken$Request" "at" "I", .fieldLink RX2 16 "KeyToken$Request" "input" "LKeyToken$Bytes;", .methodLink RX2 50 ky_R_readItem, .fieldLink RX2 20 "KeyToken$Request" "kinds" "[I", .methodLink RX2 37 ky_A_fill]
def kg_R_readItem : List Cond := [.code ky_R_readItem kb_R_readItem 2 (some .int), .instanceMethod ky_R_readItem, .selects RX2 ky_R_readItem ky_R_readItem, .initialized RX2, .fieldLink RX2 58 "KeyToken$Request" "major" "I", .methodLink RX2 61 ky_R_passBytes, .fieldLink RX2 64 "KeyToken$Request" "number" "I", .methodLink RX2 71 ky_R_readMap, .methodLink RX2 67 ky_R_readList, .methodLink RX2 54 ky_R_readHead]
def kg_R_readList : List Cond := [.code ky_R_readList kb_R_readList 7 (some .int), .instanceMethod ky_R_readList, .selects RX2 ky_R_readList ky_R_readList, .initialized RX2, .fieldLink RX2 64 "KeyToken$Request" "number" "I", .methodLink RX2 50 ky_R_readItem]
def kg_R_readMap : List Cond := [.code ky_R_readMap kb_R_readMap 6 (some .int), .instanceMethod ky_R_readMap, .selects RX2 ky_R_readMap ky_R_readMap, .initialized RX2, .fieldLink RX2 20 "KeyToken$Request" "kinds" "[I", .fieldLink RX2 24 "KeyToken$Request" "numbers" "[I", .fieldLink RX2 64 "KeyToken$Request" "number" "I", .fieldLink RX2 27 "KeyToken$Request" "ends" "[I", .fieldLink RX2 43 "KeyToken$Request" "at" "I", .methodLink RX2 50 ky_R_readItem, .fieldLink RX2 58 "KeyToken$Request" "major" "I", .methodLink RX2 54 ky_R_readHead]
def kg_R_readHead : List Cond := [.code ky_R_readHead kb_R_readHead 1 (some .boolean), .instanceMethod ky_R_readHead, .selects RX2 ky_R_readHead ky_R_readHead, .initialized RX2, .fieldLink RX2 64 "KeyToken$Request" "number" "I", .methodLink RX2 74 ky_R_readWide, .fieldLink RX2 58 "KeyToken$Request" "major" "I", .fieldLink RX2 16 "KeyToken$Request" "input" "LKeyToken$Bytes;", .fieldLink RX2 43 "KeyToken$Request" "at" "I"]
def kg_R_readWide : List Cond := [.code ky_R_readWide kb_R_readWide 3 (some .boolean), .instanceMethod ky_R_readWide, .selects RX2 ky_R_readWide ky_R_readWide, .initialized RX2, .constant RX2 78 65536, .fieldLink RX2 64 "KeyToken$Request" "number" "I", .fieldLink RX2 16 "KeyToken$Request" "input" "LKeyToken$Bytes;", .fieldLink RX2 43 "KeyToken$Request" "at" "I"]
def kg_R_passBytes : List Cond := [.code ky_R_passBytes kb_R_passBytes 3 (some .boolean), .instanceMethod ky_R_passBytes, .selects RX2 ky_R_passBytes ky_R_passBytes, .initialized RX2, .fieldLink RX2 16 "KeyToken$Request" "input" "LKeyToken$Bytes;", .fieldLink RX2 58 "KeyToken$Request" "major" "I", .fieldLink RX2 43 "KeyToken$Request" "at" "I", .fieldLink RX2 64 "KeyToken$Request" "number" "I"]
def kg_R_checkMake : List Cond := [.code ky_R_checkMake kb_R_checkMake 1 (some .int), .instanceMethod ky_R_checkMake, .selects RX2 ky_R_checkMake ky_R_checkMake, .initialized RX2, .fieldLink RX2 79 "KeyToken$Request" "MAKE_KINDS" "[I", .fieldLink RX2 82 "KeyToken$Request" "MAKE_WANTED" "[I", .methodLink RX2 85 ky_R_check]
def kg_R_checkAssert : List Cond := [.code ky_R_checkAssert kb_R_checkAssert 1 (some .int), .instanceMethod ky_R_checkAssert, .selects RX2 ky_R_checkAssert ky_R_checkAssert, .initialized RX2, .fieldLink RX2 89 "KeyToken$Request" "ASSERT_KINDS" "[I", .fieldLink RX2 92 "KeyToken$Request" "ASSERT_WANTED" "[I", .methodLink RX2 85 ky_R_check]
def kg_R_checkPin : List Cond := [.code ky_R_checkPin kb_R_checkPin 5 (some .int), .instanceMethod ky_R_checkPin, .selects RX2 ky_R_checkPin ky_R_checkPin, .initialized RX2, .methodLink RX2 104 ky_R_has, .methodLink RX2 101 ky_R_numberOf, .fieldLink RX2 95 "KeyToken$Request" "PIN_KINDS" "[I", .fieldLink RX2 98 "KeyToken$Request" "PIN_WANTED" "[I", .methodLink RX2 85 ky_R_check]
def kg_R_check : List Cond := [.code ky_R_check kb_R_check 7 (some .int), .instanceMethod ky_R_check, .selects RX2 ky_R_check ky_R_check, .initialized RX2, .methodLink RX2 104 ky_R_has, .fieldLink RX2 20 "KeyToken$Request" "kinds" "[I"]
def kg_R_has : List Cond := [.code ky_R_has kb_R_has 2 (some .boolean), .instanceMethod ky_R_has, .selects RX2 ky_R_has ky_R_has, .initialized RX2, .fieldLink RX2 20 "KeyToken$Request" "kinds" "[I"]
def kg_R_numberOf : List Cond := [.code ky_R_numberOf kb_R_numberOf 2 (some .int), .instanceMethod ky_R_numberOf, .selects RX2 ky_R_numberOf ky_R_numberOf, .initialized RX2, .fieldLink RX2 24 "KeyToken$Request" "numbers" "[I", .methodLink RX2 104 ky_R_has]
def kg_R_lists : List Cond := [.code ky_R_lists kb_R_lists 3 (some .boolean), .instanceMethod ky_R_lists, .selects RX2 ky_R_lists ky_R_lists, .initialized RX2, .methodLink RX2 101 ky_R_numberOf]
def kg_R_textHas : List Cond := [.code ky_R_textHas kb_R_textHas 4 (some .boolean), .instanceMethod ky_R_textHas, .selects RX2 ky_R_textHas ky_R_textHas, .initialized RX2, .methodLink RX2 101 ky_R_numberOf]
def kg_R_textNumber : List Cond := [.code ky_R_textNumber kb_R_textNumber 5 (some .int), .instanceMethod ky_R_textNumber, .selects RX2 ky_R_textNumber ky_R_textNumber, .initialized RX2, .fieldLink RX2 16 "KeyToken$Request" "input" "LKeyToken$Bytes;", .methodLink RX2 101 ky_R_numberOf, .methodLink RX2 107 Lib.Math.max.name, .static Lib.Math.max.name, .initialized "java/lang/Math", .code Lib.Math.max.name Lib.Math.max.code 2 (some .int), .fieldLink RX2 27 "KeyToken$Request" "ends" "[I", .methodLink RX2 104 ky_R_has]
def kg_G_has : List Cond := [.code ky_G_has kb_G_has 2 (some .boolean), .instanceMethod ky_G_has, .selects RX3 ky_G_has ky_G_has, .initialized RX3, .fieldLink RX3 15 "KeyToken$Signatures" "made" "I"]
def kg_G_field : List Cond := [.code ky_G_field kb_G_field 4 (some .int), .instanceMethod ky_G_field, .selects RX3 ky_G_field ky_G_field, .initialized RX3, .fieldLink RX3 11 "KeyToken$Signatures" "fields" "[I", .methodLink RX3 19 ky_G_has]
def kg_G_make : List Cond := [.code ky_G_make kb_G_make 8 none, .instanceMethod ky_G_make, .selects RX3 ky_G_make ky_G_make, .initialized RX3, .fieldLink RX3 15 "KeyToken$Signatures" "made" "I", .fieldLink RX3 11 "KeyToken$Signatures" "fields" "[I"]
def kg_S_read : List Cond := [.code ky_S_read kb_S_read 3 (some .int), .instanceMethod ky_S_read, .selects RX4 ky_S_read ky_S_read, .initialized RX4, .fieldLink RX4 9 "KeyToken$Store" "cells" "[I"]
def kg_S_pageOf : List Cond := [.code ky_S_pageOf kb_S_pageOf 4 (some .int), .instanceMethod ky_S_pageOf, .selects RX4 ky_S_pageOf ky_S_pageOf, .initialized RX4, .methodLink RX4 23 ky_S_read]
def kg_S_has : List Cond := [.code ky_S_has kb_S_has 2 (some .boolean), .instanceMethod ky_S_has, .selects RX4 ky_S_has ky_S_has, .initialized RX4, .methodLink RX4 27 ky_S_pageOf]
def kg_S_erasedPages : List Cond := [.code ky_S_erasedPages kb_S_erasedPages 3 (some .int), .instanceMethod ky_S_erasedPages, .selects RX4 ky_S_erasedPages ky_S_erasedPages, .initialized RX4, .methodLink RX4 23 ky_S_read]
def kg_S_labelBelow : List Cond := [.code ky_S_labelBelow kb_S_labelBelow 5 (some .int), .instanceMethod ky_S_labelBelow, .selects RX4 ky_S_labelBelow ky_S_labelBelow, .initialized RX4, .methodLink RX4 23 ky_S_read]
def kg_S_hasRoomFor : List Cond := [.code ky_S_hasRoomFor kb_S_hasRoomFor 2 (some .boolean), .instanceMethod ky_S_hasRoomFor, .selects RX4 ky_S_hasRoomFor ky_S_hasRoomFor, .initialized RX4, .methodLink RX4 31 ky_S_erasedPages, .methodLink RX4 27 ky_S_pageOf]
def kg_S_put : List Cond := [.code ky_S_put kb_S_put 9 (some .boolean), .instanceMethod ky_S_put, .selects RX4 ky_S_put ky_S_put, .initialized RX4, .methodLink RX4 54 ky_S_erase, .methodLink RX4 51 ky_S_sealOf, .methodLink RX4 47 ky_S_write, .methodLink RX4 27 ky_S_pageOf, .methodLink RX4 35 ky_S_firstErased, .constant RX4 38 2147483647, .methodLink RX4 39 ky_S_labelBelow, .methodLink RX4 42 Lib.Math.max.name, .static Lib.Math.max.name, .initialized "java/lang/Math", .code Lib.Math.max.name Lib.Math.max.code 2 (some .int)]
def kg_S_dropAll : List Cond := [.code ky_S_dropAll kb_S_dropAll 2 (some .boolean), .instanceMethod ky_S_dropAll, .selects RX4 ky_S_dropAll ky_S_dropAll, .initialized RX4, .methodLink RX4 54 ky_S_erase, .methodLink RX4 23 ky_S_read]
def kg_S_lookThrough : List Cond := [.code ky_S_lookThrough kb_S_lookThrough 2 none, .instanceMethod ky_S_lookThrough, .selects RX4 ky_S_lookThrough ky_S_lookThrough, .initialized RX4, .methodLink RX4 54 ky_S_erase, .methodLink RX4 61 ky_S_isOutdated, .methodLink RX4 58 ky_S_isSealed, .methodLink RX4 23 ky_S_read]
def kg_S_isOutdated : List Cond := [.code ky_S_isOutdated kb_S_isOutdated 5 (some .boolean), .instanceMethod ky_S_isOutdated, .selects RX4 ky_S_isOutdated ky_S_isOutdated, .initialized RX4, .methodLink RX4 23 ky_S_read, .methodLink RX4 58 ky_S_isSealed]
def kg_S_isSealed : List Cond := [.code ky_S_isSealed kb_S_isSealed 2 (some .boolean), .instanceMethod ky_S_isSealed, .selects RX4 ky_S_isSealed ky_S_isSealed, .initialized RX4, .methodLink RX4 23 ky_S_read, .methodLink RX4 51 ky_S_sealOf]
def kg_S_sealOf : List Cond := [.code ky_S_sealOf kb_S_sealOf 4 (some .int), .instanceMethod ky_S_sealOf, .selects RX4 ky_S_sealOf ky_S_sealOf, .initialized RX4, .constant RX4 38 2147483647, .methodLink RX4 23 ky_S_read, .constant RX4 64 16777619]
def kg_S_firstErased : List Cond := [.code ky_S_firstErased kb_S_firstErased 2 (some .int), .instanceMethod ky_S_firstErased, .selects RX4 ky_S_firstErased ky_S_firstErased, .initialized RX4, .methodLink RX4 23 ky_S_read]
def kg_S_write : List Cond := [.code ky_S_write kb_S_write 4 (some .boolean), .instanceMethod ky_S_write, .selects RX4 ky_S_write ky_S_write, .initialized RX4, .fieldLink RX4 9 "KeyToken$Store" "cells" "[I", .methodLink RX4 65 ky_S_spendWrite]
def kg_S_erase : List Cond := [.code ky_S_erase kb_S_erase 3 (some .boolean), .instanceMethod ky_S_erase, .selects RX4 ky_S_erase ky_S_erase, .initialized RX4, .fieldLink RX4 9 "KeyToken$Store" "cells" "[I", .methodLink RX4 65 ky_S_spendWrite]
def kg_S_spendWrite : List Cond := [.code ky_S_spendWrite kb_S_spendWrite 1 (some .boolean), .instanceMethod ky_S_spendWrite, .selects RX4 ky_S_spendWrite ky_S_spendWrite, .initialized RX4, .fieldLink RX4 69 "KeyToken$Store" "writes" "I", .fieldLink RX4 13 "KeyToken$Store" "writesUntilCut" "I"]
def kg_T_comeOn : List Cond := [.code ky_T_comeOn kb_T_comeOn 1 none, .instanceMethod ky_T_comeOn, .selects RX5 ky_T_comeOn ky_T_comeOn, .initialized RX5, .fieldLink RX5 45 "KeyToken$Token" "powered" "Z", .fieldLink RX5 12 "KeyToken$Token" "store" "LKeyToken$Store;", .methodLink RX5 49 ky_S_lookThrough]
def kg_T_goOff : List Cond := [.code ky_T_goOff kb_T_goOff 1 none, .instanceMethod ky_T_goOff, .selects RX5 ky_T_goOff ky_T_goOff, .initialized RX5, .fieldLink RX5 45 "KeyToken$Token" "powered" "Z", .fieldLink RX5 52 "KeyToken$Token" "pressed" "Z", .fieldLink RX5 55 "KeyToken$Token" "wrong" "I", .fieldLink RX5 59 "KeyToken$Token" "ticket" "I", .fieldLink RX5 28 "KeyToken$Token" "request" "LKeyToken$Request;", .methodLink RX5 65 ky_B_clear, .fieldLink RX5 37 "KeyToken$Token" "output" "LKeyToken$Bytes;", .methodLink RX5 68 ky_T_forgetNext, .fieldLink RX5 12 "KeyToken$Token" "store" "LKeyToken$Store;"]
def kg_T_serve : List Cond := [.code ky_T_serve kb_T_serve 2 (some .int), .instanceMethod ky_T_serve, .selects RX5 ky_T_serve ky_T_serve, .initialized RX5, .methodLink RX5 87 ky_T_beginAnswer, .fieldLink RX5 37 "KeyToken$Token" "output" "LKeyToken$Bytes;", .methodLink RX5 84 ky_B_left, .methodLink RX5 81 ky_B_add, .methodLink RX5 78 ky_T_goOff, .methodLink RX5 65 ky_B_clear, .methodLink RX5 74 ky_T_perform, .fieldLink RX5 28 "KeyToken$Token" "request" "LKeyToken$Request;", .fieldLink RX5 12 "KeyToken$Token" "store" "LKeyToken$Store;"]
def kg_T_perform : List Cond := [.code ky_T_perform kb_T_perform 2 (some .int), .instanceMethod ky_T_perform, .selects RX5 ky_T_perform ky_T_perform, .initialized RX5, .methodLink RX5 104 ky_T_makeCredential, .methodLink RX5 107 ky_T_signFirst, .methodLink RX5 110 ky_T_tellInfo, .methodLink RX5 113 ky_T_doPin, .methodLink RX5 116 ky_T_reset, .methodLink RX5 68 ky_T_forgetNext, .methodLink RX5 101 ky_T_signNext, .fieldLink RX5 28 "KeyToken$Token" "request" "LKeyToken$Request;", .methodLink RX5 97 ky_R_parse, .methodLink RX5 90 ky_R_command, .methodLink RX5 93 ky_T_isCommand]
def kg_T_isCommand : List Cond := [.code ky_T_isCommand kb_T_isCommand 1 (some .boolean), .static ky_T_isCommand, .initialized RX5]
def kg_T_makeCredential : List Cond := [.code ky_T_makeCredential kb_T_makeCredential 7 (some .int), .instanceMethod ky_T_makeCredential, .selects RX5 ky_T_makeCredential ky_T_makeCredential, .initialized RX5, .fieldLink RX5 21 "KeyToken$Token" "signatures" "LKeyToken$Signatures;", .fieldLink RX5 28 "KeyToken$Token" "request" "LKeyToken$Request;", .methodLink RX5 142 ky_R_numberOf, .methodLink RX5 159 ky_G_make, .methodLink RX5 87 ky_T_beginAnswer, .fieldLink RX5 37 "KeyToken$Token" "output" "LKeyToken$Bytes;", .methodLink RX5 163 ky_B_addPair, .fieldLink RX5 152 "KeyToken$Token" "keysMade" "I", .fieldLink RX5 12 "KeyToken$Token" "store" "LKeyToken$Store;", .methodLink RX5 155 ky_S_put, .methodLink RX5 149 ky_S_hasRoomFor, .methodLink RX5 145 ky_T_nameFor, .methodLink RX5 139 ky_T_usePress, .methodLink RX5 132 ky_R_textNumber, .methodLink RX5 136 ky_T_isExcluded, .methodLink RX5 129 ky_T_isTicket, .methodLink RX5 126 ky_S_has, .methodLink RX5 122 ky_R_textHas, .methodLink RX5 119 ky_R_checkMake]
def kg_T_isTicket : List Cond := [.code ky_T_isTicket kb_T_isTicket 2 (some .boolean), .instanceMethod ky_T_isTicket, .selects RX5 ky_T_isTicket ky_T_isTicket, .initialized RX5, .fieldLink RX5 28 "KeyToken$Token" "request" "LKeyToken$Request;", .methodLink RX5 142 ky_R_numberOf, .fieldLink RX5 59 "KeyToken$Token" "ticket" "I", .methodLink RX5 170 ky_R_has]
def kg_T_usePress : List Cond := [.code ky_T_usePress kb_T_usePress 2 (some .boolean), .instanceMethod ky_T_usePress, .selects RX5 ky_T_usePress ky_T_usePress, .initialized RX5, .fieldLink RX5 52 "KeyToken$Token" "pressed" "Z"]
def kg_T_isExcluded : List Cond := [.code ky_T_isExcluded kb_T_isExcluded 3 (some .boolean), .instanceMethod ky_T_isExcluded, .selects RX5 ky_T_isExcluded ky_T_isExcluded, .initialized RX5, .fieldLink RX5 28 "KeyToken$Token" "request" "LKeyToken$Request;", .methodLink RX5 175 ky_R_lists, .methodLink RX5 171 ky_T_isCredential]
def kg_T_isCredential : List Cond := [.code ky_T_isCredential kb_T_isCredential 4 (some .boolean), .instanceMethod ky_T_isCredential, .selects RX5 ky_T_isCredential ky_T_isCredential, .initialized RX5, .fieldLink RX5 12 "KeyToken$Token" "store" "LKeyToken$Store;", .methodLink RX5 181 ky_S_read, .methodLink RX5 178 ky_S_pageOf]
def kg_T_nameFor : List Cond := [.code ky_T_nameFor kb_T_nameFor 6 (some .int), .instanceMethod ky_T_nameFor, .selects RX5 ky_T_nameFor ky_T_nameFor, .initialized RX5, .fieldLink RX5 12 "KeyToken$Token" "store" "LKeyToken$Store;", .methodLink RX5 181 ky_S_read, .methodLink RX5 178 ky_S_pageOf]
def kg_T_signFirst : List Cond := [.code ky_T_signFirst kb_T_signFirst 4 (some .int), .instanceMethod ky_T_signFirst, .selects RX5 ky_T_signFirst ky_T_signFirst, .initialized RX5, .fieldLink RX5 190 "KeyToken$Token" "nextEnd" "I", .fieldLink RX5 28 "KeyToken$Token" "request" "LKeyToken$Request;", .methodLink RX5 142 ky_R_numberOf, .fieldLink RX5 193 "KeyToken$Token" "nextChallenge" "I", .fieldLink RX5 196 "KeyToken$Token" "nextVerified" "Z", .fieldLink RX5 41 "KeyToken$Token" "nextNames" "[I", .methodLink RX5 199 ky_T_signWith, .methodLink RX5 139 ky_T_usePress, .methodLink RX5 132 ky_R_textNumber, .methodLink RX5 187 ky_T_findCredentials, .methodLink RX5 129 ky_T_isTicket, .methodLink RX5 170 ky_R_has, .methodLink RX5 122 ky_R_textHas, .methodLink RX5 184 ky_R_checkAssert]
def kg_T_signNext : List Cond := [.code ky_T_signNext kb_T_signNext 1 (some .int), .instanceMethod ky_T_signNext, .selects RX5 ky_T_signNext ky_T_signNext, .initialized RX5, .fieldLink RX5 41 "KeyToken$Token" "nextNames" "[I", .fieldLink RX5 202 "KeyToken$Token" "nextAt" "I", .methodLink RX5 199 ky_T_signWith, .fieldLink RX5 190 "KeyToken$Token" "nextEnd" "I"]
def kg_T_signWith : List Cond := [.code ky_T_signWith kb_T_signWith 8 (some .int), .instanceMethod ky_T_signWith, .selects RX5 ky_T_signWith ky_T_signWith, .initialized RX5, .fieldLink RX5 37 "KeyToken$Token" "output" "LKeyToken$Bytes;", .methodLink RX5 163 ky_B_addPair, .methodLink RX5 87 ky_T_beginAnswer, .fieldLink RX5 21 "KeyToken$Token" "signatures" "LKeyToken$Signatures;", .fieldLink RX5 193 "KeyToken$Token" "nextChallenge" "I", .fieldLink RX5 196 "KeyToken$Token" "nextVerified" "Z", .methodLink RX5 159 ky_G_make, .fieldLink RX5 202 "KeyToken$Token" "nextAt" "I", .fieldLink RX5 12 "KeyToken$Token" "store" "LKeyToken$Store;", .methodLink RX5 178 ky_S_pageOf, .methodLink RX5 181 ky_S_read, .methodLink RX5 155 ky_S_put]
def kg_T_forgetNext : List Cond := [.code ky_T_forgetNext kb_T_forgetNext 1 none, .instanceMethod ky_T_forgetNext, .selects RX5 ky_T_forgetNext ky_T_forgetNext, .initialized RX5, .fieldLink RX5 202 "KeyToken$Token" "nextAt" "I", .fieldLink RX5 190 "KeyToken$Token" "nextEnd" "I"]
def kg_T_findCredentials : List Cond := [.code ky_T_findCredentials kb_T_findCredentials 7 (some .int), .instanceMethod ky_T_findCredentials, .selects RX5 ky_T_findCredentials ky_T_findCredentials, .initialized RX5, .fieldLink RX5 12 "KeyToken$Token" "store" "LKeyToken$Store;", .methodLink RX5 206 ky_S_labelBelow, .fieldLink RX5 41 "KeyToken$Token" "nextNames" "[I", .fieldLink RX5 28 "KeyToken$Token" "request" "LKeyToken$Request;", .methodLink RX5 175 ky_R_lists, .methodLink RX5 171 ky_T_isCredential, .methodLink RX5 170 ky_R_has, .constant RX5 205 2147483647]
def kg_T_tellInfo : List Cond := [.code ky_T_tellInfo kb_T_tellInfo 3 (some .int), .instanceMethod ky_T_tellInfo, .selects RX5 ky_T_tellInfo ky_T_tellInfo, .initialized RX5, .methodLink RX5 212 ky_B_addHead, .fieldLink RX5 37 "KeyToken$Token" "output" "LKeyToken$Bytes;", .methodLink RX5 163 ky_B_addPair, .fieldLink RX5 12 "KeyToken$Token" "store" "LKeyToken$Store;", .methodLink RX5 126 ky_S_has, .methodLink RX5 209 ky_S_erasedPages, .methodLink RX5 87 ky_T_beginAnswer]
def kg_T_doPin : List Cond := [.code ky_T_doPin kb_T_doPin 3 (some .int), .instanceMethod ky_T_doPin, .selects RX5 ky_T_doPin ky_T_doPin, .initialized RX5, .methodLink RX5 218 ky_T_tellTries, .methodLink RX5 221 ky_T_setPin, .methodLink RX5 224 ky_T_provePin, .fieldLink RX5 28 "KeyToken$Token" "request" "LKeyToken$Request;", .methodLink RX5 142 ky_R_numberOf, .methodLink RX5 215 ky_R_checkPin]
def kg_T_tellTries : List Cond := [.code ky_T_tellTries kb_T_tellTries 2 (some .int), .instanceMethod ky_T_tellTries, .selects RX5 ky_T_tellTries ky_T_tellTries, .initialized RX5, .methodLink RX5 163 ky_B_addPair, .fieldLink RX5 12 "KeyToken$Token" "store" "LKeyToken$Store;", .methodLink RX5 181 ky_S_read, .methodLink RX5 178 ky_S_pageOf, .methodLink RX5 87 ky_T_beginAnswer, .fieldLink RX5 37 "KeyToken$Token" "output" "LKeyToken$Bytes;"]
def kg_T_setPin : List Cond := [.code ky_T_setPin kb_T_setPin 1 (some .int), .instanceMethod ky_T_setPin, .selects RX5 ky_T_setPin ky_T_setPin, .initialized RX5, .fieldLink RX5 12 "KeyToken$Token" "store" "LKeyToken$Store;", .fieldLink RX5 28 "KeyToken$Token" "request" "LKeyToken$Request;", .methodLink RX5 132 ky_R_textNumber, .methodLink RX5 155 ky_S_put, .methodLink RX5 149 ky_S_hasRoomFor, .methodLink RX5 122 ky_R_textHas, .methodLink RX5 126 ky_S_has]
def kg_T_provePin : List Cond := [.code ky_T_provePin kb_T_provePin 6 (some .int), .instanceMethod ky_T_provePin, .selects RX5 ky_T_provePin ky_T_provePin, .initialized RX5, .fieldLink RX5 231 "KeyToken$Token" "ticketsMade" "I", .fieldLink RX5 59 "KeyToken$Token" "ticket" "I", .methodLink RX5 87 ky_T_beginAnswer, .fieldLink RX5 37 "KeyToken$Token" "output" "LKeyToken$Bytes;", .methodLink RX5 163 ky_B_addPair, .fieldLink RX5 12 "KeyToken$Token" "store" "LKeyToken$Store;", .methodLink RX5 155 ky_S_put, .fieldLink RX5 28 "KeyToken$Token" "request" "LKeyToken$Request;", .methodLink RX5 132 ky_R_textNumber, .fieldLink RX5 55 "KeyToken$Token" "wrong" "I", .methodLink RX5 228 ky_T_countWrong, .methodLink RX5 122 ky_R_textHas, .methodLink RX5 181 ky_S_read, .methodLink RX5 178 ky_S_pageOf]
def kg_T_countWrong : List Cond := [.code ky_T_countWrong kb_T_countWrong 2 (some .int), .instanceMethod ky_T_countWrong, .selects RX5 ky_T_countWrong ky_T_countWrong, .initialized RX5, .fieldLink RX5 55 "KeyToken$Token" "wrong" "I", .fieldLink RX5 59 "KeyToken$Token" "ticket" "I"]
def kg_T_reset : List Cond := [.code ky_T_reset kb_T_reset 1 (some .int), .instanceMethod ky_T_reset, .selects RX5 ky_T_reset ky_T_reset, .initialized RX5, .fieldLink RX5 59 "KeyToken$Token" "ticket" "I", .fieldLink RX5 55 "KeyToken$Token" "wrong" "I", .fieldLink RX5 12 "KeyToken$Token" "store" "LKeyToken$Store;", .methodLink RX5 234 ky_S_dropAll, .methodLink RX5 139 ky_T_usePress]
def kg_T_beginAnswer : List Cond := [.code ky_T_beginAnswer kb_T_beginAnswer 2 none, .instanceMethod ky_T_beginAnswer, .selects RX5 ky_T_beginAnswer ky_T_beginAnswer, .initialized RX5, .fieldLink RX5 37 "KeyToken$Token" "output" "LKeyToken$Bytes;", .methodLink RX5 81 ky_B_add, .methodLink RX5 212 ky_B_addHead]
def kg_K_press : List Cond := [.code ky_K_press kb_K_press 1 (some .boolean), .instanceMethod ky_K_press, .selects RX6 ky_K_press ky_K_press, .initialized RX6, .fieldLink RX6 10 "KeyToken" "token" "LKeyToken$Token;"]
def kg_K_waiting : List Cond := [.code ky_K_waiting kb_K_waiting 1 (some .int), .instanceMethod ky_K_waiting, .selects RX6 ky_K_waiting ky_K_waiting, .initialized RX6, .fieldLink RX6 10 "KeyToken" "token" "LKeyToken$Token;", .methodLink RX6 69 ky_B_left]
def kg_K_power : List Cond := [.code ky_K_power kb_K_power 2 (some .boolean), .instanceMethod ky_K_power, .selects RX6 ky_K_power ky_K_power, .initialized RX6, .fieldLink RX6 10 "KeyToken" "token" "LKeyToken$Token;", .methodLink RX6 83 ky_T_goOff, .methodLink RX6 80 ky_T_comeOn]
def kg_K_cut : List Cond := [.code ky_K_cut kb_K_cut 2 (some .boolean), .instanceMethod ky_K_cut, .selects RX6 ky_K_cut ky_K_cut, .initialized RX6, .fieldLink RX6 10 "KeyToken" "token" "LKeyToken$Token;"]
def kg_K_party : List Cond := [.code ky_K_party kb_K_party 4 (some .int), .instanceMethod ky_K_party, .selects RX6 ky_K_party ky_K_party, .initialized RX6, .methodLink RX6 158 ky_P_tell, .methodLink RX6 96 ky_K_partyAt]
def kg_K_cell : List Cond := [.code ky_K_cell kb_K_cell 3 (some .int), .instanceMethod ky_K_cell, .selects RX6 ky_K_cell ky_K_cell, .initialized RX6, .fieldLink RX6 10 "KeyToken" "token" "LKeyToken$Token;", .methodLink RX6 162 ky_S_read]
def kg_K_look : List Cond := [.code ky_K_look kb_K_look 2 (some .int), .instanceMethod ky_K_look, .selects RX6 ky_K_look ky_K_look, .initialized RX6, .fieldLink RX6 10 "KeyToken" "token" "LKeyToken$Token;", .methodLink RX6 69 ky_B_left]
def kg_K_partyAt : List Cond := [.code ky_K_partyAt kb_K_partyAt 2 (some (.object "KeyToken$RelyingParty")), .instanceMethod ky_K_partyAt, .selects RX6 ky_K_partyAt ky_K_partyAt, .initialized RX6, .fieldLink RX6 18 "KeyToken" "parties" "[LKeyToken$RelyingParty;"]
def kg_K_writeMake : List Cond := [.code ky_K_writeMake kb_K_writeMake 5 none, .static ky_K_writeMake, .initialized RX6, .methodLink RX6 187 ky_B_addPair, .methodLink RX6 183 ky_B_addHead, .methodLink RX6 190 ky_K_writeOrigin, .methodLink RX6 126 ky_B_clear, .methodLink RX6 60 ky_B_add]
def kg_K_writeAssert : List Cond := [.code ky_K_writeAssert kb_K_writeAssert 4 none, .static ky_K_writeAssert, .initialized RX6, .methodLink RX6 187 ky_B_addPair, .methodLink RX6 183 ky_B_addHead, .methodLink RX6 190 ky_K_writeOrigin, .methodLink RX6 126 ky_B_clear, .methodLink RX6 60 ky_B_add]
def kg_K_writeOrigin : List Cond := [.code ky_K_writeOrigin kb_K_writeOrigin 3 none, .static ky_K_writeOrigin, .initialized RX6, .methodLink RX6 183 ky_B_addHead, .methodLink RX6 60 ky_B_add]
def kg_K_judge : List Cond := [.code ky_K_judge kb_K_judge 6 (some .int), .instanceMethod ky_K_judge, .selects RX6 ky_K_judge ky_K_judge, .initialized RX6, .methodLink RX6 194 ky_K_alteredField, .methodLink RX6 198 ky_P_judge]
def kg_K_alteredField : List Cond := [.code ky_K_alteredField kb_K_alteredField 6 (some .int), .instanceMethod ky_K_alteredField, .selects RX6 ky_K_alteredField ky_K_alteredField, .initialized RX6, .fieldLink RX6 10 "KeyToken" "token" "LKeyToken$Token;", .methodLink RX6 154 ky_G_field]
def kg_M_thrown : List Cond := [.code ky_M_thrown kb_M_thrown 1 (some .int), .instanceMethod ky_M_thrown, .selects RX7 ky_M_thrown ky_M_thrown, .initialized RX7, .fieldLink RX7 73 "KeyTokenModel" "thrown" "I"]
def kg_M_erased : List Cond := [.code ky_M_erased kb_M_erased 4 (some .boolean), .instanceMethod ky_M_erased, .selects RX7 ky_M_erased ky_M_erased, .initialized RX7, .fieldLink RX7 7 "KeyTokenModel" "cells" "[I"]
def kg_M_erasedPages : List Cond := [.code ky_M_erasedPages kb_M_erasedPages 3 (some .int), .instanceMethod ky_M_erasedPages, .selects RX7 ky_M_erasedPages ky_M_erasedPages, .initialized RX7, .methodLink RX7 76 ky_M_erased]
def kg_M_seal : List Cond := [.code ky_M_seal kb_M_seal 4 (some .int), .instanceMethod ky_M_seal, .selects RX7 ky_M_seal ky_M_seal, .initialized RX7, .constant RX7 81 2147483647, .fieldLink RX7 7 "KeyTokenModel" "cells" "[I", .constant RX7 80 16777619]
def kg_M_nameOf : List Cond := [.code ky_M_nameOf kb_M_nameOf 2 (some .int), .instanceMethod ky_M_nameOf, .selects RX7 ky_M_nameOf ky_M_nameOf, .initialized RX7, .fieldLink RX7 7 "KeyTokenModel" "cells" "[I"]
def kg_M_serialOf : List Cond := [.code ky_M_serialOf kb_M_serialOf 2 (some .int), .instanceMethod ky_M_serialOf, .selects RX7 ky_M_serialOf ky_M_serialOf, .initialized RX7, .fieldLink RX7 7 "KeyTokenModel" "cells" "[I"]
def kg_M_page : List Cond := [.code ky_M_page kb_M_page 3 (some .int), .instanceMethod ky_M_page, .selects RX7 ky_M_page ky_M_page, .initialized RX7, .methodLink RX7 82 ky_M_nameOf, .methodLink RX7 76 ky_M_erased]
def kg_M_data : List Cond := [.code ky_M_data kb_M_data 3 (some .int), .instanceMethod ky_M_data, .selects RX7 ky_M_data ky_M_data, .initialized RX7, .fieldLink RX7 7 "KeyTokenModel" "cells" "[I", .methodLink RX7 86 ky_M_page]
def kg_M_erase : List Cond := [.code ky_M_erase kb_M_erase 3 none, .instanceMethod ky_M_erase, .selects RX7 ky_M_erase ky_M_erase, .initialized RX7, .fieldLink RX7 7 "KeyTokenModel" "cells" "[I"]
def kg_M_mayWrite : List Cond := [.code ky_M_mayWrite kb_M_mayWrite 1 (some .boolean), .instanceMethod ky_M_mayWrite, .selects RX7 ky_M_mayWrite ky_M_mayWrite, .initialized RX7, .fieldLink RX7 89 "KeyTokenModel" "made" "I", .fieldLink RX7 95 "KeyTokenModel" "writes" "I", .methodLink RX7 92 ky_M_off, .fieldLink RX7 13 "KeyTokenModel" "cutAt" "I"]
def kg_M_canPut : List Cond := [.code ky_M_canPut kb_M_canPut 2 (some .boolean), .instanceMethod ky_M_canPut, .selects RX7 ky_M_canPut ky_M_canPut, .initialized RX7, .methodLink RX7 98 ky_M_erasedPages, .methodLink RX7 86 ky_M_page]
def kg_M_put : List Cond := [.code ky_M_put kb_M_put 10 (some .boolean), .instanceMethod ky_M_put, .selects RX7 ky_M_put ky_M_put, .initialized RX7, .methodLink RX7 112 ky_M_erase, .methodLink RX7 105 ky_M_mayWrite, .methodLink RX7 109 ky_M_seal, .fieldLink RX7 7 "KeyTokenModel" "cells" "[I", .methodLink RX7 102 ky_M_serialOf, .methodLink RX7 76 ky_M_erased, .methodLink RX7 86 ky_M_page]
def kg_M_off : List Cond := [.code ky_M_off kb_M_off 1 none, .instanceMethod ky_M_off, .selects RX7 ky_M_off ky_M_off, .initialized RX7, .fieldLink RX7 17 "KeyTokenModel" "power" "Z", .methodLink RX7 116 ky_M_empty, .fieldLink RX7 13 "KeyTokenModel" "cutAt" "I"]
def kg_M_empty : List Cond := [.code ky_M_empty kb_M_empty 1 none, .instanceMethod ky_M_empty, .selects RX7 ky_M_empty ky_M_empty, .initialized RX7, .fieldLink RX7 119 "KeyTokenModel" "pressed" "Z", .fieldLink RX7 122 "KeyTokenModel" "wrong" "I", .fieldLink RX7 125 "KeyTokenModel" "ticket" "I", .fieldLink RX7 128 "KeyTokenModel" "inSize" "I", .fieldLink RX7 131 "KeyTokenModel" "outSize" "I", .fieldLink RX7 134 "KeyTokenModel" "left" "I"]
def kg_M_comeUp : List Cond := [.code ky_M_comeUp kb_M_comeUp 5 none, .instanceMethod ky_M_comeUp, .selects RX7 ky_M_comeUp ky_M_comeUp, .initialized RX7, .methodLink RX7 112 ky_M_erase, .fieldLink RX7 95 "KeyTokenModel" "writes" "I", .methodLink RX7 102 ky_M_serialOf, .methodLink RX7 82 ky_M_nameOf, .fieldLink RX7 7 "KeyTokenModel" "cells" "[I", .methodLink RX7 109 ky_M_seal, .methodLink RX7 76 ky_M_erased, .fieldLink RX7 17 "KeyTokenModel" "power" "Z", .methodLink RX7 116 ky_M_empty]
def kg_M_head : List Cond := [.code ky_M_head kb_M_head 7 none, .instanceMethod ky_M_head, .selects RX7 ky_M_head ky_M_head, .initialized RX7, .fieldLink RX7 146 "KeyTokenModel" "bad" "Z", .fieldLink RX7 140 "KeyTokenModel" "number" "I", .constantLong RX7 155 2147483647, .constantLong RX7 153 65536, .constantLong RX7 151 256, .constantLong RX7 149 24, .fieldLink RX7 143 "KeyTokenModel" "at" "I", .fieldLink RX7 21 "KeyTokenModel" "input" "[I", .fieldLink RX7 137 "KeyTokenModel" "major" "I", .fieldLink RX7 128 "KeyTokenModel" "inSize" "I"]
def kg_M_string : List Cond := [.code ky_M_string kb_M_string 3 (some .boolean), .instanceMethod ky_M_string, .selects RX7 ky_M_string ky_M_string, .initialized RX7, .fieldLink RX7 21 "KeyTokenModel" "input" "[I", .fieldLink RX7 143 "KeyTokenModel" "at" "I", .fieldLink RX7 137 "KeyTokenModel" "major" "I", .fieldLink RX7 140 "KeyTokenModel" "number" "I", .fieldLink RX7 128 "KeyTokenModel" "inSize" "I"]
def kg_M_formed : List Cond := [.code ky_M_formed kb_M_formed 2 (some .boolean), .instanceMethod ky_M_formed, .selects RX7 ky_M_formed ky_M_formed, .initialized RX7, .fieldLink RX7 143 "KeyTokenModel" "at" "I", .fieldLink RX7 128 "KeyTokenModel" "inSize" "I", .fieldLink RX7 146 "KeyTokenModel" "bad" "Z", .methodLink RX7 169 ky_M_item, .methodLink RX7 166 ky_M_readKey, .fieldLink RX7 43 "KeyTokenModel" "wantsKey" "[Z", .fieldLink RX7 33 "KeyTokenModel" "isMap" "[Z", .fieldLink RX7 37 "KeyTokenModel" "more" "[I", .methodLink RX7 163 ky_M_enter, .fieldLink RX7 137 "KeyTokenModel" "major" "I", .methodLink RX7 160 ky_M_head, .fieldLink RX7 157 "KeyTokenModel" "pairs" "I"]
def kg_M_enter : List Cond := [.code ky_M_enter kb_M_enter 2 none, .instanceMethod ky_M_enter, .selects RX7 ky_M_enter ky_M_enter, .initialized RX7, .fieldLink RX7 37 "KeyTokenModel" "more" "[I", .fieldLink RX7 140 "KeyTokenModel" "number" "I", .fieldLink RX7 40 "KeyTokenModel" "before" "[I", .fieldLink RX7 43 "KeyTokenModel" "wantsKey" "[Z", .fieldLink RX7 33 "KeyTokenModel" "isMap" "[Z", .fieldLink RX7 137 "KeyTokenModel" "major" "I"]
def kg_M_readKey : List Cond := [.code ky_M_readKey kb_M_readKey 2 none, .instanceMethod ky_M_readKey, .selects RX7 ky_M_readKey ky_M_readKey, .initialized RX7, .fieldLink RX7 46 "KeyTokenModel" "key" "[I", .fieldLink RX7 157 "KeyTokenModel" "pairs" "I", .fieldLink RX7 140 "KeyTokenModel" "number" "I", .fieldLink RX7 146 "KeyTokenModel" "bad" "Z", .fieldLink RX7 40 "KeyTokenModel" "before" "[I", .fieldLink RX7 43 "KeyTokenModel" "wantsKey" "[Z", .fieldLink RX7 137 "KeyTokenModel" "major" "I", .methodLink RX7 160 ky_M_head]
def kg_M_item : List Cond := [.code ky_M_item kb_M_item 3 (some .int), .instanceMethod ky_M_item, .selects RX7 ky_M_item ky_M_item, .initialized RX7, .fieldLink RX7 146 "KeyTokenModel" "bad" "Z", .methodLink RX7 163 ky_M_enter, .fieldLink RX7 137 "KeyTokenModel" "major" "I", .fieldLink RX7 143 "KeyTokenModel" "at" "I", .fieldLink RX7 140 "KeyTokenModel" "number" "I", .methodLink RX7 172 ky_M_string, .fieldLink RX7 58 "KeyTokenModel" "numbers" "[Z", .fieldLink RX7 157 "KeyTokenModel" "pairs" "I", .fieldLink RX7 49 "KeyTokenModel" "kind" "[I", .fieldLink RX7 52 "KeyTokenModel" "value" "[I", .fieldLink RX7 55 "KeyTokenModel" "place" "[I", .methodLink RX7 160 ky_M_head, .fieldLink RX7 37 "KeyTokenModel" "more" "[I", .fieldLink RX7 43 "KeyTokenModel" "wantsKey" "[Z"]
def kg_M_find : List Cond := [.code ky_M_find kb_M_find 3 (some .int), .instanceMethod ky_M_find, .selects RX7 ky_M_find ky_M_find, .initialized RX7, .fieldLink RX7 46 "KeyTokenModel" "key" "[I", .fieldLink RX7 157 "KeyTokenModel" "pairs" "I"]
def kg_M_is : List Cond := [.code ky_M_is kb_M_is 4 (some .boolean), .instanceMethod ky_M_is, .selects RX7 ky_M_is ky_M_is, .initialized RX7, .fieldLink RX7 58 "KeyTokenModel" "numbers" "[Z", .fieldLink RX7 49 "KeyTokenModel" "kind" "[I", .methodLink RX7 175 ky_M_find]
def kg_M_there : List Cond := [.code ky_M_there kb_M_there 2 (some .boolean), .instanceMethod ky_M_there, .selects RX7 ky_M_there ky_M_there, .initialized RX7, .methodLink RX7 175 ky_M_find]
def kg_M_get : List Cond := [.code ky_M_get kb_M_get 2 (some .int), .instanceMethod ky_M_get, .selects RX7 ky_M_get ky_M_get, .initialized RX7, .fieldLink RX7 52 "KeyTokenModel" "value" "[I", .methodLink RX7 175 ky_M_find]
def kg_M_listed : List Cond := [.code ky_M_listed kb_M_listed 6 (some .boolean), .instanceMethod ky_M_listed, .selects RX7 ky_M_listed ky_M_listed, .initialized RX7, .fieldLink RX7 140 "KeyTokenModel" "number" "I", .methodLink RX7 160 ky_M_head, .fieldLink RX7 52 "KeyTokenModel" "value" "[I", .methodLink RX7 175 ky_M_find, .fieldLink RX7 55 "KeyTokenModel" "place" "[I", .fieldLink RX7 143 "KeyTokenModel" "at" "I"]
def kg_M_textNumber : List Cond := [.code ky_M_textNumber kb_M_textNumber 5 (some .int), .instanceMethod ky_M_textNumber, .selects RX7 ky_M_textNumber ky_M_textNumber, .initialized RX7, .fieldLink RX7 21 "KeyTokenModel" "input" "[I", .fieldLink RX7 55 "KeyTokenModel" "place" "[I", .fieldLink RX7 52 "KeyTokenModel" "value" "[I", .methodLink RX7 175 ky_M_find]
def kg_M_out : List Cond := [.code ky_M_out kb_M_out 2 none, .instanceMethod ky_M_out, .selects RX7 ky_M_out ky_M_out, .initialized RX7, .fieldLink RX7 24 "KeyTokenModel" "output" "[I", .fieldLink RX7 131 "KeyTokenModel" "outSize" "I"]
def kg_M_number : List Cond := [.code ky_M_number kb_M_number 4 none, .instanceMethod ky_M_number, .selects RX7 ky_M_number ky_M_number, .initialized RX7, .methodLink RX7 178 ky_M_out, .constant RX7 181 65536]
def kg_M_pair : List Cond := [.code ky_M_pair kb_M_pair 3 none, .instanceMethod ky_M_pair, .selects RX7 ky_M_pair ky_M_pair, .initialized RX7, .methodLink RX7 178 ky_M_out, .methodLink RX7 182 ky_M_number]
def kg_M_begin : List Cond := [.code ky_M_begin kb_M_begin 2 none, .instanceMethod ky_M_begin, .selects RX7 ky_M_begin ky_M_begin, .initialized RX7, .fieldLink RX7 131 "KeyTokenModel" "outSize" "I", .methodLink RX7 178 ky_M_out]
def kg_M_request : List Cond := [.code ky_M_request kb_M_request 3 (some .int), .instanceMethod ky_M_request, .selects RX7 ky_M_request ky_M_request, .initialized RX7, .fieldLink RX7 128 "KeyTokenModel" "inSize" "I", .fieldLink RX7 13 "KeyTokenModel" "cutAt" "I", .fieldLink RX7 131 "KeyTokenModel" "outSize" "I", .methodLink RX7 178 ky_M_out, .fieldLink RX7 17 "KeyTokenModel" "power" "Z", .fieldLink RX7 134 "KeyTokenModel" "left" "I", .methodLink RX7 190 ky_M_perform, .methodLink RX7 187 ky_M_begin, .methodLink RX7 184 ky_M_formed, .fieldLink RX7 21 "KeyTokenModel" "input" "[I", .fieldLink RX7 89 "KeyTokenModel" "made" "I"]
def kg_M_perform : List Cond := [.code ky_M_perform kb_M_perform 2 (some .int), .instanceMethod ky_M_perform, .selects RX7 ky_M_perform ky_M_perform, .initialized RX7, .methodLink RX7 208 ky_M_reset, .methodLink RX7 205 ky_M_info, .methodLink RX7 202 ky_M_pin, .methodLink RX7 199 ky_M_next, .methodLink RX7 196 ky_M_ask, .methodLink RX7 193 ky_M_make]
def kg_M_ticketWrong : List Cond := [.code ky_M_ticketWrong kb_M_ticketWrong 2 (some .boolean), .instanceMethod ky_M_ticketWrong, .selects RX7 ky_M_ticketWrong ky_M_ticketWrong, .initialized RX7, .methodLink RX7 211 ky_M_get, .fieldLink RX7 125 "KeyTokenModel" "ticket" "I"]
def kg_M_make : List Cond := [.code ky_M_make kb_M_make 6 (some .int), .instanceMethod ky_M_make, .selects RX7 ky_M_make ky_M_make, .initialized RX7, .methodLink RX7 244 ky_M_sign, .methodLink RX7 187 ky_M_begin, .methodLink RX7 248 ky_M_pair, .fieldLink RX7 237 "KeyTokenModel" "keys" "I", .fieldLink RX7 252 "KeyTokenModel" "signatures" "I", .methodLink RX7 211 ky_M_get, .methodLink RX7 240 ky_M_put, .methodLink RX7 234 ky_M_canPut, .methodLink RX7 227 ky_M_data, .methodLink RX7 86 ky_M_page, .fieldLink RX7 119 "KeyTokenModel" "pressed" "Z", .methodLink RX7 231 ky_M_listed, .methodLink RX7 218 ky_M_there, .methodLink RX7 224 ky_M_textNumber, .methodLink RX7 221 ky_M_ticketWrong, .methodLink RX7 214 ky_M_is]
def kg_M_sign : List Cond := [.code ky_M_sign kb_M_sign 8 none, .instanceMethod ky_M_sign, .selects RX7 ky_M_sign ky_M_sign, .initialized RX7, .fieldLink RX7 252 "KeyTokenModel" "signatures" "I", .fieldLink RX7 30 "KeyTokenModel" "signed" "[I"]
def kg_M_ask : List Cond := [.code ky_M_ask kb_M_ask 5 (some .int), .instanceMethod ky_M_ask, .selects RX7 ky_M_ask ky_M_ask, .initialized RX7, .fieldLink RX7 258 "KeyTokenModel" "nextVerified" "I", .methodLink RX7 261 ky_M_signNext, .fieldLink RX7 119 "KeyTokenModel" "pressed" "Z", .fieldLink RX7 134 "KeyTokenModel" "left" "I", .methodLink RX7 211 ky_M_get, .fieldLink RX7 255 "KeyTokenModel" "nextChallenge" "I", .methodLink RX7 218 ky_M_there, .fieldLink RX7 27 "KeyTokenModel" "nexts" "[I", .methodLink RX7 86 ky_M_page, .methodLink RX7 102 ky_M_serialOf, .methodLink RX7 231 ky_M_listed, .methodLink RX7 227 ky_M_data, .methodLink RX7 224 ky_M_textNumber, .methodLink RX7 221 ky_M_ticketWrong, .methodLink RX7 214 ky_M_is]
def kg_M_signNext : List Cond := [.code ky_M_signNext kb_M_signNext 7 (some .int), .instanceMethod ky_M_signNext, .selects RX7 ky_M_signNext ky_M_signNext, .initialized RX7, .methodLink RX7 248 ky_M_pair, .methodLink RX7 187 ky_M_begin, .fieldLink RX7 252 "KeyTokenModel" "signatures" "I", .fieldLink RX7 255 "KeyTokenModel" "nextChallenge" "I", .fieldLink RX7 258 "KeyTokenModel" "nextVerified" "I", .methodLink RX7 244 ky_M_sign, .fieldLink RX7 134 "KeyTokenModel" "left" "I", .methodLink RX7 227 ky_M_data, .methodLink RX7 240 ky_M_put, .fieldLink RX7 27 "KeyTokenModel" "nexts" "[I"]
def kg_M_next : List Cond := [.code ky_M_next kb_M_next 1 (some .int), .instanceMethod ky_M_next, .selects RX7 ky_M_next ky_M_next, .initialized RX7, .methodLink RX7 261 ky_M_signNext, .fieldLink RX7 134 "KeyTokenModel" "left" "I"]
def kg_M_info : List Cond := [.code ky_M_info kb_M_info 3 (some .int), .instanceMethod ky_M_info, .selects RX7 ky_M_info ky_M_info, .initialized RX7, .methodLink RX7 178 ky_M_out, .methodLink RX7 98 ky_M_erasedPages, .methodLink RX7 248 ky_M_pair, .methodLink RX7 187 ky_M_begin, .methodLink RX7 86 ky_M_page]
def kg_M_reset : List Cond := [.code ky_M_reset kb_M_reset 2 (some .int), .instanceMethod ky_M_reset, .selects RX7 ky_M_reset ky_M_reset, .initialized RX7, .fieldLink RX7 125 "KeyTokenModel" "ticket" "I", .fieldLink RX7 122 "KeyTokenModel" "wrong" "I", .methodLink RX7 112 ky_M_erase, .methodLink RX7 105 ky_M_mayWrite, .methodLink RX7 76 ky_M_erased, .fieldLink RX7 119 "KeyTokenModel" "pressed" "Z"]
def kg_M_pin : List Cond := [.code ky_M_pin kb_M_pin 4 (some .int), .instanceMethod ky_M_pin, .selects RX7 ky_M_pin ky_M_pin, .initialized RX7, .methodLink RX7 264 ky_M_tried, .fieldLink RX7 122 "KeyTokenModel" "wrong" "I", .methodLink RX7 227 ky_M_data, .methodLink RX7 224 ky_M_textNumber, .methodLink RX7 240 ky_M_put, .methodLink RX7 234 ky_M_canPut, .methodLink RX7 211 ky_M_get, .methodLink RX7 218 ky_M_there, .methodLink RX7 248 ky_M_pair, .methodLink RX7 187 ky_M_begin, .methodLink RX7 86 ky_M_page, .methodLink RX7 214 ky_M_is]
def kg_M_tried : List Cond := [.code ky_M_tried kb_M_tried 4 (some .int), .instanceMethod ky_M_tried, .selects RX7 ky_M_tried ky_M_tried, .initialized RX7, .fieldLink RX7 267 "KeyTokenModel" "tickets" "I", .fieldLink RX7 125 "KeyTokenModel" "ticket" "I", .methodLink RX7 187 ky_M_begin, .methodLink RX7 248 ky_M_pair, .methodLink RX7 240 ky_M_put, .methodLink RX7 224 ky_M_textNumber, .fieldLink RX7 122 "KeyTokenModel" "wrong" "I", .methodLink RX7 227 ky_M_data]
def kg_M_press : List Cond := [.code ky_M_press kb_M_press 1 (some .boolean), .instanceMethod ky_M_press, .selects RX7 ky_M_press ky_M_press, .initialized RX7, .fieldLink RX7 119 "KeyTokenModel" "pressed" "Z", .fieldLink RX7 73 "KeyTokenModel" "thrown" "I", .fieldLink RX7 17 "KeyTokenModel" "power" "Z"]
def kg_M_feed : List Cond := [.code ky_M_feed kb_M_feed 5 none, .instanceMethod ky_M_feed, .selects RX7 ky_M_feed ky_M_feed, .initialized RX7, .fieldLink RX7 21 "KeyTokenModel" "input" "[I", .fieldLink RX7 128 "KeyTokenModel" "inSize" "I", .constantLong RX7 270 255, .fieldLink RX7 73 "KeyTokenModel" "thrown" "I", .fieldLink RX7 17 "KeyTokenModel" "power" "Z"]
def kg_M_send : List Cond := [.code ky_M_send kb_M_send 1 (some .int), .instanceMethod ky_M_send, .selects RX7 ky_M_send ky_M_send, .initialized RX7, .methodLink RX7 272 ky_M_request, .fieldLink RX7 73 "KeyTokenModel" "thrown" "I", .fieldLink RX7 17 "KeyTokenModel" "power" "Z"]
def kg_M_waiting : List Cond := [.code ky_M_waiting kb_M_waiting 1 (some .int), .instanceMethod ky_M_waiting, .selects RX7 ky_M_waiting ky_M_waiting, .initialized RX7, .fieldLink RX7 73 "KeyTokenModel" "thrown" "I", .fieldLink RX7 131 "KeyTokenModel" "outSize" "I"]
def kg_M_take : List Cond := [.code ky_M_take kb_M_take 5 (some .long), .instanceMethod ky_M_take, .selects RX7 ky_M_take ky_M_take, .initialized RX7, .fieldLink RX7 131 "KeyTokenModel" "outSize" "I", .fieldLink RX7 24 "KeyTokenModel" "output" "[I", .fieldLink RX7 73 "KeyTokenModel" "thrown" "I"]
def kg_M_power : List Cond := [.code ky_M_power kb_M_power 2 (some .boolean), .instanceMethod ky_M_power, .selects RX7 ky_M_power ky_M_power, .initialized RX7, .methodLink RX7 92 ky_M_off, .methodLink RX7 275 ky_M_comeUp, .fieldLink RX7 73 "KeyTokenModel" "thrown" "I", .fieldLink RX7 17 "KeyTokenModel" "power" "Z"]
def kg_M_cut : List Cond := [.code ky_M_cut kb_M_cut 2 (some .boolean), .instanceMethod ky_M_cut, .selects RX7 ky_M_cut ky_M_cut, .initialized RX7, .fieldLink RX7 13 "KeyTokenModel" "cutAt" "I", .fieldLink RX7 17 "KeyTokenModel" "power" "Z", .fieldLink RX7 73 "KeyTokenModel" "thrown" "I"]
def kg_M_isParty : List Cond := [.code ky_M_isParty kb_M_isParty 1 (some .boolean), .static ky_M_isParty, .initialized RX7]
def kg_M_open : List Cond := [.code ky_M_open kb_M_open 3 (some .int), .instanceMethod ky_M_open, .selects RX7 ky_M_open ky_M_open, .initialized RX7, .fieldLink RX7 281 "KeyTokenModel" "challenges" "I", .fieldLink RX7 67 "KeyTokenModel" "opened" "[I", .fieldLink RX7 70 "KeyTokenModel" "wanted" "[I", .fieldLink RX7 73 "KeyTokenModel" "thrown" "I", .methodLink RX7 278 ky_M_isParty]
def kg_M_in : List Cond := [.code ky_M_in kb_M_in 2 none, .instanceMethod ky_M_in, .selects RX7 ky_M_in ky_M_in, .initialized RX7, .fieldLink RX7 21 "KeyTokenModel" "input" "[I", .fieldLink RX7 128 "KeyTokenModel" "inSize" "I"]
def kg_M_inPair : List Cond := [.code ky_M_inPair kb_M_inPair 5 none, .instanceMethod ky_M_inPair, .selects RX7 ky_M_inPair ky_M_inPair, .initialized RX7, .fieldLink RX7 131 "KeyTokenModel" "outSize" "I", .fieldLink RX7 24 "KeyTokenModel" "output" "[I", .methodLink RX7 284 ky_M_in, .methodLink RX7 182 ky_M_number]
def kg_M_ceremony : List Cond := [.code ky_M_ceremony kb_M_ceremony 7 (some .int), .instanceMethod ky_M_ceremony, .selects RX7 ky_M_ceremony ky_M_ceremony, .initialized RX7, .fieldLink RX7 252 "KeyTokenModel" "signatures" "I", .methodLink RX7 290 ky_M_judge, .methodLink RX7 272 ky_M_request, .fieldLink RX7 131 "KeyTokenModel" "outSize" "I", .methodLink RX7 287 ky_M_inPair, .fieldLink RX7 70 "KeyTokenModel" "wanted" "[I", .methodLink RX7 284 ky_M_in, .fieldLink RX7 128 "KeyTokenModel" "inSize" "I", .fieldLink RX7 67 "KeyTokenModel" "opened" "[I", .fieldLink RX7 73 "KeyTokenModel" "thrown" "I", .fieldLink RX7 17 "KeyTokenModel" "power" "Z", .methodLink RX7 278 ky_M_isParty]
def kg_M_judge : List Cond := [.code ky_M_judge kb_M_judge 13 (some .int), .instanceMethod ky_M_judge, .selects RX7 ky_M_judge ky_M_judge, .initialized RX7, .fieldLink RX7 64 "KeyTokenModel" "registrations" "[I", .fieldLink RX7 67 "KeyTokenModel" "opened" "[I", .fieldLink RX7 70 "KeyTokenModel" "wanted" "[I", .fieldLink RX7 61 "KeyTokenModel" "registered" "[I", .fieldLink RX7 30 "KeyTokenModel" "signed" "[I"]
def kg_M_isSignature : List Cond := [.code ky_M_isSignature kb_M_isSignature 2 (some .boolean), .instanceMethod ky_M_isSignature, .selects RX7 ky_M_isSignature ky_M_isSignature, .initialized RX7, .fieldLink RX7 252 "KeyTokenModel" "signatures" "I"]
def kg_M_offer : List Cond := [.code ky_M_offer kb_M_offer 5 (some .int), .instanceMethod ky_M_offer, .selects RX7 ky_M_offer ky_M_offer, .initialized RX7, .methodLink RX7 290 ky_M_judge, .fieldLink RX7 73 "KeyTokenModel" "thrown" "I", .fieldLink RX7 67 "KeyTokenModel" "opened" "[I", .methodLink RX7 294 ky_M_isSignature, .methodLink RX7 278 ky_M_isParty]
def kg_M_signature : List Cond := [.code ky_M_signature kb_M_signature 3 (some .int), .instanceMethod ky_M_signature, .selects RX7 ky_M_signature ky_M_signature, .initialized RX7, .fieldLink RX7 30 "KeyTokenModel" "signed" "[I", .fieldLink RX7 73 "KeyTokenModel" "thrown" "I", .methodLink RX7 294 ky_M_isSignature]
def kg_M_party : List Cond := [.code ky_M_party kb_M_party 4 (some .int), .instanceMethod ky_M_party, .selects RX7 ky_M_party ky_M_party, .initialized RX7, .fieldLink RX7 67 "KeyTokenModel" "opened" "[I", .fieldLink RX7 61 "KeyTokenModel" "registered" "[I", .fieldLink RX7 64 "KeyTokenModel" "registrations" "[I", .fieldLink RX7 73 "KeyTokenModel" "thrown" "I", .methodLink RX7 278 ky_M_isParty]
def kg_M_cell : List Cond := [.code ky_M_cell kb_M_cell 3 (some .int), .instanceMethod ky_M_cell, .selects RX7 ky_M_cell ky_M_cell, .initialized RX7, .fieldLink RX7 7 "KeyTokenModel" "cells" "[I", .fieldLink RX7 73 "KeyTokenModel" "thrown" "I"]
def kg_M_look : List Cond := [.code ky_M_look kb_M_look 2 (some .int), .instanceMethod ky_M_look, .selects RX7 ky_M_look ky_M_look, .initialized RX7, .fieldLink RX7 252 "KeyTokenModel" "signatures" "I", .fieldLink RX7 237 "KeyTokenModel" "keys" "I", .fieldLink RX7 128 "KeyTokenModel" "inSize" "I", .fieldLink RX7 95 "KeyTokenModel" "writes" "I", .fieldLink RX7 134 "KeyTokenModel" "left" "I", .fieldLink RX7 125 "KeyTokenModel" "ticket" "I", .fieldLink RX7 122 "KeyTokenModel" "wrong" "I", .fieldLink RX7 119 "KeyTokenModel" "pressed" "Z", .fieldLink RX7 17 "KeyTokenModel" "power" "Z", .fieldLink RX7 73 "KeyTokenModel" "thrown" "I"]
def kg_A_fill : List Cond := [.code ky_A_fill kb_A_fill 4 none, .static ky_A_fill, .initialized "java/util/Arrays"]
def kt_Gs : List (List Cond) := [u_ws RX0 TX0 3, u_ws RX1 TX1 7, u_ws RX2 TX2 7, u_ws RX3 TX3 2, u_ws RX4 TX4 3, u_ws RX5 TX5 15, u_ws RX6 TX6 3, u_ws RX7 TX7 40, kg_B_clear, kg_B_left, kg_B_room, kg_B_removeFirst, kg_B_add, kg_B_addHead, kg_B_addPair, kg_B_widthOf, kg_P_judge, kg_P_register, kg_P_accept, kg_P_find, kg_P_tell, kg_R_command, kg_R_parse, kg_R_readItem, kg_R_readList, kg_R_readMap, kg_R_readHead, kg_R_readWide, kg_R_passBytes, kg_R_checkMake, kg_R_checkAssert, kg_R_checkPin, kg_R_check, kg_R_has, kg_R_numberOf, kg_R_lists, kg_R_textHas, kg_R_textNumber, kg_G_has, kg_G_field, kg_G_make, kg_S_read, kg_S_pageOf, kg_S_has, kg_S_erasedPages, kg_S_labelBelow, kg_S_hasRoomFor, kg_S_put, kg_S_dropAll, kg_S_lookThrough, kg_S_isOutdated, kg_S_isSealed, kg_S_sealOf, kg_S_firstErased, kg_S_write, kg_S_erase, kg_S_spendWrite, kg_T_comeOn, kg_T_goOff, kg_T_serve, kg_T_perform, kg_T_isCommand, kg_T_makeCredential, kg_T_isTicket, kg_T_usePress, kg_T_isExcluded, kg_T_isCredential, kg_T_nameFor, kg_T_signFirst, kg_T_signNext, kg_T_signWith, kg_T_forgetNext, kg_T_findCredentials, kg_T_tellInfo, kg_T_doPin, kg_T_tellTries, kg_T_setPin, kg_T_provePin, kg_T_countWrong, kg_T_reset, kg_T_beginAnswer, kg_K_press, kg_K_waiting, kg_K_power, kg_K_cut, kg_K_party, kg_K_cell, kg_K_look, kg_K_partyAt, kg_K_writeMake, kg_K_writeAssert, kg_K_writeOrigin, kg_K_judge, kg_K_alteredField, kg_M_thrown, kg_M_erased, kg_M_erasedPages, kg_M_seal, kg_M_nameOf, kg_M_serialOf, kg_M_page, kg_M_data, kg_M_erase, kg_M_mayWrite, kg_M_canPut, kg_M_put, kg_M_off, kg_M_empty, kg_M_comeUp, kg_M_head, kg_M_string, kg_M_formed, kg_M_enter, kg_M_readKey, kg_M_item, kg_M_find, kg_M_is, kg_M_there, kg_M_get, kg_M_listed, kg_M_textNumber, kg_M_out, kg_M_number, kg_M_pair, kg_M_begin, kg_M_request, kg_M_perform, kg_M_ticketWrong, kg_M_make, kg_M_sign, kg_M_ask, kg_M_signNext, kg_M_next, kg_M_info, kg_M_reset, kg_M_pin, kg_M_tried, kg_M_press, kg_M_feed, kg_M_send, kg_M_waiting, kg_M_take, kg_M_power, kg_M_cut, kg_M_isParty, kg_M_open, kg_M_in, kg_M_inPair, kg_M_ceremony, kg_M_judge, kg_M_isSignature, kg_M_offer, kg_M_signature, kg_M_party, kg_M_cell, kg_M_look, kg_A_fill]
def kt_G : List Cond := kt_Gs.flatten
theorem kt_G_all : kt_G.all goodWord = true := by decide +kernel
theorem kt_G_good : ∀ w ∈ kt_G, goodWord w = true := fun w h => List.all_eq_true.mp kt_G_all w h
def kt_N : List Cond := [.fieldLinkNest RX2 34 "KeyToken$Bytes" "cells" "[I" "KeyToken", .fieldLinkNest RX2 47 "KeyToken$Bytes" "end" "I" "KeyToken", .fieldLinkNest RX5 62 "KeyToken$Request" "input" "LKeyToken$Bytes;" "KeyToken", .fieldLinkNest RX5 71 "KeyToken$Store" "writesUntilCut" "I" "KeyToken", .fieldLinkNest RX5 167 "KeyToken$Signatures" "made" "I" "KeyToken", .fieldLinkNest RX6 29 "KeyToken$Token" "pressed" "Z" "KeyToken", .fieldLinkNest RX6 25 "KeyToken$Token" "powered" "Z" "KeyToken", .fieldLinkNest RX6 66 "KeyToken$Token" "output" "LKeyToken$Bytes;" "KeyToken", .fieldLinkNest RX6 86 "KeyToken$Token" "store" "LKeyToken$Store;" "KeyToken", .fieldLinkNest RX6 90 "KeyToken$Store" "writesUntilCut" "I" "KeyToken", .fieldLinkNest RX6 165 "KeyToken$Token" "wrong" "I" "KeyToken", .fieldLinkNest RX6 168 "KeyToken$Token" "ticket" "I" "KeyToken", .fieldLinkNest RX6 171 "KeyToken$Token" "nextEnd" "I" "KeyToken", .fieldLinkNest RX6 174 "KeyToken$Token" "nextAt" "I" "KeyToken", .fieldLinkNest RX6 177 "KeyToken$Store" "writes" "I" "KeyToken", .fieldLinkNest RX6 39 "KeyToken$Token" "request" "LKeyToken$Request;" "KeyToken", .fieldLinkNest RX6 43 "KeyToken$Request" "input" "LKeyToken$Bytes;" "KeyToken", .fieldLinkNest RX6 180 "KeyToken$Token" "keysMade" "I" "KeyToken", .fieldLinkNest RX6 129 "KeyToken$Token" "signatures" "LKeyToken$Signatures;" "KeyToken", .fieldLinkNest RX6 133 "KeyToken$Signatures" "made" "I" "KeyToken"]
theorem kt_hc0 : vwCl[0]? = some (RX0, TX0, 3) := rfl
theorem kt_hin0 : ∀ w ∈ u_ws RX0 TX0 3, w ∈ kt_G := fun _ h => List.mem_flatten.mpr ⟨_, List.mem_of_getElem? (l := kt_Gs) (i := 0) rfl, h⟩
theorem kt_hc1 : vwCl[1]? = some (RX1, TX1, 7) := rfl
theorem kt_hin1 : ∀ w ∈ u_ws RX1 TX1 7, w ∈ kt_G := fun _ h => List.mem_flatten.mpr ⟨_, List.mem_of_getElem? (l := kt_Gs) (i := 1) rfl, h⟩
theorem kt_hc2 : vwCl[2]? = some (RX2, TX2, 7) := rfl
theorem kt_hin2 : ∀ w ∈ u_ws RX2 TX2 7, w ∈ kt_G := fun _ h => List.mem_flatten.mpr ⟨_, List.mem_of_getElem? (l := kt_Gs) (i := 2) rfl, h⟩
theorem kt_hc3 : vwCl[3]? = some (RX3, TX3, 2) := rfl
theorem kt_hin3 : ∀ w ∈ u_ws RX3 TX3 2, w ∈ kt_G := fun _ h => List.mem_flatten.mpr ⟨_, List.mem_of_getElem? (l := kt_Gs) (i := 3) rfl, h⟩
theorem kt_hc4 : vwCl[4]? = some (RX4, TX4, 3) := rfl
theorem kt_hin4 : ∀ w ∈ u_ws RX4 TX4 3, w ∈ kt_G := fun _ h => List.mem_flatten.mpr ⟨_, List.mem_of_getElem? (l := kt_Gs) (i := 4) rfl, h⟩
theorem kt_hc5 : vwCl[5]? = some (RX5, TX5, 15) := rfl
theorem kt_hin5 : ∀ w ∈ u_ws RX5 TX5 15, w ∈ kt_G := fun _ h => List.mem_flatten.mpr ⟨_, List.mem_of_getElem? (l := kt_Gs) (i := 5) rfl, h⟩
theorem kt_hc6 : vwCl[6]? = some (RX6, TX6, 3) := rfl
theorem kt_hin6 : ∀ w ∈ u_ws RX6 TX6 3, w ∈ kt_G := fun _ h => List.mem_flatten.mpr ⟨_, List.mem_of_getElem? (l := kt_Gs) (i := 6) rfl, h⟩
theorem kt_hc7 : vwCl[7]? = some (RX7, TX7, 40) := rfl
theorem kt_hin7 : ∀ w ∈ u_ws RX7 TX7 40, w ∈ kt_G := fun _ h => List.mem_flatten.mpr ⟨_, List.mem_of_getElem? (l := kt_Gs) (i := 7) rfl, h⟩
theorem kg_B_clear_in : ∀ w ∈ kg_B_clear, w ∈ kt_G := fun _ h => List.mem_flatten.mpr ⟨_, List.mem_of_getElem? (l := kt_Gs) (i := 8) rfl, h⟩
theorem kg_B_left_in : ∀ w ∈ kg_B_left, w ∈ kt_G := fun _ h => List.mem_flatten.mpr ⟨_, List.mem_of_getElem? (l := kt_Gs) (i := 9) rfl, h⟩
theorem kg_B_room_in : ∀ w ∈ kg_B_room, w ∈ kt_G := fun _ h => List.mem_flatten.mpr ⟨_, List.mem_of_getElem? (l := kt_Gs) (i := 10) rfl, h⟩
theorem kg_B_removeFirst_in : ∀ w ∈ kg_B_removeFirst, w ∈ kt_G := fun _ h => List.mem_flatten.mpr ⟨_, List.mem_of_getElem? (l := kt_Gs) (i := 11) rfl, h⟩
theorem kg_B_add_in : ∀ w ∈ kg_B_add, w ∈ kt_G := fun _ h => List.mem_flatten.mpr ⟨_, List.mem_of_getElem? (l := kt_Gs) (i := 12) rfl, h⟩
theorem kg_B_addHead_in : ∀ w ∈ kg_B_addHead, w ∈ kt_G := fun _ h => List.mem_flatten.mpr ⟨_, List.mem_of_getElem? (l := kt_Gs) (i := 13) rfl, h⟩
theorem kg_B_addPair_in : ∀ w ∈ kg_B_addPair, w ∈ kt_G := fun _ h => List.mem_flatten.mpr ⟨_, List.mem_of_getElem? (l := kt_Gs) (i := 14) rfl, h⟩
theorem kg_B_widthOf_in : ∀ w ∈ kg_B_widthOf, w ∈ kt_G := fun _ h => List.mem_flatten.mpr ⟨_, List.mem_of_getElem? (l := kt_Gs) (i := 15) rfl, h⟩
theorem kg_P_judge_in : ∀ w ∈ kg_P_judge, w ∈ kt_G := fun _ h => List.mem_flatten.mpr ⟨_, List.mem_of_getElem? (l := kt_Gs) (i := 16) rfl, h⟩
theorem kg_P_register_in : ∀ w ∈ kg_P_register, w ∈ kt_G := fun _ h => List.mem_flatten.mpr ⟨_, List.mem_of_getElem? (l := kt_Gs) (i := 17) rfl, h⟩
theorem kg_P_accept_in : ∀ w ∈ kg_P_accept, w ∈ kt_G := fun _ h => List.mem_flatten.mpr ⟨_, List.mem_of_getElem? (l := kt_Gs) (i := 18) rfl, h⟩
theorem kg_P_find_in : ∀ w ∈ kg_P_find, w ∈ kt_G := fun _ h => List.mem_flatten.mpr ⟨_, List.mem_of_getElem? (l := kt_Gs) (i := 19) rfl, h⟩
theorem kg_P_tell_in : ∀ w ∈ kg_P_tell, w ∈ kt_G := fun _ h => List.mem_flatten.mpr ⟨_, List.mem_of_getElem? (l := kt_Gs) (i := 20) rfl, h⟩
theorem kg_R_command_in : ∀ w ∈ kg_R_command, w ∈ kt_G := fun _ h => List.mem_flatten.mpr ⟨_, List.mem_of_getElem? (l := kt_Gs) (i := 21) rfl, h⟩
theorem kg_R_parse_in : ∀ w ∈ kg_R_parse, w ∈ kt_G := fun _ h => List.mem_flatten.mpr ⟨_, List.mem_of_getElem? (l := kt_Gs) (i := 22) rfl, h⟩
theorem kg_R_readItem_in : ∀ w ∈ kg_R_readItem, w ∈ kt_G := fun _ h => List.mem_flatten.mpr ⟨_, List.mem_of_getElem? (l := kt_Gs) (i := 23) rfl, h⟩
theorem kg_R_readList_in : ∀ w ∈ kg_R_readList, w ∈ kt_G := fun _ h => List.mem_flatten.mpr ⟨_, List.mem_of_getElem? (l := kt_Gs) (i := 24) rfl, h⟩
theorem kg_R_readMap_in : ∀ w ∈ kg_R_readMap, w ∈ kt_G := fun _ h => List.mem_flatten.mpr ⟨_, List.mem_of_getElem? (l := kt_Gs) (i := 25) rfl, h⟩
theorem kg_R_readHead_in : ∀ w ∈ kg_R_readHead, w ∈ kt_G := fun _ h => List.mem_flatten.mpr ⟨_, List.mem_of_getElem? (l := kt_Gs) (i := 26) rfl, h⟩
theorem kg_R_readWide_in : ∀ w ∈ kg_R_readWide, w ∈ kt_G := fun _ h => List.mem_flatten.mpr ⟨_, List.mem_of_getElem? (l := kt_Gs) (i := 27) rfl, h⟩
theorem kg_R_passBytes_in : ∀ w ∈ kg_R_passBytes, w ∈ kt_G := fun _ h => List.mem_flatten.mpr ⟨_, List.mem_of_getElem? (l := kt_Gs) (i := 28) rfl, h⟩
theorem kg_R_checkMake_in : ∀ w ∈ kg_R_checkMake, w ∈ kt_G := fun _ h => List.mem_flatten.mpr ⟨_, List.mem_of_getElem? (l := kt_Gs) (i := 29) rfl, h⟩
theorem kg_R_checkAssert_in : ∀ w ∈ kg_R_checkAssert, w ∈ kt_G := fun _ h => List.mem_flatten.mpr ⟨_, List.mem_of_getElem? (l := kt_Gs) (i := 30) rfl, h⟩
theorem kg_R_checkPin_in : ∀ w ∈ kg_R_checkPin, w ∈ kt_G := fun _ h => List.mem_flatten.mpr ⟨_, List.mem_of_getElem? (l := kt_Gs) (i := 31) rfl, h⟩
theorem kg_R_check_in : ∀ w ∈ kg_R_check, w ∈ kt_G := fun _ h => List.mem_flatten.mpr ⟨_, List.mem_of_getElem? (l := kt_Gs) (i := 32) rfl, h⟩
theorem kg_R_has_in : ∀ w ∈ kg_R_has, w ∈ kt_G := fun _ h => List.mem_flatten.mpr ⟨_, List.mem_of_getElem? (l := kt_Gs) (i := 33) rfl, h⟩
theorem kg_R_numberOf_in : ∀ w ∈ kg_R_numberOf, w ∈ kt_G := fun _ h => List.mem_flatten.mpr ⟨_, List.mem_of_getElem? (l := kt_Gs) (i := 34) rfl, h⟩
theorem kg_R_lists_in : ∀ w ∈ kg_R_lists, w ∈ kt_G := fun _ h => List.mem_flatten.mpr ⟨_, List.mem_of_getElem? (l := kt_Gs) (i := 35) rfl, h⟩
theorem kg_R_textHas_in : ∀ w ∈ kg_R_textHas, w ∈ kt_G := fun _ h => List.mem_flatten.mpr ⟨_, List.mem_of_getElem? (l := kt_Gs) (i := 36) rfl, h⟩
theorem kg_R_textNumber_in : ∀ w ∈ kg_R_textNumber, w ∈ kt_G := fun _ h => List.mem_flatten.mpr ⟨_, List.mem_of_getElem? (l := kt_Gs) (i := 37) rfl, h⟩
theorem kg_G_has_in : ∀ w ∈ kg_G_has, w ∈ kt_G := fun _ h => List.mem_flatten.mpr ⟨_, List.mem_of_getElem? (l := kt_Gs) (i := 38) rfl, h⟩
theorem kg_G_field_in : ∀ w ∈ kg_G_field, w ∈ kt_G := fun _ h => List.mem_flatten.mpr ⟨_, List.mem_of_getElem? (l := kt_Gs) (i := 39) rfl, h⟩
theorem kg_G_make_in : ∀ w ∈ kg_G_make, w ∈ kt_G := fun _ h => List.mem_flatten.mpr ⟨_, List.mem_of_getElem? (l := kt_Gs) (i := 40) rfl, h⟩
theorem kg_S_read_in : ∀ w ∈ kg_S_read, w ∈ kt_G := fun _ h => List.mem_flatten.mpr ⟨_, List.mem_of_getElem? (l := kt_Gs) (i := 41) rfl, h⟩
theorem kg_S_pageOf_in : ∀ w ∈ kg_S_pageOf, w ∈ kt_G := fun _ h => List.mem_flatten.mpr ⟨_, List.mem_of_getElem? (l := kt_Gs) (i := 42) rfl, h⟩
theorem kg_S_has_in : ∀ w ∈ kg_S_has, w ∈ kt_G := fun _ h => List.mem_flatten.mpr ⟨_, List.mem_of_getElem? (l := kt_Gs) (i := 43) rfl, h⟩
theorem kg_S_erasedPages_in : ∀ w ∈ kg_S_erasedPages, w ∈ kt_G := fun _ h => List.mem_flatten.mpr ⟨_, List.mem_of_getElem? (l := kt_Gs) (i := 44) rfl, h⟩
theorem kg_S_labelBelow_in : ∀ w ∈ kg_S_labelBelow, w ∈ kt_G := fun _ h => List.mem_flatten.mpr ⟨_, List.mem_of_getElem? (l := kt_Gs) (i := 45) rfl, h⟩
theorem kg_S_hasRoomFor_in : ∀ w ∈ kg_S_hasRoomFor, w ∈ kt_G := fun _ h => List.mem_flatten.mpr ⟨_, List.mem_of_getElem? (l := kt_Gs) (i := 46) rfl, h⟩
theorem kg_S_put_in : ∀ w ∈ kg_S_put, w ∈ kt_G := fun _ h => List.mem_flatten.mpr ⟨_, List.mem_of_getElem? (l := kt_Gs) (i := 47) rfl, h⟩
theorem kg_S_dropAll_in : ∀ w ∈ kg_S_dropAll, w ∈ kt_G := fun _ h => List.mem_flatten.mpr ⟨_, List.mem_of_getElem? (l := kt_Gs) (i := 48) rfl, h⟩
theorem kg_S_lookThrough_in : ∀ w ∈ kg_S_lookThrough, w ∈ kt_G := fun _ h => List.mem_flatten.mpr ⟨_, List.mem_of_getElem? (l := kt_Gs) (i := 49) rfl, h⟩
theorem kg_S_isOutdated_in : ∀ w ∈ kg_S_isOutdated, w ∈ kt_G := fun _ h => List.mem_flatten.mpr ⟨_, List.mem_of_getElem? (l := kt_Gs) (i := 50) rfl, h⟩
theorem kg_S_isSealed_in : ∀ w ∈ kg_S_isSealed, w ∈ kt_G := fun _ h => List.mem_flatten.mpr ⟨_, List.mem_of_getElem? (l := kt_Gs) (i := 51) rfl, h⟩
theorem kg_S_sealOf_in : ∀ w ∈ kg_S_sealOf, w ∈ kt_G := fun _ h => List.mem_flatten.mpr ⟨_, List.mem_of_getElem? (l := kt_Gs) (i := 52) rfl, h⟩
theorem kg_S_firstErased_in : ∀ w ∈ kg_S_firstErased, w ∈ kt_G := fun _ h => List.mem_flatten.mpr ⟨_, List.mem_of_getElem? (l := kt_Gs) (i := 53) rfl, h⟩
theorem kg_S_write_in : ∀ w ∈ kg_S_write, w ∈ kt_G := fun _ h => List.mem_flatten.mpr ⟨_, List.mem_of_getElem? (l := kt_Gs) (i := 54) rfl, h⟩
theorem kg_S_erase_in : ∀ w ∈ kg_S_erase, w ∈ kt_G := fun _ h => List.mem_flatten.mpr ⟨_, List.mem_of_getElem? (l := kt_Gs) (i := 55) rfl, h⟩
theorem kg_S_spendWrite_in : ∀ w ∈ kg_S_spendWrite, w ∈ kt_G := fun _ h => List.mem_flatten.mpr ⟨_, List.mem_of_getElem? (l := kt_Gs) (i := 56) rfl, h⟩
theorem kg_T_comeOn_in : ∀ w ∈ kg_T_comeOn, w ∈ kt_G := fun _ h => List.mem_flatten.mpr ⟨_, List.mem_of_getElem? (l := kt_Gs) (i := 57) rfl, h⟩
theorem kg_T_goOff_in : ∀ w ∈ kg_T_goOff, w ∈ kt_G := fun _ h => List.mem_flatten.mpr ⟨_, List.mem_of_getElem? (l := kt_Gs) (i := 58) rfl, h⟩
theorem kg_T_serve_in : ∀ w ∈ kg_T_serve, w ∈ kt_G := fun _ h => List.mem_flatten.mpr ⟨_, List.mem_of_getElem? (l := kt_Gs) (i := 59) rfl, h⟩
theorem kg_T_perform_in : ∀ w ∈ kg_T_perform, w ∈ kt_G := fun _ h => List.mem_flatten.mpr ⟨_, List.mem_of_getElem? (l := kt_Gs) (i := 60) rfl, h⟩
theorem kg_T_isCommand_in : ∀ w ∈ kg_T_isCommand, w ∈ kt_G := fun _ h => List.mem_flatten.mpr ⟨_, List.mem_of_getElem? (l := kt_Gs) (i := 61) rfl, h⟩
theorem kg_T_makeCredential_in : ∀ w ∈ kg_T_makeCredential, w ∈ kt_G := fun _ h => List.mem_flatten.mpr ⟨_, List.mem_of_getElem? (l := kt_Gs) (i := 62) rfl, h⟩
theorem kg_T_isTicket_in : ∀ w ∈ kg_T_isTicket, w ∈ kt_G := fun _ h => List.mem_flatten.mpr ⟨_, List.mem_of_getElem? (l := kt_Gs) (i := 63) rfl, h⟩
theorem kg_T_usePress_in : ∀ w ∈ kg_T_usePress, w ∈ kt_G := fun _ h => List.mem_flatten.mpr ⟨_, List.mem_of_getElem? (l := kt_Gs) (i := 64) rfl, h⟩
theorem kg_T_isExcluded_in : ∀ w ∈ kg_T_isExcluded, w ∈ kt_G := fun _ h => List.mem_flatten.mpr ⟨_, List.mem_of_getElem? (l := kt_Gs) (i := 65) rfl, h⟩
theorem kg_T_isCredential_in : ∀ w ∈ kg_T_isCredential, w ∈ kt_G := fun _ h => List.mem_flatten.mpr ⟨_, List.mem_of_getElem? (l := kt_Gs) (i := 66) rfl, h⟩
theorem kg_T_nameFor_in : ∀ w ∈ kg_T_nameFor, w ∈ kt_G := fun _ h => List.mem_flatten.mpr ⟨_, List.mem_of_getElem? (l := kt_Gs) (i := 67) rfl, h⟩
theorem kg_T_signFirst_in : ∀ w ∈ kg_T_signFirst, w ∈ kt_G := fun _ h => List.mem_flatten.mpr ⟨_, List.mem_of_getElem? (l := kt_Gs) (i := 68) rfl, h⟩
theorem kg_T_signNext_in : ∀ w ∈ kg_T_signNext, w ∈ kt_G := fun _ h => List.mem_flatten.mpr ⟨_, List.mem_of_getElem? (l := kt_Gs) (i := 69) rfl, h⟩
theorem kg_T_signWith_in : ∀ w ∈ kg_T_signWith, w ∈ kt_G := fun _ h => List.mem_flatten.mpr ⟨_, List.mem_of_getElem? (l := kt_Gs) (i := 70) rfl, h⟩
theorem kg_T_forgetNext_in : ∀ w ∈ kg_T_forgetNext, w ∈ kt_G := fun _ h => List.mem_flatten.mpr ⟨_, List.mem_of_getElem? (l := kt_Gs) (i := 71) rfl, h⟩
theorem kg_T_findCredentials_in : ∀ w ∈ kg_T_findCredentials, w ∈ kt_G := fun _ h => List.mem_flatten.mpr ⟨_, List.mem_of_getElem? (l := kt_Gs) (i := 72) rfl, h⟩
theorem kg_T_tellInfo_in : ∀ w ∈ kg_T_tellInfo, w ∈ kt_G := fun _ h => List.mem_flatten.mpr ⟨_, List.mem_of_getElem? (l := kt_Gs) (i := 73) rfl, h⟩
theorem kg_T_doPin_in : ∀ w ∈ kg_T_doPin, w ∈ kt_G := fun _ h => List.mem_flatten.mpr ⟨_, List.mem_of_getElem? (l := kt_Gs) (i := 74) rfl, h⟩
theorem kg_T_tellTries_in : ∀ w ∈ kg_T_tellTries, w ∈ kt_G := fun _ h => List.mem_flatten.mpr ⟨_, List.mem_of_getElem? (l := kt_Gs) (i := 75) rfl, h⟩
theorem kg_T_setPin_in : ∀ w ∈ kg_T_setPin, w ∈ kt_G := fun _ h => List.mem_flatten.mpr ⟨_, List.mem_of_getElem? (l := kt_Gs) (i := 76) rfl, h⟩
theorem kg_T_provePin_in : ∀ w ∈ kg_T_provePin, w ∈ kt_G := fun _ h => List.mem_flatten.mpr ⟨_, List.mem_of_getElem? (l := kt_Gs) (i := 77) rfl, h⟩
theorem kg_T_countWrong_in : ∀ w ∈ kg_T_countWrong, w ∈ kt_G := fun _ h => List.mem_flatten.mpr ⟨_, List.mem_of_getElem? (l := kt_Gs) (i := 78) rfl, h⟩
theorem kg_T_reset_in : ∀ w ∈ kg_T_reset, w ∈ kt_G := fun _ h => List.mem_flatten.mpr ⟨_, List.mem_of_getElem? (l := kt_Gs) (i := 79) rfl, h⟩
theorem kg_T_beginAnswer_in : ∀ w ∈ kg_T_beginAnswer, w ∈ kt_G := fun _ h => List.mem_flatten.mpr ⟨_, List.mem_of_getElem? (l := kt_Gs) (i := 80) rfl, h⟩
theorem kg_K_press_in : ∀ w ∈ kg_K_press, w ∈ kt_G := fun _ h => List.mem_flatten.mpr ⟨_, List.mem_of_getElem? (l := kt_Gs) (i := 81) rfl, h⟩
theorem kg_K_waiting_in : ∀ w ∈ kg_K_waiting, w ∈ kt_G := fun _ h => List.mem_flatten.mpr ⟨_, List.mem_of_getElem? (l := kt_Gs) (i := 82) rfl, h⟩
theorem kg_K_power_in : ∀ w ∈ kg_K_power, w ∈ kt_G := fun _ h => List.mem_flatten.mpr ⟨_, List.mem_of_getElem? (l := kt_Gs) (i := 83) rfl, h⟩
theorem kg_K_cut_in : ∀ w ∈ kg_K_cut, w ∈ kt_G := fun _ h => List.mem_flatten.mpr ⟨_, List.mem_of_getElem? (l := kt_Gs) (i := 84) rfl, h⟩
theorem kg_K_party_in : ∀ w ∈ kg_K_party, w ∈ kt_G := fun _ h => List.mem_flatten.mpr ⟨_, List.mem_of_getElem? (l := kt_Gs) (i := 85) rfl, h⟩
theorem kg_K_cell_in : ∀ w ∈ kg_K_cell, w ∈ kt_G := fun _ h => List.mem_flatten.mpr ⟨_, List.mem_of_getElem? (l := kt_Gs) (i := 86) rfl, h⟩
theorem kg_K_look_in : ∀ w ∈ kg_K_look, w ∈ kt_G := fun _ h => List.mem_flatten.mpr ⟨_, List.mem_of_getElem? (l := kt_Gs) (i := 87) rfl, h⟩
theorem kg_K_partyAt_in : ∀ w ∈ kg_K_partyAt, w ∈ kt_G := fun _ h => List.mem_flatten.mpr ⟨_, List.mem_of_getElem? (l := kt_Gs) (i := 88) rfl, h⟩
theorem kg_K_writeMake_in : ∀ w ∈ kg_K_writeMake, w ∈ kt_G := fun _ h => List.mem_flatten.mpr ⟨_, List.mem_of_getElem? (l := kt_Gs) (i := 89) rfl, h⟩
theorem kg_K_writeAssert_in : ∀ w ∈ kg_K_writeAssert, w ∈ kt_G := fun _ h => List.mem_flatten.mpr ⟨_, List.mem_of_getElem? (l := kt_Gs) (i := 90) rfl, h⟩
theorem kg_K_writeOrigin_in : ∀ w ∈ kg_K_writeOrigin, w ∈ kt_G := fun _ h => List.mem_flatten.mpr ⟨_, List.mem_of_getElem? (l := kt_Gs) (i := 91) rfl, h⟩
theorem kg_K_judge_in : ∀ w ∈ kg_K_judge, w ∈ kt_G := fun _ h => List.mem_flatten.mpr ⟨_, List.mem_of_getElem? (l := kt_Gs) (i := 92) rfl, h⟩
theorem kg_K_alteredField_in : ∀ w ∈ kg_K_alteredField, w ∈ kt_G := fun _ h => List.mem_flatten.mpr ⟨_, List.mem_of_getElem? (l := kt_Gs) (i := 93) rfl, h⟩
theorem kg_M_thrown_in : ∀ w ∈ kg_M_thrown, w ∈ kt_G := fun _ h => List.mem_flatten.mpr ⟨_, List.mem_of_getElem? (l := kt_Gs) (i := 94) rfl, h⟩
theorem kg_M_erased_in : ∀ w ∈ kg_M_erased, w ∈ kt_G := fun _ h => List.mem_flatten.mpr ⟨_, List.mem_of_getElem? (l := kt_Gs) (i := 95) rfl, h⟩
theorem kg_M_erasedPages_in : ∀ w ∈ kg_M_erasedPages, w ∈ kt_G := fun _ h => List.mem_flatten.mpr ⟨_, List.mem_of_getElem? (l := kt_Gs) (i := 96) rfl, h⟩
theorem kg_M_seal_in : ∀ w ∈ kg_M_seal, w ∈ kt_G := fun _ h => List.mem_flatten.mpr ⟨_, List.mem_of_getElem? (l := kt_Gs) (i := 97) rfl, h⟩
theorem kg_M_nameOf_in : ∀ w ∈ kg_M_nameOf, w ∈ kt_G := fun _ h => List.mem_flatten.mpr ⟨_, List.mem_of_getElem? (l := kt_Gs) (i := 98) rfl, h⟩
theorem kg_M_serialOf_in : ∀ w ∈ kg_M_serialOf, w ∈ kt_G := fun _ h => List.mem_flatten.mpr ⟨_, List.mem_of_getElem? (l := kt_Gs) (i := 99) rfl, h⟩
theorem kg_M_page_in : ∀ w ∈ kg_M_page, w ∈ kt_G := fun _ h => List.mem_flatten.mpr ⟨_, List.mem_of_getElem? (l := kt_Gs) (i := 100) rfl, h⟩
theorem kg_M_data_in : ∀ w ∈ kg_M_data, w ∈ kt_G := fun _ h => List.mem_flatten.mpr ⟨_, List.mem_of_getElem? (l := kt_Gs) (i := 101) rfl, h⟩
theorem kg_M_erase_in : ∀ w ∈ kg_M_erase, w ∈ kt_G := fun _ h => List.mem_flatten.mpr ⟨_, List.mem_of_getElem? (l := kt_Gs) (i := 102) rfl, h⟩
theorem kg_M_mayWrite_in : ∀ w ∈ kg_M_mayWrite, w ∈ kt_G := fun _ h => List.mem_flatten.mpr ⟨_, List.mem_of_getElem? (l := kt_Gs) (i := 103) rfl, h⟩
theorem kg_M_canPut_in : ∀ w ∈ kg_M_canPut, w ∈ kt_G := fun _ h => List.mem_flatten.mpr ⟨_, List.mem_of_getElem? (l := kt_Gs) (i := 104) rfl, h⟩
theorem kg_M_put_in : ∀ w ∈ kg_M_put, w ∈ kt_G := fun _ h => List.mem_flatten.mpr ⟨_, List.mem_of_getElem? (l := kt_Gs) (i := 105) rfl, h⟩
theorem kg_M_off_in : ∀ w ∈ kg_M_off, w ∈ kt_G := fun _ h => List.mem_flatten.mpr ⟨_, List.mem_of_getElem? (l := kt_Gs) (i := 106) rfl, h⟩
theorem kg_M_empty_in : ∀ w ∈ kg_M_empty, w ∈ kt_G := fun _ h => List.mem_flatten.mpr ⟨_, List.mem_of_getElem? (l := kt_Gs) (i := 107) rfl, h⟩
theorem kg_M_comeUp_in : ∀ w ∈ kg_M_comeUp, w ∈ kt_G := fun _ h => List.mem_flatten.mpr ⟨_, List.mem_of_getElem? (l := kt_Gs) (i := 108) rfl, h⟩
theorem kg_M_head_in : ∀ w ∈ kg_M_head, w ∈ kt_G := fun _ h => List.mem_flatten.mpr ⟨_, List.mem_of_getElem? (l := kt_Gs) (i := 109) rfl, h⟩
theorem kg_M_string_in : ∀ w ∈ kg_M_string, w ∈ kt_G := fun _ h => List.mem_flatten.mpr ⟨_, List.mem_of_getElem? (l := kt_Gs) (i := 110) rfl, h⟩
theorem kg_M_formed_in : ∀ w ∈ kg_M_formed, w ∈ kt_G := fun _ h => List.mem_flatten.mpr ⟨_, List.mem_of_getElem? (l := kt_Gs) (i := 111) rfl, h⟩
theorem kg_M_enter_in : ∀ w ∈ kg_M_enter, w ∈ kt_G := fun _ h => List.mem_flatten.mpr ⟨_, List.mem_of_getElem? (l := kt_Gs) (i := 112) rfl, h⟩
theorem kg_M_readKey_in : ∀ w ∈ kg_M_readKey, w ∈ kt_G := fun _ h => List.mem_flatten.mpr ⟨_, List.mem_of_getElem? (l := kt_Gs) (i := 113) rfl, h⟩
theorem kg_M_item_in : ∀ w ∈ kg_M_item, w ∈ kt_G := fun _ h => List.mem_flatten.mpr ⟨_, List.mem_of_getElem? (l := kt_Gs) (i := 114) rfl, h⟩
theorem kg_M_find_in : ∀ w ∈ kg_M_find, w ∈ kt_G := fun _ h => List.mem_flatten.mpr ⟨_, List.mem_of_getElem? (l := kt_Gs) (i := 115) rfl, h⟩
theorem kg_M_is_in : ∀ w ∈ kg_M_is, w ∈ kt_G := fun _ h => List.mem_flatten.mpr ⟨_, List.mem_of_getElem? (l := kt_Gs) (i := 116) rfl, h⟩
theorem kg_M_there_in : ∀ w ∈ kg_M_there, w ∈ kt_G := fun _ h => List.mem_flatten.mpr ⟨_, List.mem_of_getElem? (l := kt_Gs) (i := 117) rfl, h⟩
theorem kg_M_get_in : ∀ w ∈ kg_M_get, w ∈ kt_G := fun _ h => List.mem_flatten.mpr ⟨_, List.mem_of_getElem? (l := kt_Gs) (i := 118) rfl, h⟩
theorem kg_M_listed_in : ∀ w ∈ kg_M_listed, w ∈ kt_G := fun _ h => List.mem_flatten.mpr ⟨_, List.mem_of_getElem? (l := kt_Gs) (i := 119) rfl, h⟩
theorem kg_M_textNumber_in : ∀ w ∈ kg_M_textNumber, w ∈ kt_G := fun _ h => List.mem_flatten.mpr ⟨_, List.mem_of_getElem? (l := kt_Gs) (i := 120) rfl, h⟩
theorem kg_M_out_in : ∀ w ∈ kg_M_out, w ∈ kt_G := fun _ h => List.mem_flatten.mpr ⟨_, List.mem_of_getElem? (l := kt_Gs) (i := 121) rfl, h⟩
theorem kg_M_number_in : ∀ w ∈ kg_M_number, w ∈ kt_G := fun _ h => List.mem_flatten.mpr ⟨_, List.mem_of_getElem? (l := kt_Gs) (i := 122) rfl, h⟩
theorem kg_M_pair_in : ∀ w ∈ kg_M_pair, w ∈ kt_G := fun _ h => List.mem_flatten.mpr ⟨_, List.mem_of_getElem? (l := kt_Gs) (i := 123) rfl, h⟩
theorem kg_M_begin_in : ∀ w ∈ kg_M_begin, w ∈ kt_G := fun _ h => List.mem_flatten.mpr ⟨_, List.mem_of_getElem? (l := kt_Gs) (i := 124) rfl, h⟩
theorem kg_M_request_in : ∀ w ∈ kg_M_request, w ∈ kt_G := fun _ h => List.mem_flatten.mpr ⟨_, List.mem_of_getElem? (l := kt_Gs) (i := 125) rfl, h⟩
theorem kg_M_perform_in : ∀ w ∈ kg_M_perform, w ∈ kt_G := fun _ h => List.mem_flatten.mpr ⟨_, List.mem_of_getElem? (l := kt_Gs) (i := 126) rfl, h⟩
theorem kg_M_ticketWrong_in : ∀ w ∈ kg_M_ticketWrong, w ∈ kt_G := fun _ h => List.mem_flatten.mpr ⟨_, List.mem_of_getElem? (l := kt_Gs) (i := 127) rfl, h⟩
theorem kg_M_make_in : ∀ w ∈ kg_M_make, w ∈ kt_G := fun _ h => List.mem_flatten.mpr ⟨_, List.mem_of_getElem? (l := kt_Gs) (i := 128) rfl, h⟩
theorem kg_M_sign_in : ∀ w ∈ kg_M_sign, w ∈ kt_G := fun _ h => List.mem_flatten.mpr ⟨_, List.mem_of_getElem? (l := kt_Gs) (i := 129) rfl, h⟩
theorem kg_M_ask_in : ∀ w ∈ kg_M_ask, w ∈ kt_G := fun _ h => List.mem_flatten.mpr ⟨_, List.mem_of_getElem? (l := kt_Gs) (i := 130) rfl, h⟩
theorem kg_M_signNext_in : ∀ w ∈ kg_M_signNext, w ∈ kt_G := fun _ h => List.mem_flatten.mpr ⟨_, List.mem_of_getElem? (l := kt_Gs) (i := 131) rfl, h⟩
theorem kg_M_next_in : ∀ w ∈ kg_M_next, w ∈ kt_G := fun _ h => List.mem_flatten.mpr ⟨_, List.mem_of_getElem? (l := kt_Gs) (i := 132) rfl, h⟩
theorem kg_M_info_in : ∀ w ∈ kg_M_info, w ∈ kt_G := fun _ h => List.mem_flatten.mpr ⟨_, List.mem_of_getElem? (l := kt_Gs) (i := 133) rfl, h⟩
theorem kg_M_reset_in : ∀ w ∈ kg_M_reset, w ∈ kt_G := fun _ h => List.mem_flatten.mpr ⟨_, List.mem_of_getElem? (l := kt_Gs) (i := 134) rfl, h⟩
theorem kg_M_pin_in : ∀ w ∈ kg_M_pin, w ∈ kt_G := fun _ h => List.mem_flatten.mpr ⟨_, List.mem_of_getElem? (l := kt_Gs) (i := 135) rfl, h⟩
theorem kg_M_tried_in : ∀ w ∈ kg_M_tried, w ∈ kt_G := fun _ h => List.mem_flatten.mpr ⟨_, List.mem_of_getElem? (l := kt_Gs) (i := 136) rfl, h⟩
theorem kg_M_press_in : ∀ w ∈ kg_M_press, w ∈ kt_G := fun _ h => List.mem_flatten.mpr ⟨_, List.mem_of_getElem? (l := kt_Gs) (i := 137) rfl, h⟩
theorem kg_M_feed_in : ∀ w ∈ kg_M_feed, w ∈ kt_G := fun _ h => List.mem_flatten.mpr ⟨_, List.mem_of_getElem? (l := kt_Gs) (i := 138) rfl, h⟩
theorem kg_M_send_in : ∀ w ∈ kg_M_send, w ∈ kt_G := fun _ h => List.mem_flatten.mpr ⟨_, List.mem_of_getElem? (l := kt_Gs) (i := 139) rfl, h⟩
theorem kg_M_waiting_in : ∀ w ∈ kg_M_waiting, w ∈ kt_G := fun _ h => List.mem_flatten.mpr ⟨_, List.mem_of_getElem? (l := kt_Gs) (i := 140) rfl, h⟩
theorem kg_M_take_in : ∀ w ∈ kg_M_take, w ∈ kt_G := fun _ h => List.mem_flatten.mpr ⟨_, List.mem_of_getElem? (l := kt_Gs) (i := 141) rfl, h⟩
theorem kg_M_power_in : ∀ w ∈ kg_M_power, w ∈ kt_G := fun _ h => List.mem_flatten.mpr ⟨_, List.mem_of_getElem? (l := kt_Gs) (i := 142) rfl, h⟩
theorem kg_M_cut_in : ∀ w ∈ kg_M_cut, w ∈ kt_G := fun _ h => List.mem_flatten.mpr ⟨_, List.mem_of_getElem? (l := kt_Gs) (i := 143) rfl, h⟩
theorem kg_M_isParty_in : ∀ w ∈ kg_M_isParty, w ∈ kt_G := fun _ h => List.mem_flatten.mpr ⟨_, List.mem_of_getElem? (l := kt_Gs) (i := 144) rfl, h⟩
theorem kg_M_open_in : ∀ w ∈ kg_M_open, w ∈ kt_G := fun _ h => List.mem_flatten.mpr ⟨_, List.mem_of_getElem? (l := kt_Gs) (i := 145) rfl, h⟩
theorem kg_M_in_in : ∀ w ∈ kg_M_in, w ∈ kt_G := fun _ h => List.mem_flatten.mpr ⟨_, List.mem_of_getElem? (l := kt_Gs) (i := 146) rfl, h⟩
theorem kg_M_inPair_in : ∀ w ∈ kg_M_inPair, w ∈ kt_G := fun _ h => List.mem_flatten.mpr ⟨_, List.mem_of_getElem? (l := kt_Gs) (i := 147) rfl, h⟩
theorem kg_M_ceremony_in : ∀ w ∈ kg_M_ceremony, w ∈ kt_G := fun _ h => List.mem_flatten.mpr ⟨_, List.mem_of_getElem? (l := kt_Gs) (i := 148) rfl, h⟩
theorem kg_M_judge_in : ∀ w ∈ kg_M_judge, w ∈ kt_G := fun _ h => List.mem_flatten.mpr ⟨_, List.mem_of_getElem? (l := kt_Gs) (i := 149) rfl, h⟩
theorem kg_M_isSignature_in : ∀ w ∈ kg_M_isSignature, w ∈ kt_G := fun _ h => List.mem_flatten.mpr ⟨_, List.mem_of_getElem? (l := kt_Gs) (i := 150) rfl, h⟩
theorem kg_M_offer_in : ∀ w ∈ kg_M_offer, w ∈ kt_G := fun _ h => List.mem_flatten.mpr ⟨_, List.mem_of_getElem? (l := kt_Gs) (i := 151) rfl, h⟩
theorem kg_M_signature_in : ∀ w ∈ kg_M_signature, w ∈ kt_G := fun _ h => List.mem_flatten.mpr ⟨_, List.mem_of_getElem? (l := kt_Gs) (i := 152) rfl, h⟩
theorem kg_M_party_in : ∀ w ∈ kg_M_party, w ∈ kt_G := fun _ h => List.mem_flatten.mpr ⟨_, List.mem_of_getElem? (l := kt_Gs) (i := 153) rfl, h⟩
theorem kg_M_cell_in : ∀ w ∈ kg_M_cell, w ∈ kt_G := fun _ h => List.mem_flatten.mpr ⟨_, List.mem_of_getElem? (l := kt_Gs) (i := 154) rfl, h⟩
theorem kg_M_look_in : ∀ w ∈ kg_M_look, w ∈ kt_G := fun _ h => List.mem_flatten.mpr ⟨_, List.mem_of_getElem? (l := kt_Gs) (i := 155) rfl, h⟩
theorem kg_A_fill_in : ∀ w ∈ kg_A_fill, w ∈ kt_G := fun _ h => List.mem_flatten.mpr ⟨_, List.mem_of_getElem? (l := kt_Gs) (i := 156) rfl, h⟩
end
section
/-! Base, first half: the state as numbers by place and index; its cells in the heap; locals. -/
abbrev kt_Sh : Type := List (Nat × Nat × List Nat)
abbrev kt_S : Type := Nat → Nat → Int32
abbrev kt_Fr : Type := List (Option Value)
abbrev kt_D : Type := kt_Fr → List Value → kt_S → Option (Option Value × kt_S)
abbrev kt_F : Type := List Value → kt_S → Option (Option Value × kt_S)
def kt_up (σ : kt_S) (p k : Nat) (v : Int32) : kt_S := fun q => if q = p then upd (σ p) k v else σ q
theorem kt_up_self (σ : kt_S) (p k : Nat) (v : Int32) : kt_up σ p k v p = upd (σ p) k v := if_pos rfl
theorem kt_up_ne (σ : kt_S) {p q : Nat} (k : Nat) (v : Int32) (h : ¬ q = p) : kt_up σ p k v q = σ q := if_neg h
def kt_c (as : Nat → Nat) (v : Value) : Value := match v with
  | .ref k => .ref (as k)
  | .int x => .int x
  | .long x => .long x
  | .float x => .float x
  | .double x => .double x
  | .null => .null
  | .retAddr x => .retAddr x
theorem kt_c_cat (as : Nat → Nat) (v : Value) : (kt_c as v).category = v.category := by cases v <;> rfl
theorem kt_c_cats (as : Nat → Nat) (st : List Value) : ((st.map (kt_c as)).map fun v => v.category).sum = (st.map fun v => v.category).sum := by
  rw [List.map_map]
  congr 1
  apply List.map_congr_left
  intro v _
  exact kt_c_cat as v
/-- a field's value: kinds 0 (int), 1 (boolean), q + 2 (the object at place q) -/
def kt_fv (as : Nat → Nat) (f : Nat → Int32) (k fk : Nat) : Value := if fk ≤ 1 then .int (f k) else .ref (as (fk - 2))
/-- a place's cell: kinds 0 (int array), 1 (boolean array), 2 (array of references), else an object -/
def kt_e (as : Nat → Nat) (cA : Nat → ClassId) (f : Nat → Int32) (z : Nat × Nat × List Nat) : va_E :=
  if z.1 = 0 then .inl (cA 0, z.2.1, .inl f)
  else if z.1 = 1 then .inl (cA 1, z.2.1, .inl f)
  else if z.1 = 2 then .inl (cA 2, z.2.1, .inr (.inr (.inr (.inr (fun i => (z.2.2[i]?).map as)))))
  else .inr (z.2.1, z.2.2.mapIdx (kt_fv as f))
def kt_w (sh : kt_Sh) (as : Nat → Nat) (cA : Nat → ClassId) (σ : kt_S) : va_W := sh.mapIdx (fun p z => (as p, kt_e as cA (σ p) z))
theorem kt_w_get {sh : kt_Sh} {as : Nat → Nat} {cA : Nat → ClassId} {σ : kt_S} {p : Nat} {z : Nat × Nat × List Nat} (h : sh[p]? = some z) : (kt_w sh as cA σ)[p]? = some (as p, kt_e as cA (σ p) z) := by
  simp [kt_w, List.getElem?_mapIdx, h]
theorem kt_w_inv {sh : kt_Sh} {as : Nat → Nat} {cA : Nat → ClassId} {σ : kt_S} {p : Nat} {q : Nat × va_E} (h : (kt_w sh as cA σ)[p]? = some q) : p < sh.length ∧ q.1 = as p := by
  have h1 : p < (kt_w sh as cA σ).length := (List.getElem?_eq_some_iff.mp h).1
  have h2 : p < sh.length := by simpa [kt_w] using h1
  have h3 := kt_w_get (as := as) (cA := cA) (σ := σ) (List.getElem?_eq_getElem h2)
  rw [h3] at h
  cases h
  exact ⟨h2, rfl⟩
theorem kt_w_set {sh : kt_Sh} {as : Nat → Nat} {cA : Nat → ClassId} {σ : kt_S} {p k : Nat} {v : Int32} {z : Nat × Nat × List Nat} {e : va_E} (h : sh[p]? = some z) (he : kt_e as cA (upd (σ p) k v) z = e) : (kt_w sh as cA σ).set p (as p, e) = kt_w sh as cA (kt_up σ p k v) := by
  apply List.ext_getElem?
  intro i
  by_cases hi : i = p
  · subst hi
    have hl : i < (kt_w sh as cA σ).length := by
      have := (List.getElem?_eq_some_iff.mp h).1
      simpa [kt_w] using this
    rw [List.getElem?_set_self hl, kt_w_get h, kt_up_self, he]
  · rw [List.getElem?_set_ne (Ne.symm hi)]
    simp only [kt_w, List.getElem?_mapIdx]
    rw [kt_up_ne σ k v hi]
/-- which cells may change: the places', and those that are new; where the flag is true: none -/
def kt_A (b : Bool) (sh : kt_Sh) (as : Nat → Nat) (sz : Nat) : Nat → Prop := fun q => b = false ∧ ((∃ k, k < sh.length ∧ as k = q) ∨ sz ≤ q)
def kt_inj (sh : kt_Sh) (as : Nat → Nat) : Prop := ∀ i j, i < sh.length → j < sh.length → as i = as j → i = j
theorem kt_D_of {sh : kt_Sh} {as : Nat → Nat} {cA : Nat → ClassId} {σ : kt_S} {sz : Nat} (hi : kt_inj sh as) : va_D (kt_A false sh as sz) (kt_w sh as cA σ) := by
  refine ⟨fun i j p q h1 h2 h3 => ?_, fun k q hk => ?_⟩
  · obtain ⟨a1, a2⟩ := kt_w_inv h1
    obtain ⟨b1, b2⟩ := kt_w_inv h2
    exact hi i j a1 b1 (by rw [← a2, ← b2]; exact h3)
  · obtain ⟨a1, a2⟩ := kt_w_inv hk
    exact ⟨rfl, Or.inl ⟨k, a1, a2.symm⟩⟩
theorem kt_A_le {b : Bool} {sh : kt_Sh} {as : Nat → Nat} {sz sz' : Nat} (h : sz ≤ sz') : ∀ q, kt_A b sh as sz' q → kt_A b sh as sz q := by
  rintro q ⟨h0, h1 | h1⟩
  · exact ⟨h0, Or.inl h1⟩
  · exact ⟨h0, Or.inr (Nat.le_trans h h1)⟩
theorem kt_A_up {b : Bool} {sh : kt_Sh} {as : Nat → Nat} {sz : Nat} : ∀ q, kt_A b sh as sz q → kt_A false sh as sz q := fun _ h => ⟨rfl, h.2⟩
theorem kt_A_to {b b' : Bool} {sh : kt_Sh} {as : Nat → Nat} {sz : Nat} (hb : b' = true → b = true) : ∀ q, kt_A b sh as sz q → kt_A b' sh as sz q := by
  rintro q ⟨h0, h1⟩
  refine ⟨?_, h1⟩
  cases b' with
  | false => rfl
  | true => rw [hb rfl] at h0; cases h0
theorem kt_S_to {b b' : Bool} {sh : kt_Sh} {as : Nat → Nat} {H0 H : Heap} {locs : List Loc} (hb : b' = true → b = true) (h : va_S (kt_A b sh as H0.size) H0 H locs) : va_S (kt_A b' sh as H0.size) H0 H locs :=
  ⟨h.1, fun q h1 h2 => h.2.1 q h1 (fun z => h2 (kt_A_to hb q z)), fun q hq => kt_A_to hb _ (h.2.2 q hq)⟩
theorem kt_S_up {b : Bool} {sh : kt_Sh} {as : Nat → Nat} {H0 H : Heap} {locs : List Loc} (h : va_S (kt_A b sh as H0.size) H0 H locs) : va_S (kt_A false sh as H0.size) H0 H locs := kt_S_to (fun z => by cases z) h
/-! the locals -/
def kt_lh (as : Nat → Nat) (ls : Array Slot) (nL : Nat) (L : kt_Fr) : Prop := L.length = nL ∧ ls.size = nL ∧ lv_wf ls ∧ ∀ (k : Nat) (v : Value), L[k]? = some (some v) → ls[k]? = some (.val (kt_c as v))
def kt_lv (as : Nat → Nat) (L : kt_Fr) : List (Nat × Value) := (List.range L.length).filterMap (fun k => (L[k]?.join).map (fun v => (k, kt_c as v)))
theorem kt_lv_mem {as : Nat → Nat} {L : kt_Fr} {q : Nat × Value} : q ∈ kt_lv as L ↔ ∃ v, L[q.1]? = some (some v) ∧ q.2 = kt_c as v := by
  unfold kt_lv
  rw [List.mem_filterMap]
  constructor
  · rintro ⟨k, -, h⟩
    cases hk : L[k]? with
    | none => rw [hk] at h; cases h
    | some o =>
      cases o with
      | none => rw [hk] at h; cases h
      | some v => rw [hk] at h; cases h; exact ⟨v, hk, rfl⟩
  · rintro ⟨v, h1, h2⟩
    refine ⟨q.1, List.mem_range.mpr (List.getElem?_eq_some_iff.mp h1).1, ?_⟩
    rw [h1]
    obtain ⟨a, b⟩ := q
    subst h2
    rfl
theorem kt_lh.has {as : Nat → Nat} {ls : Array Slot} {nL : Nat} {L : kt_Fr} (h : kt_lh as ls nL L) : lv_has ls nL (kt_lv as L) := by
  refine ⟨h.2.1, h.2.2.1, fun q hq => ?_⟩
  obtain ⟨v, h1, h2⟩ := kt_lv_mem.mp hq
  rw [h2]
  exact h.2.2.2 _ _ h1
def kt_kill (L : kt_Fr) (i : Nat) : kt_Fr := match i with
  | 0 => L
  | j + 1 => match L[j]? with
    | some (some (.long _)) => L.set j none
    | some (some (.double _)) => L.set j none
    | _ => L
def kt_st1 (L : kt_Fr) (i : Nat) (v : Value) : kt_Fr := (kt_kill L i).set i (some v)
def kt_st2 (L : kt_Fr) (i : Nat) (v : Value) : kt_Fr := ((kt_kill L i).set i (some v)).set (i + 1) none
theorem kt_kill_len (L : kt_Fr) (i : Nat) : (kt_kill L i).length = L.length := by
  unfold kt_kill
  split
  · rfl
  · split <;> simp
theorem kt_set_none {L : kt_Fr} {j k : Nat} {w : Value} (h : (L.set j none)[k]? = some (some w)) : ¬ k = j ∧ L[k]? = some (some w) := by
  by_cases hk : k = j
  · subst hk
    rw [List.getElem?_set] at h
    simp at h
  · rw [List.getElem?_set_ne (Ne.symm hk)] at h
    exact ⟨hk, h⟩
theorem kt_kill_get {L : kt_Fr} {i k : Nat} {w : Value} (h : (kt_kill L i)[k]? = some (some w)) : L[k]? = some (some w) ∧ ¬ (k + 1 = i ∧ w.category = 2) := by
  unfold kt_kill at h
  split at h
  · exact ⟨h, fun q => by omega⟩
  · next j =>
    split at h
    · next hj => obtain ⟨h1, h2⟩ := kt_set_none h; exact ⟨h2, fun q => h1 (by omega)⟩
    · next hj => obtain ⟨h1, h2⟩ := kt_set_none h; exact ⟨h2, fun q => h1 (by omega)⟩
    · next n1 n2 =>
      refine ⟨h, fun q => ?_⟩
      have hkj : k = j := by omega
      subst hkj
      cases w with
      | long x => exact n1 x h
      | double x => exact n2 x h
      | int x => exact absurd q.2 (by intro z; cases z)
      | float x => exact absurd q.2 (by intro z; cases z)
      | null => exact absurd q.2 (by decide)
      | ref x => exact absurd q.2 (by intro z; cases z)
      | retAddr x => exact absurd q.2 (by intro z; cases z)
theorem kt_lh.st1 {as : Nat → Nat} {ls ls' : Array Slot} {nL i : Nat} {L : kt_Fr} {v : Value} (h : kt_lh as ls nL L) (h' : lv_has ls' nL ((i, kt_c as v) :: (kt_lv as L).filter (fun q => !(q.1 == i) && !(q.1 + 1 == i && q.2.category == 2)))) : kt_lh as ls' nL (kt_st1 L i v) := by
  refine ⟨by simp [kt_st1, kt_kill_len, h.1], h'.1, h'.2.1, fun k w hk => ?_⟩
  unfold kt_st1 at hk
  by_cases hki : k = i
  · subst hki
    have hw : w = v := by
      rw [List.getElem?_set] at hk
      simp only [if_true] at hk
      split at hk
      · cases hk; rfl
      · cases hk
    subst hw
    exact h'.2.2 (k, kt_c as w) List.mem_cons_self
  · rw [List.getElem?_set_ne (Ne.symm hki)] at hk
    obtain ⟨h1, h2⟩ := kt_kill_get hk
    refine h'.2.2 (k, kt_c as w) (List.mem_cons_of_mem _ (List.mem_filter.mpr ⟨kt_lv_mem.mpr ⟨w, h1, rfl⟩, ?_⟩))
    simp only [Bool.and_eq_true, Bool.not_eq_true', beq_eq_false_iff_ne, ne_eq, Bool.and_eq_false_iff]
    refine ⟨hki, ?_⟩
    by_cases hz : k + 1 = i
    · exact Or.inr (fun q => h2 ⟨hz, by rw [← kt_c_cat as]; exact q⟩)
    · exact Or.inl hz
theorem kt_lh.st2 {as : Nat → Nat} {ls ls' : Array Slot} {nL i : Nat} {L : kt_Fr} {v : Value} (h : kt_lh as ls nL L) (h' : lv_has ls' nL ((i, kt_c as v) :: (kt_lv as L).filter (fun q => !(q.1 == i) && (!(q.1 == i + 1) && !(q.1 + 1 == i && q.2.category == 2))))) : kt_lh as ls' nL (kt_st2 L i v) := by
  refine ⟨by simp [kt_st2, kt_kill_len, h.1], h'.1, h'.2.1, fun k w hk => ?_⟩
  unfold kt_st2 at hk
  obtain ⟨hk1, hk⟩ := kt_set_none hk
  by_cases hki : k = i
  · subst hki
    have hw : w = v := by
      rw [List.getElem?_set] at hk
      simp only [if_true] at hk
      split at hk
      · cases hk; rfl
      · cases hk
    subst hw
    exact h'.2.2 (k, kt_c as w) List.mem_cons_self
  · rw [List.getElem?_set_ne (Ne.symm hki)] at hk
    obtain ⟨h1, h2⟩ := kt_kill_get hk
    refine h'.2.2 (k, kt_c as w) (List.mem_cons_of_mem _ (List.mem_filter.mpr ⟨kt_lv_mem.mpr ⟨w, h1, rfl⟩, ?_⟩))
    simp only [Bool.and_eq_true, Bool.not_eq_true', beq_eq_false_iff_ne, ne_eq, Bool.and_eq_false_iff]
    refine ⟨hki, hk1, ?_⟩
    by_cases hz : k + 1 = i
    · exact Or.inr (fun q => h2 ⟨hz, by rw [← kt_c_cat as]; exact q⟩)
    · exact Or.inl hz
/-! the locals with which a method begins -/
def kt_sl (av : List Value) : kt_Fr := av.flatMap fun v => if v.category = 2 then [some v, none] else [some v]
theorem kt_sl_len (as : Nat → Nat) (av : List Value) : (lg_sl (av.map (kt_c as))).length = (kt_sl av).length := by
  induction av with
  | nil => rfl
  | cons v t ih =>
    simp only [lg_sl, kt_sl, List.map_cons, List.flatMap_cons, List.length_append, kt_c_cat] at ih ⊢
    rw [ih]
    split <;> rfl
theorem kt_sl_get (as : Nat → Nat) (av : List Value) : ∀ (k : Nat) (v : Value), (kt_sl av)[k]? = some (some v) → (lg_sl (av.map (kt_c as)))[k]? = some (.val (kt_c as v)) := by
  induction av with
  | nil => intro k v h; simp [kt_sl] at h
  | cons u t ih =>
    intro k v h
    simp only [lg_sl, kt_sl, List.map_cons, List.flatMap_cons, kt_c_cat] at ih h ⊢
    by_cases hc : u.category = 2
    · simp only [hc, if_true] at h ⊢
      match k, h with
      | 0, h => simp at h; subst h; simp
      | 1, h => simp at h
      | k + 2, h => simp at h; simpa using ih k v h
    · simp only [hc, if_false] at h ⊢
      match k, h with
      | 0, h => simp at h; subst h; simp
      | k + 1, h => simp at h; simpa using ih k v h
def kt_in (nL : Nat) (av : List Value) : kt_Fr := kt_sl av ++ List.replicate (nL - (kt_sl av).length) none
def kt_run (nL : Nat) (d : kt_D) : kt_F := fun av σ => if (kt_sl av).length ≤ nL then d (kt_in nL av) [] σ else none
theorem kt_entry (as : Nat → Nat) (av : List Value) {nL : Nat} (h : (kt_sl av).length ≤ nL) : kt_lh as ((lg_sl (av.map (kt_c as)) ++ List.replicate (nL - (lg_sl (av.map (kt_c as))).length) Slot.unset).toArray) nL (kt_in nL av) := by
  have h0 := kt_sl_len as av
  have hl := lv_entry (av.map (kt_c as)) (n := nL) (by rw [h0]; exact h)
  refine ⟨by simp [kt_in]; omega, hl.1, hl.2.1, fun k v hk => ?_⟩
  unfold kt_in at hk
  by_cases hk1 : k < (kt_sl av).length
  · rw [List.getElem?_append_left hk1] at hk
    have h1 := kt_sl_get as av k v hk
    rw [List.getElem?_toArray, List.getElem?_append_left (by rw [h0]; exact hk1)]
    exact h1
  · rw [List.getElem?_append_right (by omega)] at hk
    rw [List.getElem?_replicate] at hk
    split at hk <;> cases hk
/-! Base, second half: what a point of a method's code means; its soundness, an instruction a row. -/
def kt_tys (cA : Nat → ClassId) : List (ClassId × FieldType) := [(cA 0, .int), (cA 1, .boolean), (cA 2, .object "KeyToken$RelyingParty")]
/-- the static arrays of Request, at places from 100 on -/
def kt_sts : List (String × List Int32) := [("MAKE_KINDS", [-1, 0, 3, 0, -1, 4, -1, -1, 0]), ("MAKE_WANTED", [1, 2, 3]), ("ASSERT_KINDS", [-1, 3, 0, 4, -1, -1, 0]), ("ASSERT_WANTED", [1, 2]), ("PIN_KINDS", [-1, 0, 3, 3]), ("PIN_WANTED", [1])]
def kt_St (as : Nat → Nat) (A : Nat → Prop) (U : State) : Prop := ∀ (k : Nat) (q : String × List Int32), kt_sts[k]? = some q → va_Z "KeyToken$Request" q.1 "[I" (.ref (as (100 + k))) A U U.heap ∧ va_T .int (as (100 + k)) q.2.length (fun j => .int (q.2.getD j 0)) A U U.heap
def kt_nest (w : Cond) : Bool := match w with
  | .fieldLinkNest _ _ _ _ _ _ => true
  | .methodLinkNest _ _ _ _ => true
  | .declares _ => true
  | .castable _ _ => true
  | _ => false
theorem kt_N_all : kt_N.all kt_nest = true := by decide +kernel
theorem kt_N_nest : ∀ w ∈ kt_N, kt_nest w = true := fun w h => List.all_eq_true.mp kt_N_all w h
theorem kt_Nw_warm {w : Cond} (hw : kt_nest w = true) {s U : State} (hW : s.WarmedH U.vm) (h : va_Nw w s) : va_Nw w U := by
  unfold kt_nest at hw
  split at hw
  · exact va_Nw.warmF hW h
  · exact va_Nw.warmM hW h
  · exact va_Nw.warmD hW h
  · exact va_Nw.warmC hW h
  · cases hw
theorem kt_nest_tab {w : Cond} (hw : kt_nest w = true) : w.onTables = true := by
  unfold kt_nest at hw
  split at hw
  · rfl
  · rfl
  · rfl
  · rfl
  · cases hw
/-- a static of Throwable that holds a reference or null -/
def kt_Th (n d : String) (A : Nat → Prop) (U : State) : Prop := ∃ (c : ClassId) (k : Class) (i : Nat) (f : Field) (a : Nat) (cell : Cell) (v : Value), U.vm.findClass "java/lang/Throwable" = some c ∧ U.fieldFound? "java/lang/Throwable" n d = some (c, k, i, f) ∧ f.isStatic = true ∧ k.statics = some a ∧ k.staticTypes[f.slot]? = some f.type ∧ U.heap[a]? = some cell ∧ cell.vm.isStatics = true ∧ cell.cls = c ∧ cell.slots[f.slot]? = some v ∧ v.isRef = true ∧ ¬ A a
/-- the texts of the class: entry, text -/
def kt_strs : List (Nat × String) := [(34, "no power"), (57, "not 1 to 8 bytes, or no room"), (74, "no output is left"), (102, "no such party or user"), (114, "no such party or origin"), (116, "no power or no open challenge"), (142, "no such party or field"), (148, "no such signature"), (150, "no challenge is open"), (152, "no such signature or field")]
def kt_X (A : Nat → Prop) (U : State) : Prop := (∀ (k : Nat) (q : Nat × String), kt_strs[k]? = some q → ∃ a, vk_R "KeyToken" q.1 q.2 a U) ∧ kt_Th "UNASSIGNED_STACK" Bundle.steD A U ∧ kt_Th "SUPPRESSED_SENTINEL" Bundle.listD A U
theorem kt_Th.moved {n d : String} {A B : Nat → Prop} {u U : State} (hvm : u.vm.Alike U.vm) (hH : ∀ a : Nat, a < u.heap.size → ¬ A a → U.heap[a]? = u.heap[a]?) (hAB : ∀ q, B q → A q) (h : kt_Th n d A u) : kt_Th n d B U := by
  obtain ⟨c, k, i, f, a, cell, v, h1, h2, h3, h4, h5, h6, h7, h8, h9, h10, h11⟩ := h
  obtain ⟨k', hi', he⟩ := State.fieldFound?_setVm hvm h2
  exact ⟨c, k', i, f, a, cell, v, by rw [hvm.findClass]; exact h1, hi', h3, by rw [he]; exact h4, by rw [he]; exact h5, by rw [hH a (Array.getElem?_eq_some_iff.mp h6).1 h11]; exact h6, h7, h8, h9, h10, fun z => h11 (hAB a z)⟩
theorem kt_X.moved {A B : Nat → Prop} {u U : State} (hW : u.WarmedH U.vm) (hH : ∀ a : Nat, a < u.heap.size → ¬ A a → U.heap[a]? = u.heap[a]?) (hAB : ∀ q, B q → A q) (h : kt_X A u) : kt_X B U := by
  obtain ⟨h1, h2, h3⟩ := h
  refine ⟨fun k q hk => ?_, h2.moved hW.alike hH hAB, h3.moved hW.alike hH hAB⟩
  obtain ⟨a, ha⟩ := h1 k q hk
  exact ⟨a, ha.warm hW⟩
/-- what stays over a method's run: the classes, the links between nest mates, the places apart, the static arrays -/
def kt_K (sh : kt_Sh) (D : va_G) (cA : Nat → ClassId) (as : Nat → Nat) (U : State) : Prop :=
  va_K D vwCl (kt_tys cA) U ∧ (∀ w ∈ kt_N, va_Nw w U) ∧ kt_inj sh as ∧ kt_St as (kt_A false sh as U.heap.size) U ∧ kt_X (kt_A false sh as U.heap.size) U
def kt_B (sh : kt_Sh) (D : va_G) (cA : Nat → ClassId) (as : Nat → Nat) (σ : kt_S) (U : State) : Prop := kt_K sh D cA as U ∧ va_P D vwCl (kt_w sh as cA σ) U.heap
theorem kt_K.to {fl : Bool} {sh : kt_Sh} {D : va_G} {cA : Nat → ClassId} {as : Nat → Nat} {s U : State} {locs : List Loc} (h : kt_K sh D cA as s) (hW : s.WarmedH U.vm) (hS0 : va_S (kt_A fl sh as s.heap.size) s.heap U.heap locs) : kt_K sh D cA as U := by
  obtain ⟨h1, h2, h3, h4, h5⟩ := h
  have hS := kt_S_up hS0
  refine ⟨va_K.moved hW.alike h1, fun w hw => kt_Nw_warm (kt_N_nest w hw) hW (h2 w hw), h3, fun k q hk => ?_, h5.moved hW hS.2.1 (kt_A_le hS.1)⟩
  obtain ⟨a, b⟩ := h4 k q hk
  exact ⟨((a.kept hS.2.1).moved hW.alike).narrow (kt_A_le hS.1), ((b.kept hS.2.1).moved hW.alike).narrow (kt_A_le hS.1)⟩
theorem kt_B.blind {sh : kt_Sh} {D : va_G} {cA : Nat → ClassId} {as : Nat → Nat} {σ : kt_S} {U : State} (g : JFrame) (mk : MethodId) (a : Array Value) (h : kt_B sh D cA as σ U) : kt_B sh D cA as σ (U.calling g mk a) := by
  obtain ⟨⟨h1, h2, h3, h4, h5, h6, h7⟩, h8⟩ := h
  refine ⟨⟨va_K.moved (u := U) (U := U.calling g mk a) (Vm.Alike.refl U.vm) h1, fun w hw => va_Nw.same (u := U) (U := U.calling g mk a) (kt_nest_tab (kt_N_nest w hw)) rfl (h2 w hw), h3, fun k q hk => ?_, fun k q hk => ?_, kt_Th.moved (u := U) (U := U.calling g mk a) (Vm.Alike.refl U.vm) (fun _ _ _ => rfl) (fun _ z => z) h6, kt_Th.moved (u := U) (U := U.calling g mk a) (Vm.Alike.refl U.vm) (fun _ _ _ => rfl) (fun _ z => z) h7⟩, h8⟩
  · obtain ⟨a1, b1⟩ := h4 k q hk
    exact ⟨va_Z.moved (u := U) (U := U.calling g mk a) (Vm.Alike.refl U.vm) a1, va_T.moved (u := U) (U := U.calling g mk a) (Vm.Alike.refl U.vm) b1⟩
  · obtain ⟨a1, b1⟩ := h5 k q hk
    exact ⟨a1, vk_R.same (u := U) (U := U.calling g mk a) rfl b1⟩
/-- a method's end -/
def kt_exs : List String := ["java/lang/IllegalStateException", "java/lang/IllegalArgumentException", "java/util/NoSuchElementException", "java/lang/IndexOutOfBoundsException"]
/-- an answer that stands for a throw: a place from 1000 on -/
def kt_isX (r : Option Value) : Option Nat := match r with
  | some (.ref n) => if 1000 ≤ n then some (n - 1000) else none
  | _ => none
def kt_exc (n a : Nat) (st t : State) : Prop := st.heap.size ≤ a ∧ ∃ (ce : Cell) (E : String), kt_exs[n]? = some E ∧ t.heap[a]? = some ce ∧ ce.vm = .none ∧ st.vm.findClass E = some ce.cls
def kt_end (mc : Nat) (as : Nat → Nat) (r : Option Value) (o : Outcome) (st t : State) : Prop := match kt_isX r with
  | none => o = .returned (r.map (kt_c as))
  | some n => 0 < mc ∧ ∃ a, o = .threw a ∧ kt_exc n a st t
theorem kt_end_zero {as : Nat → Nat} {r : Option Value} {o : Outcome} {st t : State} (h : kt_end 0 as r o st t) : o = .returned (r.map (kt_c as)) := by
  unfold kt_end at h
  split at h
  · exact h
  · exact absurd h.1 (Nat.lt_irrefl 0)
def kt_Q (sh : kt_Sh) (mc : Nat) (fr : Bool) (D : va_G) (cA : Nat → ClassId) (as : Nat → Nat) (r : Option Value) (σ : kt_S) (sz : Nat) : Array Value → State → Outcome → State → Prop := fun _ st o t =>
  kt_end mc as r o st t ∧ va_P D vwCl (kt_w sh as cA σ) t.heap ∧ va_F (kt_A fr sh as sz) st t
def kt_rm (lev mc ms : Nat) : Room := { frames := lev, cells := mc, slots := ms, locals := 80 * lev }
/-- a method's contract: where its pure meaning F answers, it answers so; where fr is true it writes nothing -/
def kt_M (l : Launch) (sh : kt_Sh) (y : MethodName) (cc : ByteArray) (nL : Nat) (ret : Option FieldType) (lev : Nat) (fr : Bool) (F : kt_F) : Prop :=
  ∀ (D : va_G) (cA : Nat → ClassId) (as : Nat → Nat) (av : List Value) (σ σ' : kt_S) (r : Option Value) (sz : Nat), F av σ = some (r, σ') →
    Met l y (Cond.code y cc nL ret :: kt_G) (kt_rm lev 0 0) (va_Pc (av.map (kt_c as)) (fun U => U.heap.size = sz ∧ kt_B sh D cA as σ U)) (kt_Q sh 0 fr D cA as r σ' sz) 0 0 (kt_A fr sh as sz)
/-- the end of a walk, of a method that returns or throws -/
def kt_MQ (below : List Frame) (Qc : Array Value → State → Outcome → State → Prop) (a : Array Value) (s : State) (mc ms : Nat) (free : Addr → Prop) : State → Prop := fun t =>
  ∃ o, t.status = .running ∧ Ended t below o ∧ Qc a s o t ∧ ∃ L, (s.WarmedH t.vm ∧ s.sameButNew ({ t with vm := s.vm } : State) L mc ms) ∧ ∀ q ∈ L, free q.base
/-- the contract of a method that may throw -/
def kt_MT (l : Launch) (sh : kt_Sh) (y : MethodName) (cc : ByteArray) (nL : Nat) (ret : Option FieldType) (lev mc ms : Nat) (F : kt_F) : Prop :=
  ∀ (D : va_G) (cA : Nat → ClassId) (as : Nat → Nat) (av : List Value) (σ σ' : kt_S) (r : Option Value) (sz : Nat), F av σ = some (r, σ') →
    MetFree l y (headSpec (Cond.code y cc nL ret :: kt_G) (kt_rm lev mc ms)) (va_Pc (av.map (kt_c as)) (fun U => U.heap.size = sz ∧ kt_B sh D cA as σ U)) (fun _ _ _ _ _ => True) (fun a st o t => kt_Q sh mc false D cA as r σ' sz a st o t ∧ ∃ L, (st.WarmedH t.vm ∧ st.sameButNew ({ t with vm := st.vm } : State) L mc ms) ∧ ∀ q ∈ L, kt_A false sh as sz q.base)
/-- the places' cells are no statics -/
def kt_pl (sh : kt_Sh) (as : Nat → Nat) (s : State) : Prop := ∀ (k : Nat), k < sh.length → as k < s.heap.size ∧ ∀ (cell : Cell), s.heap[as k]? = some cell → cell.vm.isStatics = false
/-- one activation -/
def kt_Act (sh : kt_Sh) (cc : ByteArray) (nL : Nat) (own : String) (ret : Option FieldType) (p : Program) (s : State) (m : MethodId) (args : Array Value) (meth : Method) (c : Code) (D : va_G) (cA : Nat → ClassId) (as : Nat → Nat) : Prop :=
  p.tables.exec = Jvm.exec ∧ c.code = cc ∧ c.maxLocals = nL ∧ meth.sig.returnType = ret ∧ (meth.locks = false ∧ c.exceptionTable.isEmpty = true ∧ kt_pl sh as s) ∧ (∀ w ∈ kt_G, w.before args s = true) ∧ s.vm.findClass own = some m.cls ∧ kt_K sh D cA as s
/-- soundness of a pure meaning d at a point pc of a method's code; hz: nothing has been written so far; fr: nothing is written at all -/
def kt_Snd (l : Launch) (sh : kt_Sh) (cc : ByteArray) (nL : Nat) (own : String) (ret : Option FieldType) (lev mc ms : Nat) (hz fr : Bool) (pc : Nat) (d : kt_D) : Prop :=
  ∀ (p : Program) (e : Env) (s : State) (m : MethodId) (args : Array Value) (below : List Frame) (meth : Method) (c : Code) (D : va_G) (cA : Nat → ClassId) (as : Nat → Nat), kt_Act sh cc nL own ret p s m args meth c D cA as →
  ∀ (H : Heap) (locs : List Loc) (ls : Array Slot) (L : kt_Fr) (st : List Value) (σ : kt_S) (r : Option Value) (σ' : kt_S), d L st σ = some (r, σ') → kt_lh as ls nL L → va_P D vwCl (kt_w sh as cA σ) H → va_S (kt_A hz sh as s.heap.size) s.heap H locs →
    W p l e (kt_rm lev mc ms) s m args below meth c H locs 0 0 (kt_MQ below (kt_Q sh mc fr D cA as r σ' s.heap.size) args s mc ms (kt_A fr sh as s.heap.size)) (F0 m pc ls (st.map (kt_c as)))
theorem kt_mono {p : Program} {l : Launch} {e : Env} {R : Room} {s : State} {m : MethodId} {args : Array Value} {below : List Frame} {meth : Method} {c : Code} {H : Heap} {locs : List Loc} {cells slots : Nat} {Q Q' : State → Prop} {g : JFrame} (hQ : ∀ t, Q t → Q' t) (k : W p l e R s m args below meth c H locs cells slots Q g) : W p l e R s m args below meth c H locs cells slots Q' g := by
  intro T hT X
  obtain ⟨t, a, b⟩ := k T hT X
  exact ⟨t, a, hQ t b⟩
theorem kt_ofMQ {below : List Frame} {Qc : Array Value → State → Outcome → State → Prop} {a : Array Value} {s : State} {mc ms : Nat} {free : Addr → Prop} (t : State) (h : MQ below Qc a s mc ms free t) : kt_MQ below Qc a s mc ms free t := by
  obtain ⟨o, h1, h2, h3, L, ⟨-, h4, h5⟩, h6⟩ := h
  exact ⟨o, h1, h2, h3, L, ⟨h4, h5⟩, h6⟩
theorem kt_pl_of {sh : kt_Sh} {D : va_G} {cA : Nat → ClassId} {as : Nat → Nat} {σ : kt_S} {s : State} (hP : va_P D vwCl (kt_w sh as cA σ) s.heap) : kt_pl sh as s := by
  intro k hk
  have h := hP k _ (kt_w_get (List.getElem?_eq_getElem hk))
  refine ⟨h.lt, fun cell hc => ?_⟩
  generalize kt_e as cA (σ k) sh[k] = e at h
  cases e with
  | inl x =>
    have h : s.heap[as k]? = some (vp_cell x.1 x.2) := h
    rw [hc] at h
    rw [Option.some.inj h]
    obtain ⟨c0, n, f | f | f | f | f⟩ := x <;> rfl
  | inr x =>
    obtain ⟨r, -, c1, q1, -, q3, -⟩ := h
    have q1 : s.heap[as k]? = some c1 := q1
    rw [hc] at q1
    rw [Option.some.inj q1, q3]
    rfl
section KTM
variable {l : Launch} {sh : kt_Sh} {cc : ByteArray} {nL : Nat} {own : String} {ret : Option FieldType} {lev mc ms : Nat} {hz fr : Bool} {pc : Nat} {d d1 d2 : kt_D}
theorem kt_method {y : MethodName} (hy : plainName y.cls = true) (hown : y.cls = own) (hS : kt_Snd l sh cc nL own ret lev 0 0 fr fr 0 d) : kt_M l sh y cc nL ret lev fr (kt_run nL d) := by
  intro D cA as av σ σ' r sz hF
  unfold kt_run at hF
  split at hF
  · next hlen =>
    refine Met.ofW (cc := cc) (maxL := nL) (ret := ret) hy rfl ?_
    intro p e s m args below meth c s₁ B hml hv
    obtain ⟨rfl, hsz, hK, hP⟩ := hv
    have hts := atoms_spec (ws := Cond.code y cc nL ret :: kt_G) B.pre
    have ho : s.vm.findClass own = some m.cls := by rw [← hown]; exact findClass_of_methodNamed B.named
    subst hsz
    rw [lg_entry_eq]
    refine kt_mono ?_ (hS p e s m _ below meth c D cA as ⟨B.exec, B.bytes, hml, B.returns, ⟨B.notSynchronized, B.noHandlers (hts _ List.mem_cons_self), kt_pl_of hP⟩, fun w hw => hts w (List.mem_cons_of_mem _ hw), ho, hK⟩ s.heap [] _ _ [] σ r σ' hF (kt_entry as av hlen) hP va_S.rf)
    rintro t ⟨o, h1, h2, h3, L, ⟨h4, h5⟩, h6⟩
    exact ⟨o, h1, h2, h3, L, ⟨⟨_, kt_end_zero h3.1⟩, h4, h5⟩, h6⟩
  · cases hF
theorem kt_methodT {y : MethodName} (hy : plainName y.cls = true) (hown : y.cls = own) (hS : kt_Snd l sh cc nL own ret lev mc ms true false 0 d) : kt_MT l sh y cc nL ret lev mc ms (kt_run nL d) := by
  intro D cA as av σ σ' r sz hF
  unfold kt_run at hF
  split at hF
  · next hlen =>
    refine MetFree.of_bodyS (code := cc) (maxLocals := nL) (ret := ret) hy ?_ ?_
    · intro args s m h hn
      obtain ⟨meth, c, h1, h2, h3, h4, h5, h6, -, -⟩ := Cond.code_spec hn (atoms_spec (ws := Cond.code y cc nL ret :: kt_G) h _ List.mem_cons_self)
      exact ⟨meth, c, h1, h2, h3, h4, h5, h6⟩
    · intro p e s m args below meth c s₁ B hml hv _
      obtain ⟨rfl, hsz, hK, hP⟩ := hv
      have hts := atoms_spec (ws := Cond.code y cc nL ret :: kt_G) B.pre
      have ho : s.vm.findClass own = some m.cls := by rw [← hown]; exact findClass_of_methodNamed B.named
      subst hsz
      have hh0 : s₁.heap = s.heap := by rw [B.state]; rfl
      rw [lg_entry_eq]
      obtain ⟨t, a1, o, b1, b2, b3, b4⟩ := hS p e s m _ below meth c D cA as ⟨B.exec, B.bytes, hml, B.returns, ⟨B.notSynchronized, B.noHandlers (hts _ List.mem_cons_self), kt_pl_of hP⟩, fun w hw => hts w (List.mem_cons_of_mem _ hw), ho, hK⟩ s.heap [] _ _ [] σ r σ' hF (kt_entry as av hlen) hP va_S.rf s₁ hh0 (Stand.of_body B)
      exact ⟨t, o, a1, b1, b2, b3, b4⟩
  · cases hF
theorem sd_hist (h0 : kt_Snd l sh cc nL own ret lev mc ms false fr pc d) : kt_Snd l sh cc nL own ret lev mc ms hz fr pc d := by
  intro p e s m args below meth c D cA as ha H locs ls L st σ r σ' h hl hP hS
  exact h0 p e s m args below meth c D cA as ha H locs ls L st σ r σ' h hl hP (kt_S_up hS)
theorem sd_fail : kt_Snd l sh cc nL own ret lev mc ms hz fr pc (fun _ _ _ => none) := by
  intro p e s m args below meth c D cA as ha H locs ls L st σ r σ' h
  cases h
/-! constants and locals -/
def ki_push (v : Value) (d : kt_D) : kt_D := fun L st σ => d L (v :: st) σ
theorem sd_iconst {n : Int} {v : Int32} (hd : decode cc pc = .ok (.iconst n, 1)) (hv : Int32.ofInt n = v) (k : kt_Snd l sh cc nL own ret lev mc ms hz fr (pc + 1) d) : kt_Snd l sh cc nL own ret lev mc ms hz fr pc (ki_push (.int v) d) := by
  intro p e s m args below meth c D cA as ha H locs ls L st σ r σ' h hl hP hS
  exact lv_iconst ha.1 ha.2.1 hd hv (k p e s m args below meth c D cA as ha H locs ls L _ σ r σ' h hl hP hS)
theorem sd_bipush {n : Int} {v : Int32} (hd : decode cc pc = .ok (.bipush n, 2)) (hv : (Int8.ofInt n).toInt32 = v) (k : kt_Snd l sh cc nL own ret lev mc ms hz fr (pc + 2) d) : kt_Snd l sh cc nL own ret lev mc ms hz fr pc (ki_push (.int v) d) := by
  intro p e s m args below meth c D cA as ha H locs ls L st σ r σ' h hl hP hS
  exact lv_bipush ha.1 ha.2.1 hd hv (k p e s m args below meth c D cA as ha H locs ls L _ σ r σ' h hl hP hS)
theorem sd_sipush {n : Int} {v : Int32} (hd : decode cc pc = .ok (.sipush n, 3)) (hv : (Int16.ofInt n).toInt32 = v) (k : kt_Snd l sh cc nL own ret lev mc ms hz fr (pc + 3) d) : kt_Snd l sh cc nL own ret lev mc ms hz fr pc (ki_push (.int v) d) := by
  intro p e s m args below meth c D cA as ha H locs ls L st σ r σ' h hl hP hS
  exact lv_sipush ha.1 ha.2.1 hd hv (k p e s m args below meth c D cA as ha H locs ls L _ σ r σ' h hl hP hS)
theorem sd_ldc {idx : Nat} {v : Int32} (hd : decode cc pc = .ok (.ldc idx, 2)) (hw : Cond.constant own idx v ∈ kt_G) (k : kt_Snd l sh cc nL own ret lev mc ms hz fr (pc + 2) d) : kt_Snd l sh cc nL own ret lev mc ms hz fr pc (ki_push (.int v) d) := by
  intro p e s m args below meth c D cA as ha H locs ls L st σ r σ' h hl hP hS
  exact lv_ldc ha.1 ha.2.1 ha.2.2.2.2.2.2.1 (ha.2.2.2.2.2.1 _ hw) hd (k p e s m args below meth c D cA as ha H locs ls L _ σ r σ' h hl hP hS)
theorem sd_lconst {n : Fin 2} {v : Int64} (hd : decode cc pc = .ok (.lconst n, 1)) (hv : Int64.ofNat (n : Nat) = v) (k : kt_Snd l sh cc nL own ret lev mc ms hz fr (pc + 1) d) : kt_Snd l sh cc nL own ret lev mc ms hz fr pc (ki_push (.long v) d) := by
  intro p e s m args below meth c D cA as ha H locs ls L st σ r σ' h hl hP hS
  exact lv_lconst ha.1 ha.2.1 hd hv (k p e s m args below meth c D cA as ha H locs ls L _ σ r σ' h hl hP hS)
theorem sd_ldc2 {idx : Nat} {v : Int64} (hd : decode cc pc = .ok (.ldc2_w idx, 3)) (hw : Cond.constantLong own idx v ∈ kt_G) (k : kt_Snd l sh cc nL own ret lev mc ms hz fr (pc + 3) d) : kt_Snd l sh cc nL own ret lev mc ms hz fr pc (ki_push (.long v) d) := by
  intro p e s m args below meth c D cA as ha H locs ls L st σ r σ' h hl hP hS
  exact lv_ldc2 ha.1 ha.2.1 ha.2.2.2.2.2.2.1 (ha.2.2.2.2.2.1 _ hw) hd (k p e s m args below meth c D cA as ha H locs ls L _ σ r σ' h hl hP hS)
theorem sd_null (hd : decode cc pc = .ok (.aconst_null, 1)) (k : kt_Snd l sh cc nL own ret lev mc ms hz fr (pc + 1) d) : kt_Snd l sh cc nL own ret lev mc ms hz fr pc (ki_push .null d) := by
  intro p e s m args below meth c D cA as ha H locs ls L st σ r σ' h hl hP hS
  exact lv_null ha.1 ha.2.1 hd (k p e s m args below meth c D cA as ha H locs ls L _ σ r σ' h hl hP hS)
def ki_iload (i : Nat) (d : kt_D) : kt_D := fun L st σ => match L[i]? with
  | some (some (.int x)) => d L (.int x :: st) σ
  | _ => none
def ki_lload (i : Nat) (d : kt_D) : kt_D := fun L st σ => match L[i]? with
  | some (some (.long x)) => d L (.long x :: st) σ
  | _ => none
def ki_aload (i : Nat) (d : kt_D) : kt_D := fun L st σ => match L[i]? with
  | some (some (.ref x)) => d L (.ref x :: st) σ
  | some (some .null) => d L (.null :: st) σ
  | _ => none
theorem sd_iload {i : Nat} (hd : decode cc pc = .ok (.iload i, 2)) (k : kt_Snd l sh cc nL own ret lev mc ms hz fr (pc + 2) d) : kt_Snd l sh cc nL own ret lev mc ms hz fr pc (ki_iload i d) := by
  intro p e s m args below meth c D cA as ha H locs ls L st σ r σ' h hl hP hS
  unfold ki_iload at h
  split at h
  · next x hx => exact lv_iload ha.1 ha.2.1 hd (hl.2.2.2 _ _ hx) (k p e s m args below meth c D cA as ha H locs ls L _ σ r σ' h hl hP hS)
  · cases h
theorem sd_iload_n {j : Fin 4} {i : Nat} (hd : decode cc pc = .ok (.iload_n j, 1)) (hi : (j : Nat) = i) (k : kt_Snd l sh cc nL own ret lev mc ms hz fr (pc + 1) d) : kt_Snd l sh cc nL own ret lev mc ms hz fr pc (ki_iload i d) := by
  intro p e s m args below meth c D cA as ha H locs ls L st σ r σ' h hl hP hS
  unfold ki_iload at h
  split at h
  · next x hx => exact lv_iload_n ha.1 ha.2.1 hd hi (hl.2.2.2 _ _ hx) (k p e s m args below meth c D cA as ha H locs ls L _ σ r σ' h hl hP hS)
  · cases h
theorem sd_lload {i : Nat} (hd : decode cc pc = .ok (.lload i, 2)) (k : kt_Snd l sh cc nL own ret lev mc ms hz fr (pc + 2) d) : kt_Snd l sh cc nL own ret lev mc ms hz fr pc (ki_lload i d) := by
  intro p e s m args below meth c D cA as ha H locs ls L st σ r σ' h hl hP hS
  unfold ki_lload at h
  split at h
  · next x hx => exact lv_lload ha.1 ha.2.1 hd (hl.2.2.2 _ _ hx) (k p e s m args below meth c D cA as ha H locs ls L _ σ r σ' h hl hP hS)
  · cases h
theorem sd_lload_n {j : Fin 4} {i : Nat} (hd : decode cc pc = .ok (.lload_n j, 1)) (hi : (j : Nat) = i) (k : kt_Snd l sh cc nL own ret lev mc ms hz fr (pc + 1) d) : kt_Snd l sh cc nL own ret lev mc ms hz fr pc (ki_lload i d) := by
  intro p e s m args below meth c D cA as ha H locs ls L st σ r σ' h hl hP hS
  unfold ki_lload at h
  split at h
  · next x hx => exact lv_lload_n ha.1 ha.2.1 hd hi (hl.2.2.2 _ _ hx) (k p e s m args below meth c D cA as ha H locs ls L _ σ r σ' h hl hP hS)
  · cases h
theorem sd_aload {i : Nat} (hd : decode cc pc = .ok (.aload i, 2)) (k : kt_Snd l sh cc nL own ret lev mc ms hz fr (pc + 2) d) : kt_Snd l sh cc nL own ret lev mc ms hz fr pc (ki_aload i d) := by
  intro p e s m args below meth c D cA as ha H locs ls L st σ r σ' h hl hP hS
  unfold ki_aload at h
  split at h
  · next x hx => exact lv_aload ha.1 ha.2.1 hd (hl.2.2.2 _ _ hx) (k p e s m args below meth c D cA as ha H locs ls L _ σ r σ' h hl hP hS)
  · next hx => exact lv_aloadN ha.1 ha.2.1 hd (hl.2.2.2 _ _ hx) (k p e s m args below meth c D cA as ha H locs ls L _ σ r σ' h hl hP hS)
  · cases h
theorem sd_aload_n {j : Fin 4} {i : Nat} (hd : decode cc pc = .ok (.aload_n j, 1)) (hi : (j : Nat) = i) (k : kt_Snd l sh cc nL own ret lev mc ms hz fr (pc + 1) d) : kt_Snd l sh cc nL own ret lev mc ms hz fr pc (ki_aload i d) := by
  intro p e s m args below meth c D cA as ha H locs ls L st σ r σ' h hl hP hS
  unfold ki_aload at h
  split at h
  · next x hx => exact lv_aload_n ha.1 ha.2.1 hd hi (hl.2.2.2 _ _ hx) (k p e s m args below meth c D cA as ha H locs ls L _ σ r σ' h hl hP hS)
  · next hx => exact lv_aload_nN ha.1 ha.2.1 hd hi (hl.2.2.2 _ _ hx) (k p e s m args below meth c D cA as ha H locs ls L _ σ r σ' h hl hP hS)
  · cases h
def ki_istore (i : Nat) (d : kt_D) : kt_D := fun L st σ => match st with
  | .int x :: r => d (kt_st1 L i (.int x)) r σ
  | _ => none
def ki_lstore (i : Nat) (d : kt_D) : kt_D := fun L st σ => match st with
  | .long x :: r => d (kt_st2 L i (.long x)) r σ
  | _ => none
def ki_astore (i : Nat) (d : kt_D) : kt_D := fun L st σ => match st with
  | .ref x :: r => d (kt_st1 L i (.ref x)) r σ
  | .null :: r => d (kt_st1 L i .null) r σ
  | _ => none
theorem sd_istore {i : Nat} (hd : decode cc pc = .ok (.istore i, 2)) (hn : i < nL) (k : kt_Snd l sh cc nL own ret lev mc ms hz fr (pc + 2) d) : kt_Snd l sh cc nL own ret lev mc ms hz fr pc (ki_istore i d) := by
  intro p e s m args below meth c D cA as ha H locs ls L st σ r σ' h hl hP hS
  unfold ki_istore at h
  split at h
  · next x r0 => exact lv_istore (x := x) ha.1 ha.2.1 hd hl.has hn rfl (fun ls' h' => k p e s m args below meth c D cA as ha H locs ls' _ _ σ r σ' h (hl.st1 (v := .int x) h') hP hS)
  · cases h
theorem sd_istore_n {j : Fin 4} {i : Nat} (hd : decode cc pc = .ok (.istore_n j, 1)) (hi : (j : Nat) = i) (hn : i < nL) (k : kt_Snd l sh cc nL own ret lev mc ms hz fr (pc + 1) d) : kt_Snd l sh cc nL own ret lev mc ms hz fr pc (ki_istore i d) := by
  intro p e s m args below meth c D cA as ha H locs ls L st σ r σ' h hl hP hS
  unfold ki_istore at h
  split at h
  · next x r0 => exact lv_istore_n (x := x) ha.1 ha.2.1 hd hi hl.has hn rfl (fun ls' h' => k p e s m args below meth c D cA as ha H locs ls' _ _ σ r σ' h (hl.st1 (v := .int x) h') hP hS)
  · cases h
theorem sd_lstore {i : Nat} (hd : decode cc pc = .ok (.lstore i, 2)) (hn : i + 1 < nL) (k : kt_Snd l sh cc nL own ret lev mc ms hz fr (pc + 2) d) : kt_Snd l sh cc nL own ret lev mc ms hz fr pc (ki_lstore i d) := by
  intro p e s m args below meth c D cA as ha H locs ls L st σ r σ' h hl hP hS
  unfold ki_lstore at h
  split at h
  · next x r0 => exact lv_lstore (x := x) ha.1 ha.2.1 hd hl.has hn rfl (fun ls' h' => k p e s m args below meth c D cA as ha H locs ls' _ _ σ r σ' h (hl.st2 (v := .long x) h') hP hS)
  · cases h
theorem sd_lstore_n {j : Fin 4} {i : Nat} (hd : decode cc pc = .ok (.lstore_n j, 1)) (hi : (j : Nat) = i) (hn : i + 1 < nL) (k : kt_Snd l sh cc nL own ret lev mc ms hz fr (pc + 1) d) : kt_Snd l sh cc nL own ret lev mc ms hz fr pc (ki_lstore i d) := by
  intro p e s m args below meth c D cA as ha H locs ls L st σ r σ' h hl hP hS
  unfold ki_lstore at h
  split at h
  · next x r0 => exact lv_lstore_n (x := x) ha.1 ha.2.1 hd hi hl.has hn rfl (fun ls' h' => k p e s m args below meth c D cA as ha H locs ls' _ _ σ r σ' h (hl.st2 (v := .long x) h') hP hS)
  · cases h
theorem sd_astore {i : Nat} (hd : decode cc pc = .ok (.astore i, 2)) (hn : i < nL) (k : kt_Snd l sh cc nL own ret lev mc ms hz fr (pc + 2) d) : kt_Snd l sh cc nL own ret lev mc ms hz fr pc (ki_astore i d) := by
  intro p e s m args below meth c D cA as ha H locs ls L st σ r σ' h hl hP hS
  unfold ki_astore at h
  split at h
  · next x r0 => exact lv_astore (x := as x) ha.1 ha.2.1 hd hl.has hn rfl (fun ls' h' => k p e s m args below meth c D cA as ha H locs ls' _ _ σ r σ' h (hl.st1 (v := .ref x) h') hP hS)
  · next r0 => exact lv_astoreN ha.1 ha.2.1 hd hl.has hn rfl (fun ls' h' => k p e s m args below meth c D cA as ha H locs ls' _ _ σ r σ' h (hl.st1 (v := .null) h') hP hS)
  · cases h
theorem sd_astore_n {j : Fin 4} {i : Nat} (hd : decode cc pc = .ok (.astore_n j, 1)) (hi : (j : Nat) = i) (hn : i < nL) (k : kt_Snd l sh cc nL own ret lev mc ms hz fr (pc + 1) d) : kt_Snd l sh cc nL own ret lev mc ms hz fr pc (ki_astore i d) := by
  intro p e s m args below meth c D cA as ha H locs ls L st σ r σ' h hl hP hS
  unfold ki_astore at h
  split at h
  · next x r0 => exact lv_astore_n (x := as x) ha.1 ha.2.1 hd hi hl.has hn rfl (fun ls' h' => k p e s m args below meth c D cA as ha H locs ls' _ _ σ r σ' h (hl.st1 (v := .ref x) h') hP hS)
  · next r0 => exact lv_astore_nN ha.1 ha.2.1 hd hi hl.has hn rfl (fun ls' h' => k p e s m args below meth c D cA as ha H locs ls' _ _ σ r σ' h (hl.st1 (v := .null) h') hP hS)
  · cases h
def ki_iinc (i : Nat) (v : Int32) (d : kt_D) : kt_D := fun L st σ => match L[i]? with
  | some (some (.int x)) => d (kt_st1 L i (.int (x + v))) st σ
  | _ => none
theorem sd_iinc {i : Nat} {n : Int} {v : Int32} (hd : decode cc pc = .ok (.iinc i n, 3)) (hv : Int32.ofInt n = v) (hn : i < nL) (k : kt_Snd l sh cc nL own ret lev mc ms hz fr (pc + 3) d) : kt_Snd l sh cc nL own ret lev mc ms hz fr pc (ki_iinc i v d) := by
  intro p e s m args below meth c D cA as ha H locs ls L st σ r σ' h hl hP hS
  unfold ki_iinc at h
  split at h
  · next x hx =>
    subst hv
    have hm : (i, Value.int x) ∈ kt_lv as L := kt_lv_mem.mpr ⟨.int x, hx, rfl⟩
    obtain ⟨q, hq⟩ := List.getElem?_of_mem hm
    exact lv_iinc (k := q) (x := x) ha.1 ha.2.1 hd hl.has hq rfl hn rfl (fun ls' h' => k p e s m args below meth c D cA as ha H locs ls' _ _ σ r σ' h (hl.st1 (v := .int (x + Int32.ofInt n)) h') hP hS)
  · cases h
def ki_drop (i : Nat) (d : kt_D) : kt_D := fun L st σ => d (L.set i none) st σ
theorem kt_lh.drop {as : Nat → Nat} {ls : Array Slot} {L : kt_Fr} (h : kt_lh as ls nL L) (i : Nat) : kt_lh as ls nL (L.set i none) :=
  ⟨by rw [List.length_set]; exact h.1, h.2.1, h.2.2.1, fun k v hk => h.2.2.2 k v (kt_set_none hk).2⟩
theorem sd_drop {k : Nat} (h0 : kt_Snd l sh cc nL own ret lev mc ms hz fr pc d) : kt_Snd l sh cc nL own ret lev mc ms hz fr pc (ki_drop k d) := by
  intro p e s m args below meth c D cA as ha H locs ls L st σ r σ' h hl hP hS
  exact h0 p e s m args below meth c D cA as ha H locs ls _ st σ r σ' h (hl.drop k) hP hS
end KTM
/-! arithmetic, stack, branches -/
section KTA
variable {l : Launch} {sh : kt_Sh} {cc : ByteArray} {nL : Nat} {own : String} {ret : Option FieldType} {lev mc ms : Nat} {hz fr : Bool} {pc : Nat} {d d1 d2 : kt_D}
def ki_iadd (d : kt_D) : kt_D := fun L st σ => match st with
  | .int y :: .int x :: r => d L (.int (x + y) :: r) σ
  | _ => none
theorem sd_iadd (hd : decode cc pc = .ok (.iadd, 1)) (k : kt_Snd l sh cc nL own ret lev mc ms hz fr (pc + 1) d) : kt_Snd l sh cc nL own ret lev mc ms hz fr pc (ki_iadd d) := by
  intro p e s m args below meth c D cA as ha H locs ls L st σ r σ' h hl hP hS
  unfold ki_iadd at h
  split at h
  · next y x r0 => exact lv_iadd ha.1 ha.2.1 hd (k p e s m args below meth c D cA as ha H locs ls L _ σ r σ' h hl hP hS)
  · cases h
def ki_isub (d : kt_D) : kt_D := fun L st σ => match st with
  | .int y :: .int x :: r => d L (.int (x - y) :: r) σ
  | _ => none
theorem sd_isub (hd : decode cc pc = .ok (.isub, 1)) (k : kt_Snd l sh cc nL own ret lev mc ms hz fr (pc + 1) d) : kt_Snd l sh cc nL own ret lev mc ms hz fr pc (ki_isub d) := by
  intro p e s m args below meth c D cA as ha H locs ls L st σ r σ' h hl hP hS
  unfold ki_isub at h
  split at h
  · next y x r0 => exact lv_isub ha.1 ha.2.1 hd (k p e s m args below meth c D cA as ha H locs ls L _ σ r σ' h hl hP hS)
  · cases h
def ki_imul (d : kt_D) : kt_D := fun L st σ => match st with
  | .int y :: .int x :: r => d L (.int (x * y) :: r) σ
  | _ => none
theorem sd_imul (hd : decode cc pc = .ok (.imul, 1)) (k : kt_Snd l sh cc nL own ret lev mc ms hz fr (pc + 1) d) : kt_Snd l sh cc nL own ret lev mc ms hz fr pc (ki_imul d) := by
  intro p e s m args below meth c D cA as ha H locs ls L st σ r σ' h hl hP hS
  unfold ki_imul at h
  split at h
  · next y x r0 => exact lv_imul ha.1 ha.2.1 hd (k p e s m args below meth c D cA as ha H locs ls L _ σ r σ' h hl hP hS)
  · cases h
def ki_iand (d : kt_D) : kt_D := fun L st σ => match st with
  | .int y :: .int x :: r => d L (.int (x &&& y) :: r) σ
  | _ => none
theorem sd_iand (hd : decode cc pc = .ok (.iand, 1)) (k : kt_Snd l sh cc nL own ret lev mc ms hz fr (pc + 1) d) : kt_Snd l sh cc nL own ret lev mc ms hz fr pc (ki_iand d) := by
  intro p e s m args below meth c D cA as ha H locs ls L st σ r σ' h hl hP hS
  unfold ki_iand at h
  split at h
  · next y x r0 => exact lv_iand ha.1 ha.2.1 hd (k p e s m args below meth c D cA as ha H locs ls L _ σ r σ' h hl hP hS)
  · cases h
def ki_ior (d : kt_D) : kt_D := fun L st σ => match st with
  | .int y :: .int x :: r => d L (.int (x ||| y) :: r) σ
  | _ => none
theorem sd_ior (hd : decode cc pc = .ok (.ior, 1)) (k : kt_Snd l sh cc nL own ret lev mc ms hz fr (pc + 1) d) : kt_Snd l sh cc nL own ret lev mc ms hz fr pc (ki_ior d) := by
  intro p e s m args below meth c D cA as ha H locs ls L st σ r σ' h hl hP hS
  unfold ki_ior at h
  split at h
  · next y x r0 => exact lv_ior ha.1 ha.2.1 hd (k p e s m args below meth c D cA as ha H locs ls L _ σ r σ' h hl hP hS)
  · cases h
def ki_ixor (d : kt_D) : kt_D := fun L st σ => match st with
  | .int y :: .int x :: r => d L (.int (x ^^^ y) :: r) σ
  | _ => none
theorem sd_ixor (hd : decode cc pc = .ok (.ixor, 1)) (k : kt_Snd l sh cc nL own ret lev mc ms hz fr (pc + 1) d) : kt_Snd l sh cc nL own ret lev mc ms hz fr pc (ki_ixor d) := by
  intro p e s m args below meth c D cA as ha H locs ls L st σ r σ' h hl hP hS
  unfold ki_ixor at h
  split at h
  · next y x r0 => exact lv_ixor ha.1 ha.2.1 hd (k p e s m args below meth c D cA as ha H locs ls L _ σ r σ' h hl hP hS)
  · cases h
def ki_idiv (d : kt_D) : kt_D := fun L st σ => match st with
  | .int y :: .int x :: r => if y = 0 then none else d L (.int (x / y) :: r) σ
  | _ => none
theorem sd_idiv (hd : decode cc pc = .ok (.idiv, 1)) (k : kt_Snd l sh cc nL own ret lev mc ms hz fr (pc + 1) d) : kt_Snd l sh cc nL own ret lev mc ms hz fr pc (ki_idiv d) := by
  intro p e s m args below meth c D cA as ha H locs ls L st σ r σ' h hl hP hS
  unfold ki_idiv at h
  split at h
  · next y x r0 =>
    split at h
    · cases h
    · next hg => exact lv_idiv ha.1 ha.2.1 hd hg (k p e s m args below meth c D cA as ha H locs ls L _ σ r σ' h hl hP hS)
  · cases h
def ki_irem (d : kt_D) : kt_D := fun L st σ => match st with
  | .int y :: .int x :: r => if y = 0 then none else d L (.int (x - x / y * y) :: r) σ
  | _ => none
theorem sd_irem (hd : decode cc pc = .ok (.irem, 1)) (k : kt_Snd l sh cc nL own ret lev mc ms hz fr (pc + 1) d) : kt_Snd l sh cc nL own ret lev mc ms hz fr pc (ki_irem d) := by
  intro p e s m args below meth c D cA as ha H locs ls L st σ r σ' h hl hP hS
  unfold ki_irem at h
  split at h
  · next y x r0 =>
    split at h
    · cases h
    · next hg => exact lv_irem ha.1 ha.2.1 hd hg (k p e s m args below meth c D cA as ha H locs ls L _ σ r σ' h hl hP hS)
  · cases h
def ki_ishl (d : kt_D) : kt_D := fun L st σ => match st with
  | .int y :: .int x :: r => d L (.int (x <<< (y &&& 31)) :: r) σ
  | _ => none
theorem sd_ishl (hd : decode cc pc = .ok (.ishl, 1)) (k : kt_Snd l sh cc nL own ret lev mc ms hz fr (pc + 1) d) : kt_Snd l sh cc nL own ret lev mc ms hz fr pc (ki_ishl d) := by
  intro p e s m args below meth c D cA as ha H locs ls L st σ r σ' h hl hP hS
  unfold ki_ishl at h
  split at h
  · next y x r0 => exact lv_ishl ha.1 ha.2.1 hd (k p e s m args below meth c D cA as ha H locs ls L _ σ r σ' h hl hP hS)
  · cases h
def ki_ishr (d : kt_D) : kt_D := fun L st σ => match st with
  | .int y :: .int x :: r => d L (.int (x >>> (y &&& 31)) :: r) σ
  | _ => none
theorem sd_ishr (hd : decode cc pc = .ok (.ishr, 1)) (k : kt_Snd l sh cc nL own ret lev mc ms hz fr (pc + 1) d) : kt_Snd l sh cc nL own ret lev mc ms hz fr pc (ki_ishr d) := by
  intro p e s m args below meth c D cA as ha H locs ls L st σ r σ' h hl hP hS
  unfold ki_ishr at h
  split at h
  · next y x r0 => exact lv_ishr ha.1 ha.2.1 hd (k p e s m args below meth c D cA as ha H locs ls L _ σ r σ' h hl hP hS)
  · cases h
def ki_land (d : kt_D) : kt_D := fun L st σ => match st with
  | .long y :: .long x :: r => d L (.long (x &&& y) :: r) σ
  | _ => none
theorem sd_land (hd : decode cc pc = .ok (.land, 1)) (k : kt_Snd l sh cc nL own ret lev mc ms hz fr (pc + 1) d) : kt_Snd l sh cc nL own ret lev mc ms hz fr pc (ki_land d) := by
  intro p e s m args below meth c D cA as ha H locs ls L st σ r σ' h hl hP hS
  unfold ki_land at h
  split at h
  · next y x r0 => exact lv_land ha.1 ha.2.1 hd (k p e s m args below meth c D cA as ha H locs ls L _ σ r σ' h hl hP hS)
  · cases h
def ki_lor (d : kt_D) : kt_D := fun L st σ => match st with
  | .long y :: .long x :: r => d L (.long (x ||| y) :: r) σ
  | _ => none
theorem sd_lor (hd : decode cc pc = .ok (.lor, 1)) (k : kt_Snd l sh cc nL own ret lev mc ms hz fr (pc + 1) d) : kt_Snd l sh cc nL own ret lev mc ms hz fr pc (ki_lor d) := by
  intro p e s m args below meth c D cA as ha H locs ls L st σ r σ' h hl hP hS
  unfold ki_lor at h
  split at h
  · next y x r0 => exact lv_lor ha.1 ha.2.1 hd (k p e s m args below meth c D cA as ha H locs ls L _ σ r σ' h hl hP hS)
  · cases h
def ki_lshl (d : kt_D) : kt_D := fun L st σ => match st with
  | .int y :: .long x :: r => d L (.long (x <<< (y.toInt64 &&& 63)) :: r) σ
  | _ => none
theorem sd_lshl (hd : decode cc pc = .ok (.lshl, 1)) (k : kt_Snd l sh cc nL own ret lev mc ms hz fr (pc + 1) d) : kt_Snd l sh cc nL own ret lev mc ms hz fr pc (ki_lshl d) := by
  intro p e s m args below meth c D cA as ha H locs ls L st σ r σ' h hl hP hS
  unfold ki_lshl at h
  split at h
  · next y x r0 => exact lv_lshl ha.1 ha.2.1 hd rfl (k p e s m args below meth c D cA as ha H locs ls L _ σ r σ' h hl hP hS)
  · cases h
def ki_lshr (d : kt_D) : kt_D := fun L st σ => match st with
  | .int y :: .long x :: r => d L (.long (x >>> (y.toInt64 &&& 63)) :: r) σ
  | _ => none
theorem sd_lshr (hd : decode cc pc = .ok (.lshr, 1)) (k : kt_Snd l sh cc nL own ret lev mc ms hz fr (pc + 1) d) : kt_Snd l sh cc nL own ret lev mc ms hz fr pc (ki_lshr d) := by
  intro p e s m args below meth c D cA as ha H locs ls L st σ r σ' h hl hP hS
  unfold ki_lshr at h
  split at h
  · next y x r0 => exact lv_lshr ha.1 ha.2.1 hd rfl (k p e s m args below meth c D cA as ha H locs ls L _ σ r σ' h hl hP hS)
  · cases h
def ki_lcmp (d : kt_D) : kt_D := fun L st σ => match st with
  | .long y :: .long x :: r => d L (.int (lg_cmp x y) :: r) σ
  | _ => none
theorem sd_lcmp (hd : decode cc pc = .ok (.lcmp, 1)) (k : kt_Snd l sh cc nL own ret lev mc ms hz fr (pc + 1) d) : kt_Snd l sh cc nL own ret lev mc ms hz fr pc (ki_lcmp d) := by
  intro p e s m args below meth c D cA as ha H locs ls L st σ r σ' h hl hP hS
  unfold ki_lcmp at h
  split at h
  · next y x r0 => exact W.lcmp ha.1 ha.2.1 hd (k p e s m args below meth c D cA as ha H locs ls L _ σ r σ' h hl hP hS)
  · cases h
def ki_i2l (d : kt_D) : kt_D := fun L st σ => match st with
  | .int x :: r => d L (.long (x.toInt64) :: r) σ
  | _ => none
theorem sd_i2l (hd : decode cc pc = .ok (.i2l, 1)) (k : kt_Snd l sh cc nL own ret lev mc ms hz fr (pc + 1) d) : kt_Snd l sh cc nL own ret lev mc ms hz fr pc (ki_i2l d) := by
  intro p e s m args below meth c D cA as ha H locs ls L st σ r σ' h hl hP hS
  unfold ki_i2l at h
  split at h
  · next x r0 => exact lv_i2l ha.1 ha.2.1 hd rfl (k p e s m args below meth c D cA as ha H locs ls L _ σ r σ' h hl hP hS)
  · cases h
def ki_l2i (d : kt_D) : kt_D := fun L st σ => match st with
  | .long x :: r => d L (.int (x.toInt32) :: r) σ
  | _ => none
theorem sd_l2i (hd : decode cc pc = .ok (.l2i, 1)) (k : kt_Snd l sh cc nL own ret lev mc ms hz fr (pc + 1) d) : kt_Snd l sh cc nL own ret lev mc ms hz fr pc (ki_l2i d) := by
  intro p e s m args below meth c D cA as ha H locs ls L st σ r σ' h hl hP hS
  unfold ki_l2i at h
  split at h
  · next x r0 => exact lv_l2i ha.1 ha.2.1 hd rfl (k p e s m args below meth c D cA as ha H locs ls L _ σ r σ' h hl hP hS)
  · cases h
def ki_dup (d : kt_D) : kt_D := fun L st σ => match st with
  | v :: r => if v.category = 1 then d L (v :: v :: r) σ else none
  | _ => none
theorem sd_dup (hd : decode cc pc = .ok (.dup, 1)) (k : kt_Snd l sh cc nL own ret lev mc ms hz fr (pc + 1) d) : kt_Snd l sh cc nL own ret lev mc ms hz fr pc (ki_dup d) := by
  intro p e s m args below meth c D cA as ha H locs ls L st σ r σ' h hl hP hS
  unfold ki_dup at h
  split at h
  · next v r0 =>
    split at h
    · next hc => exact lv_dup ha.1 ha.2.1 hd (by rw [kt_c_cat]; exact hc) (k p e s m args below meth c D cA as ha H locs ls L _ σ r σ' h hl hP hS)
    · cases h
  · cases h
def ki_pop (d : kt_D) : kt_D := fun L st σ => match st with
  | v :: r => if v.category = 1 then d L r σ else none
  | _ => none
theorem sd_pop (hd : decode cc pc = .ok (.pop, 1)) (k : kt_Snd l sh cc nL own ret lev mc ms hz fr (pc + 1) d) : kt_Snd l sh cc nL own ret lev mc ms hz fr pc (ki_pop d) := by
  intro p e s m args below meth c D cA as ha H locs ls L st σ r σ' h hl hP hS
  unfold ki_pop at h
  split at h
  · next v r0 =>
    split at h
    · next hc => exact lv_pop (va := kt_c as v) ha.1 ha.2.1 hd (by rw [kt_c_cat]; exact hc) (k p e s m args below meth c D cA as ha H locs ls L _ σ r σ' h hl hP hS)
    · cases h
  · cases h
def ki_dup2 (d : kt_D) : kt_D := fun L st σ => match st with
  | v :: w :: r => if v.category = 1 ∧ w.category = 1 then d L (v :: w :: v :: w :: r) σ else none
  | _ => none
theorem sd_dup2 (hd : decode cc pc = .ok (.dup2, 1)) (k : kt_Snd l sh cc nL own ret lev mc ms hz fr (pc + 1) d) : kt_Snd l sh cc nL own ret lev mc ms hz fr pc (ki_dup2 d) := by
  intro p e s m args below meth c D cA as ha H locs ls L st σ r σ' h hl hP hS
  unfold ki_dup2 at h
  split at h
  · next v w r0 =>
    split at h
    · next hc => exact lv_dup2_11 ha.1 ha.2.1 hd (by rw [kt_c_cat]; exact hc.1) (by rw [kt_c_cat]; exact hc.2) (k p e s m args below meth c D cA as ha H locs ls L _ σ r σ' h hl hP hS)
    · cases h
  · cases h
def ki_if_eq (d1 d2 : kt_D) : kt_D := fun L st σ => match st with
  | .int x :: r => if x = 0 then d1 L r σ else d2 L r σ
  | _ => none
theorem sd_if_eq {off : Int} {tgt : Nat} (hd : decode cc pc = .ok (.ifCond .eq off, 3)) (ht : (pc : Int) + off = (tgt : Int)) (k1 : kt_Snd l sh cc nL own ret lev mc ms hz fr tgt d1) (k2 : kt_Snd l sh cc nL own ret lev mc ms hz fr (pc + 3) d2) : kt_Snd l sh cc nL own ret lev mc ms hz fr pc (ki_if_eq d1 d2) := by
  intro p e s m args below meth c D cA as ha H locs ls L st σ r σ' h hl hP hS
  unfold ki_if_eq at h
  split at h
  · next x r0 =>
    split at h
    · next hg => exact lv_if_eq ha.1 ha.2.1 hd ht (fun _ => k1 p e s m args below meth c D cA as ha H locs ls L _ σ r σ' h hl hP hS) (fun q => absurd hg q)
    · next hg => exact lv_if_eq ha.1 ha.2.1 hd ht (fun q => absurd q hg) (fun _ => k2 p e s m args below meth c D cA as ha H locs ls L _ σ r σ' h hl hP hS)
  · cases h
def ki_icmp_eq (d1 d2 : kt_D) : kt_D := fun L st σ => match st with
  | .int y :: .int x :: r => if x = y then d1 L r σ else d2 L r σ
  | _ => none
theorem sd_icmp_eq {off : Int} {tgt : Nat} (hd : decode cc pc = .ok (.if_icmp .eq off, 3)) (ht : (pc : Int) + off = (tgt : Int)) (k1 : kt_Snd l sh cc nL own ret lev mc ms hz fr tgt d1) (k2 : kt_Snd l sh cc nL own ret lev mc ms hz fr (pc + 3) d2) : kt_Snd l sh cc nL own ret lev mc ms hz fr pc (ki_icmp_eq d1 d2) := by
  intro p e s m args below meth c D cA as ha H locs ls L st σ r σ' h hl hP hS
  unfold ki_icmp_eq at h
  split at h
  · next y x r0 =>
    split at h
    · next hg => exact lv_icmp_eq ha.1 ha.2.1 hd ht (fun _ => k1 p e s m args below meth c D cA as ha H locs ls L _ σ r σ' h hl hP hS) (fun q => absurd hg q)
    · next hg => exact lv_icmp_eq ha.1 ha.2.1 hd ht (fun q => absurd q hg) (fun _ => k2 p e s m args below meth c D cA as ha H locs ls L _ σ r σ' h hl hP hS)
  · cases h
def ki_if_ne (d1 d2 : kt_D) : kt_D := fun L st σ => match st with
  | .int x :: r => if x = 0 then d2 L r σ else d1 L r σ
  | _ => none
theorem sd_if_ne {off : Int} {tgt : Nat} (hd : decode cc pc = .ok (.ifCond .ne off, 3)) (ht : (pc : Int) + off = (tgt : Int)) (k1 : kt_Snd l sh cc nL own ret lev mc ms hz fr tgt d1) (k2 : kt_Snd l sh cc nL own ret lev mc ms hz fr (pc + 3) d2) : kt_Snd l sh cc nL own ret lev mc ms hz fr pc (ki_if_ne d1 d2) := by
  intro p e s m args below meth c D cA as ha H locs ls L st σ r σ' h hl hP hS
  unfold ki_if_ne at h
  split at h
  · next x r0 =>
    split at h
    · next hg => exact lv_if_ne ha.1 ha.2.1 hd ht (fun q => absurd hg q) (fun _ => k2 p e s m args below meth c D cA as ha H locs ls L _ σ r σ' h hl hP hS)
    · next hg => exact lv_if_ne ha.1 ha.2.1 hd ht (fun _ => k1 p e s m args below meth c D cA as ha H locs ls L _ σ r σ' h hl hP hS) (fun q => absurd q hg)
  · cases h
def ki_icmp_ne (d1 d2 : kt_D) : kt_D := fun L st σ => match st with
  | .int y :: .int x :: r => if x = y then d2 L r σ else d1 L r σ
  | _ => none
theorem sd_icmp_ne {off : Int} {tgt : Nat} (hd : decode cc pc = .ok (.if_icmp .ne off, 3)) (ht : (pc : Int) + off = (tgt : Int)) (k1 : kt_Snd l sh cc nL own ret lev mc ms hz fr tgt d1) (k2 : kt_Snd l sh cc nL own ret lev mc ms hz fr (pc + 3) d2) : kt_Snd l sh cc nL own ret lev mc ms hz fr pc (ki_icmp_ne d1 d2) := by
  intro p e s m args below meth c D cA as ha H locs ls L st σ r σ' h hl hP hS
  unfold ki_icmp_ne at h
  split at h
  · next y x r0 =>
    split at h
    · next hg => exact lv_icmp_ne ha.1 ha.2.1 hd ht (fun q => absurd hg q) (fun _ => k2 p e s m args below meth c D cA as ha H locs ls L _ σ r σ' h hl hP hS)
    · next hg => exact lv_icmp_ne ha.1 ha.2.1 hd ht (fun _ => k1 p e s m args below meth c D cA as ha H locs ls L _ σ r σ' h hl hP hS) (fun q => absurd q hg)
  · cases h
def ki_if_lt (d1 d2 : kt_D) : kt_D := fun L st σ => match st with
  | .int x :: r => if x < 0 then d1 L r σ else d2 L r σ
  | _ => none
theorem sd_if_lt {off : Int} {tgt : Nat} (hd : decode cc pc = .ok (.ifCond .lt off, 3)) (ht : (pc : Int) + off = (tgt : Int)) (k1 : kt_Snd l sh cc nL own ret lev mc ms hz fr tgt d1) (k2 : kt_Snd l sh cc nL own ret lev mc ms hz fr (pc + 3) d2) : kt_Snd l sh cc nL own ret lev mc ms hz fr pc (ki_if_lt d1 d2) := by
  intro p e s m args below meth c D cA as ha H locs ls L st σ r σ' h hl hP hS
  unfold ki_if_lt at h
  split at h
  · next x r0 =>
    split at h
    · next hg => exact lv_if_lt ha.1 ha.2.1 hd ht (fun _ => k1 p e s m args below meth c D cA as ha H locs ls L _ σ r σ' h hl hP hS) (fun q => absurd hg q)
    · next hg => exact lv_if_lt ha.1 ha.2.1 hd ht (fun q => absurd q hg) (fun _ => k2 p e s m args below meth c D cA as ha H locs ls L _ σ r σ' h hl hP hS)
  · cases h
def ki_icmp_lt (d1 d2 : kt_D) : kt_D := fun L st σ => match st with
  | .int y :: .int x :: r => if x < y then d1 L r σ else d2 L r σ
  | _ => none
theorem sd_icmp_lt {off : Int} {tgt : Nat} (hd : decode cc pc = .ok (.if_icmp .lt off, 3)) (ht : (pc : Int) + off = (tgt : Int)) (k1 : kt_Snd l sh cc nL own ret lev mc ms hz fr tgt d1) (k2 : kt_Snd l sh cc nL own ret lev mc ms hz fr (pc + 3) d2) : kt_Snd l sh cc nL own ret lev mc ms hz fr pc (ki_icmp_lt d1 d2) := by
  intro p e s m args below meth c D cA as ha H locs ls L st σ r σ' h hl hP hS
  unfold ki_icmp_lt at h
  split at h
  · next y x r0 =>
    split at h
    · next hg => exact lv_icmp_lt ha.1 ha.2.1 hd ht (fun _ => k1 p e s m args below meth c D cA as ha H locs ls L _ σ r σ' h hl hP hS) (fun q => absurd hg q)
    · next hg => exact lv_icmp_lt ha.1 ha.2.1 hd ht (fun q => absurd q hg) (fun _ => k2 p e s m args below meth c D cA as ha H locs ls L _ σ r σ' h hl hP hS)
  · cases h
def ki_if_ge (d1 d2 : kt_D) : kt_D := fun L st σ => match st with
  | .int x :: r => if 0 ≤ x then d1 L r σ else d2 L r σ
  | _ => none
theorem sd_if_ge {off : Int} {tgt : Nat} (hd : decode cc pc = .ok (.ifCond .ge off, 3)) (ht : (pc : Int) + off = (tgt : Int)) (k1 : kt_Snd l sh cc nL own ret lev mc ms hz fr tgt d1) (k2 : kt_Snd l sh cc nL own ret lev mc ms hz fr (pc + 3) d2) : kt_Snd l sh cc nL own ret lev mc ms hz fr pc (ki_if_ge d1 d2) := by
  intro p e s m args below meth c D cA as ha H locs ls L st σ r σ' h hl hP hS
  unfold ki_if_ge at h
  split at h
  · next x r0 =>
    split at h
    · next hg => exact lv_if_ge ha.1 ha.2.1 hd ht (fun _ => k1 p e s m args below meth c D cA as ha H locs ls L _ σ r σ' h hl hP hS) (fun q => absurd hg q)
    · next hg => exact lv_if_ge ha.1 ha.2.1 hd ht (fun q => absurd q hg) (fun _ => k2 p e s m args below meth c D cA as ha H locs ls L _ σ r σ' h hl hP hS)
  · cases h
def ki_icmp_ge (d1 d2 : kt_D) : kt_D := fun L st σ => match st with
  | .int y :: .int x :: r => if y ≤ x then d1 L r σ else d2 L r σ
  | _ => none
theorem sd_icmp_ge {off : Int} {tgt : Nat} (hd : decode cc pc = .ok (.if_icmp .ge off, 3)) (ht : (pc : Int) + off = (tgt : Int)) (k1 : kt_Snd l sh cc nL own ret lev mc ms hz fr tgt d1) (k2 : kt_Snd l sh cc nL own ret lev mc ms hz fr (pc + 3) d2) : kt_Snd l sh cc nL own ret lev mc ms hz fr pc (ki_icmp_ge d1 d2) := by
  intro p e s m args below meth c D cA as ha H locs ls L st σ r σ' h hl hP hS
  unfold ki_icmp_ge at h
  split at h
  · next y x r0 =>
    split at h
    · next hg => exact lv_icmp_ge ha.1 ha.2.1 hd ht (fun _ => k1 p e s m args below meth c D cA as ha H locs ls L _ σ r σ' h hl hP hS) (fun q => absurd hg q)
    · next hg => exact lv_icmp_ge ha.1 ha.2.1 hd ht (fun q => absurd q hg) (fun _ => k2 p e s m args below meth c D cA as ha H locs ls L _ σ r σ' h hl hP hS)
  · cases h
def ki_if_gt (d1 d2 : kt_D) : kt_D := fun L st σ => match st with
  | .int x :: r => if 0 < x then d1 L r σ else d2 L r σ
  | _ => none
theorem sd_if_gt {off : Int} {tgt : Nat} (hd : decode cc pc = .ok (.ifCond .gt off, 3)) (ht : (pc : Int) + off = (tgt : Int)) (k1 : kt_Snd l sh cc nL own ret lev mc ms hz fr tgt d1) (k2 : kt_Snd l sh cc nL own ret lev mc ms hz fr (pc + 3) d2) : kt_Snd l sh cc nL own ret lev mc ms hz fr pc (ki_if_gt d1 d2) := by
  intro p e s m args below meth c D cA as ha H locs ls L st σ r σ' h hl hP hS
  unfold ki_if_gt at h
  split at h
  · next x r0 =>
    split at h
    · next hg => exact lv_if_gt ha.1 ha.2.1 hd ht (fun _ => k1 p e s m args below meth c D cA as ha H locs ls L _ σ r σ' h hl hP hS) (fun q => absurd hg q)
    · next hg => exact lv_if_gt ha.1 ha.2.1 hd ht (fun q => absurd q hg) (fun _ => k2 p e s m args below meth c D cA as ha H locs ls L _ σ r σ' h hl hP hS)
  · cases h
def ki_icmp_gt (d1 d2 : kt_D) : kt_D := fun L st σ => match st with
  | .int y :: .int x :: r => if y < x then d1 L r σ else d2 L r σ
  | _ => none
theorem sd_icmp_gt {off : Int} {tgt : Nat} (hd : decode cc pc = .ok (.if_icmp .gt off, 3)) (ht : (pc : Int) + off = (tgt : Int)) (k1 : kt_Snd l sh cc nL own ret lev mc ms hz fr tgt d1) (k2 : kt_Snd l sh cc nL own ret lev mc ms hz fr (pc + 3) d2) : kt_Snd l sh cc nL own ret lev mc ms hz fr pc (ki_icmp_gt d1 d2) := by
  intro p e s m args below meth c D cA as ha H locs ls L st σ r σ' h hl hP hS
  unfold ki_icmp_gt at h
  split at h
  · next y x r0 =>
    split at h
    · next hg => exact lv_icmp_gt ha.1 ha.2.1 hd ht (fun _ => k1 p e s m args below meth c D cA as ha H locs ls L _ σ r σ' h hl hP hS) (fun q => absurd hg q)
    · next hg => exact lv_icmp_gt ha.1 ha.2.1 hd ht (fun q => absurd q hg) (fun _ => k2 p e s m args below meth c D cA as ha H locs ls L _ σ r σ' h hl hP hS)
  · cases h
def ki_if_le (d1 d2 : kt_D) : kt_D := fun L st σ => match st with
  | .int x :: r => if x ≤ 0 then d1 L r σ else d2 L r σ
  | _ => none
theorem sd_if_le {off : Int} {tgt : Nat} (hd : decode cc pc = .ok (.ifCond .le off, 3)) (ht : (pc : Int) + off = (tgt : Int)) (k1 : kt_Snd l sh cc nL own ret lev mc ms hz fr tgt d1) (k2 : kt_Snd l sh cc nL own ret lev mc ms hz fr (pc + 3) d2) : kt_Snd l sh cc nL own ret lev mc ms hz fr pc (ki_if_le d1 d2) := by
  intro p e s m args below meth c D cA as ha H locs ls L st σ r σ' h hl hP hS
  unfold ki_if_le at h
  split at h
  · next x r0 =>
    split at h
    · next hg => exact lv_if_le ha.1 ha.2.1 hd ht (fun _ => k1 p e s m args below meth c D cA as ha H locs ls L _ σ r σ' h hl hP hS) (fun q => absurd hg q)
    · next hg => exact lv_if_le ha.1 ha.2.1 hd ht (fun q => absurd q hg) (fun _ => k2 p e s m args below meth c D cA as ha H locs ls L _ σ r σ' h hl hP hS)
  · cases h
def ki_icmp_le (d1 d2 : kt_D) : kt_D := fun L st σ => match st with
  | .int y :: .int x :: r => if x ≤ y then d1 L r σ else d2 L r σ
  | _ => none
theorem sd_icmp_le {off : Int} {tgt : Nat} (hd : decode cc pc = .ok (.if_icmp .le off, 3)) (ht : (pc : Int) + off = (tgt : Int)) (k1 : kt_Snd l sh cc nL own ret lev mc ms hz fr tgt d1) (k2 : kt_Snd l sh cc nL own ret lev mc ms hz fr (pc + 3) d2) : kt_Snd l sh cc nL own ret lev mc ms hz fr pc (ki_icmp_le d1 d2) := by
  intro p e s m args below meth c D cA as ha H locs ls L st σ r σ' h hl hP hS
  unfold ki_icmp_le at h
  split at h
  · next y x r0 =>
    split at h
    · next hg => exact lv_icmp_le ha.1 ha.2.1 hd ht (fun _ => k1 p e s m args below meth c D cA as ha H locs ls L _ σ r σ' h hl hP hS) (fun q => absurd hg q)
    · next hg => exact lv_icmp_le ha.1 ha.2.1 hd ht (fun q => absurd q hg) (fun _ => k2 p e s m args below meth c D cA as ha H locs ls L _ σ r σ' h hl hP hS)
  · cases h
theorem sd_goto {off : Int} {tgt : Nat} (hd : decode cc pc = .ok (.goto off, 3)) (ht : (pc : Int) + off = (tgt : Int)) (k : kt_Snd l sh cc nL own ret lev mc ms hz fr tgt d) : kt_Snd l sh cc nL own ret lev mc ms hz fr pc d := by
  intro p e s m args below meth c D cA as ha H locs ls L st σ r σ' h hl hP hS
  exact lv_goto ha.1 ha.2.1 hd ht (k p e s m args below meth c D cA as ha H locs ls L _ σ r σ' h hl hP hS)
def ki_ifnull (d1 d2 : kt_D) : kt_D := fun L st σ => match st with
  | .ref _ :: r => d2 L r σ
  | .null :: r => d1 L r σ
  | _ => none
theorem sd_ifnull {off : Int} {tgt : Nat} (hd : decode cc pc = .ok (.ifnull off, 3)) (ht : (pc : Int) + off = (tgt : Int)) (k1 : kt_Snd l sh cc nL own ret lev mc ms hz fr tgt d1) (k2 : kt_Snd l sh cc nL own ret lev mc ms hz fr (pc + 3) d2) : kt_Snd l sh cc nL own ret lev mc ms hz fr pc (ki_ifnull d1 d2) := by
  intro p e s m args below meth c D cA as ha H locs ls L st σ r σ' h hl hP hS
  unfold ki_ifnull at h
  split at h
  · next q0 r0 => exact lv_ifnull ha.1 ha.2.1 hd (k2 p e s m args below meth c D cA as ha H locs ls L _ σ r σ' h hl hP hS)
  · next r0 => exact lv_ifnullN ha.1 ha.2.1 hd ht (k1 p e s m args below meth c D cA as ha H locs ls L _ σ r σ' h hl hP hS)
  · cases h
def ki_ifnonnull (d1 d2 : kt_D) : kt_D := fun L st σ => match st with
  | .ref _ :: r => d1 L r σ
  | .null :: r => d2 L r σ
  | _ => none
theorem sd_ifnonnull {off : Int} {tgt : Nat} (hd : decode cc pc = .ok (.ifnonnull off, 3)) (ht : (pc : Int) + off = (tgt : Int)) (k1 : kt_Snd l sh cc nL own ret lev mc ms hz fr tgt d1) (k2 : kt_Snd l sh cc nL own ret lev mc ms hz fr (pc + 3) d2) : kt_Snd l sh cc nL own ret lev mc ms hz fr pc (ki_ifnonnull d1 d2) := by
  intro p e s m args below meth c D cA as ha H locs ls L st σ r σ' h hl hP hS
  unfold ki_ifnonnull at h
  split at h
  · next q0 r0 => exact lv_ifnonnull ha.1 ha.2.1 hd ht (k1 p e s m args below meth c D cA as ha H locs ls L _ σ r σ' h hl hP hS)
  · next r0 => exact lv_ifnonnullN ha.1 ha.2.1 hd (k2 p e s m args below meth c D cA as ha H locs ls L _ σ r σ' h hl hP hS)
  · cases h
def kt_sel {α : Type} (xs : List (Option α)) (i : Nat) : Option α := (xs[i]?).getD none
theorem kt_sel_some {α : Type} {xs : List (Option α)} {i : Nat} {v : α} (h : kt_sel xs i = some v) : xs[i]? = some (some v) := by
  unfold kt_sel at h
  cases hx : xs[i]? with
  | none => rw [hx] at h; cases h
  | some o => rw [hx] at h; exact congrArg some h
def ki_tsw (lo hi : Int) (ds : List kt_D) (d : kt_D) : kt_D := fun L st σ => match st with
  | .int x :: r => if x.toInt < lo ∨ hi < x.toInt then d L r σ else kt_sel (ds.map fun d0 => d0 L r σ) (x.toInt - lo).toNat
  | _ => none
def kt_sw (l : Launch) (sh : kt_Sh) (cc : ByteArray) (nL : Nat) (own : String) (ret : Option FieldType) (lev mc ms : Nat) (hz fr : Bool) (pc : Nat) (offs : List Int) (ds : List kt_D) : Prop := match offs, ds with
  | [], [] => True
  | o :: os, d0 :: ds => (∃ tgt : Nat, (pc : Int) + o = (tgt : Int) ∧ kt_Snd l sh cc nL own ret lev mc ms hz fr tgt d0) ∧ kt_sw l sh cc nL own ret lev mc ms hz fr pc os ds
  | _, _ => False
theorem kt_sw_get : ∀ {offs : List Int} {ds : List kt_D}, kt_sw l sh cc nL own ret lev mc ms hz fr pc offs ds → ∀ {k : Nat} {d0 : kt_D}, ds[k]? = some d0 → ∃ (o : Int) (tgt : Nat), offs[k]? = some o ∧ (pc : Int) + o = (tgt : Int) ∧ kt_Snd l sh cc nL own ret lev mc ms hz fr tgt d0
  | [], [], _, k, d0, h => by simp at h
  | [], _ :: _, h0, _, _, _ => by simp [kt_sw] at h0
  | _ :: _, [], h0, _, _, _ => by simp [kt_sw] at h0
  | o :: os, d1 :: ds, h0, k, d0, h => by
    simp only [kt_sw] at h0
    obtain ⟨⟨tgt, h1, h2⟩, h3⟩ := h0
    cases k with
    | zero => simp at h; subst h; exact ⟨o, tgt, by simp, h1, h2⟩
    | succ k => simp at h; simpa using kt_sw_get h3 h
theorem sd_tsw {dflt lo hi : Int} {offs : Array Int} {len : Nat} {tgt : Nat} {ds : List kt_D} (hd : decode cc pc = .ok (.tableswitch dflt lo hi offs, len)) (ht : (pc : Int) + dflt = (tgt : Int)) (k : kt_Snd l sh cc nL own ret lev mc ms hz fr tgt d) (hs : kt_sw l sh cc nL own ret lev mc ms hz fr pc offs.toList ds) : kt_Snd l sh cc nL own ret lev mc ms hz fr pc (ki_tsw lo hi ds d) := by
  intro p e s m args below meth c D cA as ha H locs ls L st σ r σ' h hl hP hS
  unfold ki_tsw at h
  split at h
  · next x r0 =>
    split at h
    · next hg => exact lv_tableOut ha.1 ha.2.1 hd hg ht (k p e s m args below meth c D cA as ha H locs ls L _ σ r σ' h hl hP hS)
    · next hg =>
      have h9 := kt_sel_some h
      rw [List.getElem?_map] at h9
      cases h0 : ds[(x.toInt - lo).toNat]? with
      | none => rw [h0] at h9; cases h9
      | some d0 =>
        rw [h0] at h9
        have h := Option.some.inj h9
        obtain ⟨o, t0, q1, q2, q3⟩ := kt_sw_get hs h0
        exact lv_tableIn ha.1 ha.2.1 hd (fun q => hg (Or.inl q)) (fun q => hg (Or.inr q)) (by simpa using q1) q2 (q3 p e s m args below meth c D cA as ha H locs ls L _ σ r σ' h hl hP hS)
  · cases h
end KTA
/-! Base: fields, arrays, calls, returns. -/
theorem kt_fv_get {as : Nat → Nat} {f : Nat → Int32} {fks : List Nat} {k fk : Nat} (h : fks[k]? = some fk) : (fks.mapIdx (kt_fv as f))[k]? = some (kt_fv as f k fk) := by
  simp [List.getElem?_mapIdx, h]
theorem kt_fv_set {as : Nat → Nat} {f : Nat → Int32} {fks : List Nat} {k fk : Nat} {v : Int32} (h : fks[k]? = some fk) (hf : fk ≤ 1) : fks.mapIdx (kt_fv as (upd f k v)) = (fks.mapIdx (kt_fv as f)).set k (.int v) := by
  apply List.ext_getElem?
  intro i
  by_cases hi : i = k
  · subst hi
    have hl : i < (fks.mapIdx (kt_fv as f)).length := by
      have := (List.getElem?_eq_some_iff.mp h).1
      simpa using this
    rw [List.getElem?_set_self hl, kt_fv_get h]
    simp [kt_fv, hf, upd]
  · rw [List.getElem?_set_ne (Ne.symm hi)]
    simp only [List.getElem?_mapIdx]
    cases fks[i]? with
    | none => rfl
    | some z => simp [kt_fv, upd, hi]
section KTH
variable {l : Launch} {sh : kt_Sh} {cc : ByteArray} {nL : Nat} {own : String} {ret : Option FieldType} {lev mc ms : Nat} {hz fr : Bool} {pc : Nat} {d d1 d2 : kt_D}
def ki_get (sh : kt_Sh) (ci k : Nat) (d : kt_D) : kt_D := fun L st σ => match st with
  | .ref p :: r => match sh[p]? with
    | some (3, c, fs) => if c = ci then match fs[k]? with
        | some fk => if fk ≤ 1 then d L (.int (σ p k) :: r) σ else d L (.ref (fk - 2) :: r) σ
        | none => none
      else none
    | _ => none
  | _ => none
theorem sd_get {C : String} {T : u_T} {N ci k idx : Nat} (hc : vwCl[ci]? = some (C, T, N)) (hin : ∀ w ∈ u_ws C T N, w ∈ kt_G) (hk : k < N) (hd : decode cc pc = .ok (.getfield idx, 3)) (hw : Cond.fieldLink own idx (T k).1 (T k).2.1 (T k).2.2.1 ∈ kt_G) (kk : kt_Snd l sh cc nL own ret lev mc ms hz fr (pc + 3) d) : kt_Snd l sh cc nL own ret lev mc ms hz fr pc (ki_get sh ci k d) := by
  intro p e s m args below meth c D cA as ha H locs ls L st σ r σ' h hl hP hS
  unfold ki_get at h
  split at h
  · next q r0 =>
    split at h
    · next c0 fs hz =>
      split at h
      · next hci =>
        subst hci
        split at h
        · next fk hfk =>
          have hv := kt_fv_get (as := as) (f := σ q) hfk
          split at h
          · next hle =>
            rw [show kt_fv as (σ q) k fk = .int (σ q k) from if_pos hle] at hv
            exact va_get (D := D) ha.1 ha.2.1 ha.2.2.2.2.2.1 hin ha.2.2.2.2.2.2.1 ha.2.2.2.2.2.2.2.1 hP q (kt_w_get hz) hc k hk (ha.2.2.2.2.2.1 _ hw) (fun _ h => h) hv hd (kk p e s m args below meth c D cA as ha H locs ls L _ σ r σ' h hl hP hS)
          · next hle =>
            rw [show kt_fv as (σ q) k fk = .ref (as (fk - 2)) from if_neg hle] at hv
            exact va_get (D := D) ha.1 ha.2.1 ha.2.2.2.2.2.1 hin ha.2.2.2.2.2.2.1 ha.2.2.2.2.2.2.2.1 hP q (kt_w_get hz) hc k hk (ha.2.2.2.2.2.1 _ hw) (fun _ h => h) hv hd (kk p e s m args below meth c D cA as ha H locs ls L _ σ r σ' h hl hP hS)
        · cases h
      · cases h
    · cases h
  · cases h
theorem sd_getN {C : String} {T : u_T} {N ci k idx : Nat} {host : String} (hc : vwCl[ci]? = some (C, T, N)) (hin : ∀ w ∈ u_ws C T N, w ∈ kt_G) (hk : k < N) (hd : decode cc pc = .ok (.getfield idx, 3)) (hw : Cond.fieldLinkNest own idx (T k).1 (T k).2.1 (T k).2.2.1 host ∈ kt_N) (kk : kt_Snd l sh cc nL own ret lev mc ms hz fr (pc + 3) d) : kt_Snd l sh cc nL own ret lev mc ms hz fr pc (ki_get sh ci k d) := by
  intro p e s m args below meth c D cA as ha H locs ls L st σ r σ' h hl hP hS
  have hlink := va_Nw.use (A := args) rfl (ha.2.2.2.2.2.2.2.2.1 _ hw)
  unfold ki_get at h
  split at h
  · next q r0 =>
    split at h
    · next c0 fs hz =>
      split at h
      · next hci =>
        subst hci
        split at h
        · next fk hfk =>
          have hv := kt_fv_get (as := as) (f := σ q) hfk
          split at h
          · next hle =>
            rw [show kt_fv as (σ q) k fk = .int (σ q k) from if_pos hle] at hv
            exact va_getN (D := D) ha.1 ha.2.1 ha.2.2.2.2.2.1 hin ha.2.2.2.2.2.2.1 ha.2.2.2.2.2.2.2.1 hP q (kt_w_get hz) hc k hk hlink (fun _ h => h) hv hd (kk p e s m args below meth c D cA as ha H locs ls L _ σ r σ' h hl hP hS)
          · next hle =>
            rw [show kt_fv as (σ q) k fk = .ref (as (fk - 2)) from if_neg hle] at hv
            exact va_getN (D := D) ha.1 ha.2.1 ha.2.2.2.2.2.1 hin ha.2.2.2.2.2.2.1 ha.2.2.2.2.2.2.2.1 hP q (kt_w_get hz) hc k hk hlink (fun _ h => h) hv hd (kk p e s m args below meth c D cA as ha H locs ls L _ σ r σ' h hl hP hS)
        · cases h
      · cases h
    · cases h
  · cases h
/-- a field that is written: its kind b (0 int, 1 boolean); a boolean's value is 0 or 1 -/
def ki_put (sh : kt_Sh) (ci k b : Nat) (d : kt_D) : kt_D := fun L st σ => match st with
  | .int v :: .ref p :: r => match sh[p]? with
    | some (3, c, fs) => if c = ci ∧ fs[k]? = some b then if b = 0 then d L r (kt_up σ p k v) else if v = 0 ∨ v = 1 then d L r (kt_up σ p k v) else none else none
    | _ => none
  | _ => none
theorem kt_bool {v : Int32} (h : v = 0 ∨ v = 1) : narrow .boolean (.int v) = .int v ∧ fits .boolean (.int v) = true := by
  rcases h with rfl | rfl <;> decide
theorem kt_puts {b : Nat} {v : Int32} {ty : FieldType} (hb : b = 0 ∧ ty = .int ∨ b = 1 ∧ ty = .boolean) (h : b = 0 ∨ v = 0 ∨ v = 1) : narrow ty (.int v) = .int v ∧ fits ty (.int v) = true := by
  rcases hb with ⟨rfl, rfl⟩ | ⟨rfl, rfl⟩
  · exact ⟨rfl, rfl⟩
  · rcases h with h | h
    · cases h
    · exact kt_bool h
theorem sd_put {C : String} {T : u_T} {N ci k idx b : Nat} {ty0 : Nat → FieldType} {ty : FieldType} (hc : vwCl[ci]? = some (C, T, N)) (hin : ∀ w ∈ u_ws C T N, w ∈ kt_G) (hty : ∀ k, k < N → parseFieldDescriptor (T k).2.2.1 = some (ty0 k)) (hnm : ∀ a, a < N → ∀ b, b < N → a ≠ b → (T a).2.1 ≠ (T b).2.1) (hk : k < N) (hfin : (T k).2.2.2 = false) (hdt : ty0 k = ty) (hb : b = 0 ∧ ty = .int ∨ b = 1 ∧ ty = .boolean)
    (hd : decode cc pc = .ok (.putfield idx, 3)) (hw : Cond.fieldLink own idx (T k).1 (T k).2.1 (T k).2.2.1 ∈ kt_G) (kk : kt_Snd l sh cc nL own ret lev mc ms false fr (pc + 3) d) : kt_Snd l sh cc nL own ret lev mc ms hz fr pc (ki_put sh ci k b d) := by
  intro p e s m args below meth c D cA as ha H locs ls L st σ r σ' h hl hP hS
  unfold ki_put at h
  split at h
  · next v q r0 =>
    split at h
    · next c0 fs hz =>
      split at h
      · next hci =>
        obtain ⟨hci, hfk⟩ := hci
        subst hci
        have hvb : (b = 0 ∨ v = 0 ∨ v = 1) ∧ d L r0 (kt_up σ q k v) = some (r, σ') := by
          split at h
          · next hb0 => exact ⟨Or.inl hb0, h⟩
          · split at h
            · next hv0 => exact ⟨Or.inr hv0, h⟩
            · cases h
        obtain ⟨hvb, h⟩ := hvb
        have hle : b ≤ 1 := by rcases hb with ⟨h, -⟩ | ⟨h, -⟩ <;> omega
        obtain ⟨n1, n2⟩ := kt_puts hb hvb
        have hlen : k < (fs.mapIdx (kt_fv as (σ q))).length := by
          have := (List.getElem?_eq_some_iff.mp hfk).1
          simpa using this
        have hset := kt_w_set (as := as) (cA := cA) (σ := σ) (k := k) (v := v) (e := .inr (c0, (fs.mapIdx (kt_fv as (σ q))).set k (.int v))) hz (by rw [← kt_fv_set hfk hle]; rfl)
        refine va_put (D := D) (ty := ty) (v := .int v) ha.1 ha.2.1 ha.2.2.2.2.2.1 hin ty0 hty hnm ha.2.2.2.2.2.2.1 ha.2.2.2.2.2.2.2.1 hP (kt_D_of ha.2.2.2.2.2.2.2.2.2.1) (kt_S_up hS) q (kt_w_get hz) hc k hk (ha.2.2.2.2.2.1 _ hw) (fun _ h => h) hfin (by rw [← hdt]; exact hty k hk) n1 n2 hlen hd (fun H1 locs1 hP1 _ hS1 => ?_)
        rw [hset] at hP1
        exact kk p e s m args below meth c D cA as ha H1 locs1 ls L _ _ r σ' h hl hP1 hS1
      · cases h
    · cases h
  · cases h
theorem sd_putN {C : String} {T : u_T} {N ci k idx b : Nat} {ty0 : Nat → FieldType} {ty : FieldType} {host : String} (hc : vwCl[ci]? = some (C, T, N)) (hin : ∀ w ∈ u_ws C T N, w ∈ kt_G) (hty : ∀ k, k < N → parseFieldDescriptor (T k).2.2.1 = some (ty0 k)) (hnm : ∀ a, a < N → ∀ b, b < N → a ≠ b → (T a).2.1 ≠ (T b).2.1) (hk : k < N) (hfin : (T k).2.2.2 = false) (hdt : ty0 k = ty) (hb : b = 0 ∧ ty = .int ∨ b = 1 ∧ ty = .boolean)
    (hd : decode cc pc = .ok (.putfield idx, 3)) (hw : Cond.fieldLinkNest own idx (T k).1 (T k).2.1 (T k).2.2.1 host ∈ kt_N) (kk : kt_Snd l sh cc nL own ret lev mc ms false fr (pc + 3) d) : kt_Snd l sh cc nL own ret lev mc ms hz fr pc (ki_put sh ci k b d) := by
  intro p e s m args below meth c D cA as ha H locs ls L st σ r σ' h hl hP hS
  have hlink := va_Nw.use (A := args) rfl (ha.2.2.2.2.2.2.2.2.1 _ hw)
  unfold ki_put at h
  split at h
  · next v q r0 =>
    split at h
    · next c0 fs hz =>
      split at h
      · next hci =>
        obtain ⟨hci, hfk⟩ := hci
        subst hci
        have hvb : (b = 0 ∨ v = 0 ∨ v = 1) ∧ d L r0 (kt_up σ q k v) = some (r, σ') := by
          split at h
          · next hb0 => exact ⟨Or.inl hb0, h⟩
          · split at h
            · next hv0 => exact ⟨Or.inr hv0, h⟩
            · cases h
        obtain ⟨hvb, h⟩ := hvb
        have hle : b ≤ 1 := by rcases hb with ⟨h, -⟩ | ⟨h, -⟩ <;> omega
        obtain ⟨n1, n2⟩ := kt_puts hb hvb
        have hlen : k < (fs.mapIdx (kt_fv as (σ q))).length := by
          have := (List.getElem?_eq_some_iff.mp hfk).1
          simpa using this
        have hset := kt_w_set (as := as) (cA := cA) (σ := σ) (k := k) (v := v) (e := .inr (c0, (fs.mapIdx (kt_fv as (σ q))).set k (.int v))) hz (by rw [← kt_fv_set hfk hle]; rfl)
        refine va_putN (D := D) (ty := ty) (v := .int v) ha.1 ha.2.1 ha.2.2.2.2.2.1 hin ty0 hty hnm ha.2.2.2.2.2.2.1 ha.2.2.2.2.2.2.2.1 hP (kt_D_of ha.2.2.2.2.2.2.2.2.2.1) (kt_S_up hS) q (kt_w_get hz) hc k hk hlink (fun _ h => h) hfin (by rw [← hdt]; exact hty k hk) n1 n2 hlen hd (fun H1 locs1 hP1 _ hS1 => ?_)
        rw [hset] at hP1
        exact kk p e s m args below meth c D cA as ha H1 locs1 ls L _ _ r σ' h hl hP1 hS1
      · cases h
    · cases h
  · cases h
/-! arrays -/
def ki_iald (sh : kt_Sh) (d : kt_D) : kt_D := fun L st σ => match st with
  | .int i :: .ref p :: r => match sh[p]? with
    | some (0, n, _) => if i < 0 ∨ n ≤ i.toNatClampNeg then none else d L (.int (σ p i.toNatClampNeg) :: r) σ
    | _ => none
  | _ => none
def ki_zald (sh : kt_Sh) (d : kt_D) : kt_D := fun L st σ => match st with
  | .int i :: .ref p :: r => match sh[p]? with
    | some (1, n, _) => if i < 0 ∨ n ≤ i.toNatClampNeg then none else d L (.int (σ p i.toNatClampNeg) :: r) σ
    | _ => none
  | _ => none
def ki_iast (sh : kt_Sh) (d : kt_D) : kt_D := fun L st σ => match st with
  | .int x :: .int i :: .ref p :: r => match sh[p]? with
    | some (0, n, _) => if i < 0 ∨ n ≤ i.toNatClampNeg then none else d L r (kt_up σ p i.toNatClampNeg x)
    | _ => none
  | _ => none
def ki_zast (sh : kt_Sh) (d : kt_D) : kt_D := fun L st σ => match st with
  | .int x :: .int i :: .ref p :: r => match sh[p]? with
    | some (1, n, _) => if i < 0 ∨ n ≤ i.toNatClampNeg then none else if x = 0 ∨ x = 1 then d L r (kt_up σ p i.toNatClampNeg x) else none
    | _ => none
  | _ => none
def ki_alen (sh : kt_Sh) (d : kt_D) : kt_D := fun L st σ => match st with
  | .ref p :: r => match sh[p]? with
    | some (0, n, _) => d L (.int (Int32.ofNat n) :: r) σ
    | some (1, n, _) => d L (.int (Int32.ofNat n) :: r) σ
    | _ => none
  | _ => none
def ki_aald (sh : kt_Sh) (d : kt_D) : kt_D := fun L st σ => match st with
  | .int i :: .ref p :: r => match sh[p]? with
    | some (2, n, qs) => if i < 0 ∨ n ≤ i.toNatClampNeg then none else match qs[i.toNatClampNeg]? with
      | some q => d L (.ref q :: r) σ
      | none => none
    | _ => none
  | _ => none
theorem sd_iald (hd : decode cc pc = .ok (.iaload, 1)) (k : kt_Snd l sh cc nL own ret lev mc ms hz fr (pc + 1) d) : kt_Snd l sh cc nL own ret lev mc ms hz fr pc (ki_iald sh d) := by
  intro p e s m args below meth c D cA as ha H locs ls L st σ r σ' h hl hP hS
  unfold ki_iald at h
  split at h
  · next i q r0 =>
    split at h
    · next n x0 hz =>
      split at h
      · cases h
      · next hg => exact va_iald (D := D) ha.1 ha.2.1 ha.2.2.2.2.2.2.2.1 hP q 0 (kt_w_get hz) rfl hg hd (k p e s m args below meth c D cA as ha H locs ls L _ σ r σ' h hl hP hS)
    · cases h
  · cases h
theorem sd_zald (hd : decode cc pc = .ok (.baload, 1)) (k : kt_Snd l sh cc nL own ret lev mc ms hz fr (pc + 1) d) : kt_Snd l sh cc nL own ret lev mc ms hz fr pc (ki_zald sh d) := by
  intro p e s m args below meth c D cA as ha H locs ls L st σ r σ' h hl hP hS
  unfold ki_zald at h
  split at h
  · next i q r0 =>
    split at h
    · next n x0 hz =>
      split at h
      · cases h
      · next hg => exact va_zald (D := D) ha.1 ha.2.1 ha.2.2.2.2.2.2.2.1 hP q 1 (kt_w_get hz) rfl hg hd (k p e s m args below meth c D cA as ha H locs ls L _ σ r σ' h hl hP hS)
    · cases h
  · cases h
theorem sd_iast (hd : decode cc pc = .ok (.iastore, 1)) (k : kt_Snd l sh cc nL own ret lev mc ms false fr (pc + 1) d) : kt_Snd l sh cc nL own ret lev mc ms hz fr pc (ki_iast sh d) := by
  intro p e s m args below meth c D cA as ha H locs ls L st σ r σ' h hl hP hS
  unfold ki_iast at h
  split at h
  · next x i q r0 =>
    split at h
    · next n x0 hz =>
      split at h
      · cases h
      · next hg =>
        refine va_iast (D := D) ha.1 ha.2.1 ha.2.2.2.2.2.2.2.1 hP (kt_D_of ha.2.2.2.2.2.2.2.2.2.1) (kt_S_up hS) q 0 (kt_w_get hz) rfl hg hd (fun H1 locs1 hP1 _ hS1 => ?_)
        have hset := kt_w_set (as := as) (cA := cA) (σ := σ) (k := i.toNatClampNeg) (v := x) (e := .inl (cA 0, n, .inl (upd (σ q) i.toNatClampNeg x))) hz rfl
        exact k p e s m args below meth c D cA as ha H1 locs1 ls L _ _ r σ' h hl (by rw [← hset]; exact hP1) hS1
    · cases h
  · cases h
theorem sd_zast (hd : decode cc pc = .ok (.bastore, 1)) (k : kt_Snd l sh cc nL own ret lev mc ms false fr (pc + 1) d) : kt_Snd l sh cc nL own ret lev mc ms hz fr pc (ki_zast sh d) := by
  intro p e s m args below meth c D cA as ha H locs ls L st σ r σ' h hl hP hS
  unfold ki_zast at h
  split at h
  · next x i q r0 =>
    split at h
    · next n x0 hz =>
      split at h
      · cases h
      · next hg =>
        split at h
        · next hx =>
          have hnar : vp_nar .boolean x = x := by rcases hx with rfl | rfl <;> decide
          refine va_zast (D := D) ha.1 ha.2.1 ha.2.2.2.2.2.2.2.1 hP (kt_D_of ha.2.2.2.2.2.2.2.2.2.1) (kt_S_up hS) q 1 (kt_w_get hz) rfl hg hd (fun H1 locs1 hP1 _ hS1 => ?_)
          rw [hnar] at hP1
          have hset := kt_w_set (as := as) (cA := cA) (σ := σ) (k := i.toNatClampNeg) (v := x) (e := .inl (cA 1, n, .inl (upd (σ q) i.toNatClampNeg x))) hz rfl
          exact k p e s m args below meth c D cA as ha H1 locs1 ls L _ _ r σ' h hl (by rw [← hset]; exact hP1) hS1
        · cases h
    · cases h
  · cases h
theorem sd_alen (hd : decode cc pc = .ok (.arraylength, 1)) (k : kt_Snd l sh cc nL own ret lev mc ms hz fr (pc + 1) d) : kt_Snd l sh cc nL own ret lev mc ms hz fr pc (ki_alen sh d) := by
  intro p e s m args below meth c D cA as ha H locs ls L st σ r σ' h hl hP hS
  unfold ki_alen at h
  split at h
  · next q r0 =>
    split at h
    · next n x0 hz => exact va_alen (D := D) (tys := kt_tys cA) (ty := .int) ha.1 ha.2.1 ha.2.2.2.2.2.2.2.1 hP q 0 (kt_w_get hz) rfl rfl hd (k p e s m args below meth c D cA as ha H locs ls L _ σ r σ' h hl hP hS)
    · next n x0 hz => exact va_alen (D := D) (tys := kt_tys cA) (ty := .boolean) ha.1 ha.2.1 ha.2.2.2.2.2.2.2.1 hP q 1 (kt_w_get hz) rfl rfl hd (k p e s m args below meth c D cA as ha H locs ls L _ σ r σ' h hl hP hS)
    · cases h
  · cases h
theorem sd_aald (hd : decode cc pc = .ok (.aaload, 1)) (k : kt_Snd l sh cc nL own ret lev mc ms hz fr (pc + 1) d) : kt_Snd l sh cc nL own ret lev mc ms hz fr pc (ki_aald sh d) := by
  intro p e s m args below meth c D cA as ha H locs ls L st σ r σ' h hl hP hS
  unfold ki_aald at h
  split at h
  · next i q r0 =>
    split at h
    · next n qs hz =>
      split at h
      · cases h
      · next hg =>
        split at h
        · next q1 hq =>
          refine va_aldq (D := D) ha.1 ha.2.1 ha.2.2.2.2.2.2.2.1 hP q 2 (kt_w_get hz) rfl hg hd ?_
          rw [hq]
          exact k p e s m args below meth c D cA as ha H locs ls L _ σ r σ' h hl hP hS
        · cases h
    · cases h
  · cases h
/-! static arrays -/
theorem sd_gets {idx q : Nat} {nm : String} {xs : List Int32} (hq : kt_sts[q]? = some (nm, xs)) (hd : decode cc pc = .ok (.getstatic idx, 3)) (hw : Cond.fieldLink own idx "KeyToken$Request" nm "[I" ∈ kt_G) (k : kt_Snd l sh cc nL own ret lev mc ms hz fr (pc + 3) d) : kt_Snd l sh cc nL own ret lev mc ms hz fr pc (ki_push (.ref (100 + q)) d) := by
  intro p e s m args below meth c D cA as ha H locs ls L st σ r σ' h hl hP hS
  exact va_gets ha.1 ha.2.1 (ha.2.2.2.2.2.2.2.2.2.2.1 q _ hq).1 (kt_S_up hS) ha.2.2.2.2.2.2.1 (ha.2.2.2.2.2.1 _ hw) (fun _ h => h) hd (k p e s m args below meth c D cA as ha H locs ls L _ σ r σ' h hl hP hS)
def ki_ialdX (d : kt_D) : kt_D := fun L st σ => match st with
  | .int i :: .ref p :: r => match kt_sts[p - 100]? with
    | some (_, xs) => if p < 100 then none else if i < 0 ∨ xs.length ≤ i.toNatClampNeg then none else d L (.int (xs.getD i.toNatClampNeg 0) :: r) σ
    | _ => none
  | _ => none
def ki_alenX (d : kt_D) : kt_D := fun L st σ => match st with
  | .ref p :: r => match kt_sts[p - 100]? with
    | some (_, xs) => if p < 100 then none else d L (.int (Int32.ofNat xs.length) :: r) σ
    | _ => none
  | _ => none
theorem sd_ialdX (hd : decode cc pc = .ok (.iaload, 1)) (k : kt_Snd l sh cc nL own ret lev mc ms hz fr (pc + 1) d) : kt_Snd l sh cc nL own ret lev mc ms hz fr pc (ki_ialdX d) := by
  intro p e s m args below meth c D cA as ha H locs ls L st σ r σ' h hl hP hS
  unfold ki_ialdX at h
  split at h
  · next i q r0 =>
    split at h
    · next nm xs hz =>
      split at h
      · cases h
      · next hp100 =>
        split at h
        case isTrue => cases h
        next hg =>
        obtain ⟨cell, h1, h2, h3, h4, h5, h6, h7⟩ := ((ha.2.2.2.2.2.2.2.2.2.2.1 _ _ hz).2).kept (kt_S_up hS).2.1
        have hq : 100 + (q - 100) = q := Nat.add_sub_cancel' (Nat.not_lt.mp hp100)
        rw [hq] at h1
        have hlt : i.toNatClampNeg < xs.length := Nat.not_le.mp fun z => hg (Or.inr z)
        exact W.iald (v := .int (xs.getD i.toNatClampNeg 0)) ha.1 ha.2.1 h1 h2 h3 (fun z => z.elim (fun z => hg (Or.inl z)) (fun z => absurd (Nat.le_trans h4 z) (Nat.not_le.mpr hlt))) (h6 _ hlt) rfl rfl hd (k p e s m args below meth c D cA as ha H locs ls L _ σ r σ' h hl hP hS)
    · cases h
  · cases h
theorem sd_alenX (hd : decode cc pc = .ok (.arraylength, 1)) (k : kt_Snd l sh cc nL own ret lev mc ms hz fr (pc + 1) d) : kt_Snd l sh cc nL own ret lev mc ms hz fr pc (ki_alenX d) := by
  intro p e s m args below meth c D cA as ha H locs ls L st σ r σ' h hl hP hS
  unfold ki_alenX at h
  split at h
  · next q r0 =>
    split at h
    · next nm xs hz =>
      split at h
      · cases h
      · next hg =>
        obtain ⟨cell, h1, h2, h3, h4, h5, h6, h7⟩ := ((ha.2.2.2.2.2.2.2.2.2.2.1 _ _ hz).2).kept (kt_S_up hS).2.1
        have hq : 100 + (q - 100) = q := Nat.add_sub_cancel' (Nat.not_lt.mp hg)
        rw [hq] at h1
        exact W.alen (n := Int32.ofNat xs.length) ha.1 ha.2.1 h1 h2 h5 rfl rfl hd (k p e s m args below meth c D cA as ha H locs ls L _ σ r σ' h hl hP hS)
    · cases h
  · cases h
/-! returns -/
def ki_iret : kt_D := fun _ st σ => match st with
  | [.int v] => some (some (.int v), σ)
  | _ => none
def ki_zret : kt_D := fun _ st σ => match st with
  | [.int v] => if v = 0 ∨ v = 1 then some (some (.int v), σ) else none
  | _ => none
def ki_lret : kt_D := fun _ st σ => match st with
  | [.long v] => some (some (.long v), σ)
  | _ => none
def ki_aret : kt_D := fun _ st σ => match st with
  | [.ref v] => if v < 1000 then some (some (.ref v), σ) else none
  | [.null] => some (some .null, σ)
  | _ => none
def ki_vret : kt_D := fun _ st σ => match st with
  | [] => some (none, σ)
  | _ => none
theorem sd_iret (hr : ret = some .int) (hfr : fr = true → hz = true) (hd : decode cc pc = .ok (.ireturn, 1)) : kt_Snd l sh cc nL own ret lev mc ms hz fr pc ki_iret := by
  intro p e s m args below meth c D cA as ha H locs ls L st σ r σ' h hl hP hS
  have hS := kt_S_to hfr hS
  unfold ki_iret at h
  split at h
  · next v =>
    cases h
    exact kt_mono kt_ofMQ (W.widen (Nat.zero_le mc) (Nat.zero_le ms) (W.iret ha.1 ha.2.1 (ha.2.2.2.1.trans hr) (fun t ht _ => ⟨rfl, by rw [ht]; exact hP, hS.F ht⟩) hS.2.2 hd ha.2.2.2.2.1.1))
  · cases h
theorem sd_zret (hr : ret = some .boolean) (hfr : fr = true → hz = true) (hd : decode cc pc = .ok (.ireturn, 1)) : kt_Snd l sh cc nL own ret lev mc ms hz fr pc ki_zret := by
  intro p e s m args below meth c D cA as ha H locs ls L st σ r σ' h hl hP hS
  have hS := kt_S_to hfr hS
  unfold ki_zret at h
  split at h
  · next v =>
    split at h
    · next hv =>
      cases h
      exact kt_mono kt_ofMQ (W.widen (Nat.zero_le mc) (Nat.zero_le ms) (W.zret ha.1 ha.2.1 (ha.2.2.2.1.trans hr) (kt_bool hv).1 (fun t ht _ => ⟨rfl, by rw [ht]; exact hP, hS.F ht⟩) hS.2.2 hd ha.2.2.2.2.1.1))
    · cases h
  · cases h
theorem sd_lret (hr : ret = some .long) (hfr : fr = true → hz = true) (hd : decode cc pc = .ok (.lreturn, 1)) : kt_Snd l sh cc nL own ret lev mc ms hz fr pc ki_lret := by
  intro p e s m args below meth c D cA as ha H locs ls L st σ r σ' h hl hP hS
  have hS := kt_S_to hfr hS
  unfold ki_lret at h
  split at h
  · next v =>
    cases h
    exact kt_mono kt_ofMQ (W.widen (Nat.zero_le mc) (Nat.zero_le ms) (W.lret ha.1 ha.2.1 (ha.2.2.2.1.trans hr) (fun t ht _ => ⟨rfl, by rw [ht]; exact hP, hS.F ht⟩) hS.2.2 hd ha.2.2.2.2.1.1))
  · cases h
theorem sd_aret {cn : String} (hr : ret = some (.object cn)) (hfr : fr = true → hz = true) (hd : decode cc pc = .ok (.areturn, 1)) : kt_Snd l sh cc nL own ret lev mc ms hz fr pc ki_aret := by
  intro p e s m args below meth c D cA as ha H locs ls L st σ r σ' h hl hP hS
  have hS := kt_S_to hfr hS
  unfold ki_aret at h
  split at h
  · next v =>
    split at h
    case isFalse => cases h
    next hv =>
    cases h
    have hx : kt_isX (some (.ref v)) = none := if_neg (Nat.not_le.mpr hv)
    exact kt_mono kt_ofMQ (W.widen (Nat.zero_le mc) (Nat.zero_le ms) (W.aret ha.1 ha.2.1 (ha.2.2.2.1.trans hr) (Or.inl ⟨cn, rfl⟩) (Or.inr ⟨as v, rfl⟩) (fun t ht _ => ⟨by unfold kt_end; rw [hx]; rfl, by rw [ht]; exact hP, hS.F ht⟩) hS.2.2 hd ha.2.2.2.2.1.1))
  · cases h
    exact kt_mono kt_ofMQ (W.widen (Nat.zero_le mc) (Nat.zero_le ms) (W.aret ha.1 ha.2.1 (ha.2.2.2.1.trans hr) (Or.inl ⟨cn, rfl⟩) (Or.inl rfl) (fun t ht _ => ⟨rfl, by rw [ht]; exact hP, hS.F ht⟩) hS.2.2 hd ha.2.2.2.2.1.1))
  · cases h
theorem sd_vret (hr : ret = none) (hfr : fr = true → hz = true) (hd : decode cc pc = .ok (.return_, 1)) : kt_Snd l sh cc nL own ret lev mc ms hz fr pc ki_vret := by
  intro p e s m args below meth c D cA as ha H locs ls L st σ r σ' h hl hP hS
  have hS := kt_S_to hfr hS
  unfold ki_vret at h
  split at h
  · cases h
    exact kt_mono kt_ofMQ (W.widen (Nat.zero_le mc) (Nat.zero_le ms) (W.vret ha.1 ha.2.1 (ha.2.2.2.1.trans hr) (fun t ht _ => ⟨rfl, by rw [ht]; exact hP, hS.F ht⟩) hS.2.2 hd ha.2.2.2.2.1.1))
  · cases h
/-! calls -/
theorem kt_callgo {p : Program} {e : Env} {R : Room} {s : State} {m : MethodId} {args : Array Value} {below : List Frame} {meth : Method} {c : Code} {H : Heap} {locs : List Loc} {ls : Array Slot} {st0 rest : List Value} {a : Array Value} {D : va_G} {cA : Nat → ClassId} {as : Nat → Nat} {r : Option Value} {σ' : kt_S} {Q : State → Prop}
    (hr : va_Run p l e R s m args below meth c H locs 0 0 0 0 (F0 m pc ls st0) rest (kt_Q sh 0 fr D cA as r σ' H.size a) (kt_A fr sh as H.size)) (hh : hz = true → fr = true) (hS : va_S (kt_A hz sh as s.heap.size) s.heap H locs)
    (kk : ∀ (H1 : Heap) (locs1 : List Loc), va_P D vwCl (kt_w sh as cA σ') H1 → va_S (kt_A hz sh as s.heap.size) s.heap H1 locs1 → W p l e R s m args below meth c H1 locs1 0 0 Q (F0 m (pc + 3) ls ((r.map (kt_c as)).toList ++ rest))) : W p l e R s m args below meth c H locs 0 0 Q (F0 m pc ls st0) := by
  intro T hT X
  obtain ⟨v, st₀, t, T', L, h0, X', hL, e1, e2, ⟨hv, hp, hz, hk⟩, st⟩ := hr T hT X
  have hv := Outcome.returned.inj (kt_end_zero hv)
  subst hv
  rw [h0] at hz hk
  obtain ⟨t2, a1, b1⟩ := kk T'.heap (locs ++ L) (by rw [e1]; exact hp) ⟨Nat.le_trans hS.1 (by rw [e1]; exact hz), fun q h1 h2 => by
      rw [e1, hk q (Nat.lt_of_lt_of_le h1 hS.1) (fun z => h2 (kt_A_to hh q (kt_A_le hS.1 q z)))]
      exact hS.2.1 q h1 h2, fun q hq => by
      rcases List.mem_append.mp hq with h | h
      · exact hS.2.2 q h
      · exact kt_A_to hh _ (kt_A_le hS.1 _ (hL q h))⟩ T' rfl X'
  exact ⟨t2, st t2 a1, b1⟩
/-- a method's own words: instance methods, static ones -/
def kt_YV (C : String) (y : MethodName) (bytes : ByteArray) (maxL : Nat) (rt : Option FieldType) (n : Nat) : Prop := Cond.instanceMethod y ∈ kt_G ∧ Cond.selects C y y ∈ kt_G ∧ Cond.initialized y.cls ∈ kt_G ∧ Cond.code y bytes maxL rt ∈ kt_G ∧ (y.cls ≠ "java/lang/invoke/MethodHandle" ∧ y.cls ≠ "java/lang/invoke/VarHandle") ∧ (parseMethodDescriptor y.desc).map (fun d => d.parameters.length) = some n ∧ maxL ≤ 61
def kt_YS (y : MethodName) (bytes : ByteArray) (maxL : Nat) (rt : Option FieldType) (n : Nat) : Prop := Cond.static y ∈ kt_G ∧ Cond.initialized y.cls ∈ kt_G ∧ Cond.code y bytes maxL rt ∈ kt_G ∧ (y.cls ≠ "java/lang/invoke/MethodHandle" ∧ y.cls ≠ "java/lang/invoke/VarHandle") ∧ (parseMethodDescriptor y.desc).map (fun d => d.parameters.length) = some n ∧ maxL ≤ 61
theorem kt_pay {y : MethodName} {bytes : ByteArray} {maxL : Nat} {rt : Option FieldType} {s : State} {args : Array Value} (hts : ∀ w ∈ kt_G, w.before args s = true) (h5 : Cond.code y bytes maxL rt ∈ kt_G) : ∀ w ∈ Cond.code y bytes maxL rt :: kt_G, ∀ (a' : Array Value) (U : State), s.WarmedH U.vm → w.before a' U = true := by
  intro w hw a' U hW
  have hw' : w ∈ kt_G := by
    rcases List.mem_cons.mp hw with rfl | h
    · exact h5
    · exact h
  exact word_at hW (good_of_word (kt_G_good w hw')) (hts w hw')
theorem kt_npar {y : MethodName} {n : Nat} (h2 : (parseMethodDescriptor y.desc).map (fun d => d.parameters.length) = some n) : ∀ sig, parseMethodDescriptor y.desc = some sig → n = sig.parameters.length := by
  intro sig h
  rw [h] at h2
  exact (Option.some.inj h2).symm
theorem kt_room {maxL lev lev' mc ms : Nat} (hlev : lev' + 1 ≤ lev) (hmx : maxL ≤ 61) : (kt_rm lev' 0 0).frames + 1 ≤ (kt_rm lev mc ms).frames ∧ 8 + (maxL + 11) + (kt_rm lev' 0 0).locals ≤ (kt_rm lev mc ms).locals := by
  refine ⟨hlev, ?_⟩
  show 8 + (maxL + 11) + 80 * lev' ≤ 80 * lev
  omega
theorem kt_Pc_blind {sh : kt_Sh} {D : va_G} {cA : Nat → ClassId} {as : Nat → Nat} {σ : kt_S} {sz : Nat} {av : List Value} : FrameBlind (va_Pc av (fun U => U.heap.size = sz ∧ kt_B sh D cA as σ U)) := by
  rintro a U g mk ⟨q0, q1, q2⟩
  exact ⟨q0, q1, q2.blind g mk a⟩
def kt_small (st : List Value) : Bool := decide ((st.map fun v => v.category).sum ≤ 8)
theorem kt_small_le {st : List Value} (h : kt_small st = true) : (st.map fun v => v.category).sum ≤ 8 := of_decide_eq_true h
def kt_res (r : Option Value) (rest : List Value) : List Value := match r with
  | some v => v :: rest
  | none => rest
def ki_callV (sh : kt_Sh) (ci n : Nat) (F : kt_F) (d : kt_D) : kt_D := fun L st σ => match st.drop n with
  | .ref p :: rest => match sh[p]? with
    | some (3, c, _) => if c = ci then if kt_small rest = true then (F (.ref p :: (st.take n).reverse) σ).bind (fun x => d L (kt_res x.1 rest) x.2) else none else none
    | _ => none
  | _ => none
theorem kt_take {st : List Value} {n : Nat} {x : Value} {rest : List Value} (h : st.drop n = x :: rest) : st = st.take n ++ x :: rest ∧ (st.take n).length = n := by
  refine ⟨by rw [← h]; exact (List.take_append_drop n st).symm, ?_⟩
  have h1 : (st.drop n).length = rest.length + 1 := by rw [h]; rfl
  rw [List.length_drop] at h1
  rw [List.length_take]
  omega
theorem kt_stack (as : Nat → Nat) {st : List Value} {n : Nat} {x : Value} {rest : List Value} (h : st.drop n = x :: rest) : st.map (kt_c as) = ((st.take n).reverse.map (kt_c as)).reverse ++ kt_c as x :: rest.map (kt_c as) := by
  have h1 := (kt_take h).1
  rw [List.map_reverse, List.reverse_reverse]
  conv => lhs; rw [h1]
  rw [List.map_append, List.map_cons]
theorem kt_toList (as : Nat → Nat) (r : Option Value) (rest : List Value) : (kt_res r rest).map (kt_c as) = (r.map (kt_c as)).toList ++ rest.map (kt_c as) := by
  cases r <;> rfl
theorem sd_callV {C : String} {T : u_T} {N ci idx n maxL lev' : Nat} {y : MethodName} {bytes : ByteArray} {rt : Option FieldType} {F : kt_F} {fr' : Bool} (hM : kt_M l sh y bytes maxL rt lev' fr' F) (hh : hz = true → fr' = true) (hY : kt_YV C y bytes maxL rt n) (hc : vwCl[ci]? = some (C, T, N)) (hlev : lev' + 1 ≤ lev) (hd : decode cc pc = .ok (.invokevirtual idx, 3)) (hw : Cond.methodLink own idx y ∈ kt_G) (k : kt_Snd l sh cc nL own ret lev mc ms hz fr (pc + 3) d) : kt_Snd l sh cc nL own ret lev mc ms hz fr pc (ki_callV sh ci n F d) := by
  intro p e s m args below meth c D cA as ha H locs ls L st σ r σ' h hl hP hS
  obtain ⟨y1, y2, y3, y4, y5, y6, y7⟩ := hY
  have hts := ha.2.2.2.2.2.1
  unfold ki_callV at h
  split at h
  · next q rest hst =>
    split at h
    · next c0 fs hz =>
      split at h
      · next hci =>
        subst hci
        split at h
        · next hcat =>
          obtain ⟨⟨r1, σ1⟩, hF, h⟩ := Option.bind_eq_some_iff.mp h
          have hMet := hM D cA as (.ref q :: (st.take n).reverse) σ σ1 r1 H.size hF
          have hR := kt_room (mc := mc) (ms := ms) hlev y7
          have hPc := va_recv (q0 := q) ha.2.2.2.2.2.2.2.1 hP hc (kt_w_get hz)
          refine kt_callgo (va_runV (C := C) (b := as q) (As := (st.take n).reverse.map (kt_c as)) (rest := rest.map (kt_c as)) (nL := nL) (n := n) ⟨ha.1, ha.2.1, ha.2.2.1, ha.2.2.2.2.2.2.1, hts⟩ hMet ⟨⟨rfl, rfl, hR.1, hR.2, kt_pay hts y4, List.mem_cons_self, hts _ y4, hts _ y3, y5, kt_npar y6, hts _ hw⟩, hts _ y1, hts _ y2⟩ ⟨kt_Pc_blind, hPc, fun U hU hW => ⟨rfl, by rw [hU], ha.2.2.2.2.2.2.2.to hW (by rw [hU]; exact hS), by rw [hU]; exact hP⟩⟩ rfl (by rw [List.length_map, List.length_reverse]; exact (kt_take hst).2) hl.2.1 (kt_stack as hst) (lv_room (by rw [kt_c_cats]; exact kt_small_le hcat)) hd ⟨Nat.zero_le _, Nat.zero_le _⟩) hh hS (fun H1 locs1 hP1 hS1 => ?_)
          rw [← kt_toList]
          exact k p e s m args below meth c D cA as ha H1 locs1 ls L _ σ1 r σ' h hl hP1 hS1
        · cases h
      · cases h
    · cases h
  · cases h
theorem sd_callVN {C : String} {T : u_T} {N ci idx n maxL lev' : Nat} {host : String} {y : MethodName} {bytes : ByteArray} {rt : Option FieldType} {F : kt_F} {fr' : Bool} (hM : kt_M l sh y bytes maxL rt lev' fr' F) (hh : hz = true → fr' = true) (hY : kt_YV C y bytes maxL rt n) (hc : vwCl[ci]? = some (C, T, N)) (hlev : lev' + 1 ≤ lev) (hd : decode cc pc = .ok (.invokevirtual idx, 3)) (hw : Cond.methodLinkNest own idx y host ∈ kt_N) (k : kt_Snd l sh cc nL own ret lev mc ms hz fr (pc + 3) d) : kt_Snd l sh cc nL own ret lev mc ms hz fr pc (ki_callV sh ci n F d) := by
  intro p e s m args below meth c D cA as ha H locs ls L st σ r σ' h hl hP hS
  obtain ⟨y1, y2, y3, y4, y5, y6, y7⟩ := hY
  have hts := ha.2.2.2.2.2.1
  have hlink := va_Nw.use (A := args) rfl (ha.2.2.2.2.2.2.2.2.1 _ hw)
  unfold ki_callV at h
  split at h
  · next q rest hst =>
    split at h
    · next c0 fs hz =>
      split at h
      · next hci =>
        subst hci
        split at h
        · next hcat =>
          obtain ⟨⟨r1, σ1⟩, hF, h⟩ := Option.bind_eq_some_iff.mp h
          have hMet := hM D cA as (.ref q :: (st.take n).reverse) σ σ1 r1 H.size hF
          have hR := kt_room (mc := mc) (ms := ms) hlev y7
          have hPc := va_recv (q0 := q) ha.2.2.2.2.2.2.2.1 hP hc (kt_w_get hz)
          refine kt_callgo (va_runVN (C := C) (host := host) (b := as q) (As := (st.take n).reverse.map (kt_c as)) (rest := rest.map (kt_c as)) (nL := nL) (n := n) ⟨ha.1, ha.2.1, ha.2.2.1, ha.2.2.2.2.2.2.1, hts⟩ hMet ⟨⟨⟨rfl, rfl, hR.1, hR.2, kt_pay hts y4, List.mem_cons_self⟩, hts _ y4, hts _ y3, y5, kt_npar y6, hlink⟩, hts _ y1, hts _ y2⟩ ⟨kt_Pc_blind, hPc, fun U hU hW => ⟨rfl, by rw [hU], ha.2.2.2.2.2.2.2.to hW (by rw [hU]; exact hS), by rw [hU]; exact hP⟩⟩ rfl (by rw [List.length_map, List.length_reverse]; exact (kt_take hst).2) hl.2.1 (kt_stack as hst) (lv_room (by rw [kt_c_cats]; exact kt_small_le hcat)) hd ⟨Nat.zero_le _, Nat.zero_le _⟩) hh hS (fun H1 locs1 hP1 hS1 => ?_)
          rw [← kt_toList]
          exact k p e s m args below meth c D cA as ha H1 locs1 ls L _ σ1 r σ' h hl hP1 hS1
        · cases h
      · cases h
    · cases h
  · cases h
def ki_callS (n : Nat) (F : kt_F) (d : kt_D) : kt_D := fun L st σ => if (st.take n).length = n then if kt_small (st.drop n) = true then (F (st.take n).reverse σ).bind (fun x => d L (kt_res x.1 (st.drop n)) x.2) else none else none
theorem kt_stackS (as : Nat → Nat) (st : List Value) (n : Nat) : st.map (kt_c as) = ((st.take n).reverse.map (kt_c as)).reverse ++ (st.drop n).map (kt_c as) := by
  rw [List.map_reverse, List.reverse_reverse, ← List.map_append, List.take_append_drop]
theorem sd_callS {idx n maxL lev' : Nat} {y : MethodName} {bytes : ByteArray} {rt : Option FieldType} {F : kt_F} {fr' : Bool} (hM : kt_M l sh y bytes maxL rt lev' fr' F) (hh : hz = true → fr' = true) (hY : kt_YS y bytes maxL rt n) (hlev : lev' + 1 ≤ lev) (hd : decode cc pc = .ok (.invokestatic idx, 3)) (hw : Cond.methodLink own idx y ∈ kt_G) (k : kt_Snd l sh cc nL own ret lev mc ms hz fr (pc + 3) d) : kt_Snd l sh cc nL own ret lev mc ms hz fr pc (ki_callS n F d) := by
  intro p e s m args below meth c D cA as ha H locs ls L st σ r σ' h hl hP hS
  obtain ⟨y1, y3, y4, y5, y6, y7⟩ := hY
  have hts := ha.2.2.2.2.2.1
  unfold ki_callS at h
  split at h
  · next hn =>
    split at h
    · next hcat =>
      obtain ⟨⟨r1, σ1⟩, hF, h⟩ := Option.bind_eq_some_iff.mp h
      have hMet := hM D cA as (st.take n).reverse σ σ1 r1 H.size hF
      have hR := kt_room (mc := mc) (ms := ms) hlev y7
      refine kt_callgo (va_runS (As := (st.take n).reverse.map (kt_c as)) (rest := (st.drop n).map (kt_c as)) (nL := nL) (n := n) ⟨ha.1, ha.2.1, ha.2.2.1, ha.2.2.2.2.2.2.1, hts⟩ hMet ⟨⟨rfl, rfl, hR.1, hR.2, kt_pay hts y4, List.mem_cons_self, hts _ y4, hts _ y3, y5, kt_npar y6, hts _ hw⟩, hts _ y1⟩ ⟨kt_Pc_blind, fun U hU hW => ⟨rfl, by rw [hU], ha.2.2.2.2.2.2.2.to hW (by rw [hU]; exact hS), by rw [hU]; exact hP⟩⟩ rfl (by rw [List.length_map, List.length_reverse]; exact hn) hl.2.1 (kt_stackS as st n) (lv_room (by rw [kt_c_cats]; exact kt_small_le hcat)) hd ⟨Nat.zero_le _, Nat.zero_le _⟩) hh hS (fun H1 locs1 hP1 hS1 => ?_)
      rw [← kt_toList]
      exact k p e s m args below meth c D cA as ha H1 locs1 ls L _ σ1 r σ' h hl hP1 hS1
    · cases h
  · cases h
theorem sd_callSN {idx n maxL lev' : Nat} {host : String} {y : MethodName} {bytes : ByteArray} {rt : Option FieldType} {F : kt_F} {fr' : Bool} (hM : kt_M l sh y bytes maxL rt lev' fr' F) (hh : hz = true → fr' = true) (hY : kt_YS y bytes maxL rt n) (hlev : lev' + 1 ≤ lev) (hd : decode cc pc = .ok (.invokestatic idx, 3)) (hw : Cond.methodLinkNest own idx y host ∈ kt_N) (k : kt_Snd l sh cc nL own ret lev mc ms hz fr (pc + 3) d) : kt_Snd l sh cc nL own ret lev mc ms hz fr pc (ki_callS n F d) := by
  intro p e s m args below meth c D cA as ha H locs ls L st σ r σ' h hl hP hS
  obtain ⟨y1, y3, y4, y5, y6, y7⟩ := hY
  have hts := ha.2.2.2.2.2.1
  have hlink := va_Nw.use (A := args) rfl (ha.2.2.2.2.2.2.2.2.1 _ hw)
  unfold ki_callS at h
  split at h
  · next hn =>
    split at h
    · next hcat =>
      obtain ⟨⟨r1, σ1⟩, hF, h⟩ := Option.bind_eq_some_iff.mp h
      have hMet := hM D cA as (st.take n).reverse σ σ1 r1 H.size hF
      have hR := kt_room (mc := mc) (ms := ms) hlev y7
      refine kt_callgo (va_runSN (host := host) (As := (st.take n).reverse.map (kt_c as)) (rest := (st.drop n).map (kt_c as)) (nL := nL) (n := n) ⟨ha.1, ha.2.1, ha.2.2.1, ha.2.2.2.2.2.2.1, hts⟩ hMet ⟨⟨⟨rfl, rfl, hR.1, hR.2, kt_pay hts y4, List.mem_cons_self⟩, hts _ y4, hts _ y3, y5, kt_npar y6, hlink⟩, hts _ y1, trivial⟩ ⟨kt_Pc_blind, fun U hU hW => ⟨rfl, by rw [hU], ha.2.2.2.2.2.2.2.to hW (by rw [hU]; exact hS), by rw [hU]; exact hP⟩⟩ rfl (by rw [List.length_map, List.length_reverse]; exact hn) hl.2.1 (kt_stackS as st n) (lv_room (by rw [kt_c_cats]; exact kt_small_le hcat)) hd ⟨Nat.zero_le _, Nat.zero_le _⟩) hh hS (fun H1 locs1 hP1 hS1 => ?_)
      rw [← kt_toList]
      exact k p e s m args below meth c D cA as ha H1 locs1 ls L _ σ1 r σ' h hl hP1 hS1
    · cases h
  · cases h
def ki_max (d : kt_D) : kt_D := fun L st σ => match st with
  | .int y :: .int x :: r => if kt_small r = true then d L (.int (if x < y then y else x) :: r) σ else none
  | _ => none
theorem sd_max {idx : Nat} (hlev : 1 ≤ lev) (hd : decode cc pc = .ok (.invokestatic idx, 3)) (hw : Cond.methodLink own idx Lib.Math.max.name ∈ kt_G) (h1 : Cond.static Lib.Math.max.name ∈ kt_G) (h2 : Cond.initialized "java/lang/Math" ∈ kt_G) (h3 : Cond.code Lib.Math.max.name Lib.Math.max.code 2 (some .int) ∈ kt_G) (k : kt_Snd l sh cc nL own ret lev mc ms hz fr (pc + 3) d) : kt_Snd l sh cc nL own ret lev mc ms hz fr pc (ki_max d) := by
  intro p e s m args below meth c D cA as ha H locs ls L st σ r σ' h hl hP hS
  have hts := ha.2.2.2.2.2.1
  unfold ki_max at h
  split at h
  · next y x r0 =>
    split at h
    · next hg =>
      refine va_mmax ha.1 ha.2.1 (ha.2.2.1.trans hl.2.1.symm) ha.2.2.2.2.2.2.1 (hts _ hw) (hts _ h1) (hts _ h2) (hts _ h3) hlev ?_ (Nat.zero_le _) (Nat.zero_le _) hd (k p e s m args below meth c D cA as ha H locs ls L _ σ r σ' h hl hP hS)
      have hg := kt_small_le hg
      rw [kt_c_cats]
      show _ + 13 ≤ 80 * lev
      omega
    · cases h
  · cases h
end KTH
/-! Base: a throw. -/
def kt_chain : List String := ["java/lang/RuntimeException", "java/lang/Exception"]
theorem kt_Th.lays {n d : String} {A : Nat → Prop} {U : State} {args : Array Value} (h : kt_Th n d A U) : (Cond.laysStatic "java/lang/Throwable" n d).before args U = true := by
  obtain ⟨c, k, i, f, a, cell, v, h1, h2, h3, h4, h5, h6, h7, h8, h9, -, -⟩ := h
  have hlt : f.slot < cell.slots.size := (Array.getElem?_eq_some_iff.mp h9).1
  simp [Cond.before, Cond.holds, Cond.value, h1, h2, h3, h4, h5, h6, h7, h8, hlt]
theorem kt_Th.isRef {n d : String} {A : Nat → Prop} {U : State} {args : Array Value} (h : kt_Th n d A U) : (Cond.isRef (.static "java/lang/Throwable" n d)).before args U = true := by
  obtain ⟨c, k, i, f, a, cell, v, h1, h2, h3, h4, h5, h6, h7, h8, h9, h10, -⟩ := h
  have he : (Term.static "java/lang/Throwable" n d).eval args U none [] U = some v := by
    simp [Term.eval, State.fieldNamed?, h2, h3, h4, h6, h7, h9]
  cases v with
  | ref x => simp [Cond.before, Cond.holds, Cond.value, he]
  | null => simp [Cond.before, Cond.holds, Cond.value, he]
  | int x => cases h10
  | long x => cases h10
  | float x => cases h10
  | double x => cases h10
  | retAddr x => cases h10
theorem kt_same {s U : State} {cells slots : Nat} (h : s.sameButNew ({ U with vm := s.vm } : State) [] cells slots) : ∀ (a : Nat) (c : Cell), s.heap[a]? = some c → U.heap[a]? = some c := by
  intro a c hc
  obtain ⟨c', h1, h2, h3, h4⟩ := h.2.2.2.2.2 a c hc
  have h1 : U.heap[a]? = some c' := h1
  have hs : c'.slots = c.slots := Array.ext_getElem? (fun i => h4 i (by simp))
  rw [h1, h2, hs]
/-- a word of a throw's bundle: in the tables' words, among those that are kept apart, or one of Throwable's statics -/
def kt_tw (a : Cond) : Prop := a ∈ kt_G ∨ a ∈ kt_N ∨ a = .laysStatic "java/lang/Throwable" "UNASSIGNED_STACK" Bundle.steD ∨ a = .laysStatic "java/lang/Throwable" "SUPPRESSED_SENTINEL" Bundle.listD ∨ a = .isRef (.static "java/lang/Throwable" "UNASSIGNED_STACK" Bundle.steD) ∨ a = .isRef (.static "java/lang/Throwable" "SUPPRESSED_SENTINEL" Bundle.listD)
def ki_throw (n : Nat) : kt_D := fun _ st σ => match st with
  | [] => some (some (.ref (1000 + n)), σ)
  | _ => none
section KTT
variable {l : Launch} {sh : kt_Sh} {cc : ByteArray} {nL : Nat} {own : String} {ret : Option FieldType} {lev mc ms : Nat} {pc : Nat}
set_option maxHeartbeats 4000000 in
theorem sd_throw {n ic icl isx k : Nat} {X tx : String} (hf : l.flags = pinnedFlags ++ [noTraceFlag]) (hX : kt_exs[n]? = some X) (hfit : Bundle.fit X = true) (hown0 : own = "KeyToken") (hmc : 1 ≤ mc) (hms : 6 ≤ ms) (hlev : 6 ≤ lev)
    (hd0 : decode cc pc = .ok (.new icl, 3)) (hd3 : decode cc (pc + 3) = .ok (.dup, 1)) (hd4 : decode cc (pc + 4) = .ok (.ldc isx, 2)) (hd6 : decode cc (pc + 6) = .ok (.invokespecial ic, 3)) (hd9 : decode cc (pc + 9) = .ok (.athrow, 1))
    (hcl : Cond.classLink own icl X ∈ kt_G) (hin : Cond.instantiable X 6 ∈ kt_G) (hini : Cond.initialized X ∈ kt_G) (hstr : kt_strs[k]? = some (isx, tx)) (hat : ∀ a ∈ Bundle.ownAtoms own ic X kt_chain, kt_tw a) :
    kt_Snd l sh cc nL own ret lev mc ms true false pc (ki_throw n) := by
  intro p e s m args below meth c D cA as ha H locs ls L st σ r σ' h hl hP hS
  unfold ki_throw at h
  split at h
  case h_2 => cases h
  cases h
  have hts := ha.2.2.2.2.2.1
  have hown := ha.2.2.2.2.2.2.1
  have hK := ha.2.2.2.2.2.2.2
  obtain ⟨-, hNw, hinj, -, hstrs, hT1, hT2⟩ := hK
  obtain ⟨qs, hR⟩ := hstrs k _ hstr
  have hlocs : locs = [] := by
    cases locs with
    | nil => rfl
    | cons a t => exact absurd (hS.2.2 a List.mem_cons_self).1 (by decide)
  subst hlocs
  have hb : c.code = cc := ha.2.1
  refine W.newc ha.1 hb hown (hts _ hcl) (hts _ hin) (hts _ hini) (g := F0 m pc ls []) rfl hd0 (by show 0 + 1 ≤ mc; omega) (by show 0 + 6 ≤ ms; omega) (fun cC kC h1 h2 h3 h4 => ?_)
  have hHs : s.heap.size ≤ H.size := hS.1
  refine lv_dup (va := .ref H.size) (rest := []) (pc := pc + 3) ha.1 hb hd3 rfl ?_
  rw [hown0] at hown
  refine va_ldcS (own := "KeyToken") (pc := pc + 4) ha.1 hb hown hR hd4 ?_
  intro T hT X0
  have htr : e.platform.stackTraces = false := Launch.traces_off hf X0.admits
  have hall : ∀ a ∈ Bundle.ownAtoms "KeyToken" ic X kt_chain, a.before args s = true := by
    intro a haa
    rw [hown0] at hat
    rcases hat a haa with h | h | h | h | h | h
    · exact hts a h
    · exact va_Nw.use (kt_nest_tab (kt_N_nest a h)) (hNw a h)
    · rw [h]; exact hT1.lays
    · rw [h]; exact hT2.lays
    · rw [h]; exact hT1.isRef
    · rw [h]; exact hT2.isRef
  have hex : ∀ x ∈ c.exceptionTable.toList, covers x (pc + 6 + 3) = false := by
    intro x hx
    have h0 : c.exceptionTable = #[] := by simpa using ha.2.2.2.2.1.2.1
    rw [h0] at hx
    cases hx
  obtain ⟨U, hst, hrun, hend, hW, hsame, ce, hce, hO⟩ := X0.ctorThrowS ha.1 htr (own := "KeyToken") (cls := X) (names := kt_chain) (ic := ic) hown hfit (by decide) hall (fun x hx => by cases hx) (a := H.size) (cX := cC) (kX := kC) h1 h2 (by rw [hT]; simp) hHs (msg := .ref qs) rfl (g := F0 m (pc + 6) ls [.ref qs, .ref H.size, .ref H.size]) rfl (hl.2.1.trans ha.2.2.1.symm) rfl rfl (rest := []) rfl (by rw [hb]; exact hd6) (by rw [hb]; exact hd9) hex (by show 2 + 3 < lev; omega) (by show 2 * 0 + 1 + (13 * (2 + 1) + 42) ≤ 80 * lev; omega) (hlocks := ha.2.2.2.2.1.1)
  refine ⟨U, hst, .threw H.size, hrun, hend, ⟨?_, ?_, ?_⟩, [], ⟨hW, hsame.weaken (fun _ h _ => h) ?_ ?_⟩, fun q hq => by cases hq⟩
  · show kt_end mc as (some (.ref (1000 + n))) _ s U
    have hx : kt_isX (some (.ref (1000 + n))) = some n := by simp [kt_isX]
    unfold kt_end
    rw [hx]
    exact ⟨by omega, H.size, rfl, hHs, ce, X, hX, hce, hO.vm, hO.cls⟩
  · refine va_P.kept hP (fun k q hk => ?_)
    obtain ⟨q1, q2⟩ := kt_w_inv hk
    obtain ⟨p1, -⟩ := ha.2.2.2.2.1.2.2 k q1
    rw [q2]
    have e1 : H[as k]? = s.heap[as k]? := hS.2.1 _ p1 (fun z => by cases z.1)
    rw [e1, Array.getElem?_eq_getElem p1]
    exact kt_same hsame _ _ (Array.getElem?_eq_getElem p1)
  · refine ⟨hsame.2.1, fun q h1 _ => ?_⟩
    rw [Array.getElem?_eq_getElem h1]
    exact kt_same hsame _ _ (Array.getElem?_eq_getElem h1)
  · show 0 + 1 ≤ mc
    omega
  · show 0 + 6 ≤ ms
    omega
end KTT
end
