/-! ===== the program as data: names, kinds of objects, types ===== -/
def RX0 : String := "StillLoops$Bench"
def RX1 : String := "StillLoops$Law"
def RX2 : String := "StillLoops$Loop"
def RX3 : String := "StillLoops$Plant"
def RX4 : String := "StillLoops$Reade\x72"
def RX5 : String := "StillLoops$RelayTest"
def RX6 : String := "StillLoops$Rounds"
def RX7 : String := "StillLoops$Rows"
def RX8 : String := "StillLoops$Twin"
def RX9 : String := "StillLoops$Valve"
def RX10 : String := "StillLoops"
def RX11 : String := "StillLoopsModel"
def TX0 : u_T := fun k => match k with
  | 0 => ("StillLoops$Bench", "loops", "[LStillLoops$Loop;", true)
  | 1 => ("StillLoops$Bench", "size", "I", false)
  | 2 => ("StillLoops$Bench", "texts", "I", false)
  | 3 => ("StillLoops$Bench", "tick", "I", false)
  | 4 => ("StillLoops$Bench", "events", "LStillLoops$Rows;", true)
  | 5 => ("StillLoops$Bench", "log", "LStillLoops$Rows;", true)
  | 6 => ("StillLoops$Bench", "force", "[J", true)
  | _ => ("StillLoops$Bench", "tripping", "[Z", true)
def tyX0 : Nat → FieldType := fun k => match k with
  | 0 => .array (.object "StillLoops$Loop")
  | 1 => .int
  | 2 => .int
  | 3 => .int
  | 4 => .object "StillLoops$Rows"
  | 5 => .object "StillLoops$Rows"
  | 6 => .array .long
  | _ => .array .boolean
def TX1 : u_T := fun k => match k with
  | 0 => ("StillLoops$Law", "b", "I", false)
  | 1 => ("StillLoops$Law", "c", "I", false)
  | 2 => ("StillLoops$Law", "filte\x72", "I", false)
  | 3 => ("StillLoops$Law", "back", "I", false)
  | 4 => ("StillLoops$Law", "hyst", "I", false)
  | 5 => ("StillLoops$Law", "sets", "I", false)
  | 6 => ("StillLoops$Law", "from", "[I", true)
  | 7 => ("StillLoops$Law", "kp", "[I", true)
  | 8 => ("StillLoops$Law", "ki", "[I", true)
  | _ => ("StillLoops$Law", "kd", "[I", true)
def tyX1 : Nat → FieldType := fun k => match k with
  | 0 => .int
  | 1 => .int
  | 2 => .int
  | 3 => .int
  | 4 => .int
  | 5 => .int
  | 6 => .array .int
  | 7 => .array .int
  | 8 => .array .int
  | _ => .array .int
def TX2 : u_T := fun k => match k with
  | 0 => ("StillLoops$Loop", "plant", "LStillLoops$Plant;", true)
  | 1 => ("StillLoops$Loop", "valve", "LStillLoops$Valve;", true)
  | 2 => ("StillLoops$Loop", "law", "LStillLoops$Law;", true)
  | 3 => ("StillLoops$Loop", "test", "LStillLoops$RelayTest;", true)
  | 4 => ("StillLoops$Loop", "on", "I", false)
  | 5 => ("StillLoops$Loop", "mode", "I", false)
  | 6 => ("StillLoops$Loop", "sp", "I", false)
  | 7 => ("StillLoops$Loop", "out", "I", false)
  | 8 => ("StillLoops$Loop", "i", "J", false)
  | 9 => ("StillLoops$Loop", "f", "J", false)
  | 10 => ("StillLoops$Loop", "\x72", "J", false)
  | 11 => ("StillLoops$Loop", "set", "I", false)
  | 12 => ("StillLoops$Loop", "at", "I", false)
  | 13 => ("StillLoops$Loop", "stuck", "I", false)
  | 14 => ("StillLoops$Loop", "lost", "Z", false)
  | 15 => ("StillLoops$Loop", "trips", "[I", true)
  | 16 => ("StillLoops$Loop", "tripped", "I", false)
  | 17 => ("StillLoops$Loop", "ku", "I", false)
  | _ => ("StillLoops$Loop", "tu", "I", false)
def tyX2 : Nat → FieldType := fun k => match k with
  | 0 => .object "StillLoops$Plant"
  | 1 => .object "StillLoops$Valve"
  | 2 => .object "StillLoops$Law"
  | 3 => .object "StillLoops$RelayTest"
  | 4 => .int
  | 5 => .int
  | 6 => .int
  | 7 => .int
  | 8 => .long
  | 9 => .long
  | 10 => .long
  | 11 => .int
  | 12 => .int
  | 13 => .int
  | 14 => .boolean
  | 15 => .array .int
  | 16 => .int
  | 17 => .int
  | _ => .int
def TX3 : u_T := fun k => match k with
  | 0 => ("StillLoops$Plant", "kind", "I", false)
  | 1 => ("StillLoops$Plant", "gain", "I", false)
  | 2 => ("StillLoops$Plant", "tau", "I", false)
  | 3 => ("StillLoops$Plant", "late", "I", false)
  | 4 => ("StillLoops$Plant", "load", "I", false)
  | 5 => ("StillLoops$Plant", "y", "I", false)
  | 6 => ("StillLoops$Plant", "z", "I", false)
  | _ => ("StillLoops$Plant", "feeds", "[I", true)
def tyX3 : Nat → FieldType := fun k => match k with
  | 0 => .int
  | 1 => .int
  | 2 => .int
  | 3 => .int
  | 4 => .int
  | 5 => .int
  | 6 => .int
  | _ => .array .int
def TX4 : u_T := fun k => match k with
  | 0 => ("StillLoops$Reade\x72", "draft", "LStillLoops$Bench;", true)
  | 1 => ("StillLoops$Reade\x72", "taped", "I", false)
  | 2 => ("StillLoops$Reade\x72", "text", "[B", true)
  | 3 => ("StillLoops$Reade\x72", "length", "I", false)
  | 4 => ("StillLoops$Reade\x72", "at", "I", false)
  | 5 => ("StillLoops$Reade\x72", "begin", "I", false)
  | _ => ("StillLoops$Reade\x72", "wrong", "I", false)
def tyX4 : Nat → FieldType := fun k => match k with
  | 0 => .object "StillLoops$Bench"
  | 1 => .int
  | 2 => .array .byte
  | 3 => .int
  | 4 => .int
  | 5 => .int
  | _ => .int
def TX5 : u_T := fun k => match k with
  | 0 => ("StillLoops$RelayTest", "d", "I", false)
  | 1 => ("StillLoops$RelayTest", "h", "I", false)
  | 2 => ("StillLoops$RelayTest", "middle", "I", false)
  | 3 => ("StillLoops$RelayTest", "side", "I", false)
  | 4 => ("StillLoops$RelayTest", "ups", "I", false)
  | 5 => ("StillLoops$RelayTest", "age", "I", false)
  | 6 => ("StillLoops$RelayTest", "since", "I", false)
  | 7 => ("StillLoops$RelayTest", "top", "I", false)
  | _ => ("StillLoops$RelayTest", "bottom", "I", false)
def tyX5 : Nat → FieldType := fun k => match k with
  | 0 => .int
  | 1 => .int
  | 2 => .int
  | 3 => .int
  | 4 => .int
  | 5 => .int
  | 6 => .int
  | 7 => .int
  | _ => .int
def TX6 : u_T := fun k => match k with
  | 0 => ("StillLoops$Rounds", "begin", "I", false)
  | 1 => ("StillLoops$Rounds", "length", "I", false)
  | 2 => ("StillLoops$Rounds", "tally", "[I", true)
  | _ => ("StillLoops$Rounds", "rows", "[J", true)
def tyX6 : Nat → FieldType := fun k => match k with
  | 0 => .int
  | 1 => .int
  | 2 => .array .int
  | _ => .array .long
def TX7 : u_T := fun k => match k with
  | 0 => ("StillLoops$Rows", "cells", "[I", true)
  | 1 => ("StillLoops$Rows", "most", "I", true)
  | _ => ("StillLoops$Rows", "size", "I", false)
def tyX7 : Nat → FieldType := fun k => match k with
  | 0 => .array .int
  | 1 => .int
  | _ => .int
def TX8 : u_T := fun k => match k with
  | 0 => ("StillLoops$Twin", "y", "[D", true)
  | 1 => ("StillLoops$Twin", "z", "[D", true)
  | 2 => ("StillLoops$Twin", "i", "[D", true)
  | 3 => ("StillLoops$Twin", "f", "[D", true)
  | 4 => ("StillLoops$Twin", "\x72", "[D", true)
  | 5 => ("StillLoops$Twin", "sp", "[D", true)
  | 6 => ("StillLoops$Twin", "out", "[D", true)
  | 7 => ("StillLoops$Twin", "pos", "[D", true)
  | _ => ("StillLoops$Twin", "feeds", "[[D", true)
def tyX8 : Nat → FieldType := fun k => match k with
  | 0 => .array .double
  | 1 => .array .double
  | 2 => .array .double
  | 3 => .array .double
  | 4 => .array .double
  | 5 => .array .double
  | 6 => .array .double
  | 7 => .array .double
  | _ => .array (.array .double)
def TX9 : u_T := fun k => match k with
  | 0 => ("StillLoops$Valve", "low", "I", false)
  | 1 => ("StillLoops$Valve", "high", "I", false)
  | 2 => ("StillLoops$Valve", "stick", "I", false)
  | 3 => ("StillLoops$Valve", "pos", "I", false)
  | 4 => ("StillLoops$Valve", "points", "I", false)
  | _ => ("StillLoops$Valve", "curve", "[I", true)
def tyX9 : Nat → FieldType := fun k => match k with
  | 0 => .int
  | 1 => .int
  | 2 => .int
  | 3 => .int
  | 4 => .int
  | _ => .array .int
def TX10 : u_T := fun k => match k with
  | 0 => ("StillLoops", "reade\x72", "LStillLoops$Reader;", true)
  | 1 => ("StillLoops", "firstWrong", "I", false)
  | 2 => ("StillLoops", "now", "LStillLoops$Bench;", true)
  | 3 => ("StillLoops", "kept", "LStillLoops$Bench;", true)
  | 4 => ("StillLoops", "isKept", "Z", false)
  | 5 => ("StillLoops", "trial", "LStillLoops$Bench;", true)
  | 6 => ("StillLoops", "floating", "LStillLoops$Twin;", true)
  | _ => ("StillLoops", "rounds", "LStillLoops$Rounds;", true)
def tyX10 : Nat → FieldType := fun k => match k with
  | 0 => .object "StillLoops$Reader"
  | 1 => .int
  | 2 => .object "StillLoops$Bench"
  | 3 => .object "StillLoops$Bench"
  | 4 => .boolean
  | 5 => .object "StillLoops$Bench"
  | 6 => .object "StillLoops$Twin"
  | _ => .object "StillLoops$Rounds"
def TX11 : u_T := fun k => match k with
  | 0 => ("StillLoopsModel", "thrown", "I", false)
  | 1 => ("StillLoopsModel", "world", "[J", true)
  | 2 => ("StillLoopsModel", "image", "[J", true)
  | 3 => ("StillLoopsModel", "earlie\x72", "[J", true)
  | 4 => ("StillLoopsModel", "trial", "[J", true)
  | 5 => ("StillLoopsModel", "hasImage", "Z", false)
  | 6 => ("StillLoopsModel", "tape", "[B", true)
  | 7 => ("StillLoopsModel", "taped", "I", false)
  | 8 => ("StillLoopsModel", "point", "I", false)
  | 9 => ("StillLoopsModel", "end", "I", false)
  | 10 => ("StillLoopsModel", "begin", "I", false)
  | 11 => ("StillLoopsModel", "faultAt", "I", false)
  | 12 => ("StillLoopsModel", "five", "[I", true)
  | 13 => ("StillLoopsModel", "read", "I", false)
  | 14 => ("StillLoopsModel", "greatest", "[J", true)
  | 15 => ("StillLoopsModel", "times", "[J", true)
  | 16 => ("StillLoopsModel", "roundFrom", "I", false)
  | 17 => ("StillLoopsModel", "roundLong", "I", false)
  | 18 => ("StillLoopsModel", "unlike", "[J", true)
  | 19 => ("StillLoopsModel", "y", "[D", true)
  | 20 => ("StillLoopsModel", "z", "[D", true)
  | 21 => ("StillLoopsModel", "i", "[D", true)
  | 22 => ("StillLoopsModel", "f", "[D", true)
  | 23 => ("StillLoopsModel", "\x72", "[D", true)
  | 24 => ("StillLoopsModel", "sp", "[D", true)
  | 25 => ("StillLoopsModel", "out", "[D", true)
  | 26 => ("StillLoopsModel", "pos", "[D", true)
  | 27 => ("StillLoopsModel", "seen", "[D", true)
  | 28 => ("StillLoopsModel", "fed", "[D", true)
  | _ => ("StillLoopsModel", "follows", "[Z", true)
def tyX11 : Nat → FieldType := fun k => match k with
  | 0 => .int
  | 1 => .array .long
  | 2 => .array .long
  | 3 => .array .long
  | 4 => .array .long
  | 5 => .boolean
  | 6 => .array .byte
  | 7 => .int
  | 8 => .int
  | 9 => .int
  | 10 => .int
  | 11 => .int
  | 12 => .array .int
  | 13 => .int
  | 14 => .array .long
  | 15 => .array .long
  | 16 => .int
  | 17 => .int
  | 18 => .array .long
  | 19 => .array .double
  | 20 => .array .double
  | 21 => .array .double
  | 22 => .array .double
  | 23 => .array .double
  | 24 => .array .double
  | 25 => .array .double
  | 26 => .array .double
  | 27 => .array .double
  | 28 => .array .double
  | _ => .array .boolean
def ri_cl0 : List vw_C := [(RX0, TX0, 8), (RX1, TX1, 10), (RX2, TX2, 19), (RX3, TX3, 8), (RX4, TX4, 7), (RX5, TX5, 9), (RX6, TX6, 4), (RX7, TX7, 3), (RX8, TX8, 9), (RX9, TX9, 6), (RX10, TX10, 8), (RX11, TX11, 30)]
def ri_ty0 (ci k : Nat) : FieldType := match ci with
  | 0 => tyX0 k
  | 1 => tyX1 k
  | 2 => tyX2 k
  | 3 => tyX3 k
  | 4 => tyX4 k
  | 5 => tyX5 k
  | 6 => tyX6 k
  | 7 => tyX7 k
  | 8 => tyX8 k
  | 9 => tyX9 k
  | 10 => tyX10 k
  | _ => tyX11 k
def ri_df0 (ci : Nat) : List Value := match ci with
  | 0 => [.null, .int 0, .int 0, .int 0, .null, .null, .null, .null]
  | 1 => [.int 0, .int 0, .int 0, .int 0, .int 0, .int 0, .null, .null, .null, .null]
  | 2 => [.null, .null, .null, .null, .int 0, .int 0, .int 0, .int 0, .long 0, .long 0, .long 0, .int 0, .int 0, .int 0, .int 0, .null, .int 0, .int 0, .int 0]
  | 3 => [.int 0, .int 0, .int 0, .int 0, .int 0, .int 0, .int 0, .null]
  | 4 => [.null, .int 0, .null, .int 0, .int 0, .int 0, .int 0]
  | 5 => [.int 0, .int 0, .int 0, .int 0, .int 0, .int 0, .int 0, .int 0, .int 0]
  | 6 => [.int 0, .int 0, .null, .null]
  | 7 => [.null, .int 0, .int 0]
  | 8 => [.null, .null, .null, .null, .null, .null, .null, .null, .null]
  | 9 => [.int 0, .int 0, .int 0, .int 0, .int 0, .null]
  | 10 => [.null, .int 0, .null, .null, .int 0, .null, .null, .null]
  | _ => [.int 0, .null, .null, .null, .null, .int 0, .null, .int 0, .int 0, .int 0, .int 0, .int 0, .null, .int 0, .null, .null, .int 0, .int 0, .null, .null, .null, .null, .null, .null, .null, .null, .null, .null, .null, .null]
def ri_tyL0 : List FieldType := [.int, .long, .boolean, .byte, .double, .object RX2, .array .double]
def ri_exn0 (x : Nat) : String := match x with
  | 0 => "java/lang/IllegalArgumentException"
  | 1 => "java/lang/UnsupportedOperationException"
  | 2 => "java/lang/IndexOutOfBoundsException"
  | 3 => "java/util/NoSuchElementException"
  | _ => "java/lang/IllegalStateException"
def ri_NW0 : List ri_N := [("StillLoops", 9, ⟨"StillLoops$Reade\x72", "<init>", "()V"⟩, "StillLoops"), ("StillLoops$Bench", 47, ⟨"StillLoops$Loop", "<init>", "()V"⟩, "StillLoops"), ("StillLoops$Loop", 11, ⟨"StillLoops$Plant", "<init>", "()V"⟩, "StillLoops"), ("StillLoops$Loop", 20, ⟨"StillLoops$Valve", "<init>", "()V"⟩, "StillLoops"), ("StillLoops$Loop", 27, ⟨"StillLoops$Law", "<init>", "()V"⟩, "StillLoops"), ("StillLoops$Loop", 34, ⟨"StillLoops$RelayTest", "<init>", "()V"⟩, "StillLoops"), ("StillLoops", 39, ⟨"StillLoops$Twin", "<init>", "()V"⟩, "StillLoops"), ("StillLoops", 46, ⟨"StillLoops$Rounds", "<init>", "()V"⟩, "StillLoops"), ("StillLoops$Loop", 125, ⟨"StillLoops", "within", "(JJJ)J"⟩, "StillLoops"), ("StillLoops$Valve", 28, ⟨"StillLoops", "within", "(JJJ)J"⟩, "StillLoops"), ("StillLoops$Plant", 47, ⟨"StillLoops", "within", "(JJJ)J"⟩, "StillLoops"), ("StillLoops$Twin", 144, ⟨"StillLoops", "bounded", "(DDD)D"⟩, "StillLoops")]
def ri_AO0 : List FieldType := [.object RX2, .array .double]
def ri_exl0 (_ : Nat) : Nat := 2
def ri_CW0 : List ri_C9 := [.inl ("java/lang/IllegalArgumentException", "java/lang/IllegalArgumentException"), .inl ("java/lang/IllegalStateException", "java/lang/IllegalStateException"), .inl ("java/lang/IndexOutOfBoundsException", "java/lang/IndexOutOfBoundsException"), .inl ("java/lang/UnsupportedOperationException", "java/lang/UnsupportedOperationException"), .inl ("java/util/NoSuchElementException", "java/util/NoSuchElementException"), .inr ⟨"java/lang/RuntimeException", "<init>", "()V"⟩, .inr ⟨"java/lang/RuntimeException", "<init>", "(Ljava/lang/String;)V"⟩, .inr ⟨"java/lang/Exception", "<init>", "()V"⟩, .inr ⟨"java/lang/Exception", "<init>", "(Ljava/lang/String;)V"⟩, .inr ⟨"java/lang/Throwable", "<init>", "()V"⟩, .inr ⟨"java/lang/Throwable", "<init>", "(Ljava/lang/String;)V"⟩]
def ri_XT0 : List ri_X := [("StillLoops", 69, 71, 0), ("StillLoops", 75, 77, 1), ("StillLoops", 165, 167, 3), ("StillLoops", 188, 190, 2), ("StillLoops", 259, 261, 4)]
set_option maxRecDepth 100000 in
theorem ri_kx0 : ri_xall ri_CW0 "StillLoops" 69 71 "java/lang/IllegalArgumentException" = true := by decide +kernel
set_option maxRecDepth 100000 in
theorem ri_kx1 : ri_xall ri_CW0 "StillLoops" 75 77 "java/lang/UnsupportedOperationException" = true := by decide +kernel
set_option maxRecDepth 100000 in
theorem ri_kx2 : ri_xall ri_CW0 "StillLoops" 165 167 "java/util/NoSuchElementException" = true := by decide +kernel
set_option maxRecDepth 100000 in
theorem ri_kx3 : ri_xall ri_CW0 "StillLoops" 188 190 "java/lang/IndexOutOfBoundsException" = true := by decide +kernel
set_option maxRecDepth 100000 in
theorem ri_kx4 : ri_xall ri_CW0 "StillLoops" 259 261 "java/lang/IllegalStateException" = true := by decide +kernel
theorem ri_XTok0 : ∀ x ∈ ri_XT0, ri_xfact ri_CW0 ri_exl0 ri_exn0 x := List.forall_mem_cons.mpr ⟨⟨rfl, ri_kx0⟩, List.forall_mem_cons.mpr ⟨⟨rfl, ri_kx1⟩, List.forall_mem_cons.mpr ⟨⟨rfl, ri_kx2⟩, List.forall_mem_cons.mpr ⟨⟨rfl, ri_kx3⟩, List.forall_mem_cons.mpr ⟨⟨rfl, ri_kx4⟩, fun _ h => absurd h List.not_mem_nil⟩⟩⟩⟩⟩
def ri_HL0 : List (String × String × List (Nat × Nat × Nat × Nat)) := [("bench", "(LStillLoops;[J)I", [(0, 8, 11, 13), (0, 8, 14, 15)]), ("loop", "(LStillLoops;II[J)I", [(0, 10, 13, 21), (0, 10, 17, 23)]), ("inne\x72", "(LStillLoops;II[J)I", [(0, 9, 12, 21), (0, 9, 16, 23)]), ("gain", "(LStillLoops;III[J)I", [(0, 12, 15, 21), (0, 12, 19, 23)]), ("weight", "(LStillLoops;II[J)I", [(0, 10, 13, 21), (0, 10, 17, 23)]), ("trip", "(LStillLoops;II[J)I", [(0, 10, 13, 21)]), ("whose", "(LStillLoops;II[J)I", [(0, 10, 13, 21)]), ("flow", "(LStillLoops;II[J)I", [(0, 10, 13, 21), (0, 10, 17, 13)]), ("ticks", "(LStillLoops;I[J)I", [(0, 9, 12, 13)]), ("mode", "(LStillLoops;II[J)I", [(0, 10, 13, 21), (0, 10, 17, 13), (0, 10, 21, 52)]), ("set", "(LStillLoops;II[J)I", [(0, 10, 13, 21), (0, 10, 17, 13), (0, 10, 21, 52)]), ("out", "(LStillLoops;II[J)I", [(0, 10, 13, 21), (0, 10, 17, 13), (0, 10, 21, 52)]), ("gains", "(LStillLoops;IIII[J)I", [(0, 14, 17, 21), (0, 14, 21, 13)]), ("load", "(LStillLoops;II[J)I", [(0, 10, 13, 21), (0, 10, 17, 13)]), ("lose", "(LStillLoops;IZ[J)I", [(0, 17, 20, 21)]), ("relay", "(LStillLoops;III[J)I", [(0, 12, 15, 21), (0, 12, 19, 13), (0, 12, 23, 52)]), ("tune", "(LStillLoops;II[J)I", [(0, 10, 13, 21), (0, 10, 17, 13), (0, 10, 21, 52)]), ("bump", "(LStillLoops;II[J)I", [(0, 10, 13, 21), (0, 10, 17, 13), (0, 10, 21, 52)]), ("sweep", "(LStillLoops;I[J)I", [(0, 9, 12, 21)]), ("starts", "(LStillLoops;II[J)I", [(0, 10, 13, 21), (0, 10, 17, 23)]), ("step", "(LStillLoops;III[J)I", [(0, 12, 15, 21), (0, 12, 19, 23), (0, 12, 23, 13), (0, 12, 27, 52)]), ("twin", "(LStillLoops;I[J)I", [(0, 9, 12, 13), (0, 9, 15, 52)]), ("ahead", "(LStillLoops;IIZ[J)I", [(0, 12, 15, 21), (0, 12, 19, 13)]), ("peak", "(LStillLoops;II[J)I", [(0, 9, 12, 21), (0, 9, 16, 13)]), ("hunts", "(LStillLoops;II[J)I", [(0, 10, 13, 21), (0, 10, 17, 13)]), ("worst", "(LStillLoops;I[J)I", [(0, 9, 12, 13)]), ("which", "(LStillLoops;I[J)I", [(0, 9, 12, 23)]), ("event", "(LStillLoops;II[J)I", [(0, 10, 13, 21), (0, 10, 17, 23)]), ("log", "(LStillLoops;II[J)I", [(0, 10, 13, 23)])]
def ri_hfind (n d : String) : List (String × String × List (Nat × Nat × Nat × Nat)) → List (Nat × Nat × Nat × Nat)
  | [] => []
  | x :: r => bif decide (x.1 = n) && decide (x.2.1 = d) then x.2.2 else ri_hfind n d r
def ri_hh0 (y : MethodName) : List (Nat × Nat × Nat × Nat) := bif decide (y.cls = "StillLoopsLaw") then ri_hfind y.name y.desc ri_HL0 else []
def ri_NC0 : List (String × String) := [("java/lang/IllegalArgumentException", "java/lang/IllegalStateException"), ("java/lang/IllegalArgumentException", "java/lang/IndexOutOfBoundsException"), ("java/lang/IllegalArgumentException", "java/lang/UnsupportedOperationException"), ("java/lang/IllegalArgumentException", "java/util/NoSuchElementException"), ("java/lang/IllegalStateException", "java/lang/IllegalArgumentException"), ("java/lang/IllegalStateException", "java/lang/IndexOutOfBoundsException"), ("java/lang/IllegalStateException", "java/lang/UnsupportedOperationException"), ("java/lang/IllegalStateException", "java/util/NoSuchElementException"), ("java/lang/IndexOutOfBoundsException", "java/lang/IllegalArgumentException"), ("java/lang/IndexOutOfBoundsException", "java/lang/IllegalStateException"), ("java/lang/IndexOutOfBoundsException", "java/lang/UnsupportedOperationException"), ("java/lang/IndexOutOfBoundsException", "java/util/NoSuchElementException"), ("java/lang/UnsupportedOperationException", "java/lang/IllegalArgumentException"), ("java/lang/UnsupportedOperationException", "java/lang/IllegalStateException"), ("java/lang/UnsupportedOperationException", "java/lang/IndexOutOfBoundsException"), ("java/lang/UnsupportedOperationException", "java/util/NoSuchElementException"), ("java/util/NoSuchElementException", "java/lang/IllegalArgumentException"), ("java/util/NoSuchElementException", "java/lang/IllegalStateException"), ("java/util/NoSuchElementException", "java/lang/IndexOutOfBoundsException"), ("java/util/NoSuchElementException", "java/lang/UnsupportedOperationException")]
def ri_CN0 : List (String × Nat × String) := [("StillLoopsLaw", 13, "java/lang/IllegalArgumentException"), ("StillLoopsLaw", 15, "java/lang/UnsupportedOperationException"), ("StillLoopsLaw", 21, "java/lang/IndexOutOfBoundsException"), ("StillLoopsLaw", 23, "java/util/NoSuchElementException"), ("StillLoopsLaw", 52, "java/lang/IllegalStateException")]
set_option maxRecDepth 100000 in
theorem ri_kCN0 : ri_has [927, 928, 1211, 1212, 1342] (ri_CN0.map (fun c => Jvm.Cond.classLink c.1 c.2.1 c.2.2)) = true := by decide +kernel
theorem ri_CNok0 : ∀ c ∈ ri_CN0, Jvm.Cond.classLink c.1 c.2.1 c.2.2 ∈ ri_WG := fun c hc => ri_has_ok ri_kCN0 _ (List.mem_map.mpr ⟨c, hc, rfl⟩)
set_option maxRecDepth 100000 in
theorem ri_kc0 : ri_has [542, 544, 546, 548, 550, 552, 554, 556, 168, 126] (u_ws RX0 TX0 8 ++ [.instantiable RX0 8, .initialized RX0]) = true := by decide +kernel
theorem ri_kp0 : ∀ k, k < 8 → parseFieldDescriptor (TX0 k).2.2.1 = some (ri_ty0 0 k) := by decide +kernel
theorem ri_kn0 : ∀ a, a < 8 → ∀ b, b < 8 → a ≠ b → (TX0 a).2.1 ≠ (TX0 b).2.1 := by decide +kernel
theorem ri_kd0 : ∀ j, j < 8 → (ri_df0 0).getD j .null = defaultValue (ri_ty0 0 j) ∧ ri_ty0 0 j ≠ .float := by decide +kernel
set_option maxRecDepth 100000 in
theorem ri_kc1 : ri_has [348, 350, 352, 354, 356, 358, 360, 362, 364, 366, 302, 131] (u_ws RX1 TX1 10 ++ [.instantiable RX1 10, .initialized RX1]) = true := by decide +kernel
theorem ri_kp1 : ∀ k, k < 10 → parseFieldDescriptor (TX1 k).2.2.1 = some (ri_ty0 1 k) := by decide +kernel
theorem ri_kn1 : ∀ a, a < 10 → ∀ b, b < 10 → a ≠ b → (TX1 a).2.1 ≠ (TX1 b).2.1 := by decide +kernel
theorem ri_kd1 : ∀ j, j < 10 → (ri_df0 1).getD j .null = defaultValue (ri_ty0 1 j) ∧ ri_ty0 1 j ≠ .float := by decide +kernel
set_option maxRecDepth 100000 in
theorem ri_kc2 : ri_has [480, 482, 484, 486, 488, 490, 492, 494, 496, 498, 500, 502, 504, 506, 508, 510, 512, 514, 516, 195, 128] (u_ws RX2 TX2 19 ++ [.instantiable RX2 19, .initialized RX2]) = true := by decide +kernel
theorem ri_kp2 : ∀ k, k < 19 → parseFieldDescriptor (TX2 k).2.2.1 = some (ri_ty0 2 k) := by decide +kernel
theorem ri_kn2 : ∀ a, a < 19 → ∀ b, b < 19 → a ≠ b → (TX2 a).2.1 ≠ (TX2 b).2.1 := by decide +kernel
theorem ri_kd2 : ∀ j, j < 19 → (ri_df0 2).getD j .null = defaultValue (ri_ty0 2 j) ∧ ri_ty0 2 j ≠ .float := by decide +kernel
set_option maxRecDepth 100000 in
theorem ri_kc3 : ri_has [237, 239, 241, 243, 245, 247, 249, 251, 201, 129] (u_ws RX3 TX3 8 ++ [.instantiable RX3 8, .initialized RX3]) = true := by decide +kernel
theorem ri_kp3 : ∀ k, k < 8 → parseFieldDescriptor (TX3 k).2.2.1 = some (ri_ty0 3 k) := by decide +kernel
theorem ri_kn3 : ∀ a, a < 8 → ∀ b, b < 8 → a ≠ b → (TX3 a).2.1 ≠ (TX3 b).2.1 := by decide +kernel
theorem ri_kd3 : ∀ j, j < 8 → (ri_df0 3).getD j .null = defaultValue (ri_ty0 3 j) ∧ ri_ty0 3 j ≠ .float := by decide +kernel
set_option maxRecDepth 100000 in
theorem ri_kc4 : ri_has [568, 570, 572, 574, 576, 578, 580, 162, 125] (u_ws RX4 TX4 7 ++ [.instantiable RX4 7, .initialized RX4]) = true := by decide +kernel
theorem ri_kp4 : ∀ k, k < 7 → parseFieldDescriptor (TX4 k).2.2.1 = some (ri_ty0 4 k) := by decide +kernel
theorem ri_kn4 : ∀ a, a < 7 → ∀ b, b < 7 → a ≠ b → (TX4 a).2.1 ≠ (TX4 b).2.1 := by decide +kernel
theorem ri_kd4 : ∀ j, j < 7 → (ri_df0 4).getD j .null = defaultValue (ri_ty0 4 j) ∧ ri_ty0 4 j ≠ .float := by decide +kernel
set_option maxRecDepth 100000 in
theorem ri_kc5 : ri_has [392, 394, 396, 398, 400, 402, 404, 406, 408, 370, 132] (u_ws RX5 TX5 9 ++ [.instantiable RX5 9, .initialized RX5]) = true := by decide +kernel
theorem ri_kp5 : ∀ k, k < 9 → parseFieldDescriptor (TX5 k).2.2.1 = some (ri_ty0 5 k) := by decide +kernel
theorem ri_kn5 : ∀ a, a < 9 → ∀ b, b < 9 → a ≠ b → (TX5 a).2.1 ≠ (TX5 b).2.1 := by decide +kernel
theorem ri_kd5 : ∀ j, j < 9 → (ri_df0 5).getD j .null = defaultValue (ri_ty0 5 j) ∧ ri_ty0 5 j ≠ .float := by decide +kernel
set_option maxRecDepth 100000 in
theorem ri_kc6 : ri_has [636, 638, 640, 642, 624, 134] (u_ws RX6 TX6 4 ++ [.instantiable RX6 4, .initialized RX6]) = true := by decide +kernel
theorem ri_kp6 : ∀ k, k < 4 → parseFieldDescriptor (TX6 k).2.2.1 = some (ri_ty0 6 k) := by decide +kernel
theorem ri_kn6 : ∀ a, a < 4 → ∀ b, b < 4 → a ≠ b → (TX6 a).2.1 ≠ (TX6 b).2.1 := by decide +kernel
theorem ri_kd6 : ∀ j, j < 4 → (ri_df0 6).getD j .null = defaultValue (ri_ty0 6 j) ∧ ri_ty0 6 j ≠ .float := by decide +kernel
set_option maxRecDepth 100000 in
theorem ri_kc7 : ri_has [187, 189, 191, 176, 127] (u_ws RX7 TX7 3 ++ [.instantiable RX7 3, .initialized RX7]) = true := by decide +kernel
theorem ri_kp7 : ∀ k, k < 3 → parseFieldDescriptor (TX7 k).2.2.1 = some (ri_ty0 7 k) := by decide +kernel
theorem ri_kn7 : ∀ a, a < 3 → ∀ b, b < 3 → a ≠ b → (TX7 a).2.1 ≠ (TX7 b).2.1 := by decide +kernel
theorem ri_kd7 : ∀ j, j < 3 → (ri_df0 7).getD j .null = defaultValue (ri_ty0 7 j) ∧ ri_ty0 7 j ≠ .float := by decide +kernel
set_option maxRecDepth 100000 in
theorem ri_kc8 : ri_has [603, 605, 607, 609, 611, 613, 615, 617, 619, 587, 133] (u_ws RX8 TX8 9 ++ [.instantiable RX8 9, .initialized RX8]) = true := by decide +kernel
theorem ri_kp8 : ∀ k, k < 9 → parseFieldDescriptor (TX8 k).2.2.1 = some (ri_ty0 8 k) := by decide +kernel
theorem ri_kn8 : ∀ a, a < 9 → ∀ b, b < 9 → a ≠ b → (TX8 a).2.1 ≠ (TX8 b).2.1 := by decide +kernel
theorem ri_kd8 : ∀ j, j < 9 → (ri_df0 8).getD j .null = defaultValue (ri_ty0 8 j) ∧ ri_ty0 8 j ≠ .float := by decide +kernel
set_option maxRecDepth 100000 in
theorem ri_kc9 : ri_has [288, 290, 292, 294, 296, 298, 257, 130] (u_ws RX9 TX9 6 ++ [.instantiable RX9 6, .initialized RX9]) = true := by decide +kernel
theorem ri_kp9 : ∀ k, k < 6 → parseFieldDescriptor (TX9 k).2.2.1 = some (ri_ty0 9 k) := by decide +kernel
theorem ri_kn9 : ∀ a, a < 6 → ∀ b, b < 6 → a ≠ b → (TX9 a).2.1 ≠ (TX9 b).2.1 := by decide +kernel
theorem ri_kd9 : ∀ j, j < 6 → (ri_df0 9).getD j .null = defaultValue (ri_ty0 9 j) ∧ ri_ty0 9 j ≠ .float := by decide +kernel
set_option maxRecDepth 100000 in
theorem ri_kc10 : ri_has [653, 655, 657, 659, 661, 663, 665, 667, 154, 124] (u_ws RX10 TX10 8 ++ [.instantiable RX10 8, .initialized RX10]) = true := by decide +kernel
theorem ri_kp10 : ∀ k, k < 8 → parseFieldDescriptor (TX10 k).2.2.1 = some (ri_ty0 10 k) := by decide +kernel
theorem ri_kn10 : ∀ a, a < 8 → ∀ b, b < 8 → a ≠ b → (TX10 a).2.1 ≠ (TX10 b).2.1 := by decide +kernel
theorem ri_kd10 : ∀ j, j < 8 → (ri_df0 10).getD j .null = defaultValue (ri_ty0 10 j) ∧ ri_ty0 10 j ≠ .float := by decide +kernel
set_option maxRecDepth 100000 in
theorem ri_kc11 : ri_has [1632, 1634, 1636, 1638, 1640, 1642, 1644, 1646, 1648, 1650, 1652, 1654, 1656, 1658, 1660, 1662, 1664, 1666, 1668, 1670, 1672, 1674, 1676, 1678, 1680, 1682, 1684, 1686, 1688, 1690, 1596, 135] (u_ws RX11 TX11 30 ++ [.instantiable RX11 30, .initialized RX11]) = true := by decide +kernel
theorem ri_kp11 : ∀ k, k < 30 → parseFieldDescriptor (TX11 k).2.2.1 = some (ri_ty0 11 k) := by decide +kernel
theorem ri_kn11 : ∀ a, a < 30 → ∀ b, b < 30 → a ≠ b → (TX11 a).2.1 ≠ (TX11 b).2.1 := by decide +kernel
theorem ri_kd11 : ∀ j, j < 30 → (ri_df0 11).getD j .null = defaultValue (ri_ty0 11 j) ∧ ri_ty0 11 j ≠ .float := by decide +kernel
theorem ri_clok0 : ri_clok ri_WG ri_cl0 ri_ty0 := by
  intro ci r h
  match ci, h with
  | 0, h => cases h; exact ⟨fun w hw => ri_has_ok ri_kc0 w (List.mem_append_left _ hw), ri_kp0, ri_kn0, ri_has_ok ri_kc0 _ (List.mem_append_right _ List.mem_cons_self), ri_has_ok ri_kc0 _ (List.mem_append_right _ (List.mem_cons_of_mem _ List.mem_cons_self))⟩
  | 1, h => cases h; exact ⟨fun w hw => ri_has_ok ri_kc1 w (List.mem_append_left _ hw), ri_kp1, ri_kn1, ri_has_ok ri_kc1 _ (List.mem_append_right _ List.mem_cons_self), ri_has_ok ri_kc1 _ (List.mem_append_right _ (List.mem_cons_of_mem _ List.mem_cons_self))⟩
  | 2, h => cases h; exact ⟨fun w hw => ri_has_ok ri_kc2 w (List.mem_append_left _ hw), ri_kp2, ri_kn2, ri_has_ok ri_kc2 _ (List.mem_append_right _ List.mem_cons_self), ri_has_ok ri_kc2 _ (List.mem_append_right _ (List.mem_cons_of_mem _ List.mem_cons_self))⟩
  | 3, h => cases h; exact ⟨fun w hw => ri_has_ok ri_kc3 w (List.mem_append_left _ hw), ri_kp3, ri_kn3, ri_has_ok ri_kc3 _ (List.mem_append_right _ List.mem_cons_self), ri_has_ok ri_kc3 _ (List.mem_append_right _ (List.mem_cons_of_mem _ List.mem_cons_self))⟩
  | 4, h => cases h; exact ⟨fun w hw => ri_has_ok ri_kc4 w (List.mem_append_left _ hw), ri_kp4, ri_kn4, ri_has_ok ri_kc4 _ (List.mem_append_right _ List.mem_cons_self), ri_has_ok ri_kc4 _ (List.mem_append_right _ (List.mem_cons_of_mem _ List.mem_cons_self))⟩
  | 5, h => cases h; exact ⟨fun w hw => ri_has_ok ri_kc5 w (List.mem_append_left _ hw), ri_kp5, ri_kn5, ri_has_ok ri_kc5 _ (List.mem_append_right _ List.mem_cons_self), ri_has_ok ri_kc5 _ (List.mem_append_right _ (List.mem_cons_of_mem _ List.mem_cons_self))⟩
  | 6, h => cases h; exact ⟨fun w hw => ri_has_ok ri_kc6 w (List.mem_append_left _ hw), ri_kp6, ri_kn6, ri_has_ok ri_kc6 _ (List.mem_append_right _ List.mem_cons_self), ri_has_ok ri_kc6 _ (List.mem_append_right _ (List.mem_cons_of_mem _ List.mem_cons_self))⟩
  | 7, h => cases h; exact ⟨fun w hw => ri_has_ok ri_kc7 w (List.mem_append_left _ hw), ri_kp7, ri_kn7, ri_has_ok ri_kc7 _ (List.mem_append_right _ List.mem_cons_self), ri_has_ok ri_kc7 _ (List.mem_append_right _ (List.mem_cons_of_mem _ List.mem_cons_self))⟩
  | 8, h => cases h; exact ⟨fun w hw => ri_has_ok ri_kc8 w (List.mem_append_left _ hw), ri_kp8, ri_kn8, ri_has_ok ri_kc8 _ (List.mem_append_right _ List.mem_cons_self), ri_has_ok ri_kc8 _ (List.mem_append_right _ (List.mem_cons_of_mem _ List.mem_cons_self))⟩
  | 9, h => cases h; exact ⟨fun w hw => ri_has_ok ri_kc9 w (List.mem_append_left _ hw), ri_kp9, ri_kn9, ri_has_ok ri_kc9 _ (List.mem_append_right _ List.mem_cons_self), ri_has_ok ri_kc9 _ (List.mem_append_right _ (List.mem_cons_of_mem _ List.mem_cons_self))⟩
  | 10, h => cases h; exact ⟨fun w hw => ri_has_ok ri_kc10 w (List.mem_append_left _ hw), ri_kp10, ri_kn10, ri_has_ok ri_kc10 _ (List.mem_append_right _ List.mem_cons_self), ri_has_ok ri_kc10 _ (List.mem_append_right _ (List.mem_cons_of_mem _ List.mem_cons_self))⟩
  | 11, h => cases h; exact ⟨fun w hw => ri_has_ok ri_kc11 w (List.mem_append_left _ hw), ri_kp11, ri_kn11, ri_has_ok ri_kc11 _ (List.mem_append_right _ List.mem_cons_self), ri_has_ok ri_kc11 _ (List.mem_append_right _ (List.mem_cons_of_mem _ List.mem_cons_self))⟩
  | n + 12, h => cases h
theorem ri_dfok0 : ∀ (ci : Nat) (r : vw_C), ri_cl0[ci]? = some r → ∀ j, j < r.2.2 → (ri_df0 ci).getD j .null = defaultValue (ri_ty0 ci j) ∧ ri_ty0 ci j ≠ .float := by
  intro ci r h
  match ci, h with
  | 0, h => cases h; exact ri_kd0
  | 1, h => cases h; exact ri_kd1
  | 2, h => cases h; exact ri_kd2
  | 3, h => cases h; exact ri_kd3
  | 4, h => cases h; exact ri_kd4
  | 5, h => cases h; exact ri_kd5
  | 6, h => cases h; exact ri_kd6
  | 7, h => cases h; exact ri_kd7
  | 8, h => cases h; exact ri_kd8
  | 9, h => cases h; exact ri_kd9
  | 10, h => cases h; exact ri_kd10
  | 11, h => cases h; exact ri_kd11
  | n + 12, h => cases h
