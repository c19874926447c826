/-! fields of the classes -/
def TX0 : u_T := fun k => match k with
  | 0 => ("Ballothall$BallotBox", "sign", "[I", true)
  | 1 => ("Ballothall$BallotBox", "signs", "I", false)
  | 2 => ("Ballothall$BallotBox", "candidates", "I", false)
  | 3 => ("Ballothall$BallotBox", "kinds", "I", false)
  | 4 => ("Ballothall$BallotBox", "lot", "[I", true)
  | 5 => ("Ballothall$BallotBox", "count", "[I", true)
  | 6 => ("Ballothall$BallotBox", "approved", "[I", true)
  | 7 => ("Ballothall$BallotBox", "groups", "[I", true)
  | 8 => ("Ballothall$BallotBox", "group", "[[I", true)
  | _ => ("Ballothall$BallotBox", "support", "[I", true)
def tyX0 : Nat → FieldType := fun k => match k with
  | 0 => .array .int
  | 1 => .int
  | 2 => .int
  | 3 => .int
  | 4 => .array .int
  | 5 => .array .int
  | 6 => .array .int
  | 7 => .array .int
  | 8 => .array (.array .int)
  | _ => .array .int
theorem nmX0 : ∀ a, a < 10 → ∀ b, b < 10 → a ≠ b → (TX0 a).2.1 ≠ (TX0 b).2.1 := by decide +kernel
theorem tyX0_ok : ∀ k, k < 10 → parseFieldDescriptor (TX0 k).2.2.1 = some (tyX0 k) := by decide +kernel
def TX1 : u_T := fun k => match k with
  | 0 => ("Ballothall$Council", "size", "I", false)
  | 1 => ("Ballothall$Council", "quota", "I", false)
  | 2 => ("Ballothall$Council", "weight", "[I", true)
  | _ => ("Ballothall$Council", "sum", "[I", true)
def tyX1 : Nat → FieldType := fun k => match k with
  | 0 => .int
  | 1 => .int
  | 2 => .array .int
  | _ => .array .int
theorem nmX1 : ∀ a, a < 4 → ∀ b, b < 4 → a ≠ b → (TX1 a).2.1 ≠ (TX1 b).2.1 := by decide +kernel
theorem tyX1_ok : ∀ k, k < 4 → parseFieldDescriptor (TX1 k).2.2.1 = some (tyX1 k) := by decide +kernel
def TX2 : u_T := fun k => match k with
  | 0 => ("Ballothall$Count", "quota", "I", false)
  | 1 => ("Ballothall$Count", "candidates", "I", false)
  | 2 => ("Ballothall$Count", "kinds", "I", false)
  | 3 => ("Ballothall$Count", "ballots", "I", false)
  | 4 => ("Ballothall$Count", "elections", "I", false)
  | 5 => ("Ballothall$Count", "exclusions", "I", false)
  | 6 => ("Ballothall$Count", "ballotsOfKind", "[I", true)
  | 7 => ("Ballothall$Count", "elected", "[I", true)
  | 8 => ("Ballothall$Count", "excluded", "[I", true)
  | _ => ("Ballothall$Count", "limb", "[I", true)
def tyX2 : Nat → FieldType := fun k => match k with
  | 0 => .int
  | 1 => .int
  | 2 => .int
  | 3 => .int
  | 4 => .int
  | 5 => .int
  | 6 => .array .int
  | 7 => .array .int
  | 8 => .array .int
  | _ => .array .int
theorem nmX2 : ∀ a, a < 10 → ∀ b, b < 10 → a ≠ b → (TX2 a).2.1 ≠ (TX2 b).2.1 := by decide +kernel
theorem tyX2_ok : ∀ k, k < 10 → parseFieldDescriptor (TX2 k).2.2.1 = some (tyX2 k) := by decide +kernel
def TX3 : u_T := fun k => match k with
  | 0 => ("Ballothall$Counting", "box", "LBallothall$BallotBox;", true)
  | 1 => ("Ballothall$Counting", "kept", "[LBallothall$Count;", true)
  | 2 => ("Ballothall$Counting", "newest", "I", false)
  | 3 => ("Ballothall$Counting", "hopeful", "I", false)
  | 4 => ("Ballothall$Counting", "weight", "[LBallothall$Natural;", true)
  | 5 => ("Ballothall$Counting", "pile", "[LBallothall$Natural;", true)
  | 6 => ("Ballothall$Counting", "common", "LBallothall$Natural;", true)
  | 7 => ("Ballothall$Counting", "amount", "LBallothall$Natural;", true)
  | 8 => ("Ballothall$Counting", "held", "LBallothall$Natural;", true)
  | 9 => ("Ballothall$Counting", "numerator", "LBallothall$Natural;", true)
  | 10 => ("Ballothall$Counting", "denominator", "LBallothall$Natural;", true)
  | 11 => ("Ballothall$Counting", "greater", "LBallothall$Natural;", true)
  | 12 => ("Ballothall$Counting", "smaller", "LBallothall$Natural;", true)
  | 13 => ("Ballothall$Counting", "quotient", "LBallothall$Natural;", true)
  | _ => ("Ballothall$Counting", "scratch", "LBallothall$Natural;", true)
def tyX3 : Nat → FieldType := fun k => match k with
  | 0 => .object "Ballothall$BallotBox"
  | 1 => .array (.object "Ballothall$Count")
  | 2 => .int
  | 3 => .int
  | 4 => .array (.object "Ballothall$Natural")
  | 5 => .array (.object "Ballothall$Natural")
  | 6 => .object "Ballothall$Natural"
  | 7 => .object "Ballothall$Natural"
  | 8 => .object "Ballothall$Natural"
  | 9 => .object "Ballothall$Natural"
  | 10 => .object "Ballothall$Natural"
  | 11 => .object "Ballothall$Natural"
  | 12 => .object "Ballothall$Natural"
  | 13 => .object "Ballothall$Natural"
  | _ => .object "Ballothall$Natural"
theorem nmX3 : ∀ a, a < 15 → ∀ b, b < 15 → a ≠ b → (TX3 a).2.1 ≠ (TX3 b).2.1 := by decide +kernel
theorem tyX3_ok : ∀ k, k < 15 → parseFieldDescriptor (TX3 k).2.2.1 = some (tyX3 k) := by decide +kernel
def TX4 : u_T := fun k => match k with
  | 0 => ("Ballothall$Division", "parties", "I", false)
  | 1 => ("Ballothall$Division", "given", "I", false)
  | 2 => ("Ballothall$Division", "number", "[I", true)
  | 3 => ("Ballothall$Division", "votes", "[J", true)
  | 4 => ("Ballothall$Division", "lot", "[I", true)
  | 5 => ("Ballothall$Division", "seats", "[I", true)
  | 6 => ("Ballothall$Division", "remainder", "[J", true)
  | _ => ("Ballothall$Division", "order", "[I", true)
def tyX4 : Nat → FieldType := fun k => match k with
  | 0 => .int
  | 1 => .int
  | 2 => .array .int
  | 3 => .array .long
  | 4 => .array .int
  | 5 => .array .int
  | 6 => .array .long
  | _ => .array .int
theorem nmX4 : ∀ a, a < 8 → ∀ b, b < 8 → a ≠ b → (TX4 a).2.1 ≠ (TX4 b).2.1 := by decide +kernel
theorem tyX4_ok : ∀ k, k < 8 → parseFieldDescriptor (TX4 k).2.2.1 = some (tyX4 k) := by decide +kernel
def TX5 : u_T := fun k => match k with
  | 0 => ("Ballothall$FalseBallot", "box", "LBallothall$BallotBox;", true)
  | 1 => ("Ballothall$FalseBallot", "poll", "LBallothall$Poll;", true)
  | _ => ("Ballothall$FalseBallot", "order", "[I", true)
def tyX5 : Nat → FieldType := fun k => match k with
  | 0 => .object "Ballothall$BallotBox"
  | 1 => .object "Ballothall$Poll"
  | _ => .array .int
theorem nmX5 : ∀ a, a < 3 → ∀ b, b < 3 → a ≠ b → (TX5 a).2.1 ≠ (TX5 b).2.1 := by decide +kernel
theorem tyX5_ok : ∀ k, k < 3 → parseFieldDescriptor (TX5 k).2.2.1 = some (tyX5 k) := by decide +kernel
def TX6 : u_T := fun k => match k with
  | 0 => ("Ballothall$KeptSeats", "given", "I", false)
  | 1 => ("Ballothall$KeptSeats", "isAllied", "Z", false)
  | 2 => ("Ballothall$KeptSeats", "lists", "I", false)
  | 3 => ("Ballothall$KeptSeats", "order", "[I", true)
  | 4 => ("Ballothall$KeptSeats", "got", "[I", true)
  | 5 => ("Ballothall$KeptSeats", "votes", "[I", true)
  | _ => ("Ballothall$KeptSeats", "alliance", "[I", true)
def tyX6 : Nat → FieldType := fun k => match k with
  | 0 => .int
  | 1 => .boolean
  | 2 => .int
  | 3 => .array .int
  | 4 => .array .int
  | 5 => .array .int
  | _ => .array .int
theorem nmX6 : ∀ a, a < 7 → ∀ b, b < 7 → a ≠ b → (TX6 a).2.1 ≠ (TX6 b).2.1 := by decide +kernel
theorem tyX6_ok : ∀ k, k < 7 → parseFieldDescriptor (TX6 k).2.2.1 = some (tyX6 k) := by decide +kernel
def TX7 : u_T := fun k => match k with
  | 0 => ("Ballothall$Lists", "size", "I", false)
  | 1 => ("Ballothall$Lists", "votes", "[I", true)
  | 2 => ("Ballothall$Lists", "alliance", "[I", true)
  | 3 => ("Ballothall$Lists", "lot", "[I", true)
  | 4 => ("Ballothall$Lists", "units", "LBallothall$Division;", true)
  | 5 => ("Ballothall$Lists", "inside", "LBallothall$Division;", true)
  | 6 => ("Ballothall$Lists", "isAllied", "Z", false)
  | 7 => ("Ballothall$Lists", "got", "[I", true)
  | 8 => ("Ballothall$Lists", "gotBefore", "[I", true)
  | 9 => ("Ballothall$Lists", "kept", "[LBallothall$KeptSeats;", true)
  | _ => ("Ballothall$Lists", "newest", "I", false)
def tyX7 : Nat → FieldType := fun k => match k with
  | 0 => .int
  | 1 => .array .int
  | 2 => .array .int
  | 3 => .array .int
  | 4 => .object "Ballothall$Division"
  | 5 => .object "Ballothall$Division"
  | 6 => .boolean
  | 7 => .array .int
  | 8 => .array .int
  | 9 => .array (.object "Ballothall$KeptSeats")
  | _ => .int
theorem nmX7 : ∀ a, a < 11 → ∀ b, b < 11 → a ≠ b → (TX7 a).2.1 ≠ (TX7 b).2.1 := by decide +kernel
theorem tyX7_ok : ∀ k, k < 11 → parseFieldDescriptor (TX7 k).2.2.1 = some (tyX7 k) := by decide +kernel
def TX8 : u_T := fun k => match k with
  | 0 => ("Ballothall$Natural", "limb", "[I", true)
  | _ => ("Ballothall$Natural", "size", "I", false)
def tyX8 : Nat → FieldType := fun k => match k with
  | 0 => .array .int
  | _ => .int
theorem nmX8 : ∀ a, a < 2 → ∀ b, b < 2 → a ≠ b → (TX8 a).2.1 ≠ (TX8 b).2.1 := by decide +kernel
theorem tyX8_ok : ∀ k, k < 2 → parseFieldDescriptor (TX8 k).2.2.1 = some (tyX8 k) := by decide +kernel
def TX9 : u_T := fun k => match k with
  | 0 => ("Ballothall$Poll", "box", "LBallothall$BallotBox;", true)
  | 1 => ("Ballothall$Poll", "present", "I", false)
  | 2 => ("Ballothall$Poll", "ballots", "I", false)
  | 3 => ("Ballothall$Poll", "weight", "[I", true)
  | 4 => ("Ballothall$Poll", "firsts", "[I", true)
  | 5 => ("Ballothall$Poll", "approvals", "[I", true)
  | 6 => ("Ballothall$Poll", "pairs", "[I", true)
  | 7 => ("Ballothall$Poll", "beaten", "[I", true)
  | 8 => ("Ballothall$Poll", "paths", "[I", true)
  | 9 => ("Ballothall$Poll", "score", "[J", true)
  | 10 => ("Ballothall$Poll", "order", "[I", true)
  | _ => ("Ballothall$Poll", "distance", "[J", true)
def tyX9 : Nat → FieldType := fun k => match k with
  | 0 => .object "Ballothall$BallotBox"
  | 1 => .int
  | 2 => .int
  | 3 => .array .int
  | 4 => .array .int
  | 5 => .array .int
  | 6 => .array .int
  | 7 => .array .int
  | 8 => .array .int
  | 9 => .array .long
  | 10 => .array .int
  | _ => .array .long
theorem nmX9 : ∀ a, a < 12 → ∀ b, b < 12 → a ≠ b → (TX9 a).2.1 ≠ (TX9 b).2.1 := by decide +kernel
theorem tyX9_ok : ∀ k, k < 12 → parseFieldDescriptor (TX9 k).2.2.1 = some (tyX9 k) := by decide +kernel
def TX10 : u_T := fun k => match k with
  | 0 => ("Ballothall$Wards", "size", "I", false)
  | 1 => ("Ballothall$Wards", "heads", "[I", true)
  | 2 => ("Ballothall$Wards", "votes", "[[I", true)
  | 3 => ("Ballothall$Wards", "greatest", "[[I", true)
  | _ => ("Ballothall$Wards", "end", "[I", true)
def tyX10 : Nat → FieldType := fun k => match k with
  | 0 => .int
  | 1 => .array .int
  | 2 => .array (.array .int)
  | 3 => .array (.array .int)
  | _ => .array .int
theorem nmX10 : ∀ a, a < 5 → ∀ b, b < 5 → a ≠ b → (TX10 a).2.1 ≠ (TX10 b).2.1 := by decide +kernel
theorem tyX10_ok : ∀ k, k < 5 → parseFieldDescriptor (TX10 k).2.2.1 = some (tyX10 k) := by decide +kernel
def TX11 : u_T := fun k => match k with
  | 0 => ("Ballothall", "box", "LBallothall$BallotBox;", true)
  | 1 => ("Ballothall", "poll", "LBallothall$Poll;", true)
  | 2 => ("Ballothall", "falseBallot", "LBallothall$FalseBallot;", true)
  | 3 => ("Ballothall", "lists", "LBallothall$Lists;", true)
  | 4 => ("Ballothall", "counting", "LBallothall$Counting;", true)
  | 5 => ("Ballothall", "wards", "LBallothall$Wards;", true)
  | 6 => ("Ballothall", "council", "LBallothall$Council;", true)
  | 7 => ("Ballothall", "changeWhat", "[I", true)
  | 8 => ("Ballothall", "changeWhere", "[I", true)
  | 9 => ("Ballothall", "changeBefore", "[I", true)
  | 10 => ("Ballothall", "newestChange", "I", false)
  | 11 => ("Ballothall", "changes", "I", false)
  | 12 => ("Ballothall", "output", "[I", true)
  | _ => ("Ballothall", "outputLength", "I", false)
def tyX11 : Nat → FieldType := fun k => match k with
  | 0 => .object "Ballothall$BallotBox"
  | 1 => .object "Ballothall$Poll"
  | 2 => .object "Ballothall$FalseBallot"
  | 3 => .object "Ballothall$Lists"
  | 4 => .object "Ballothall$Counting"
  | 5 => .object "Ballothall$Wards"
  | 6 => .object "Ballothall$Council"
  | 7 => .array .int
  | 8 => .array .int
  | 9 => .array .int
  | 10 => .int
  | 11 => .int
  | 12 => .array .int
  | _ => .int
theorem nmX11 : ∀ a, a < 14 → ∀ b, b < 14 → a ≠ b → (TX11 a).2.1 ≠ (TX11 b).2.1 := by decide +kernel
theorem tyX11_ok : ∀ k, k < 14 → parseFieldDescriptor (TX11 k).2.2.1 = some (tyX11 k) := by decide +kernel
def TX12 : u_T := fun k => match k with
  | 0 => ("BallothallLaw$Box", "n", "I", true)
  | 1 => ("BallothallLaw$Box", "ranks", "[[I", true)
  | 2 => ("BallothallLaw$Box", "many", "[I", true)
  | _ => ("BallothallLaw$Box", "kinds", "I", false)
def tyX12 : Nat → FieldType := fun k => match k with
  | 0 => .int
  | 1 => .array (.array .int)
  | 2 => .array .int
  | _ => .int
theorem nmX12 : ∀ a, a < 4 → ∀ b, b < 4 → a ≠ b → (TX12 a).2.1 ≠ (TX12 b).2.1 := by decide +kernel
theorem tyX12_ok : ∀ k, k < 4 → parseFieldDescriptor (TX12 k).2.2.1 = some (tyX12 k) := by decide +kernel
def TX13 : u_T := fun k => match k with
  | 0 => ("java/lang/String", "value", "[B", true)
  | 1 => ("java/lang/String", "coder", "B", true)
  | 2 => ("java/lang/String", "hash", "I", false)
  | _ => ("java/lang/String", "hashIsZero", "Z", false)
def tyX13 : Nat → FieldType := fun k => match k with
  | 0 => .array .byte
  | 1 => .byte
  | 2 => .int
  | _ => .boolean
theorem nmX13 : ∀ a, a < 4 → ∀ b, b < 4 → a ≠ b → (TX13 a).2.1 ≠ (TX13 b).2.1 := by decide +kernel
theorem tyX13_ok : ∀ k, k < 4 → parseFieldDescriptor (TX13 k).2.2.1 = some (tyX13 k) := by decide +kernel
def TX14 : u_T := fun k => match k with
  | 0 => ("java/lang/AbstractStringBuilder", "value", "[B", false)
  | 1 => ("java/lang/AbstractStringBuilder", "coder", "B", false)
  | 2 => ("java/lang/AbstractStringBuilder", "maybeLatin1", "Z", false)
  | _ => ("java/lang/AbstractStringBuilder", "count", "I", false)
def tyX14 : Nat → FieldType := fun k => match k with
  | 0 => .array .byte
  | 1 => .byte
  | 2 => .boolean
  | _ => .int
theorem nmX14 : ∀ a, a < 4 → ∀ b, b < 4 → a ≠ b → (TX14 a).2.1 ≠ (TX14 b).2.1 := by decide +kernel
theorem tyX14_ok : ∀ k, k < 4 → parseFieldDescriptor (TX14 k).2.2.1 = some (tyX14 k) := by decide +kernel
abbrev classes : List vw_C := [("Ballothall$BallotBox", TX0, 10), ("Ballothall$Council", TX1, 4), ("Ballothall$Count", TX2, 10), ("Ballothall$Counting", TX3, 15), ("Ballothall$Division", TX4, 8), ("Ballothall$FalseBallot", TX5, 3), ("Ballothall$KeptSeats", TX6, 7), ("Ballothall$Lists", TX7, 11), ("Ballothall$Natural", TX8, 2), ("Ballothall$Poll", TX9, 12), ("Ballothall$Wards", TX10, 5), ("Ballothall", TX11, 14), ("BallothallLaw$Box", TX12, 4), ("java/lang/String", TX13, 4), ("java/lang/StringBuilder", TX14, 4)]
