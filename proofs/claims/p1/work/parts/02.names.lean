/-! names and fields of the classes (of the kit's printed names) -/
def RX0 : String := "BoxballHall$Carrier"
def TX0 : u_T := fun k => match k with
  | 0 => ("BoxballHall$Carrier", "left", "[I", true)
  | _ => ("BoxballHall$Carrier", "most", "I", false)
def tyX0 : Nat → FieldType := fun k => match k with
  | 0 => .array .int
  | _ => .int
theorem nmX0 : ∀ a, a < 2 → ∀ b, b < 2 → a ≠ b → (TX0 a).2.1 ≠ (TX0 b).2.1 := by decide +kernel
theorem tyX0_ok : ∀ k, k < 2 → parseFieldDescriptor (TX0 k).2.2.1 = some (tyX0 k) := by decide +kernel
def RX1 : String := "BoxballHall$ChosenWaves"
def TX1 : u_T := fun k => match k with
  | 0 => ("BoxballHall$ChosenWaves", "sizes", "[I", true)
  | 1 => ("BoxballHall$ChosenWaves", "phases", "[I", true)
  | _ => ("BoxballHall$ChosenWaves", "count", "I", false)
def tyX1 : Nat → FieldType := fun k => match k with
  | 0 => .array .int
  | 1 => .array .int
  | _ => .int
theorem nmX1 : ∀ a, a < 3 → ∀ b, b < 3 → a ≠ b → (TX1 a).2.1 ≠ (TX1 b).2.1 := by decide +kernel
theorem tyX1_ok : ∀ k, k < 3 → parseFieldDescriptor (TX1 k).2.2.1 = some (tyX1 k) := by decide +kernel
def RX2 : String := "BoxballHall$NumberSet"
def TX2 : u_T := fun k => match k with
  | _ => ("BoxballHall$NumberSet", "words", "[J", true)
def tyX2 : Nat → FieldType := fun k => match k with
  | _ => .array .long
theorem nmX2 : ∀ a, a < 1 → ∀ b, b < 1 → a ≠ b → (TX2 a).2.1 ≠ (TX2 b).2.1 := by decide +kernel
theorem tyX2_ok : ∀ k, k < 1 → parseFieldDescriptor (TX2 k).2.2.1 = some (tyX2 k) := by decide +kernel
def RX3 : String := "BoxballHall$Pairs"
def TX3 : u_T := fun k => match k with
  | 0 => ("BoxballHall$Pairs", "standing", "[I", true)
  | 1 => ("BoxballHall$Pairs", "removed", "[I", true)
  | _ => ("BoxballHall$Pairs", "rounds", "I", false)
def tyX3 : Nat → FieldType := fun k => match k with
  | 0 => .array .int
  | 1 => .array .int
  | _ => .int
theorem nmX3 : ∀ a, a < 3 → ∀ b, b < 3 → a ≠ b → (TX3 a).2.1 ≠ (TX3 b).2.1 := by decide +kernel
theorem tyX3_ok : ∀ k, k < 3 → parseFieldDescriptor (TX3 k).2.2.1 = some (tyX3 k) := by decide +kernel
def RX4 : String := "BoxballHall$Past"
def TX4 : u_T := fun k => match k with
  | 0 => ("BoxballHall$Past", "capacities", "[[I", true)
  | 1 => ("BoxballHall$Past", "balls", "[[I", true)
  | 2 => ("BoxballHall$Past", "kept", "I", false)
  | _ => ("BoxballHall$Past", "next", "I", false)
def tyX4 : Nat → FieldType := fun k => match k with
  | 0 => .array (.array .int)
  | 1 => .array (.array .int)
  | 2 => .int
  | _ => .int
theorem nmX4 : ∀ a, a < 4 → ∀ b, b < 4 → a ≠ b → (TX4 a).2.1 ≠ (TX4 b).2.1 := by decide +kernel
theorem tyX4_ok : ∀ k, k < 4 → parseFieldDescriptor (TX4 k).2.2.1 = some (tyX4 k) := by decide +kernel
def RX5 : String := "BoxballHall$Queues"
def TX5 : u_T := fun k => match k with
  | 0 => ("BoxballHall$Queues", "times", "[[I", true)
  | _ => ("BoxballHall$Queues", "ways", "[I", true)
def tyX5 : Nat → FieldType := fun k => match k with
  | 0 => .array (.array .int)
  | _ => .array .int
theorem nmX5 : ∀ a, a < 2 → ∀ b, b < 2 → a ≠ b → (TX5 a).2.1 ≠ (TX5 b).2.1 := by decide +kernel
theorem tyX5_ok : ∀ k, k < 2 → parseFieldDescriptor (TX5 k).2.2.1 = some (tyX5 k) := by decide +kernel
def RX6 : String := "BoxballHall$Row"
def TX6 : u_T := fun k => match k with
  | 0 => ("BoxballHall$Row", "capacities", "[I", true)
  | 1 => ("BoxballHall$Row", "balls", "[I", true)
  | 2 => ("BoxballHall$Row", "boxes", "I", false)
  | _ => ("BoxballHall$Row", "isRing", "Z", false)
def tyX6 : Nat → FieldType := fun k => match k with
  | 0 => .array .int
  | 1 => .array .int
  | 2 => .int
  | _ => .boolean
theorem nmX6 : ∀ a, a < 4 → ∀ b, b < 4 → a ≠ b → (TX6 a).2.1 ≠ (TX6 b).2.1 := by decide +kernel
theorem tyX6_ok : ∀ k, k < 4 → parseFieldDescriptor (TX6 k).2.2.1 = some (tyX6 k) := by decide +kernel
def RX7 : String := "BoxballHall$Runs"
def TX7 : u_T := fun k => match k with
  | 0 => ("BoxballHall$Runs", "places", "[I", true)
  | 1 => ("BoxballHall$Runs", "nextPlaces", "[I", true)
  | 2 => ("BoxballHall$Runs", "balls", "I", false)
  | _ => ("BoxballHall$Runs", "laid", "I", false)
def tyX7 : Nat → FieldType := fun k => match k with
  | 0 => .array .int
  | 1 => .array .int
  | 2 => .int
  | _ => .int
theorem nmX7 : ∀ a, a < 4 → ∀ b, b < 4 → a ≠ b → (TX7 a).2.1 ≠ (TX7 b).2.1 := by decide +kernel
theorem tyX7_ok : ∀ k, k < 4 → parseFieldDescriptor (TX7 k).2.2.1 = some (tyX7 k) := by decide +kernel
def RX8 : String := "BoxballHall$ThreePieces"
def TX8 : u_T := fun k => match k with
  | 0 => ("BoxballHall$ThreePieces", "capacities", "[I", true)
  | _ => ("BoxballHall$ThreePieces", "balls", "[I", true)
def tyX8 : Nat → FieldType := fun k => match k with
  | 0 => .array .int
  | _ => .array .int
theorem nmX8 : ∀ a, a < 2 → ∀ b, b < 2 → a ≠ b → (TX8 a).2.1 ≠ (TX8 b).2.1 := by decide +kernel
theorem tyX8_ok : ∀ k, k < 2 → parseFieldDescriptor (TX8 k).2.2.1 = some (tyX8 k) := by decide +kernel
def RX9 : String := "BoxballHall$TypedSizes"
def TX9 : u_T := fun k => match k with
  | 0 => ("BoxballHall$TypedSizes", "sizes", "[I", true)
  | _ => ("BoxballHall$TypedSizes", "count", "I", false)
def tyX9 : Nat → FieldType := fun k => match k with
  | 0 => .array .int
  | _ => .int
theorem nmX9 : ∀ a, a < 2 → ∀ b, b < 2 → a ≠ b → (TX9 a).2.1 ≠ (TX9 b).2.1 := by decide +kernel
theorem tyX9_ok : ∀ k, k < 2 → parseFieldDescriptor (TX9 k).2.2.1 = some (tyX9 k) := by decide +kernel
def RX10 : String := "BoxballHall"
def TX10 : u_T := fun k => match k with
  | 0 => ("BoxballHall", "row", "LBoxballHall$Row;", true)
  | 1 => ("BoxballHall", "past", "LBoxballHall$Past;", true)
  | 2 => ("BoxballHall", "carrier", "LBoxballHall$Carrier;", true)
  | 3 => ("BoxballHall", "pairs", "LBoxballHall$Pairs;", true)
  | 4 => ("BoxballHall", "runs", "LBoxballHall$Runs;", true)
  | 5 => ("BoxballHall", "pieces", "LBoxballHall$ThreePieces;", true)
  | 6 => ("BoxballHall", "chosen", "LBoxballHall$ChosenWaves;", true)
  | 7 => ("BoxballHall", "typed", "LBoxballHall$TypedSizes;", true)
  | 8 => ("BoxballHall", "images", "LBoxballHall$NumberSet;", true)
  | 9 => ("BoxballHall", "queues", "LBoxballHall$Queues;", true)
  | 10 => ("BoxballHall", "thought", "LBoxballHall$Row;", true)
  | _ => ("BoxballHall", "otherThought", "LBoxballHall$Row;", true)
def tyX10 : Nat → FieldType := fun k => match k with
  | 0 => .object "BoxballHall$Row"
  | 1 => .object "BoxballHall$Past"
  | 2 => .object "BoxballHall$Carrier"
  | 3 => .object "BoxballHall$Pairs"
  | 4 => .object "BoxballHall$Runs"
  | 5 => .object "BoxballHall$ThreePieces"
  | 6 => .object "BoxballHall$ChosenWaves"
  | 7 => .object "BoxballHall$TypedSizes"
  | 8 => .object "BoxballHall$NumberSet"
  | 9 => .object "BoxballHall$Queues"
  | 10 => .object "BoxballHall$Row"
  | _ => .object "BoxballHall$Row"
theorem nmX10 : ∀ a, a < 12 → ∀ b, b < 12 → a ≠ b → (TX10 a).2.1 ≠ (TX10 b).2.1 := by decide +kernel
theorem tyX10_ok : ∀ k, k < 12 → parseFieldDescriptor (TX10 k).2.2.1 = some (tyX10 k) := by decide +kernel
def RX11 : String := "BoxballHallModel"
def TX11 : u_T := fun k => match k with
  | 0 => ("BoxballHallModel", "capacities", "[I", false)
  | 1 => ("BoxballHallModel", "balls", "[I", false)
  | 2 => ("BoxballHallModel", "isRing", "Z", false)
  | 3 => ("BoxballHallModel", "keptBalls", "Ljava/util/ArrayList;", true)
  | 4 => ("BoxballHallModel", "keptCapacities", "Ljava/util/ArrayList;", true)
  | 5 => ("BoxballHallModel", "waveSizes", "[I", true)
  | 6 => ("BoxballHallModel", "wavePhases", "[I", true)
  | 7 => ("BoxballHallModel", "waveMany", "I", false)
  | 8 => ("BoxballHallModel", "typed", "[I", true)
  | 9 => ("BoxballHallModel", "typedMany", "I", false)
  | 10 => ("BoxballHallModel", "times", "[[I", true)
  | 11 => ("BoxballHallModel", "most", "I", false)
  | _ => ("BoxballHallModel", "thrown", "I", false)
def tyX11 : Nat → FieldType := fun k => match k with
  | 0 => .array .int
  | 1 => .array .int
  | 2 => .boolean
  | 3 => .object "java/util/ArrayList"
  | 4 => .object "java/util/ArrayList"
  | 5 => .array .int
  | 6 => .array .int
  | 7 => .int
  | 8 => .array .int
  | 9 => .int
  | 10 => .array (.array .int)
  | 11 => .int
  | _ => .int
theorem nmX11 : ∀ a, a < 13 → ∀ b, b < 13 → a ≠ b → (TX11 a).2.1 ≠ (TX11 b).2.1 := by decide +kernel
theorem tyX11_ok : ∀ k, k < 13 → parseFieldDescriptor (TX11 k).2.2.1 = some (tyX11 k) := by decide +kernel
def RJx4a65c : String := "java/util/ArrayList"
def TJx4a65c : u_T := fun k => match k with
  | 0 => ("java/util/AbstractList", "modCount", "I", false)
  | 1 => ("java/util/ArrayList", "elementData", "[Ljava/lang/Object;", false)
  | _ => ("java/util/ArrayList", "size", "I", false)
def tyJx4a65c : Nat → FieldType := fun k => match k with
  | 0 => .int
  | 1 => .array (.object "java/lang/Object")
  | _ => .int
theorem nmJx4a65c : ∀ a, a < 3 → ∀ b, b < 3 → a ≠ b → (TJx4a65c a).2.1 ≠ (TJx4a65c b).2.1 := by decide +kernel
theorem tyJx4a65c_ok : ∀ k, k < 3 → parseFieldDescriptor (TJx4a65c k).2.2.1 = some (tyJx4a65c k) := by decide +kernel
def c_cl : List vw_C := [(RX0, TX0, 2), (RX1, TX1, 3), (RX2, TX2, 1), (RX3, TX3, 3), (RX4, TX4, 4), (RX5, TX5, 2), (RX6, TX6, 4), (RX7, TX7, 4), (RX8, TX8, 2), (RX9, TX9, 2), (RX10, TX10, 12), (RX11, TX11, 13), (RJx4a65c, TJx4a65c, 3)]
def c_ty : Nat → Nat → FieldType := fun k => match k with
  | 0 => tyX0
  | 1 => tyX1
  | 2 => tyX2
  | 3 => tyX3
  | 4 => tyX4
  | 5 => tyX5
  | 6 => tyX6
  | 7 => tyX7
  | 8 => tyX8
  | 9 => tyX9
  | 10 => tyX10
  | 11 => tyX11
  | _ => tyJx4a65c
def c_nf : Nat → Nat := fun k => match k with
  | 0 => 2
  | 1 => 3
  | 2 => 1
  | 3 => 3
  | 4 => 4
  | 5 => 2
  | 6 => 4
  | 7 => 4
  | 8 => 2
  | 9 => 2
  | 10 => 12
  | 11 => 13
  | _ => 3
def c_host : String := "BoxballHall"
theorem c_in0 : ∀ w ∈ u_ws RX0 TX0 2, w ∈ lw_tbl := by decide +kernel
theorem c_in1 : ∀ w ∈ u_ws RX1 TX1 3, w ∈ lw_tbl := by decide +kernel
theorem c_in2 : ∀ w ∈ u_ws RX2 TX2 1, w ∈ lw_tbl := by decide +kernel
theorem c_in3 : ∀ w ∈ u_ws RX3 TX3 3, w ∈ lw_tbl := by decide +kernel
theorem c_in4 : ∀ w ∈ u_ws RX4 TX4 4, w ∈ lw_tbl := by decide +kernel
theorem c_in5 : ∀ w ∈ u_ws RX5 TX5 2, w ∈ lw_tbl := by decide +kernel
theorem c_in6 : ∀ w ∈ u_ws RX6 TX6 4, w ∈ lw_tbl := by decide +kernel
theorem c_in7 : ∀ w ∈ u_ws RX7 TX7 4, w ∈ lw_tbl := by decide +kernel
theorem c_in8 : ∀ w ∈ u_ws RX8 TX8 2, w ∈ lw_tbl := by decide +kernel
theorem c_in9 : ∀ w ∈ u_ws RX9 TX9 2, w ∈ lw_tbl := by decide +kernel
theorem c_in10 : ∀ w ∈ u_ws RX10 TX10 12, w ∈ lw_tbl := by decide +kernel
theorem c_in11 : ∀ w ∈ u_ws RX11 TX11 13, w ∈ lw_tbl := by decide +kernel
theorem c_in12 : ∀ w ∈ u_ws RJx4a65c TJx4a65c 3, w ∈ lw_tbl := by decide +kernel
/-- what is so of each class of the list -/
def c_clOk (k : Nat) (q : vw_C) : Prop := (∀ w ∈ u_ws q.1 q.2.1 q.2.2, w ∈ lw_tbl) ∧ (∀ j, j < q.2.2 → parseFieldDescriptor (q.2.1 j).2.2.1 = some (c_ty k j)) ∧ (∀ a, a < q.2.2 → ∀ b, b < q.2.2 → a ≠ b → (q.2.1 a).2.1 ≠ (q.2.1 b).2.1) ∧ c_nf k = q.2.2
theorem c_cl_ok : ∀ k q, c_cl[k]? = some q → c_clOk k q
  | 0, q, h => by cases h; exact ⟨c_in0, tyX0_ok, nmX0, rfl⟩
  | 1, q, h => by cases h; exact ⟨c_in1, tyX1_ok, nmX1, rfl⟩
  | 2, q, h => by cases h; exact ⟨c_in2, tyX2_ok, nmX2, rfl⟩
  | 3, q, h => by cases h; exact ⟨c_in3, tyX3_ok, nmX3, rfl⟩
  | 4, q, h => by cases h; exact ⟨c_in4, tyX4_ok, nmX4, rfl⟩
  | 5, q, h => by cases h; exact ⟨c_in5, tyX5_ok, nmX5, rfl⟩
  | 6, q, h => by cases h; exact ⟨c_in6, tyX6_ok, nmX6, rfl⟩
  | 7, q, h => by cases h; exact ⟨c_in7, tyX7_ok, nmX7, rfl⟩
  | 8, q, h => by cases h; exact ⟨c_in8, tyX8_ok, nmX8, rfl⟩
  | 9, q, h => by cases h; exact ⟨c_in9, tyX9_ok, nmX9, rfl⟩
  | 10, q, h => by cases h; exact ⟨c_in10, tyX10_ok, nmX10, rfl⟩
  | 11, q, h => by cases h; exact ⟨c_in11, tyX11_ok, nmX11, rfl⟩
  | 12, q, h => by cases h; exact ⟨c_in12, tyJx4a65c_ok, nmJx4a65c, rfl⟩
  | k + 13, q, h => by simp [c_cl] at h
