/-! the words that may be handed on to a callee; the nest words, which a world carries -/
def q_tbl : List Cond := lw_tbl.filter goodWord
def q_isN : Cond → Bool | .fieldLinkNest .. => true | .methodLinkNest .. => true | _ => false
def q_nst : List Cond := tables_1.filter q_isN
theorem q_mem {w : Cond} (i : Nat) (h : tables_1[i]? = some w) (g : goodWord w = true) : w ∈ q_tbl := List.mem_filter.mpr ⟨List.mem_append_right _ (List.mem_of_getElem? h), g⟩
theorem q_memN {w : Cond} (i : Nat) (h : tables_1[i]? = some w) (g : q_isN w = true) : w ∈ q_nst := List.mem_filter.mpr ⟨List.mem_of_getElem? h, g⟩
theorem q_memS {y : MethodName} {n : Nat} (i : Nat) (h : lw_privs[i]? = some (y, n)) : Cond.selects y.cls y y ∈ q_tbl := List.mem_filter.mpr ⟨List.mem_append_left _ (List.mem_map.mpr ⟨(y, n), List.mem_of_getElem? h, rfl⟩), rfl⟩
def q_R0 : String := "WaterOthers$ArchQueue"
def q_T0 : u_T := fun k => match k with
  | 0 => ("WaterOthers$ArchQueue", "comes", "[I", true)
  | 1 => ("WaterOthers$ArchQueue", "lasts", "[I", true)
  | 2 => ("WaterOthers$ArchQueue", "comers", "I", false)
  | 3 => ("WaterOthers$ArchQueue", "leastWait", "I", false)
  | _ => ("WaterOthers$ArchQueue", "leastOrder", "I", false)
def q_y0 : Nat → FieldType := fun k => match k with
  | 0 => .array (.int)
  | 1 => .array (.int)
  | 2 => .int
  | 3 => .int
  | _ => .int
theorem q_nm0 : ∀ a, a < 5 → ∀ b, b < 5 → a ≠ b → (q_T0 a).2.1 ≠ (q_T0 b).2.1 := by decide +kernel
theorem q_yk0 : ∀ k, k < 5 → parseFieldDescriptor (q_T0 k).2.2.1 = some (q_y0 k) := by decide +kernel
theorem q_f0_0 : u_lay q_R0 q_T0 0 ∈ q_tbl := q_mem 214 (by decide +kernel) (by decide +kernel)
theorem q_f0_1 : u_lay q_R0 q_T0 1 ∈ q_tbl := q_mem 216 (by decide +kernel) (by decide +kernel)
theorem q_f0_2 : u_lay q_R0 q_T0 2 ∈ q_tbl := q_mem 218 (by decide +kernel) (by decide +kernel)
theorem q_f0_3 : u_lay q_R0 q_T0 3 ∈ q_tbl := q_mem 220 (by decide +kernel) (by decide +kernel)
theorem q_f0_4 : u_lay q_R0 q_T0 4 ∈ q_tbl := q_mem 222 (by decide +kernel) (by decide +kernel)
theorem q_in0 : ∀ w ∈ u_ws q_R0 q_T0 5, w ∈ q_tbl := by
  show ∀ w ∈ [u_lay q_R0 q_T0 0, u_lay q_R0 q_T0 1, u_lay q_R0 q_T0 2, u_lay q_R0 q_T0 3, u_lay q_R0 q_T0 4], w ∈ q_tbl
  exact List.forall_mem_cons.mpr ⟨q_f0_0, List.forall_mem_cons.mpr ⟨q_f0_1, List.forall_mem_cons.mpr ⟨q_f0_2, List.forall_mem_cons.mpr ⟨q_f0_3, List.forall_mem_cons.mpr ⟨q_f0_4, fun _ h => absurd h List.not_mem_nil⟩⟩⟩⟩⟩
def q_R1 : String := "WaterOthers$CalmRows"
def q_T1 : u_T := fun k => match k with
  | _ => ("WaterOthers$CalmRows", "ends", "[J", true)
def q_y1 : Nat → FieldType := fun k => match k with
  | _ => .array (.long)
theorem q_nm1 : ∀ a, a < 1 → ∀ b, b < 1 → a ≠ b → (q_T1 a).2.1 ≠ (q_T1 b).2.1 := by decide +kernel
theorem q_yk1 : ∀ k, k < 1 → parseFieldDescriptor (q_T1 k).2.2.1 = some (q_y1 k) := by decide +kernel
theorem q_f1_0 : u_lay q_R1 q_T1 0 ∈ q_tbl := q_mem 250 (by decide +kernel) (by decide +kernel)
theorem q_in1 : ∀ w ∈ u_ws q_R1 q_T1 1, w ∈ q_tbl := by
  show ∀ w ∈ [u_lay q_R1 q_T1 0], w ∈ q_tbl
  exact List.forall_mem_cons.mpr ⟨q_f1_0, fun _ h => absurd h List.not_mem_nil⟩
def q_R2 : String := "WaterOthers$Pad"
def q_T2 : u_T := fun k => match k with
  | 0 => ("WaterOthers$Pad", "signs", "[C", true)
  | _ => ("WaterOthers$Pad", "count", "I", false)
def q_y2 : Nat → FieldType := fun k => match k with
  | 0 => .array (.char)
  | _ => .int
theorem q_nm2 : ∀ a, a < 2 → ∀ b, b < 2 → a ≠ b → (q_T2 a).2.1 ≠ (q_T2 b).2.1 := by decide +kernel
theorem q_yk2 : ∀ k, k < 2 → parseFieldDescriptor (q_T2 k).2.2.1 = some (q_y2 k) := by decide +kernel
theorem q_f2_0 : u_lay q_R2 q_T2 0 ∈ q_tbl := q_mem 35 (by decide +kernel) (by decide +kernel)
theorem q_f2_1 : u_lay q_R2 q_T2 1 ∈ q_tbl := q_mem 37 (by decide +kernel) (by decide +kernel)
theorem q_in2 : ∀ w ∈ u_ws q_R2 q_T2 2, w ∈ q_tbl := by
  show ∀ w ∈ [u_lay q_R2 q_T2 0, u_lay q_R2 q_T2 1], w ∈ q_tbl
  exact List.forall_mem_cons.mpr ⟨q_f2_0, List.forall_mem_cons.mpr ⟨q_f2_1, fun _ h => absurd h List.not_mem_nil⟩⟩
def q_R3 : String := "WaterOthers$Reach"
def q_T3 : u_T := fun k => match k with
  | 0 => ("WaterOthers$Reach", "arches", "I", false)
  | 1 => ("WaterOthers$Reach", "gap", "I", false)
  | 2 => ("WaterOthers$Reach", "wind", "Z", false)
  | 3 => ("WaterOthers$Reach", "beat", "I", false)
  | 4 => ("WaterOthers$Reach", "walkers", "[LWaterOthers$Walker;", true)
  | _ => ("WaterOthers$Reach", "sights", "LWaterOthers$Sights;", true)
def q_y3 : Nat → FieldType := fun k => match k with
  | 0 => .int
  | 1 => .int
  | 2 => .boolean
  | 3 => .int
  | 4 => .array (.object "WaterOthers$Walker")
  | _ => .object "WaterOthers$Sights"
theorem q_nm3 : ∀ a, a < 6 → ∀ b, b < 6 → a ≠ b → (q_T3 a).2.1 ≠ (q_T3 b).2.1 := by decide +kernel
theorem q_yk3 : ∀ k, k < 6 → parseFieldDescriptor (q_T3 k).2.2.1 = some (q_y3 k) := by decide +kernel
theorem q_f3_0 : u_lay q_R3 q_T3 0 ∈ q_tbl := q_mem 121 (by decide +kernel) (by decide +kernel)
theorem q_f3_1 : u_lay q_R3 q_T3 1 ∈ q_tbl := q_mem 123 (by decide +kernel) (by decide +kernel)
theorem q_f3_2 : u_lay q_R3 q_T3 2 ∈ q_tbl := q_mem 125 (by decide +kernel) (by decide +kernel)
theorem q_f3_3 : u_lay q_R3 q_T3 3 ∈ q_tbl := q_mem 127 (by decide +kernel) (by decide +kernel)
theorem q_f3_4 : u_lay q_R3 q_T3 4 ∈ q_tbl := q_mem 129 (by decide +kernel) (by decide +kernel)
theorem q_f3_5 : u_lay q_R3 q_T3 5 ∈ q_tbl := q_mem 131 (by decide +kernel) (by decide +kernel)
theorem q_in3 : ∀ w ∈ u_ws q_R3 q_T3 6, w ∈ q_tbl := by
  show ∀ w ∈ [u_lay q_R3 q_T3 0, u_lay q_R3 q_T3 1, u_lay q_R3 q_T3 2, u_lay q_R3 q_T3 3, u_lay q_R3 q_T3 4, u_lay q_R3 q_T3 5], w ∈ q_tbl
  exact List.forall_mem_cons.mpr ⟨q_f3_0, List.forall_mem_cons.mpr ⟨q_f3_1, List.forall_mem_cons.mpr ⟨q_f3_2, List.forall_mem_cons.mpr ⟨q_f3_3, List.forall_mem_cons.mpr ⟨q_f3_4, List.forall_mem_cons.mpr ⟨q_f3_5, fun _ h => absurd h List.not_mem_nil⟩⟩⟩⟩⟩⟩
def q_R4 : String := "WaterOthers$Ring"
def q_T4 : u_T := fun k => match k with
  | 0 => ("WaterOthers$Ring", "crowds", "[I", true)
  | 1 => ("WaterOthers$Ring", "askBeat", "I", false)
  | _ => ("WaterOthers$Ring", "askLeft", "I", false)
def q_y4 : Nat → FieldType := fun k => match k with
  | 0 => .array (.int)
  | 1 => .int
  | _ => .int
theorem q_nm4 : ∀ a, a < 3 → ∀ b, b < 3 → a ≠ b → (q_T4 a).2.1 ≠ (q_T4 b).2.1 := by decide +kernel
theorem q_yk4 : ∀ k, k < 3 → parseFieldDescriptor (q_T4 k).2.2.1 = some (q_y4 k) := by decide +kernel
theorem q_f4_0 : u_lay q_R4 q_T4 0 ∈ q_tbl := q_mem 236 (by decide +kernel) (by decide +kernel)
theorem q_f4_1 : u_lay q_R4 q_T4 1 ∈ q_tbl := q_mem 238 (by decide +kernel) (by decide +kernel)
theorem q_f4_2 : u_lay q_R4 q_T4 2 ∈ q_tbl := q_mem 240 (by decide +kernel) (by decide +kernel)
theorem q_in4 : ∀ w ∈ u_ws q_R4 q_T4 3, w ∈ q_tbl := by
  show ∀ w ∈ [u_lay q_R4 q_T4 0, u_lay q_R4 q_T4 1, u_lay q_R4 q_T4 2], w ∈ q_tbl
  exact List.forall_mem_cons.mpr ⟨q_f4_0, List.forall_mem_cons.mpr ⟨q_f4_1, List.forall_mem_cons.mpr ⟨q_f4_2, fun _ h => absurd h List.not_mem_nil⟩⟩⟩
def q_R5 : String := "WaterOthers$Sights"
def q_T5 : u_T := fun k => match k with
  | 0 => ("WaterOthers$Sights", "beats", "[I", true)
  | 1 => ("WaterOthers$Sights", "cells", "[I", true)
  | _ => ("WaterOthers$Sights", "count", "I", false)
def q_y5 : Nat → FieldType := fun k => match k with
  | 0 => .array (.int)
  | 1 => .array (.int)
  | _ => .int
theorem q_nm5 : ∀ a, a < 3 → ∀ b, b < 3 → a ≠ b → (q_T5 a).2.1 ≠ (q_T5 b).2.1 := by decide +kernel
theorem q_yk5 : ∀ k, k < 3 → parseFieldDescriptor (q_T5 k).2.2.1 = some (q_y5 k) := by decide +kernel
theorem q_f5_0 : u_lay q_R5 q_T5 0 ∈ q_tbl := q_mem 62 (by decide +kernel) (by decide +kernel)
theorem q_f5_1 : u_lay q_R5 q_T5 1 ∈ q_tbl := q_mem 64 (by decide +kernel) (by decide +kernel)
theorem q_f5_2 : u_lay q_R5 q_T5 2 ∈ q_tbl := q_mem 66 (by decide +kernel) (by decide +kernel)
theorem q_in5 : ∀ w ∈ u_ws q_R5 q_T5 3, w ∈ q_tbl := by
  show ∀ w ∈ [u_lay q_R5 q_T5 0, u_lay q_R5 q_T5 1, u_lay q_R5 q_T5 2], w ∈ q_tbl
  exact List.forall_mem_cons.mpr ⟨q_f5_0, List.forall_mem_cons.mpr ⟨q_f5_1, List.forall_mem_cons.mpr ⟨q_f5_2, fun _ h => absurd h List.not_mem_nil⟩⟩⟩
def q_R6 : String := "WaterOthers$Telling"
def q_T6 : u_T := fun k => match k with
  | 0 => ("WaterOthers$Telling", "reach", "LWaterOthers$Reach;", true)
  | 1 => ("WaterOthers$Telling", "isFaulty", "Z", false)
  | 2 => ("WaterOthers$Telling", "canBe", "Z", false)
  | 3 => ("WaterOthers$Telling", "acts", "I", false)
  | 4 => ("WaterOthers$Telling", "barredAct", "I", false)
  | 5 => ("WaterOthers$Telling", "barredWhy", "I", false)
  | 6 => ("WaterOthers$Telling", "partingAct", "I", false)
  | _ => ("WaterOthers$Telling", "partingWho", "I", false)
def q_y6 : Nat → FieldType := fun k => match k with
  | 0 => .object "WaterOthers$Reach"
  | 1 => .boolean
  | 2 => .boolean
  | 3 => .int
  | 4 => .int
  | 5 => .int
  | 6 => .int
  | _ => .int
theorem q_nm6 : ∀ a, a < 8 → ∀ b, b < 8 → a ≠ b → (q_T6 a).2.1 ≠ (q_T6 b).2.1 := by decide +kernel
theorem q_yk6 : ∀ k, k < 8 → parseFieldDescriptor (q_T6 k).2.2.1 = some (q_y6 k) := by decide +kernel
theorem q_f6_0 : u_lay q_R6 q_T6 0 ∈ q_tbl := q_mem 158 (by decide +kernel) (by decide +kernel)
theorem q_f6_1 : u_lay q_R6 q_T6 1 ∈ q_tbl := q_mem 160 (by decide +kernel) (by decide +kernel)
theorem q_f6_2 : u_lay q_R6 q_T6 2 ∈ q_tbl := q_mem 162 (by decide +kernel) (by decide +kernel)
theorem q_f6_3 : u_lay q_R6 q_T6 3 ∈ q_tbl := q_mem 164 (by decide +kernel) (by decide +kernel)
theorem q_f6_4 : u_lay q_R6 q_T6 4 ∈ q_tbl := q_mem 166 (by decide +kernel) (by decide +kernel)
theorem q_f6_5 : u_lay q_R6 q_T6 5 ∈ q_tbl := q_mem 168 (by decide +kernel) (by decide +kernel)
theorem q_f6_6 : u_lay q_R6 q_T6 6 ∈ q_tbl := q_mem 170 (by decide +kernel) (by decide +kernel)
theorem q_f6_7 : u_lay q_R6 q_T6 7 ∈ q_tbl := q_mem 172 (by decide +kernel) (by decide +kernel)
theorem q_in6 : ∀ w ∈ u_ws q_R6 q_T6 8, w ∈ q_tbl := by
  show ∀ w ∈ [u_lay q_R6 q_T6 0, u_lay q_R6 q_T6 1, u_lay q_R6 q_T6 2, u_lay q_R6 q_T6 3, u_lay q_R6 q_T6 4, u_lay q_R6 q_T6 5, u_lay q_R6 q_T6 6, u_lay q_R6 q_T6 7], w ∈ q_tbl
  exact List.forall_mem_cons.mpr ⟨q_f6_0, List.forall_mem_cons.mpr ⟨q_f6_1, List.forall_mem_cons.mpr ⟨q_f6_2, List.forall_mem_cons.mpr ⟨q_f6_3, List.forall_mem_cons.mpr ⟨q_f6_4, List.forall_mem_cons.mpr ⟨q_f6_5, List.forall_mem_cons.mpr ⟨q_f6_6, List.forall_mem_cons.mpr ⟨q_f6_7, fun _ h => absurd h List.not_mem_nil⟩⟩⟩⟩⟩⟩⟩⟩
def q_R7 : String := "WaterOthers$TripFinder"
def q_T7 : u_T := fun k => match k with
  | 0 => ("WaterOthers$TripFinder", "queue", "[I", true)
  | 1 => ("WaterOthers$TripFinder", "metBits", "[I", true)
  | 2 => ("WaterOthers$TripFinder", "queued", "I", false)
  | 3 => ("WaterOthers$TripFinder", "acts", "I", false)
  | _ => ("WaterOthers$TripFinder", "first", "I", false)
def q_y7 : Nat → FieldType := fun k => match k with
  | 0 => .array (.int)
  | 1 => .array (.int)
  | 2 => .int
  | 3 => .int
  | _ => .int
theorem q_nm7 : ∀ a, a < 5 → ∀ b, b < 5 → a ≠ b → (q_T7 a).2.1 ≠ (q_T7 b).2.1 := by decide +kernel
theorem q_yk7 : ∀ k, k < 5 → parseFieldDescriptor (q_T7 k).2.2.1 = some (q_y7 k) := by decide +kernel
theorem q_f7_0 : u_lay q_R7 q_T7 0 ∈ q_tbl := q_mem 189 (by decide +kernel) (by decide +kernel)
theorem q_f7_1 : u_lay q_R7 q_T7 1 ∈ q_tbl := q_mem 191 (by decide +kernel) (by decide +kernel)
theorem q_f7_2 : u_lay q_R7 q_T7 2 ∈ q_tbl := q_mem 193 (by decide +kernel) (by decide +kernel)
theorem q_f7_3 : u_lay q_R7 q_T7 3 ∈ q_tbl := q_mem 195 (by decide +kernel) (by decide +kernel)
theorem q_f7_4 : u_lay q_R7 q_T7 4 ∈ q_tbl := q_mem 197 (by decide +kernel) (by decide +kernel)
theorem q_in7 : ∀ w ∈ u_ws q_R7 q_T7 5, w ∈ q_tbl := by
  show ∀ w ∈ [u_lay q_R7 q_T7 0, u_lay q_R7 q_T7 1, u_lay q_R7 q_T7 2, u_lay q_R7 q_T7 3, u_lay q_R7 q_T7 4], w ∈ q_tbl
  exact List.forall_mem_cons.mpr ⟨q_f7_0, List.forall_mem_cons.mpr ⟨q_f7_1, List.forall_mem_cons.mpr ⟨q_f7_2, List.forall_mem_cons.mpr ⟨q_f7_3, List.forall_mem_cons.mpr ⟨q_f7_4, fun _ h => absurd h List.not_mem_nil⟩⟩⟩⟩⟩
def q_R8 : String := "WaterOthers$Walker"
def q_T8 : u_T := fun k => match k with
  | 0 => ("WaterOthers$Walker", "there", "Z", false)
  | 1 => ("WaterOthers$Walker", "late", "I", false)
  | 2 => ("WaterOthers$Walker", "parted", "Z", false)
  | 3 => ("WaterOthers$Walker", "strayCell", "I", false)
  | 4 => ("WaterOthers$Walker", "strayEast", "Z", false)
  | _ => ("WaterOthers$Walker", "was", "[I", true)
def q_y8 : Nat → FieldType := fun k => match k with
  | 0 => .boolean
  | 1 => .int
  | 2 => .boolean
  | 3 => .int
  | 4 => .boolean
  | _ => .array (.int)
theorem q_nm8 : ∀ a, a < 6 → ∀ b, b < 6 → a ≠ b → (q_T8 a).2.1 ≠ (q_T8 b).2.1 := by decide +kernel
theorem q_yk8 : ∀ k, k < 6 → parseFieldDescriptor (q_T8 k).2.2.1 = some (q_y8 k) := by decide +kernel
theorem q_f8_0 : u_lay q_R8 q_T8 0 ∈ q_tbl := q_mem 95 (by decide +kernel) (by decide +kernel)
theorem q_f8_1 : u_lay q_R8 q_T8 1 ∈ q_tbl := q_mem 97 (by decide +kernel) (by decide +kernel)
theorem q_f8_2 : u_lay q_R8 q_T8 2 ∈ q_tbl := q_mem 99 (by decide +kernel) (by decide +kernel)
theorem q_f8_3 : u_lay q_R8 q_T8 3 ∈ q_tbl := q_mem 101 (by decide +kernel) (by decide +kernel)
theorem q_f8_4 : u_lay q_R8 q_T8 4 ∈ q_tbl := q_mem 103 (by decide +kernel) (by decide +kernel)
theorem q_f8_5 : u_lay q_R8 q_T8 5 ∈ q_tbl := q_mem 105 (by decide +kernel) (by decide +kernel)
theorem q_in8 : ∀ w ∈ u_ws q_R8 q_T8 6, w ∈ q_tbl := by
  show ∀ w ∈ [u_lay q_R8 q_T8 0, u_lay q_R8 q_T8 1, u_lay q_R8 q_T8 2, u_lay q_R8 q_T8 3, u_lay q_R8 q_T8 4, u_lay q_R8 q_T8 5], w ∈ q_tbl
  exact List.forall_mem_cons.mpr ⟨q_f8_0, List.forall_mem_cons.mpr ⟨q_f8_1, List.forall_mem_cons.mpr ⟨q_f8_2, List.forall_mem_cons.mpr ⟨q_f8_3, List.forall_mem_cons.mpr ⟨q_f8_4, List.forall_mem_cons.mpr ⟨q_f8_5, fun _ h => absurd h List.not_mem_nil⟩⟩⟩⟩⟩⟩
def q_R9 : String := "WaterOthers"
def q_T9 : u_T := fun k => match k with
  | 0 => ("WaterOthers", "pad", "LWaterOthers$Pad;", true)
  | 1 => ("WaterOthers", "now", "LWaterOthers$Reach;", true)
  | 2 => ("WaterOthers", "telling", "LWaterOthers$Telling;", true)
  | 3 => ("WaterOthers", "images", "[LWaterOthers$Reach;", true)
  | 4 => ("WaterOthers", "kept", "[Z", true)
  | 5 => ("WaterOthers", "tripFinder", "LWaterOthers$TripFinder;", true)
  | 6 => ("WaterOthers", "archQueue", "LWaterOthers$ArchQueue;", true)
  | 7 => ("WaterOthers", "ring", "LWaterOthers$Ring;", true)
  | _ => ("WaterOthers", "calmRows", "LWaterOthers$CalmRows;", true)
def q_y9 : Nat → FieldType := fun k => match k with
  | 0 => .object "WaterOthers$Pad"
  | 1 => .object "WaterOthers$Reach"
  | 2 => .object "WaterOthers$Telling"
  | 3 => .array (.object "WaterOthers$Reach")
  | 4 => .array (.boolean)
  | 5 => .object "WaterOthers$TripFinder"
  | 6 => .object "WaterOthers$ArchQueue"
  | 7 => .object "WaterOthers$Ring"
  | _ => .object "WaterOthers$CalmRows"
theorem q_nm9 : ∀ a, a < 9 → ∀ b, b < 9 → a ≠ b → (q_T9 a).2.1 ≠ (q_T9 b).2.1 := by decide +kernel
theorem q_yk9 : ∀ k, k < 9 → parseFieldDescriptor (q_T9 k).2.2.1 = some (q_y9 k) := by decide +kernel
theorem q_f9_0 : u_lay q_R9 q_T9 0 ∈ q_tbl := q_mem 263 (by decide +kernel) (by decide +kernel)
theorem q_f9_1 : u_lay q_R9 q_T9 1 ∈ q_tbl := q_mem 265 (by decide +kernel) (by decide +kernel)
theorem q_f9_2 : u_lay q_R9 q_T9 2 ∈ q_tbl := q_mem 267 (by decide +kernel) (by decide +kernel)
theorem q_f9_3 : u_lay q_R9 q_T9 3 ∈ q_tbl := q_mem 269 (by decide +kernel) (by decide +kernel)
theorem q_f9_4 : u_lay q_R9 q_T9 4 ∈ q_tbl := q_mem 271 (by decide +kernel) (by decide +kernel)
theorem q_f9_5 : u_lay q_R9 q_T9 5 ∈ q_tbl := q_mem 273 (by decide +kernel) (by decide +kernel)
theorem q_f9_6 : u_lay q_R9 q_T9 6 ∈ q_tbl := q_mem 275 (by decide +kernel) (by decide +kernel)
theorem q_f9_7 : u_lay q_R9 q_T9 7 ∈ q_tbl := q_mem 277 (by decide +kernel) (by decide +kernel)
theorem q_f9_8 : u_lay q_R9 q_T9 8 ∈ q_tbl := q_mem 279 (by decide +kernel) (by decide +kernel)
theorem q_in9 : ∀ w ∈ u_ws q_R9 q_T9 9, w ∈ q_tbl := by
  show ∀ w ∈ [u_lay q_R9 q_T9 0, u_lay q_R9 q_T9 1, u_lay q_R9 q_T9 2, u_lay q_R9 q_T9 3, u_lay q_R9 q_T9 4, u_lay q_R9 q_T9 5, u_lay q_R9 q_T9 6, u_lay q_R9 q_T9 7, u_lay q_R9 q_T9 8], w ∈ q_tbl
  exact List.forall_mem_cons.mpr ⟨q_f9_0, List.forall_mem_cons.mpr ⟨q_f9_1, List.forall_mem_cons.mpr ⟨q_f9_2, List.forall_mem_cons.mpr ⟨q_f9_3, List.forall_mem_cons.mpr ⟨q_f9_4, List.forall_mem_cons.mpr ⟨q_f9_5, List.forall_mem_cons.mpr ⟨q_f9_6, List.forall_mem_cons.mpr ⟨q_f9_7, List.forall_mem_cons.mpr ⟨q_f9_8, fun _ h => absurd h List.not_mem_nil⟩⟩⟩⟩⟩⟩⟩⟩⟩
def q_R10 : String := "WaterOthersModel"
def q_T10 : u_T := fun k => match k with
  | 0 => ("WaterOthersModel", "book", "[I", true)
  | 1 => ("WaterOthersModel", "now", "[I", true)
  | 2 => ("WaterOthersModel", "there", "I", false)
  | 3 => ("WaterOthersModel", "late", "[I", true)
  | 4 => ("WaterOthersModel", "arches", "I", false)
  | 5 => ("WaterOthersModel", "gap", "I", false)
  | 6 => ("WaterOthersModel", "sights", "I", false)
  | 7 => ("WaterOthersModel", "sight", "[I", true)
  | 8 => ("WaterOthersModel", "signs", "I", false)
  | 9 => ("WaterOthersModel", "pad", "[I", true)
  | 10 => ("WaterOthersModel", "partedAt", "I", false)
  | 11 => ("WaterOthersModel", "partedWho", "I", false)
  | 12 => ("WaterOthersModel", "reason", "I", false)
  | 13 => ("WaterOthersModel", "acts", "I", false)
  | 14 => ("WaterOthersModel", "acts1", "[I", true)
  | 15 => ("WaterOthersModel", "queue", "[I", true)
  | 16 => ("WaterOthersModel", "fitting", "[I", true)
  | 17 => ("WaterOthersModel", "counts", "[I", true)
  | 18 => ("WaterOthersModel", "ways", "[J", true)
  | 19 => ("WaterOthersModel", "nextWays", "[J", true)
  | 20 => ("WaterOthersModel", "image", "[I", true)
  | _ => ("WaterOthersModel", "isKept", "[Z", true)
def q_y10 : Nat → FieldType := fun k => match k with
  | 0 => .array (.int)
  | 1 => .array (.int)
  | 2 => .int
  | 3 => .array (.int)
  | 4 => .int
  | 5 => .int
  | 6 => .int
  | 7 => .array (.int)
  | 8 => .int
  | 9 => .array (.int)
  | 10 => .int
  | 11 => .int
  | 12 => .int
  | 13 => .int
  | 14 => .array (.int)
  | 15 => .array (.int)
  | 16 => .array (.int)
  | 17 => .array (.int)
  | 18 => .array (.long)
  | 19 => .array (.long)
  | 20 => .array (.int)
  | _ => .array (.boolean)
theorem q_nm10 : ∀ a, a < 22 → ∀ b, b < 22 → a ≠ b → (q_T10 a).2.1 ≠ (q_T10 b).2.1 := by decide +kernel
theorem q_yk10 : ∀ k, k < 22 → parseFieldDescriptor (q_T10 k).2.2.1 = some (q_y10 k) := by decide +kernel
theorem q_f10_0 : u_lay q_R10 q_T10 0 ∈ q_tbl := q_mem 707 (by decide +kernel) (by decide +kernel)
theorem q_f10_1 : u_lay q_R10 q_T10 1 ∈ q_tbl := q_mem 709 (by decide +kernel) (by decide +kernel)
theorem q_f10_2 : u_lay q_R10 q_T10 2 ∈ q_tbl := q_mem 711 (by decide +kernel) (by decide +kernel)
theorem q_f10_3 : u_lay q_R10 q_T10 3 ∈ q_tbl := q_mem 713 (by decide +kernel) (by decide +kernel)
theorem q_f10_4 : u_lay q_R10 q_T10 4 ∈ q_tbl := q_mem 715 (by decide +kernel) (by decide +kernel)
theorem q_f10_5 : u_lay q_R10 q_T10 5 ∈ q_tbl := q_mem 717 (by decide +kernel) (by decide +kernel)
theorem q_f10_6 : u_lay q_R10 q_T10 6 ∈ q_tbl := q_mem 719 (by decide +kernel) (by decide +kernel)
theorem q_f10_7 : u_lay q_R10 q_T10 7 ∈ q_tbl := q_mem 721 (by decide +kernel) (by decide +kernel)
theorem q_f10_8 : u_lay q_R10 q_T10 8 ∈ q_tbl := q_mem 723 (by decide +kernel) (by decide +kernel)
theorem q_f10_9 : u_lay q_R10 q_T10 9 ∈ q_tbl := q_mem 725 (by decide +kernel) (by decide +kernel)
theorem q_f10_10 : u_lay q_R10 q_T10 10 ∈ q_tbl := q_mem 727 (by decide +kernel) (by decide +kernel)
theorem q_f10_11 : u_lay q_R10 q_T10 11 ∈ q_tbl := q_mem 729 (by decide +kernel) (by decide +kernel)
theorem q_f10_12 : u_lay q_R10 q_T10 12 ∈ q_tbl := q_mem 731 (by decide +kernel) (by decide +kernel)
theorem q_f10_13 : u_lay q_R10 q_T10 13 ∈ q_tbl := q_mem 733 (by decide +kernel) (by decide +kernel)
theorem q_f10_14 : u_lay q_R10 q_T10 14 ∈ q_tbl := q_mem 735 (by decide +kernel) (by decide +kernel)
theorem q_f10_15 : u_lay q_R10 q_T10 15 ∈ q_tbl := q_mem 737 (by decide +kernel) (by decide +kernel)
theorem q_f10_16 : u_lay q_R10 q_T10 16 ∈ q_tbl := q_mem 739 (by decide +kernel) (by decide +kernel)
theorem q_f10_17 : u_lay q_R10 q_T10 17 ∈ q_tbl := q_mem 741 (by decide +kernel) (by decide +kernel)
theorem q_f10_18 : u_lay q_R10 q_T10 18 ∈ q_tbl := q_mem 743 (by decide +kernel) (by decide +kernel)
theorem q_f10_19 : u_lay q_R10 q_T10 19 ∈ q_tbl := q_mem 745 (by decide +kernel) (by decide +kernel)
theorem q_f10_20 : u_lay q_R10 q_T10 20 ∈ q_tbl := q_mem 747 (by decide +kernel) (by decide +kernel)
theorem q_f10_21 : u_lay q_R10 q_T10 21 ∈ q_tbl := q_mem 749 (by decide +kernel) (by decide +kernel)
theorem q_in10 : ∀ w ∈ u_ws q_R10 q_T10 22, w ∈ q_tbl := by
  show ∀ w ∈ [u_lay q_R10 q_T10 0, u_lay q_R10 q_T10 1, u_lay q_R10 q_T10 2, u_lay q_R10 q_T10 3, u_lay q_R10 q_T10 4, u_lay q_R10 q_T10 5, u_lay q_R10 q_T10 6, u_lay q_R10 q_T10 7, u_lay q_R10 q_T10 8, u_lay q_R10 q_T10 9, u_lay q_R10 q_T10 10, u_lay q_R10 q_T10 11, u_lay q_R10 q_T10 12, u_lay q_R10 q_T10 13, u_lay q_R10 q_T10 14, u_lay q_R10 q_T10 15, u_lay q_R10 q_T10 16, u_lay q_R10 q_T10 17, u_lay q_R10 q_T10 18, u_lay q_R10 q_T10 19, u_lay q_R10 q_T10 20, u_lay q_R10 q_T10 21], w ∈ q_tbl
  exact List.forall_mem_cons.mpr ⟨q_f10_0, List.forall_mem_cons.mpr ⟨q_f10_1, List.forall_mem_cons.mpr ⟨q_f10_2, List.forall_mem_cons.mpr ⟨q_f10_3, List.forall_mem_cons.mpr ⟨q_f10_4, List.forall_mem_cons.mpr ⟨q_f10_5, List.forall_mem_cons.mpr ⟨q_f10_6, List.forall_mem_cons.mpr ⟨q_f10_7, List.forall_mem_cons.mpr ⟨q_f10_8, List.forall_mem_cons.mpr ⟨q_f10_9, List.forall_mem_cons.mpr ⟨q_f10_10, List.forall_mem_cons.mpr ⟨q_f10_11, List.forall_mem_cons.mpr ⟨q_f10_12, List.forall_mem_cons.mpr ⟨q_f10_13, List.forall_mem_cons.mpr ⟨q_f10_14, List.forall_mem_cons.mpr ⟨q_f10_15, List.forall_mem_cons.mpr ⟨q_f10_16, List.forall_mem_cons.mpr ⟨q_f10_17, List.forall_mem_cons.mpr ⟨q_f10_18, List.forall_mem_cons.mpr ⟨q_f10_19, List.forall_mem_cons.mpr ⟨q_f10_20, List.forall_mem_cons.mpr ⟨q_f10_21, fun _ h => absurd h List.not_mem_nil⟩⟩⟩⟩⟩⟩⟩⟩⟩⟩⟩⟩⟩⟩⟩⟩⟩⟩⟩⟩⟩⟩
abbrev q_cls : List vw_C := [(q_R0, q_T0, 5), (q_R1, q_T1, 1), (q_R2, q_T2, 2), (q_R3, q_T3, 6), (q_R4, q_T4, 3), (q_R5, q_T5, 3), (q_R6, q_T6, 8), (q_R7, q_T7, 5), (q_R8, q_T8, 6), (q_R9, q_T9, 9), (q_R10, q_T10, 22)]
