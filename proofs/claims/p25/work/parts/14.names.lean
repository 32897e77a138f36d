/-! NAMES: classes, fields, methods (as the listing has them) -/
def fm_Ts : List Jvm.Cond := lw_tbl.filter goodWord
theorem fm_Ts_good : fm_Good fm_Ts := by
  unfold fm_Good fm_Ts
  rw [List.all_eq_true]
  intro w hw
  exact (List.mem_filter.mp hw).2
theorem fm_ins {ws : List Jvm.Cond} (ps : List Nat) (h : ws.map some = ps.map (fun i => lw_tbl[i]?)) (hg : ws.all goodWord = true) : ∀ w ∈ ws, w ∈ fm_Ts := by
  intro w hw
  have h1 : some w ∈ ws.map some := List.mem_map.mpr ⟨w, hw, rfl⟩
  rw [h] at h1
  obtain ⟨i, -, hi⟩ := List.mem_map.mp h1
  exact List.mem_filter.mpr ⟨List.mem_of_getElem? hi, List.all_eq_true.mp hg w hw⟩
theorem fm_mem {w : Jvm.Cond} (i : Nat) (h : lw_tbl[i]? = some w) (hg : goodWord w = true) : w ∈ fm_Ts := List.mem_filter.mpr ⟨List.mem_of_getElem? h, hg⟩
theorem fm_t1 {w : Jvm.Cond} (i : Nat) (h : tables_1_1[i]? = some w) (hg : goodWord w = true) : w ∈ fm_Ts := List.mem_filter.mpr ⟨(show w ∈ k2_sels lw_privs ++ tables_1 from List.mem_append_right _ (show w ∈ tables_1_1 ++ (tables_1_2 ++ (tables_1_3 ++ (tables_1_4 ++ (tables_1_5 ++ (tables_1_6 ++ (tables_1_7)))))) from List.mem_append_left _ (List.mem_of_getElem? h))), hg⟩
theorem fm_t2 {w : Jvm.Cond} (i : Nat) (h : tables_1_2[i]? = some w) (hg : goodWord w = true) : w ∈ fm_Ts := List.mem_filter.mpr ⟨(show w ∈ k2_sels lw_privs ++ tables_1 from List.mem_append_right _ (show w ∈ tables_1_1 ++ (tables_1_2 ++ (tables_1_3 ++ (tables_1_4 ++ (tables_1_5 ++ (tables_1_6 ++ (tables_1_7)))))) from List.mem_append_right _ (List.mem_append_left _ (List.mem_of_getElem? h)))), hg⟩
theorem fm_t3 {w : Jvm.Cond} (i : Nat) (h : tables_1_3[i]? = some w) (hg : goodWord w = true) : w ∈ fm_Ts := List.mem_filter.mpr ⟨(show w ∈ k2_sels lw_privs ++ tables_1 from List.mem_append_right _ (show w ∈ tables_1_1 ++ (tables_1_2 ++ (tables_1_3 ++ (tables_1_4 ++ (tables_1_5 ++ (tables_1_6 ++ (tables_1_7)))))) from List.mem_append_right _ (List.mem_append_right _ (List.mem_append_left _ (List.mem_of_getElem? h))))), hg⟩
theorem fm_t4 {w : Jvm.Cond} (i : Nat) (h : tables_1_4[i]? = some w) (hg : goodWord w = true) : w ∈ fm_Ts := List.mem_filter.mpr ⟨(show w ∈ k2_sels lw_privs ++ tables_1 from List.mem_append_right _ (show w ∈ tables_1_1 ++ (tables_1_2 ++ (tables_1_3 ++ (tables_1_4 ++ (tables_1_5 ++ (tables_1_6 ++ (tables_1_7)))))) from List.mem_append_right _ (List.mem_append_right _ (List.mem_append_right _ (List.mem_append_left _ (List.mem_of_getElem? h)))))), hg⟩
theorem fm_t5 {w : Jvm.Cond} (i : Nat) (h : tables_1_5[i]? = some w) (hg : goodWord w = true) : w ∈ fm_Ts := List.mem_filter.mpr ⟨(show w ∈ k2_sels lw_privs ++ tables_1 from List.mem_append_right _ (show w ∈ tables_1_1 ++ (tables_1_2 ++ (tables_1_3 ++ (tables_1_4 ++ (tables_1_5 ++ (tables_1_6 ++ (tables_1_7)))))) from List.mem_append_right _ (List.mem_append_right _ (List.mem_append_right _ (List.mem_append_right _ (List.mem_append_left _ (List.mem_of_getElem? h))))))), hg⟩
theorem fm_t6 {w : Jvm.Cond} (i : Nat) (h : tables_1_6[i]? = some w) (hg : goodWord w = true) : w ∈ fm_Ts := List.mem_filter.mpr ⟨(show w ∈ k2_sels lw_privs ++ tables_1 from List.mem_append_right _ (show w ∈ tables_1_1 ++ (tables_1_2 ++ (tables_1_3 ++ (tables_1_4 ++ (tables_1_5 ++ (tables_1_6 ++ (tables_1_7)))))) from List.mem_append_right _ (List.mem_append_right _ (List.mem_append_right _ (List.mem_append_right _ (List.mem_append_right _ (List.mem_append_left _ (List.mem_of_getElem? h)))))))), hg⟩
theorem fm_t7 {w : Jvm.Cond} (i : Nat) (h : tables_1_7[i]? = some w) (hg : goodWord w = true) : w ∈ fm_Ts := List.mem_filter.mpr ⟨(show w ∈ k2_sels lw_privs ++ tables_1 from List.mem_append_right _ (show w ∈ tables_1_1 ++ (tables_1_2 ++ (tables_1_3 ++ (tables_1_4 ++ (tables_1_5 ++ (tables_1_6 ++ (tables_1_7)))))) from List.mem_append_right _ (List.mem_append_right _ (List.mem_append_right _ (List.mem_append_right _ (List.mem_append_right _ (List.mem_append_right _ (List.mem_of_getElem? h)))))))), hg⟩
theorem fm_p1 {q : MethodName × Nat} (i : Nat) (h : lw_privs_1[i]? = some q) (hg : goodWord (Jvm.Cond.selects q.1.cls q.1 q.1) = true) : Jvm.Cond.selects q.1.cls q.1 q.1 ∈ fm_Ts := List.mem_filter.mpr ⟨(show Jvm.Cond.selects q.1.cls q.1 q.1 ∈ k2_sels lw_privs ++ tables_1 from List.mem_append_left _ (List.mem_map.mpr ⟨q, (show q ∈ lw_privs_1 ++ (lw_privs_2 ++ (lw_privs_3 ++ (lw_privs_4 ++ (lw_privs_5 ++ (lw_privs_6))))) from List.mem_append_left _ (List.mem_of_getElem? h)), rfl⟩)), hg⟩
theorem fm_p2 {q : MethodName × Nat} (i : Nat) (h : lw_privs_2[i]? = some q) (hg : goodWord (Jvm.Cond.selects q.1.cls q.1 q.1) = true) : Jvm.Cond.selects q.1.cls q.1 q.1 ∈ fm_Ts := List.mem_filter.mpr ⟨(show Jvm.Cond.selects q.1.cls q.1 q.1 ∈ k2_sels lw_privs ++ tables_1 from List.mem_append_left _ (List.mem_map.mpr ⟨q, (show q ∈ lw_privs_1 ++ (lw_privs_2 ++ (lw_privs_3 ++ (lw_privs_4 ++ (lw_privs_5 ++ (lw_privs_6))))) from List.mem_append_right _ (List.mem_append_left _ (List.mem_of_getElem? h))), rfl⟩)), hg⟩
theorem fm_p3 {q : MethodName × Nat} (i : Nat) (h : lw_privs_3[i]? = some q) (hg : goodWord (Jvm.Cond.selects q.1.cls q.1 q.1) = true) : Jvm.Cond.selects q.1.cls q.1 q.1 ∈ fm_Ts := List.mem_filter.mpr ⟨(show Jvm.Cond.selects q.1.cls q.1 q.1 ∈ k2_sels lw_privs ++ tables_1 from List.mem_append_left _ (List.mem_map.mpr ⟨q, (show q ∈ lw_privs_1 ++ (lw_privs_2 ++ (lw_privs_3 ++ (lw_privs_4 ++ (lw_privs_5 ++ (lw_privs_6))))) from List.mem_append_right _ (List.mem_append_right _ (List.mem_append_left _ (List.mem_of_getElem? h)))), rfl⟩)), hg⟩
theorem fm_p4 {q : MethodName × Nat} (i : Nat) (h : lw_privs_4[i]? = some q) (hg : goodWord (Jvm.Cond.selects q.1.cls q.1 q.1) = true) : Jvm.Cond.selects q.1.cls q.1 q.1 ∈ fm_Ts := List.mem_filter.mpr ⟨(show Jvm.Cond.selects q.1.cls q.1 q.1 ∈ k2_sels lw_privs ++ tables_1 from List.mem_append_left _ (List.mem_map.mpr ⟨q, (show q ∈ lw_privs_1 ++ (lw_privs_2 ++ (lw_privs_3 ++ (lw_privs_4 ++ (lw_privs_5 ++ (lw_privs_6))))) from List.mem_append_right _ (List.mem_append_right _ (List.mem_append_right _ (List.mem_append_left _ (List.mem_of_getElem? h))))), rfl⟩)), hg⟩
theorem fm_p5 {q : MethodName × Nat} (i : Nat) (h : lw_privs_5[i]? = some q) (hg : goodWord (Jvm.Cond.selects q.1.cls q.1 q.1) = true) : Jvm.Cond.selects q.1.cls q.1 q.1 ∈ fm_Ts := List.mem_filter.mpr ⟨(show Jvm.Cond.selects q.1.cls q.1 q.1 ∈ k2_sels lw_privs ++ tables_1 from List.mem_append_left _ (List.mem_map.mpr ⟨q, (show q ∈ lw_privs_1 ++ (lw_privs_2 ++ (lw_privs_3 ++ (lw_privs_4 ++ (lw_privs_5 ++ (lw_privs_6))))) from List.mem_append_right _ (List.mem_append_right _ (List.mem_append_right _ (List.mem_append_right _ (List.mem_append_left _ (List.mem_of_getElem? h)))))), rfl⟩)), hg⟩
theorem fm_p6 {q : MethodName × Nat} (i : Nat) (h : lw_privs_6[i]? = some q) (hg : goodWord (Jvm.Cond.selects q.1.cls q.1 q.1) = true) : Jvm.Cond.selects q.1.cls q.1 q.1 ∈ fm_Ts := List.mem_filter.mpr ⟨(show Jvm.Cond.selects q.1.cls q.1 q.1 ∈ k2_sels lw_privs ++ tables_1 from List.mem_append_left _ (List.mem_map.mpr ⟨q, (show q ∈ lw_privs_1 ++ (lw_privs_2 ++ (lw_privs_3 ++ (lw_privs_4 ++ (lw_privs_5 ++ (lw_privs_6))))) from List.mem_append_right _ (List.mem_append_right _ (List.mem_append_right _ (List.mem_append_right _ (List.mem_append_right _ (List.mem_of_getElem? h)))))), rfl⟩)), hg⟩
def RX0 : String := "DustMint$Hill"
def TX0 : u_T := fun k => match k with
  | 0 => ("DustMint$Hill", "dust", "[I", true)
  | 1 => ("DustMint$Hill", "wind", "[I", true)
  | 2 => ("DustMint$Hill", "carpets", "[I", true)
  | 3 => ("DustMint$Hill", "licences", "[I", true)
  | 4 => ("DustMint$Hill", "skills", "[I", true)
  | 5 => ("DustMint$Hill", "purses", "[I", true)
  | 6 => ("DustMint$Hill", "porters", "LDustMint$Porters;", true)
  | 7 => ("DustMint$Hill", "rains", "[I", true)
  | 8 => ("DustMint$Hill", "leds", "[I", true)
  | 9 => ("DustMint$Hill", "clock", "I", false)
  | 10 => ("DustMint$Hill", "x", "I", false)
  | 11 => ("DustMint$Hill", "gold", "I", false)
  | 12 => ("DustMint$Hill", "river", "I", false)
  | 13 => ("DustMint$Hill", "gone", "I", false)
  | 14 => ("DustMint$Hill", "needsDust", "Z", false)
  | 15 => ("DustMint$Hill", "prober", "I", false)
  | 16 => ("DustMint$Hill", "probed", "I", false)
  | _ => ("DustMint$Hill", "moved", "[I", true)
def tyX0 : Nat → FieldType := fun k => match k with
  | 0 => .array .int
  | 1 => .array .int
  | 2 => .array .int
  | 3 => .array .int
  | 4 => .array .int
  | 5 => .array .int
  | 6 => .object "DustMint$Porters"
  | 7 => .array .int
  | 8 => .array .int
  | 9 => .int
  | 10 => .int
  | 11 => .int
  | 12 => .int
  | 13 => .int
  | 14 => .boolean
  | 15 => .int
  | 16 => .int
  | _ => .array .int
theorem nmX0 : ∀ a, a < 18 → ∀ b, b < 18 → a ≠ b → (TX0 a).2.1 ≠ (TX0 b).2.1 := by decide +kernel
theorem tyX0_ok : ∀ k, k < 18 → parseFieldDescriptor (TX0 k).2.2.1 = some (tyX0 k) := by decide +kernel
theorem inX0 : ∀ w ∈ u_ws RX0 TX0 18, w ∈ fm_Ts := fm_ins [282, 284, 286, 288, 290, 292, 294, 296, 298, 300, 302, 304, 306, 308, 310, 312, 314, 316] (by decide +kernel) (by decide +kernel)
def RX1 : String := "DustMint$Law"
def TX1 : u_T := fun k => match k with
  | 0 => ("DustMint$Law", "kinds", "[I", true)
  | 1 => ("DustMint$Law", "operands", "[I", true)
  | 2 => ("DustMint$Law", "steps", "I", false)
  | 3 => ("DustMint$Law", "letters", "[I", true)
  | 4 => ("DustMint$Law", "starts", "[I", true)
  | 5 => ("DustMint$Law", "middles", "[I", true)
  | 6 => ("DustMint$Law", "ends", "[I", true)
  | 7 => ("DustMint$Law", "clauses", "I", false)
  | 8 => ("DustMint$Law", "lossSeesDust", "Z", false)
  | 9 => ("DustMint$Law", "sees", "[I", true)
  | _ => ("DustMint$Law", "stack", "[I", true)
def tyX1 : Nat → FieldType := fun k => match k with
  | 0 => .array .int
  | 1 => .array .int
  | 2 => .int
  | 3 => .array .int
  | 4 => .array .int
  | 5 => .array .int
  | 6 => .array .int
  | 7 => .int
  | 8 => .boolean
  | 9 => .array .int
  | _ => .array .int
theorem nmX1 : ∀ a, a < 11 → ∀ b, b < 11 → a ≠ b → (TX1 a).2.1 ≠ (TX1 b).2.1 := by decide +kernel
theorem tyX1_ok : ∀ k, k < 11 → parseFieldDescriptor (TX1 k).2.2.1 = some (tyX1 k) := by decide +kernel
theorem inX1 : ∀ w ∈ u_ws RX1 TX1 11, w ∈ fm_Ts := fm_ins [157, 159, 161, 163, 165, 167, 169, 171, 173, 175, 177] (by decide +kernel) (by decide +kernel)
def RX2 : String := "DustMint$Porters"
def TX2 : u_T := fun k => match k with
  | 0 => ("DustMint$Porters", "told", "I", false)
  | 1 => ("DustMint$Porters", "places", "[I", true)
  | 2 => ("DustMint$Porters", "bowl", "[I", true)
  | 3 => ("DustMint$Porters", "limps", "[I", true)
  | _ => ("DustMint$Porters", "sneezes", "[I", true)
def tyX2 : Nat → FieldType := fun k => match k with
  | 0 => .int
  | 1 => .array .int
  | 2 => .array .int
  | 3 => .array .int
  | _ => .array .int
theorem nmX2 : ∀ a, a < 5 → ∀ b, b < 5 → a ≠ b → (TX2 a).2.1 ≠ (TX2 b).2.1 := by decide +kernel
theorem tyX2_ok : ∀ k, k < 5 → parseFieldDescriptor (TX2 k).2.2.1 = some (tyX2 k) := by decide +kernel
theorem inX2 : ∀ w ∈ u_ws RX2 TX2 5, w ∈ fm_Ts := fm_ins [232, 234, 236, 238, 240] (by decide +kernel) (by decide +kernel)
def RX3 : String := "DustMint$Reader"
def TX3 : u_T := fun k => match k with
  | 0 => ("DustMint$Reader", "found", "LDustMint$Law;", true)
  | 1 => ("DustMint$Reader", "tape", "LDustMint$Tape;", true)
  | 2 => ("DustMint$Reader", "size", "I", false)
  | 3 => ("DustMint$Reader", "at", "I", false)
  | _ => ("DustMint$Reader", "fault", "I", false)
def tyX3 : Nat → FieldType := fun k => match k with
  | 0 => .object "DustMint$Law"
  | 1 => .object "DustMint$Tape"
  | 2 => .int
  | 3 => .int
  | _ => .int
theorem nmX3 : ∀ a, a < 5 → ∀ b, b < 5 → a ≠ b → (TX3 a).2.1 ≠ (TX3 b).2.1 := by decide +kernel
theorem tyX3_ok : ∀ k, k < 5 → parseFieldDescriptor (TX3 k).2.2.1 = some (tyX3 k) := by decide +kernel
theorem inX3 : ∀ w ∈ u_ws RX3 TX3 5, w ∈ fm_Ts := fm_ins [194, 196, 198, 200, 202] (by decide +kernel) (by decide +kernel)
def RX4 : String := "DustMint$Sieving"
def TX4 : u_T := fun k => match k with
  | 0 => ("DustMint$Sieving", "bestSize", "I", false)
  | 1 => ("DustMint$Sieving", "bestGain", "I", false)
  | 2 => ("DustMint$Sieving", "best", "[I", true)
  | 3 => ("DustMint$Sieving", "row", "[I", true)
  | 4 => ("DustMint$Sieving", "besideOne", "[I", true)
  | 5 => ("DustMint$Sieving", "besideTwo", "[I", true)
  | 6 => ("DustMint$Sieving", "hill", "LDustMint$Hill;", true)
  | 7 => ("DustMint$Sieving", "trial", "LDustMint$Hill;", true)
  | 8 => ("DustMint$Sieving", "law", "LDustMint$Law;", true)
  | 9 => ("DustMint$Sieving", "beggar", "I", false)
  | 10 => ("DustMint$Sieving", "hours", "I", false)
  | _ => ("DustMint$Sieving", "price", "I", false)
def tyX4 : Nat → FieldType := fun k => match k with
  | 0 => .int
  | 1 => .int
  | 2 => .array .int
  | 3 => .array .int
  | 4 => .array .int
  | 5 => .array .int
  | 6 => .object "DustMint$Hill"
  | 7 => .object "DustMint$Hill"
  | 8 => .object "DustMint$Law"
  | 9 => .int
  | 10 => .int
  | _ => .int
theorem nmX4 : ∀ a, a < 12 → ∀ b, b < 12 → a ≠ b → (TX4 a).2.1 ≠ (TX4 b).2.1 := by decide +kernel
theorem tyX4_ok : ∀ k, k < 12 → parseFieldDescriptor (TX4 k).2.2.1 = some (tyX4 k) := by decide +kernel
theorem inX4 : ∀ w ∈ u_ws RX4 TX4 12, w ∈ fm_Ts := fm_ins [339, 341, 343, 345, 347, 349, 351, 353, 355, 357, 359, 361] (by decide +kernel) (by decide +kernel)
def RX5 : String := "DustMint$Swap"
def TX5 : u_T := fun k => match k with
  | 0 => ("DustMint$Swap", "who", "[I", true)
  | 1 => ("DustMint$Swap", "row", "[I", true)
  | 2 => ("DustMint$Swap", "best", "[I", true)
  | _ => ("DustMint$Swap", "size", "I", false)
def tyX5 : Nat → FieldType := fun k => match k with
  | 0 => .array .int
  | 1 => .array .int
  | 2 => .array .int
  | _ => .int
theorem nmX5 : ∀ a, a < 4 → ∀ b, b < 4 → a ≠ b → (TX5 a).2.1 ≠ (TX5 b).2.1 := by decide +kernel
theorem tyX5_ok : ∀ k, k < 4 → parseFieldDescriptor (TX5 k).2.2.1 = some (tyX5 k) := by decide +kernel
theorem inX5 : ∀ w ∈ u_ws RX5 TX5 4, w ∈ fm_Ts := fm_ins [374, 376, 378, 380] (by decide +kernel) (by decide +kernel)
def RX6 : String := "DustMint$Tape"
def TX6 : u_T := fun k => match k with
  | 0 => ("DustMint$Tape", "bytes", "[I", true)
  | _ => ("DustMint$Tape", "size", "I", false)
def tyX6 : Nat → FieldType := fun k => match k with
  | 0 => .array .int
  | _ => .int
theorem nmX6 : ∀ a, a < 2 → ∀ b, b < 2 → a ≠ b → (TX6 a).2.1 ≠ (TX6 b).2.1 := by decide +kernel
theorem tyX6_ok : ∀ k, k < 2 → parseFieldDescriptor (TX6 k).2.2.1 = some (tyX6 k) := by decide +kernel
theorem inX6 : ∀ w ∈ u_ws RX6 TX6 2, w ∈ fm_Ts := fm_ins [122, 124] (by decide +kernel) (by decide +kernel)
def RX7 : String := "DustMint"
def TX7 : u_T := fun k => match k with
  | 0 => ("DustMint", "tape", "LDustMint$Tape;", true)
  | 1 => ("DustMint", "keptTape", "LDustMint$Tape;", true)
  | 2 => ("DustMint", "text", "LDustMint$Law;", true)
  | 3 => ("DustMint", "reader", "LDustMint$Reader;", true)
  | 4 => ("DustMint", "hill", "LDustMint$Hill;", true)
  | 5 => ("DustMint", "keptHill", "LDustMint$Hill;", true)
  | 6 => ("DustMint", "trial", "LDustMint$Hill;", true)
  | 7 => ("DustMint", "sieving", "LDustMint$Sieving;", true)
  | 8 => ("DustMint", "swap", "LDustMint$Swap;", true)
  | 9 => ("DustMint", "without", "[I", true)
  | 10 => ("DustMint", "worths", "[I", true)
  | _ => ("DustMint", "isKept", "Z", false)
def tyX7 : Nat → FieldType := fun k => match k with
  | 0 => .object "DustMint$Tape"
  | 1 => .object "DustMint$Tape"
  | 2 => .object "DustMint$Law"
  | 3 => .object "DustMint$Reader"
  | 4 => .object "DustMint$Hill"
  | 5 => .object "DustMint$Hill"
  | 6 => .object "DustMint$Hill"
  | 7 => .object "DustMint$Sieving"
  | 8 => .object "DustMint$Swap"
  | 9 => .array .int
  | 10 => .array .int
  | _ => .boolean
theorem nmX7 : ∀ a, a < 12 → ∀ b, b < 12 → a ≠ b → (TX7 a).2.1 ≠ (TX7 b).2.1 := by decide +kernel
theorem tyX7_ok : ∀ k, k < 12 → parseFieldDescriptor (TX7 k).2.2.1 = some (tyX7 k) := by decide +kernel
theorem inX7 : ∀ w ∈ u_ws RX7 TX7 12, w ∈ fm_Ts := fm_ins [395, 397, 399, 401, 403, 405, 407, 409, 411, 413, 415, 417] (by decide +kernel) (by decide +kernel)
def RX8 : String := "DustMintModel"
def TX8 : u_T := fun k => match k with
  | 0 => ("DustMintModel", "tape", "[B", true)
  | 1 => ("DustMintModel", "taped", "I", false)
  | 2 => ("DustMintModel", "hour", "I", false)
  | 3 => ("DustMintModel", "luck", "I", false)
  | 4 => ("DustMintModel", "gold", "I", false)
  | 5 => ("DustMintModel", "river", "I", false)
  | 6 => ("DustMintModel", "gone", "I", false)
  | 7 => ("DustMintModel", "dust", "[I", true)
  | 8 => ("DustMintModel", "windOf", "[I", true)
  | 9 => ("DustMintModel", "isCarpet", "[Z", true)
  | 10 => ("DustMintModel", "licenceOf", "[I", true)
  | 11 => ("DustMintModel", "skills", "[I", true)
  | 12 => ("DustMintModel", "purse", "[I", true)
  | 13 => ("DustMintModel", "isTold", "[Z", true)
  | 14 => ("DustMintModel", "porterYard", "[I", true)
  | 15 => ("DustMintModel", "bowl", "[I", true)
  | 16 => ("DustMintModel", "limp", "[I", true)
  | 17 => ("DustMintModel", "sneeze", "[I", true)
  | 18 => ("DustMintModel", "rains", "[I", true)
  | 19 => ("DustMintModel", "ledTo", "[I", true)
  | 20 => ("DustMintModel", "clauseMany", "I", false)
  | 21 => ("DustMintModel", "clauseLetter", "[I", true)
  | 22 => ("DustMintModel", "sumFrom", "[I", true)
  | 23 => ("DustMintModel", "codeFrom", "[I", true)
  | 24 => ("DustMintModel", "codeTo", "[I", true)
  | 25 => ("DustMintModel", "code", "[I", true)
  | 26 => ("DustMintModel", "codeArg", "[I", true)
  | 27 => ("DustMintModel", "newLetter", "[I", true)
  | 28 => ("DustMintModel", "newSum", "[I", true)
  | 29 => ("DustMintModel", "newFrom", "[I", true)
  | 30 => ("DustMintModel", "newTo", "[I", true)
  | 31 => ("DustMintModel", "newCode", "[I", true)
  | 32 => ("DustMintModel", "newArg", "[I", true)
  | 33 => ("DustMintModel", "place", "I", false)
  | 34 => ("DustMintModel", "end", "I", false)
  | 35 => ("DustMintModel", "bad", "I", false)
  | 36 => ("DustMintModel", "clauses", "I", false)
  | 37 => ("DustMintModel", "codes", "I", false)
  | 38 => ("DustMintModel", "open", "I", false)
  | 39 => ("DustMintModel", "stacked", "I", false)
  | 40 => ("DustMintModel", "isOver", "Z", false)
  | 41 => ("DustMintModel", "isBehind", "Z", false)
  | 42 => ("DustMintModel", "stack", "[I", true)
  | 43 => ("DustMintModel", "atYard", "I", false)
  | 44 => ("DustMintModel", "atPorter", "I", false)
  | 45 => ("DustMintModel", "atBeggar", "I", false)
  | 46 => ("DustMintModel", "drawn", "I", false)
  | 47 => ("DustMintModel", "worths", "[I", true)
  | 48 => ("DustMintModel", "isRefused", "[Z", true)
  | 49 => ("DustMintModel", "lostNow", "[I", true)
  | 50 => ("DustMintModel", "moves", "[I", true)
  | 51 => ("DustMintModel", "lost", "I", false)
  | 52 => ("DustMintModel", "sideDust", "[I", true)
  | 53 => ("DustMintModel", "sideWind", "[I", true)
  | 54 => ("DustMintModel", "sideCarpet", "[Z", true)
  | 55 => ("DustMintModel", "sideLicence", "[I", true)
  | 56 => ("DustMintModel", "sideSkill", "[I", true)
  | 57 => ("DustMintModel", "sidePurse", "[I", true)
  | 58 => ("DustMintModel", "sideTold", "[Z", true)
  | 59 => ("DustMintModel", "sideYard", "[I", true)
  | 60 => ("DustMintModel", "sideBowl", "[I", true)
  | 61 => ("DustMintModel", "sideLimp", "[I", true)
  | 62 => ("DustMintModel", "sideSneeze", "[I", true)
  | 63 => ("DustMintModel", "sideRain", "[I", true)
  | 64 => ("DustMintModel", "sideLed", "[I", true)
  | 65 => ("DustMintModel", "sideNumbers", "[I", true)
  | 66 => ("DustMintModel", "sieveBest", "I", false)
  | 67 => ("DustMintModel", "sieveSet", "I", false)
  | 68 => ("DustMintModel", "some", "[I", true)
  | 69 => ("DustMintModel", "row", "[I", true)
  | 70 => ("DustMintModel", "bestRow", "[I", true)
  | 71 => ("DustMintModel", "bowlWas", "[I", true)
  | 72 => ("DustMintModel", "dustThen", "[I", true)
  | _ => ("DustMintModel", "isKept", "Z", false)
def tyX8 : Nat → FieldType := fun k => match k with
  | 0 => .array .byte
  | 1 => .int
  | 2 => .int
  | 3 => .int
  | 4 => .int
  | 5 => .int
  | 6 => .int
  | 7 => .array .int
  | 8 => .array .int
  | 9 => .array .boolean
  | 10 => .array .int
  | 11 => .array .int
  | 12 => .array .int
  | 13 => .array .boolean
  | 14 => .array .int
  | 15 => .array .int
  | 16 => .array .int
  | 17 => .array .int
  | 18 => .array .int
  | 19 => .array .int
  | 20 => .int
  | 21 => .array .int
  | 22 => .array .int
  | 23 => .array .int
  | 24 => .array .int
  | 25 => .array .int
  | 26 => .array .int
  | 27 => .array .int
  | 28 => .array .int
  | 29 => .array .int
  | 30 => .array .int
  | 31 => .array .int
  | 32 => .array .int
  | 33 => .int
  | 34 => .int
  | 35 => .int
  | 36 => .int
  | 37 => .int
  | 38 => .int
  | 39 => .int
  | 40 => .boolean
  | 41 => .boolean
  | 42 => .array .int
  | 43 => .int
  | 44 => .int
  | 45 => .int
  | 46 => .int
  | 47 => .array .int
  | 48 => .array .boolean
  | 49 => .array .int
  | 50 => .array .int
  | 51 => .int
  | 52 => .array .int
  | 53 => .array .int
  | 54 => .array .boolean
  | 55 => .array .int
  | 56 => .array .int
  | 57 => .array .int
  | 58 => .array .boolean
  | 59 => .array .int
  | 60 => .array .int
  | 61 => .array .int
  | 62 => .array .int
  | 63 => .array .int
  | 64 => .array .int
  | 65 => .array .int
  | 66 => .int
  | 67 => .int
  | 68 => .array .int
  | 69 => .array .int
  | 70 => .array .int
  | 71 => .array .int
  | 72 => .array .int
  | _ => .boolean
theorem nmX8 : ∀ a, a < 74 → ∀ b, b < 74 → a ≠ b → (TX8 a).2.1 ≠ (TX8 b).2.1 := by decide +kernel
theorem tyX8_ok : ∀ k, k < 74 → parseFieldDescriptor (TX8 k).2.2.1 = some (tyX8 k) := by decide +kernel
theorem inX8 : ∀ w ∈ u_ws RX8 TX8 74, w ∈ fm_Ts := fm_ins [1044, 1046, 1048, 1050, 1052, 1054, 1056, 1058, 1060, 1062, 1064, 1066, 1068, 1070, 1072, 1074, 1076, 1078, 1080, 1082, 1084, 1086, 1088, 1090, 1092, 1094, 1096, 1098, 1100, 1102, 1104, 1106, 1108, 1110, 1112, 1114, 1116, 1118, 1120, 1122, 1124, 1126, 1128, 1130, 1132, 1134, 1136, 1138, 1140, 1142, 1144, 1146, 1148, 1150, 1152, 1154, 1156, 1158, 1160, 1162, 1164, 1166, 1168, 1170, 1172, 1174, 1176, 1178, 1180, 1182, 1184, 1186, 1188, 1190] (by decide +kernel) (by decide +kernel)
abbrev fm_cl : List vw_C := [(RX0, TX0, 18), (RX1, TX1, 11), (RX2, TX2, 5), (RX3, TX3, 5), (RX4, TX4, 12), (RX5, TX5, 4), (RX6, TX6, 2), (RX7, TX7, 12), (RX8, TX8, 74)]
theorem clX0 : fm_Cl fm_cl 0 := ⟨RX0, TX0, 18, tyX0, rfl, tyX0_ok, nmX0⟩
theorem clX1 : fm_Cl fm_cl 1 := ⟨RX1, TX1, 11, tyX1, rfl, tyX1_ok, nmX1⟩
theorem clX2 : fm_Cl fm_cl 2 := ⟨RX2, TX2, 5, tyX2, rfl, tyX2_ok, nmX2⟩
theorem clX3 : fm_Cl fm_cl 3 := ⟨RX3, TX3, 5, tyX3, rfl, tyX3_ok, nmX3⟩
theorem clX4 : fm_Cl fm_cl 4 := ⟨RX4, TX4, 12, tyX4, rfl, tyX4_ok, nmX4⟩
theorem clX5 : fm_Cl fm_cl 5 := ⟨RX5, TX5, 4, tyX5, rfl, tyX5_ok, nmX5⟩
theorem clX6 : fm_Cl fm_cl 6 := ⟨RX6, TX6, 2, tyX6, rfl, tyX6_ok, nmX6⟩
theorem clX7 : fm_Cl fm_cl 7 := ⟨RX7, TX7, 12, tyX7, rfl, tyX7_ok, nmX7⟩
theorem clX8 : fm_Cl fm_cl 8 := ⟨RX8, TX8, 74, tyX8, rfl, tyX8_ok, nmX8⟩
def yX0_init : MethodName := ⟨RX0, "<init>", "()V"⟩
def yX0_takeAll : MethodName := ⟨RX0, "takeAll", "(LDustMint$Hill;)V"⟩
def yX0_takeMoving : MethodName := ⟨RX0, "takeMoving", "(LDustMint$Hill;)V"⟩
def yX0_sumDust : MethodName := ⟨RX0, "sumDust", "()I"⟩
def yX0_sumLed : MethodName := ⟨RX0, "sumLed", "(II)I"⟩
def yX0_passDrawn : MethodName := ⟨RX0, "passDrawn", "(LDustMint$Law;I)I"⟩
def yX0_passUnder : MethodName := ⟨RX0, "passUnder", "(LDustMint$Law;II)I"⟩
def yX0_nextDraw : MethodName := ⟨RX0, "nextDraw", "()I"⟩
def yX0_pass : MethodName := ⟨RX0, "pass", "(LDustMint$Law;I)I"⟩
def yX0_spill : MethodName := ⟨RX0, "spill", "(LDustMint$Law;I)I"⟩
def yX0_loss : MethodName := ⟨RX0, "loss", "(LDustMint$Law;II)I"⟩
def yX0_show : MethodName := ⟨RX0, "show", "(LDustMint$Law;I)V"⟩
def yX0_heap : MethodName := ⟨RX0, "heap", "(II)V"⟩
def yX0_climb : MethodName := ⟨RX0, "climb", "()V"⟩
def yX0_blow : MethodName := ⟨RX0, "blow", "(LDustMint$Law;)V"⟩
def yX0_wash : MethodName := ⟨RX0, "wash", "(LDustMint$Law;)V"⟩
def yX0_sieve : MethodName := ⟨RX0, "sieve", "(LDustMint$Law;)V"⟩
def yX0_taken : MethodName := ⟨RX0, "taken", "(LDustMint$Law;II)I"⟩
def yX1_init : MethodName := ⟨RX1, "<init>", "()V"⟩
def yX1_take : MethodName := ⟨RX1, "take", "(LDustMint$Law;)V"⟩
def yX1_clear : MethodName := ⟨RX1, "clear", "()V"⟩
def yX1_putStep : MethodName := ⟨RX1, "putStep", "(II)I"⟩
def yX1_leadToEnd : MethodName := ⟨RX1, "leadToEnd", "(I)V"⟩
def yX1_forgetWho : MethodName := ⟨RX1, "forgetWho", "()V"⟩
def yX1_has : MethodName := ⟨RX1, "has", "(I)Z"⟩
def yX1_amount : MethodName := ⟨RX1, "amount", "(I)I"⟩
def yX1_reckon : MethodName := ⟨RX1, "reckon", "(II)I"⟩
def yX2_init : MethodName := ⟨RX2, "<init>", "()V"⟩
def yX2_takeAll : MethodName := ⟨RX2, "takeAll", "(LDustMint$Porters;)V"⟩
def yX2_takeMoving : MethodName := ⟨RX2, "takeMoving", "(LDustMint$Porters;)V"⟩
def yX2_isTold : MethodName := ⟨RX2, "isTold", "(I)Z"⟩
def yX2_climbs : MethodName := ⟨RX2, "climbs", "(I)Z"⟩
def yX2_allClimb : MethodName := ⟨RX2, "allClimb", "(I)Z"⟩
def yX2_countAt : MethodName := ⟨RX2, "countAt", "(I)I"⟩
def yX3_init : MethodName := ⟨RX3, "<init>", "(LDustMint$Tape;)V"⟩
def yX3_readText : MethodName := ⟨RX3, "readText", "(I)I"⟩
def yX3_next : MethodName := ⟨RX3, "next", "()I"⟩
def yX3_fail : MethodName := ⟨RX3, "fail", "(I)Z"⟩
def yX3_close : MethodName := ⟨RX3, "close", "(I)Z"⟩
def yX3_open : MethodName := ⟨RX3, "open", "(II)Z"⟩
def yX3_readClause : MethodName := ⟨RX3, "readClause", "()Z"⟩
def yX3_seesDust : MethodName := ⟨RX3, "seesDust", "(I)Z"⟩
def yX3_readParts : MethodName := ⟨RX3, "readParts", "(I)Z"⟩
def yX3_readPieces : MethodName := ⟨RX3, "readPieces", "(I)Z"⟩
def yX3_readPiece : MethodName := ⟨RX3, "readPiece", "(I)Z"⟩
def yX3_readSum : MethodName := ⟨RX3, "readSum", "(I)Z"⟩
def yX3_readTerm : MethodName := ⟨RX3, "readTerm", "(I)Z"⟩
def yX3_readFactor : MethodName := ⟨RX3, "readFactor", "(I)Z"⟩
def yX3_readNumber : MethodName := ⟨RX3, "readNumber", "()Z"⟩
def yX3_isDigit : MethodName := ⟨RX3, "isDigit", "(I)Z"⟩
def yX4_init : MethodName := ⟨RX4, "<init>", "(LDustMint$Hill;LDustMint$Hill;LDustMint$Law;)V"⟩
def yX4_begin : MethodName := ⟨RX4, "begin", "(III)V"⟩
def yX4_bestAt : MethodName := ⟨RX4, "bestAt", "(I)I"⟩
def yX4_weighOnes : MethodName := ⟨RX4, "weighOnes", "()V"⟩
def yX4_weighPairs : MethodName := ⟨RX4, "weighPairs", "()V"⟩
def yX4_weighTriples : MethodName := ⟨RX4, "weighTriples", "()V"⟩
def yX4_hasBit : MethodName := ⟨RX4, "hasBit", "(II)Z"⟩
def yX4_weigh : MethodName := ⟨RX4, "weigh", "(I)I"⟩
def yX4_grant : MethodName := ⟨RX4, "grant", "(II)V"⟩
def yX5_init : MethodName := ⟨RX5, "<init>", "()V"⟩
def yX5_begin : MethodName := ⟨RX5, "begin", "(I)V"⟩
def yX5_goOn : MethodName := ⟨RX5, "goOn", "()Z"⟩
def yX5_exchange : MethodName := ⟨RX5, "exchange", "(II)V"⟩
def yX5_holdBest : MethodName := ⟨RX5, "holdBest", "()V"⟩
def yX5_whoseFor : MethodName := ⟨RX5, "whoseFor", "(I)I"⟩
def yX5_handOut : MethodName := ⟨RX5, "handOut", "(LDustMint$Porters;LDustMint$Porters;)V"⟩
def yX5_handOutBest : MethodName := ⟨RX5, "handOutBest", "(LDustMint$Porters;LDustMint$Porters;)V"⟩
def yX5_handOutBy : MethodName := ⟨RX5, "handOutBy", "([ILDustMint$Porters;LDustMint$Porters;)V"⟩
def yX6_init : MethodName := ⟨RX6, "<init>", "()V"⟩
def yX6_hasRoom : MethodName := ⟨RX6, "hasRoom", "(I)Z"⟩
def yX6_putNumber : MethodName := ⟨RX6, "putNumber", "(I)V"⟩
def yX6_byteAt : MethodName := ⟨RX6, "byteAt", "(I)I"⟩
def yX6_numberAt : MethodName := ⟨RX6, "numberAt", "(I)I"⟩
def yX6_take : MethodName := ⟨RX6, "take", "(LDustMint$Tape;)V"⟩
def yX7_init : MethodName := ⟨RX7, "<init>", "()V"⟩
def yX7_yard : MethodName := ⟨RX7, "yard", "(IIIZ)Z"⟩
def yX7_rain : MethodName := ⟨RX7, "rain", "(II)Z"⟩
def yX7_porter : MethodName := ⟨RX7, "porter", "(IIIII)Z"⟩
def yX7_licence : MethodName := ⟨RX7, "licence", "(II)Z"⟩
def yX7_skill : MethodName := ⟨RX7, "skill", "(II)Z"⟩
def yX7_feed : MethodName := ⟨RX7, "feed", "(IIIII)I"⟩
def yX7_law : MethodName := ⟨RX7, "law", "(I)I"⟩
def yX7_hours : MethodName := ⟨RX7, "hours", "(I)I"⟩
def yX7_hour : MethodName := ⟨RX7, "hour", "(I)I"⟩
def yX7_yardIs : MethodName := ⟨RX7, "yardIs", "(II)I"⟩
def yX7_porterIs : MethodName := ⟨RX7, "porterIs", "(II)I"⟩
def yX7_tried : MethodName := ⟨RX7, "tried", "(II)I"⟩
def yX7_isTriable : MethodName := ⟨RX7, "isTriable", "(I)Z"⟩
def yX7_sieved : MethodName := ⟨RX7, "sieved", "(IIIII)I"⟩
def yX7_bowls : MethodName := ⟨RX7, "bowls", "(III)I"⟩
def yX7_searchSwap : MethodName := ⟨RX7, "searchSwap", "(II)I"⟩
def yX7_carpet : MethodName := ⟨RX7, "carpet", "(II)I"⟩
def yX7_gust : MethodName := ⟨RX7, "gust", "(IIII)I"⟩
def yX7_worth : MethodName := ⟨RX7, "worth", "(III)I"⟩
def yX7_sold : MethodName := ⟨RX7, "sold", "(III)I"⟩
def yX7_tryUnlicensed : MethodName := ⟨RX7, "tryUnlicensed", "(II)V"⟩
def yX7_worthTo : MethodName := ⟨RX7, "worthTo", "(III)I"⟩
def yX7_shook : MethodName := ⟨RX7, "shook", "(III)I"⟩
def yX7_wouldShake : MethodName := ⟨RX7, "wouldShake", "(IIII)Z"⟩
def yX7_led : MethodName := ⟨RX7, "led", "(II)I"⟩
def yX7_share : MethodName := ⟨RX7, "share", "(III)I"⟩
def yX7_odds : MethodName := ⟨RX7, "odds", "(III)I"⟩
def yX7_seed : MethodName := ⟨RX7, "seed", "(I)Z"⟩
def yX7_keep : MethodName := ⟨RX7, "keep", "()I"⟩
def yX7_undo : MethodName := ⟨RX7, "undo", "()Z"⟩
def yX7_check : MethodName := ⟨RX7, "check", "(I)I"⟩
def yX7_count : MethodName := ⟨RX7, "count", "(I)I"⟩
def yX7_isWithin : MethodName := ⟨RX7, "isWithin", "(III)Z"⟩
def yX7_isYard : MethodName := ⟨RX7, "isYard", "(I)Z"⟩
def yX7_isPorter : MethodName := ⟨RX7, "isPorter", "(I)Z"⟩
def yX7_isBeggar : MethodName := ⟨RX7, "isBeggar", "(I)Z"⟩
def yX7_reduced : MethodName := ⟨RX7, "reduced", "(III)I"⟩
def yX8_init : MethodName := ⟨RX8, "<init>", "()V"⟩
def yX8_lies : MethodName := ⟨RX8, "lies", "(JJJ)Z"⟩
def yX8_has : MethodName := ⟨RX8, "has", "(II)Z"⟩
def yX8_sizeOf : MethodName := ⟨RX8, "sizeOf", "(I)I"⟩
def yX8_isYard : MethodName := ⟨RX8, "isYard", "(I)Z"⟩
def yX8_isBeggar : MethodName := ⟨RX8, "isBeggar", "(I)Z"⟩
def yX8_isPorter : MethodName := ⟨RX8, "isPorter", "(I)Z"⟩
def yX8_goesStill : MethodName := ⟨RX8, "goesStill", "(I)Z"⟩
def yX8_isDigit : MethodName := ⟨RX8, "isDigit", "(I)Z"⟩
def yX8_yard : MethodName := ⟨RX8, "yard", "(IIIZ)Z"⟩
def yX8_rain : MethodName := ⟨RX8, "rain", "(II)Z"⟩
def yX8_porter : MethodName := ⟨RX8, "porter", "(IIIII)Z"⟩
def yX8_licence : MethodName := ⟨RX8, "licence", "(II)Z"⟩
def yX8_skill : MethodName := ⟨RX8, "skill", "(II)Z"⟩
def yX8_push : MethodName := ⟨RX8, "push", "(I)V"⟩
def yX8_feed : MethodName := ⟨RX8, "feed", "(IIIII)I"⟩
def yX8_byteAt : MethodName := ⟨RX8, "byteAt", "(I)I"⟩
def yX8_here : MethodName := ⟨RX8, "here", "()I"⟩
def yX8_wrongs : MethodName := ⟨RX8, "wrongs", "(II)V"⟩
def yX8_isGood : MethodName := ⟨RX8, "isGood", "()Z"⟩
def yX8_emit : MethodName := ⟨RX8, "emit", "(II)V"⟩
def yX8_top : MethodName := ⟨RX8, "top", "()I"⟩
def yX8_puts : MethodName := ⟨RX8, "puts", "(I)V"⟩
def yX8_opens : MethodName := ⟨RX8, "opens", "()V"⟩
def yX8_seesDigit : MethodName := ⟨RX8, "seesDigit", "()Z"⟩
def yX8_reads : MethodName := ⟨RX8, "reads", "()I"⟩
def yX8_isTimes : MethodName := ⟨RX8, "isTimes", "(I)Z"⟩
def yX8_isPlus : MethodName := ⟨RX8, "isPlus", "(I)Z"⟩
def yX8_isSign : MethodName := ⟨RX8, "isSign", "(I)Z"⟩
def yX8_isOfYard : MethodName := ⟨RX8, "isOfYard", "(I)Z"⟩
def yX8_isValue : MethodName := ⟨RX8, "isValue", "(I)Z"⟩
def yX8_sums : MethodName := ⟨RX8, "sums", "(Z)V"⟩
def yX8_joins : MethodName := ⟨RX8, "joins", "(Z)V"⟩
def yX8_ends : MethodName := ⟨RX8, "ends", "()V"⟩
def yX8_factor : MethodName := ⟨RX8, "factor", "()V"⟩
def yX8_stays : MethodName := ⟨RX8, "stays", "()Z"⟩
def yX8_value : MethodName := ⟨RX8, "value", "()V"⟩
def yX8_pieceOfC : MethodName := ⟨RX8, "pieceOfC", "()V"⟩
def yX8_goesBehind : MethodName := ⟨RX8, "goesBehind", "()Z"⟩
def yX8_condition : MethodName := ⟨RX8, "condition", "()V"⟩
def yX8_clause : MethodName := ⟨RX8, "clause", "()V"⟩
def yX8_law : MethodName := ⟨RX8, "law", "(I)I"⟩
def yX8_rainNow : MethodName := ⟨RX8, "rainNow", "()I"⟩
def yX8_portersAt : MethodName := ⟨RX8, "portersAt", "(I)I"⟩
def yX8_ofYard : MethodName := ⟨RX8, "ofYard", "(I)I"⟩
def yX8_ofPorter : MethodName := ⟨RX8, "ofPorter", "(I)I"⟩
def yX8_valueOf : MethodName := ⟨RX8, "valueOf", "(I)I"⟩
def yX8_worked : MethodName := ⟨RX8, "worked", "(III)I"⟩
def yX8_does : MethodName := ⟨RX8, "does", "(II)V"⟩
def yX8_works : MethodName := ⟨RX8, "works", "(II)V"⟩
def yX8_tells : MethodName := ⟨RX8, "tells", "(IIII)I"⟩
def yX8_less : MethodName := ⟨RX8, "less", "(II)I"⟩
def yX8_wouldLose : MethodName := ⟨RX8, "wouldLose", "(I)I"⟩
def yX8_comes : MethodName := ⟨RX8, "comes", "(II)V"⟩
def yX8_loses : MethodName := ⟨RX8, "loses", "()V"⟩
def yX8_climbs : MethodName := ⟨RX8, "climbs", "()V"⟩
def yX8_blows : MethodName := ⟨RX8, "blows", "()V"⟩
def yX8_washes : MethodName := ⟨RX8, "washes", "()V"⟩
def yX8_sieves : MethodName := ⟨RX8, "sieves", "()V"⟩
def yX8_passes : MethodName := ⟨RX8, "passes", "(I)V"⟩
def yX8_goesOn : MethodName := ⟨RX8, "goesOn", "(I)V"⟩
def yX8_areHours : MethodName := ⟨RX8, "areHours", "(I)Z"⟩
def yX8_areFew : MethodName := ⟨RX8, "areFew", "(I)Z"⟩
def yX8_hours : MethodName := ⟨RX8, "hours", "(I)I"⟩
def yX8_hour : MethodName := ⟨RX8, "hour", "(I)I"⟩
def yX8_yardIs : MethodName := ⟨RX8, "yardIs", "(II)I"⟩
def yX8_losesNow : MethodName := ⟨RX8, "losesNow", "(I)I"⟩
def yX8_porterIs : MethodName := ⟨RX8, "porterIs", "(II)I"⟩
def yX8_setsAside : MethodName := ⟨RX8, "setsAside", "(I)V"⟩
def yX8_putsBack : MethodName := ⟨RX8, "putsBack", "(I)V"⟩
def yX8_triedNow : MethodName := ⟨RX8, "triedNow", "(I)I"⟩
def yX8_isTried : MethodName := ⟨RX8, "isTried", "(I)Z"⟩
def yX8_tried : MethodName := ⟨RX8, "tried", "(II)I"⟩
def yX8_sievesBy : MethodName := ⟨RX8, "sievesBy", "(IIII)V"⟩
def yX8_isAhead : MethodName := ⟨RX8, "isAhead", "(II)Z"⟩
def yX8_sieved : MethodName := ⟨RX8, "sieved", "(IIIII)I"⟩
def yX8_goesToNext : MethodName := ⟨RX8, "goesToNext", "(I)Z"⟩
def yX8_bowls : MethodName := ⟨RX8, "bowls", "(III)I"⟩
def yX8_carpet : MethodName := ⟨RX8, "carpet", "(II)I"⟩
def yX8_gust : MethodName := ⟨RX8, "gust", "(IIII)I"⟩
def yX8_purseBy : MethodName := ⟨RX8, "purseBy", "(IIII)I"⟩
def yX8_worthOf : MethodName := ⟨RX8, "worthOf", "(III)I"⟩
def yX8_worth : MethodName := ⟨RX8, "worth", "(III)I"⟩
def yX8_sold : MethodName := ⟨RX8, "sold", "(III)I"⟩
def yX8_isShaken : MethodName := ⟨RX8, "isShaken", "(II)Z"⟩
def yX8_shook : MethodName := ⟨RX8, "shook", "(III)I"⟩
def yX8_ledOf : MethodName := ⟨RX8, "ledOf", "(II)I"⟩
def yX8_led : MethodName := ⟨RX8, "led", "(II)I"⟩
def yX8_divisor : MethodName := ⟨RX8, "divisor", "(II)I"⟩
def yX8_share : MethodName := ⟨RX8, "share", "(III)I"⟩
def yX8_odds : MethodName := ⟨RX8, "odds", "(III)I"⟩
def yX8_seed : MethodName := ⟨RX8, "seed", "(I)Z"⟩
def yX8_keep : MethodName := ⟨RX8, "keep", "()I"⟩
def yX8_undo : MethodName := ⟨RX8, "undo", "()Z"⟩
def yX8_numberAt : MethodName := ⟨RX8, "numberAt", "(I)I"⟩
def yX8_check : MethodName := ⟨RX8, "check", "(I)I"⟩
def yX8_allDust : MethodName := ⟨RX8, "allDust", "()I"⟩
def yX8_portersTold : MethodName := ⟨RX8, "portersTold", "()I"⟩
def yX8_count : MethodName := ⟨RX8, "count", "(I)I"⟩
def yJ6_bitCount_0f7a4 : MethodName := ⟨"java/lang/Integer", "bitCount", "(I)I"⟩
def yJ9_abs_0f7a4 : MethodName := ⟨"java/lang/Math", "abs", "(I)I"⟩
def yJ9_max_7cf53 : MethodName := ⟨"java/lang/Math", "max", "(II)I"⟩
def yJ9_min_7cf53 : MethodName := ⟨"java/lang/Math", "min", "(II)I"⟩
def flX6 : List (Nat × Nat × Nat) := [(9, 6, 0), (15, 6, 1)]
theorem fwX6 : ∀ w ∈ [Jvm.Cond.fieldLink RX6 9 RX6 "bytes" "[I", Jvm.Cond.fieldLink RX6 15 RX6 "size" "I"], w ∈ fm_Ts := fm_ins [118, 120] (by decide +kernel) (by decide +kernel)
theorem lkX6_9 : fm_Lk fm_cl fm_Ts RX6 9 6 0 := ⟨RX6, TX6, 2, rfl, inX6, by decide, fwX6 _ (List.mem_of_getElem? (i := 0) rfl), rfl⟩
theorem lkX6_15 : fm_Lk fm_cl fm_Ts RX6 15 6 1 := ⟨RX6, TX6, 2, rfl, inX6, by decide, fwX6 _ (List.mem_of_getElem? (i := 1) rfl), rfl⟩
theorem flX6_ok : ∀ q ∈ flX6, fm_Lk fm_cl fm_Ts RX6 q.1 q.2.1 q.2.2 := List.forall_mem_cons.mpr ⟨lkX6_9, List.forall_mem_cons.mpr ⟨lkX6_15, fun _ h => absurd h List.not_mem_nil⟩⟩
def flX3 : List (Nat × Nat × Nat) := [(12, 3, 0), (18, 3, 2), (22, 3, 3), (25, 3, 4), (28, 3, 1), (47, 1, 7), (50, 6, 0), (64, 1, 3), (67, 1, 4), (70, 1, 2), (76, 1, 5), (89, 1, 6), (92, 1, 8), (99, 1, 0), (102, 1, 1)]
theorem fwX3 : ∀ w ∈ [Jvm.Cond.fieldLink RX3 12 RX3 "found" "LDustMint$Law;", Jvm.Cond.fieldLink RX3 18 RX3 "size" "I", Jvm.Cond.fieldLink RX3 22 RX3 "at" "I", Jvm.Cond.fieldLink RX3 25 RX3 "fault" "I", Jvm.Cond.fieldLink RX3 28 RX3 "tape" "LDustMint$Tape;", Jvm.Cond.fieldLink RX3 47 RX1 "clauses" "I", Jvm.Cond.fieldLink RX3 50 RX6 "bytes" "[I", Jvm.Cond.fieldLink RX3 64 RX1 "letters" "[I", Jvm.Cond.fieldLink RX3 67 RX1 "starts" "[I", Jvm.Cond.fieldLink RX3 70 RX1 "steps" "I", Jvm.Cond.fieldLink RX3 76 RX1 "middles" "[I", Jvm.Cond.fieldLink RX3 89 RX1 "ends" "[I", Jvm.Cond.fieldLink RX3 92 RX1 "lossSeesDust" "Z", Jvm.Cond.fieldLink RX3 99 RX1 "kinds" "[I", Jvm.Cond.fieldLink RX3 102 RX1 "operands" "[I"], w ∈ fm_Ts := fm_ins [188, 191, 192, 193, 190, 149, 119, 141, 143, 139, 145, 147, 152, 135, 137] (by decide +kernel) (by decide +kernel)
theorem lkX3_12 : fm_Lk fm_cl fm_Ts RX3 12 3 0 := ⟨RX3, TX3, 5, rfl, inX3, by decide, fwX3 _ (List.mem_of_getElem? (i := 0) rfl), rfl⟩
theorem lkX3_18 : fm_Lk fm_cl fm_Ts RX3 18 3 2 := ⟨RX3, TX3, 5, rfl, inX3, by decide, fwX3 _ (List.mem_of_getElem? (i := 1) rfl), rfl⟩
theorem lkX3_22 : fm_Lk fm_cl fm_Ts RX3 22 3 3 := ⟨RX3, TX3, 5, rfl, inX3, by decide, fwX3 _ (List.mem_of_getElem? (i := 2) rfl), rfl⟩
theorem lkX3_25 : fm_Lk fm_cl fm_Ts RX3 25 3 4 := ⟨RX3, TX3, 5, rfl, inX3, by decide, fwX3 _ (List.mem_of_getElem? (i := 3) rfl), rfl⟩
theorem lkX3_28 : fm_Lk fm_cl fm_Ts RX3 28 3 1 := ⟨RX3, TX3, 5, rfl, inX3, by decide, fwX3 _ (List.mem_of_getElem? (i := 4) rfl), rfl⟩
theorem lkX3_47 : fm_Lk fm_cl fm_Ts RX3 47 1 7 := ⟨RX1, TX1, 11, rfl, inX1, by decide, fwX3 _ (List.mem_of_getElem? (i := 5) rfl), rfl⟩
theorem lkX3_50 : fm_Lk fm_cl fm_Ts RX3 50 6 0 := ⟨RX6, TX6, 2, rfl, inX6, by decide, fwX3 _ (List.mem_of_getElem? (i := 6) rfl), rfl⟩
theorem lkX3_64 : fm_Lk fm_cl fm_Ts RX3 64 1 3 := ⟨RX1, TX1, 11, rfl, inX1, by decide, fwX3 _ (List.mem_of_getElem? (i := 7) rfl), rfl⟩
theorem lkX3_67 : fm_Lk fm_cl fm_Ts RX3 67 1 4 := ⟨RX1, TX1, 11, rfl, inX1, by decide, fwX3 _ (List.mem_of_getElem? (i := 8) rfl), rfl⟩
theorem lkX3_70 : fm_Lk fm_cl fm_Ts RX3 70 1 2 := ⟨RX1, TX1, 11, rfl, inX1, by decide, fwX3 _ (List.mem_of_getElem? (i := 9) rfl), rfl⟩
theorem lkX3_76 : fm_Lk fm_cl fm_Ts RX3 76 1 5 := ⟨RX1, TX1, 11, rfl, inX1, by decide, fwX3 _ (List.mem_of_getElem? (i := 10) rfl), rfl⟩
theorem lkX3_89 : fm_Lk fm_cl fm_Ts RX3 89 1 6 := ⟨RX1, TX1, 11, rfl, inX1, by decide, fwX3 _ (List.mem_of_getElem? (i := 11) rfl), rfl⟩
theorem lkX3_92 : fm_Lk fm_cl fm_Ts RX3 92 1 8 := ⟨RX1, TX1, 11, rfl, inX1, by decide, fwX3 _ (List.mem_of_getElem? (i := 12) rfl), rfl⟩
theorem lkX3_99 : fm_Lk fm_cl fm_Ts RX3 99 1 0 := ⟨RX1, TX1, 11, rfl, inX1, by decide, fwX3 _ (List.mem_of_getElem? (i := 13) rfl), rfl⟩
theorem lkX3_102 : fm_Lk fm_cl fm_Ts RX3 102 1 1 := ⟨RX1, TX1, 11, rfl, inX1, by decide, fwX3 _ (List.mem_of_getElem? (i := 14) rfl), rfl⟩
theorem flX3_ok : ∀ q ∈ flX3, fm_Lk fm_cl fm_Ts RX3 q.1 q.2.1 q.2.2 := List.forall_mem_cons.mpr ⟨lkX3_12, List.forall_mem_cons.mpr ⟨lkX3_18, List.forall_mem_cons.mpr ⟨lkX3_22, List.forall_mem_cons.mpr ⟨lkX3_25, List.forall_mem_cons.mpr ⟨lkX3_28, List.forall_mem_cons.mpr ⟨lkX3_47, List.forall_mem_cons.mpr ⟨lkX3_50, List.forall_mem_cons.mpr ⟨lkX3_64, List.forall_mem_cons.mpr ⟨lkX3_67, List.forall_mem_cons.mpr ⟨lkX3_70, List.forall_mem_cons.mpr ⟨lkX3_76, List.forall_mem_cons.mpr ⟨lkX3_89, List.forall_mem_cons.mpr ⟨lkX3_92, List.forall_mem_cons.mpr ⟨lkX3_99, List.forall_mem_cons.mpr ⟨lkX3_102, fun _ h => absurd h List.not_mem_nil⟩⟩⟩⟩⟩⟩⟩⟩⟩⟩⟩⟩⟩⟩⟩
def flX7 : List (Nat × Nat × Nat) := [(12, 7, 0), (16, 7, 1), (22, 7, 2), (31, 7, 3), (38, 7, 4), (42, 7, 5), (45, 7, 6), (53, 7, 7), (60, 7, 8), (64, 7, 9), (68, 7, 10), (71, 7, 11), (84, 0, 0), (87, 0, 1), (90, 0, 2), (93, 0, 7), (99, 0, 6), (103, 2, 0), (109, 2, 1), (112, 2, 2), (115, 2, 3), (118, 2, 4), (121, 0, 3), (127, 0, 4), (137, 6, 1), (144, 3, 0), (172, 0, 5), (175, 0, 11), (178, 0, 12), (181, 0, 13), (197, 4, 1), (200, 4, 0), (231, 1, 8), (234, 0, 14), (290, 0, 10), (295, 0, 9), (301, 1, 7)]
theorem fwX7 : ∀ w ∈ [Jvm.Cond.fieldLink RX7 12 RX7 "tape" "LDustMint$Tape;", Jvm.Cond.fieldLink RX7 16 RX7 "keptTape" "LDustMint$Tape;", Jvm.Cond.fieldLink RX7 22 RX7 "text" "LDustMint$Law;", Jvm.Cond.fieldLink RX7 31 RX7 "reader" "LDustMint$Reader;", Jvm.Cond.fieldLink RX7 38 RX7 "hill" "LDustMint$Hill;", Jvm.Cond.fieldLink RX7 42 RX7 "keptHill" "LDustMint$Hill;", Jvm.Cond.fieldLink RX7 45 RX7 "trial" "LDustMint$Hill;", Jvm.Cond.fieldLink RX7 53 RX7 "sieving" "LDustMint$Sieving;", Jvm.Cond.fieldLink RX7 60 RX7 "swap" "LDustMint$Swap;", Jvm.Cond.fieldLink RX7 64 RX7 "without" "[I", Jvm.Cond.fieldLink RX7 68 RX7 "worths" "[I", Jvm.Cond.fieldLink RX7 71 RX7 "isKept" "Z", Jvm.Cond.fieldLink RX7 84 RX0 "dust" "[I", Jvm.Cond.fieldLink RX7 87 RX0 "wind" "[I", Jvm.Cond.fieldLink RX7 90 RX0 "carpets" "[I", Jvm.Cond.fieldLink RX7 93 RX0 "rains" "[I", Jvm.Cond.fieldLink RX7 99 RX0 "porters" "LDustMint$Porters;", Jvm.Cond.fieldLink RX7 103 RX2 "told" "I", Jvm.Cond.fieldLink RX7 109 RX2 "places" "[I", Jvm.Cond.fieldLink RX7 112 RX2 "bowl" "[I", Jvm.Cond.fieldLink RX7 115 RX2 "limps" "[I", Jvm.Cond.fieldLink RX7 118 RX2 "sneezes" "[I", Jvm.Cond.fieldLink RX7 121 RX0 "licences" "[I", Jvm.Cond.fieldLink RX7 127 RX0 "skills" "[I", Jvm.Cond.fieldLink RX7 137 RX6 "size" "I", Jvm.Cond.fieldLink RX7 144 RX3 "found" "LDustMint$Law;", Jvm.Cond.fieldLink RX7 172 RX0 "purses" "[I", Jvm.Cond.fieldLink RX7 175 RX0 "gold" "I", Jvm.Cond.fieldLink RX7 178 RX0 "river" "I", Jvm.Cond.fieldLink RX7 181 RX0 "gone" "I", Jvm.Cond.fieldLink RX7 197 RX4 "bestGain" "I", Jvm.Cond.fieldLink RX7 200 RX4 "bestSize" "I", Jvm.Cond.fieldLink RX7 231 RX1 "lossSeesDust" "Z", Jvm.Cond.fieldLink RX7 234 RX0 "needsDust" "Z", Jvm.Cond.fieldLink RX7 290 RX0 "x" "I", Jvm.Cond.fieldLink RX7 295 RX0 "clock" "I", Jvm.Cond.fieldLink RX7 301 RX1 "clauses" "I"], w ∈ fm_Ts := fm_ins [383, 384, 385, 386, 387, 388, 389, 390, 391, 392, 393, 394, 247, 249, 251, 263, 261, 218, 220, 223, 227, 230, 253, 256, 121, 189, 259, 270, 272, 274, 328, 326, 153, 276, 268, 266, 150] (by decide +kernel) (by decide +kernel)
theorem lkX7_12 : fm_Lk fm_cl fm_Ts RX7 12 7 0 := ⟨RX7, TX7, 12, rfl, inX7, by decide, fwX7 _ (List.mem_of_getElem? (i := 0) rfl), rfl⟩
theorem lkX7_16 : fm_Lk fm_cl fm_Ts RX7 16 7 1 := ⟨RX7, TX7, 12, rfl, inX7, by decide, fwX7 _ (List.mem_of_getElem? (i := 1) rfl), rfl⟩
theorem lkX7_22 : fm_Lk fm_cl fm_Ts RX7 22 7 2 := ⟨RX7, TX7, 12, rfl, inX7, by decide, fwX7 _ (List.mem_of_getElem? (i := 2) rfl), rfl⟩
theorem lkX7_31 : fm_Lk fm_cl fm_Ts RX7 31 7 3 := ⟨RX7, TX7, 12, rfl, inX7, by decide, fwX7 _ (List.mem_of_getElem? (i := 3) rfl), rfl⟩
theorem lkX7_38 : fm_Lk fm_cl fm_Ts RX7 38 7 4 := ⟨RX7, TX7, 12, rfl, inX7, by decide, fwX7 _ (List.mem_of_getElem? (i := 4) rfl), rfl⟩
theorem lkX7_42 : fm_Lk fm_cl fm_Ts RX7 42 7 5 := ⟨RX7, TX7, 12, rfl, inX7, by decide, fwX7 _ (List.mem_of_getElem? (i := 5) rfl), rfl⟩
theorem lkX7_45 : fm_Lk fm_cl fm_Ts RX7 45 7 6 := ⟨RX7, TX7, 12, rfl, inX7, by decide, fwX7 _ (List.mem_of_getElem? (i := 6) rfl), rfl⟩
theorem lkX7_53 : fm_Lk fm_cl fm_Ts RX7 53 7 7 := ⟨RX7, TX7, 12, rfl, inX7, by decide, fwX7 _ (List.mem_of_getElem? (i := 7) rfl), rfl⟩
theorem lkX7_60 : fm_Lk fm_cl fm_Ts RX7 60 7 8 := ⟨RX7, TX7, 12, rfl, inX7, by decide, fwX7 _ (List.mem_of_getElem? (i := 8) rfl), rfl⟩
theorem lkX7_64 : fm_Lk fm_cl fm_Ts RX7 64 7 9 := ⟨RX7, TX7, 12, rfl, inX7, by decide, fwX7 _ (List.mem_of_getElem? (i := 9) rfl), rfl⟩
theorem lkX7_68 : fm_Lk fm_cl fm_Ts RX7 68 7 10 := ⟨RX7, TX7, 12, rfl, inX7, by decide, fwX7 _ (List.mem_of_getElem? (i := 10) rfl), rfl⟩
theorem lkX7_71 : fm_Lk fm_cl fm_Ts RX7 71 7 11 := ⟨RX7, TX7, 12, rfl, inX7, by decide, fwX7 _ (List.mem_of_getElem? (i := 11) rfl), rfl⟩
theorem lkX7_84 : fm_Lk fm_cl fm_Ts RX7 84 0 0 := ⟨RX0, TX0, 18, rfl, inX0, by decide, fwX7 _ (List.mem_of_getElem? (i := 12) rfl), rfl⟩
theorem lkX7_87 : fm_Lk fm_cl fm_Ts RX7 87 0 1 := ⟨RX0, TX0, 18, rfl, inX0, by decide, fwX7 _ (List.mem_of_getElem? (i := 13) rfl), rfl⟩
theorem lkX7_90 : fm_Lk fm_cl fm_Ts RX7 90 0 2 := ⟨RX0, TX0, 18, rfl, inX0, by decide, fwX7 _ (List.mem_of_getElem? (i := 14) rfl), rfl⟩
theorem lkX7_93 : fm_Lk fm_cl fm_Ts RX7 93 0 7 := ⟨RX0, TX0, 18, rfl, inX0, by decide, fwX7 _ (List.mem_of_getElem? (i := 15) rfl), rfl⟩
theorem lkX7_99 : fm_Lk fm_cl fm_Ts RX7 99 0 6 := ⟨RX0, TX0, 18, rfl, inX0, by decide, fwX7 _ (List.mem_of_getElem? (i := 16) rfl), rfl⟩
theorem lkX7_103 : fm_Lk fm_cl fm_Ts RX7 103 2 0 := ⟨RX2, TX2, 5, rfl, inX2, by decide, fwX7 _ (List.mem_of_getElem? (i := 17) rfl), rfl⟩
theorem lkX7_109 : fm_Lk fm_cl fm_Ts RX7 109 2 1 := ⟨RX2, TX2, 5, rfl, inX2, by decide, fwX7 _ (List.mem_of_getElem? (i := 18) rfl), rfl⟩
theorem lkX7_112 : fm_Lk fm_cl fm_Ts RX7 112 2 2 := ⟨RX2, TX2, 5, rfl, inX2, by decide, fwX7 _ (List.mem_of_getElem? (i := 19) rfl), rfl⟩
theorem lkX7_115 : fm_Lk fm_cl fm_Ts RX7 115 2 3 := ⟨RX2, TX2, 5, rfl, inX2, by decide, fwX7 _ (List.mem_of_getElem? (i := 20) rfl), rfl⟩
theorem lkX7_118 : fm_Lk fm_cl fm_Ts RX7 118 2 4 := ⟨RX2, TX2, 5, rfl, inX2, by decide, fwX7 _ (List.mem_of_getElem? (i := 21) rfl), rfl⟩
theorem lkX7_121 : fm_Lk fm_cl fm_Ts RX7 121 0 3 := ⟨RX0, TX0, 18, rfl, inX0, by decide, fwX7 _ (List.mem_of_getElem? (i := 22) rfl), rfl⟩
theorem lkX7_127 : fm_Lk fm_cl fm_Ts RX7 127 0 4 := ⟨RX0, TX0, 18, rfl, inX0, by decide, fwX7 _ (List.mem_of_getElem? (i := 23) rfl), rfl⟩
theorem lkX7_137 : fm_Lk fm_cl fm_Ts RX7 137 6 1 := ⟨RX6, TX6, 2, rfl, inX6, by decide, fwX7 _ (List.mem_of_getElem? (i := 24) rfl), rfl⟩
theorem lkX7_144 : fm_Lk fm_cl fm_Ts RX7 144 3 0 := ⟨RX3, TX3, 5, rfl, inX3, by decide, fwX7 _ (List.mem_of_getElem? (i := 25) rfl), rfl⟩
theorem lkX7_172 : fm_Lk fm_cl fm_Ts RX7 172 0 5 := ⟨RX0, TX0, 18, rfl, inX0, by decide, fwX7 _ (List.mem_of_getElem? (i := 26) rfl), rfl⟩
theorem lkX7_175 : fm_Lk fm_cl fm_Ts RX7 175 0 11 := ⟨RX0, TX0, 18, rfl, inX0, by decide, fwX7 _ (List.mem_of_getElem? (i := 27) rfl), rfl⟩
theorem lkX7_178 : fm_Lk fm_cl fm_Ts RX7 178 0 12 := ⟨RX0, TX0, 18, rfl, inX0, by decide, fwX7 _ (List.mem_of_getElem? (i := 28) rfl), rfl⟩
theorem lkX7_181 : fm_Lk fm_cl fm_Ts RX7 181 0 13 := ⟨RX0, TX0, 18, rfl, inX0, by decide, fwX7 _ (List.mem_of_getElem? (i := 29) rfl), rfl⟩
theorem lkX7_197 : fm_Lk fm_cl fm_Ts RX7 197 4 1 := ⟨RX4, TX4, 12, rfl, inX4, by decide, fwX7 _ (List.mem_of_getElem? (i := 30) rfl), rfl⟩
theorem lkX7_200 : fm_Lk fm_cl fm_Ts RX7 200 4 0 := ⟨RX4, TX4, 12, rfl, inX4, by decide, fwX7 _ (List.mem_of_getElem? (i := 31) rfl), rfl⟩
theorem lkX7_231 : fm_Lk fm_cl fm_Ts RX7 231 1 8 := ⟨RX1, TX1, 11, rfl, inX1, by decide, fwX7 _ (List.mem_of_getElem? (i := 32) rfl), rfl⟩
theorem lkX7_234 : fm_Lk fm_cl fm_Ts RX7 234 0 14 := ⟨RX0, TX0, 18, rfl, inX0, by decide, fwX7 _ (List.mem_of_getElem? (i := 33) rfl), rfl⟩
theorem lkX7_290 : fm_Lk fm_cl fm_Ts RX7 290 0 10 := ⟨RX0, TX0, 18, rfl, inX0, by decide, fwX7 _ (List.mem_of_getElem? (i := 34) rfl), rfl⟩
theorem lkX7_295 : fm_Lk fm_cl fm_Ts RX7 295 0 9 := ⟨RX0, TX0, 18, rfl, inX0, by decide, fwX7 _ (List.mem_of_getElem? (i := 35) rfl), rfl⟩
theorem lkX7_301 : fm_Lk fm_cl fm_Ts RX7 301 1 7 := ⟨RX1, TX1, 11, rfl, inX1, by decide, fwX7 _ (List.mem_of_getElem? (i := 36) rfl), rfl⟩
theorem flX7_ok : ∀ q ∈ flX7, fm_Lk fm_cl fm_Ts RX7 q.1 q.2.1 q.2.2 := List.forall_mem_cons.mpr ⟨lkX7_12, List.forall_mem_cons.mpr ⟨lkX7_16, List.forall_mem_cons.mpr ⟨lkX7_22, List.forall_mem_cons.mpr ⟨lkX7_31, List.forall_mem_cons.mpr ⟨lkX7_38, List.forall_mem_cons.mpr ⟨lkX7_42, List.forall_mem_cons.mpr ⟨lkX7_45, List.forall_mem_cons.mpr ⟨lkX7_53, List.forall_mem_cons.mpr ⟨lkX7_60, List.forall_mem_cons.mpr ⟨lkX7_64, List.forall_mem_cons.mpr ⟨lkX7_68, List.forall_mem_cons.mpr ⟨lkX7_71, List.forall_mem_cons.mpr ⟨lkX7_84, List.forall_mem_cons.mpr ⟨lkX7_87, List.forall_mem_cons.mpr ⟨lkX7_90, List.forall_mem_cons.mpr ⟨lkX7_93, List.forall_mem_cons.mpr ⟨lkX7_99, List.forall_mem_cons.mpr ⟨lkX7_103, List.forall_mem_cons.mpr ⟨lkX7_109, List.forall_mem_cons.mpr ⟨lkX7_112, List.forall_mem_cons.mpr ⟨lkX7_115, List.forall_mem_cons.mpr ⟨lkX7_118, List.forall_mem_cons.mpr ⟨lkX7_121, List.forall_mem_cons.mpr ⟨lkX7_127, List.forall_mem_cons.mpr ⟨lkX7_137, List.forall_mem_cons.mpr ⟨lkX7_144, List.forall_mem_cons.mpr ⟨lkX7_172, List.forall_mem_cons.mpr ⟨lkX7_175, List.forall_mem_cons.mpr ⟨lkX7_178, List.forall_mem_cons.mpr ⟨lkX7_181, List.forall_mem_cons.mpr ⟨lkX7_197, List.forall_mem_cons.mpr ⟨lkX7_200, List.forall_mem_cons.mpr ⟨lkX7_231, List.forall_mem_cons.mpr ⟨lkX7_234, List.forall_mem_cons.mpr ⟨lkX7_290, List.forall_mem_cons.mpr ⟨lkX7_295, List.forall_mem_cons.mpr ⟨lkX7_301, fun _ h => absurd h List.not_mem_nil⟩⟩⟩⟩⟩⟩⟩⟩⟩⟩⟩⟩⟩⟩⟩⟩⟩⟩⟩⟩⟩⟩⟩⟩⟩⟩⟩⟩⟩⟩⟩⟩⟩⟩⟩⟩⟩
def flX1 : List (Nat × Nat × Nat) := [(9, 1, 0), (15, 1, 1), (18, 1, 2), (22, 1, 3), (25, 1, 4), (28, 1, 5), (31, 1, 6), (34, 1, 7), (37, 1, 8), (41, 1, 9), (44, 1, 10)]
theorem fwX1 : ∀ w ∈ [Jvm.Cond.fieldLink RX1 9 RX1 "kinds" "[I", Jvm.Cond.fieldLink RX1 15 RX1 "operands" "[I", Jvm.Cond.fieldLink RX1 18 RX1 "steps" "I", Jvm.Cond.fieldLink RX1 22 RX1 "letters" "[I", Jvm.Cond.fieldLink RX1 25 RX1 "starts" "[I", Jvm.Cond.fieldLink RX1 28 RX1 "middles" "[I", Jvm.Cond.fieldLink RX1 31 RX1 "ends" "[I", Jvm.Cond.fieldLink RX1 34 RX1 "clauses" "I", Jvm.Cond.fieldLink RX1 37 RX1 "lossSeesDust" "Z", Jvm.Cond.fieldLink RX1 41 RX1 "sees" "[I", Jvm.Cond.fieldLink RX1 44 RX1 "stack" "[I"], w ∈ fm_Ts := fm_ins [134, 136, 138, 140, 142, 144, 146, 148, 151, 154, 156] (by decide +kernel) (by decide +kernel)
theorem lkX1_9 : fm_Lk fm_cl fm_Ts RX1 9 1 0 := ⟨RX1, TX1, 11, rfl, inX1, by decide, fwX1 _ (List.mem_of_getElem? (i := 0) rfl), rfl⟩
theorem lkX1_15 : fm_Lk fm_cl fm_Ts RX1 15 1 1 := ⟨RX1, TX1, 11, rfl, inX1, by decide, fwX1 _ (List.mem_of_getElem? (i := 1) rfl), rfl⟩
theorem lkX1_18 : fm_Lk fm_cl fm_Ts RX1 18 1 2 := ⟨RX1, TX1, 11, rfl, inX1, by decide, fwX1 _ (List.mem_of_getElem? (i := 2) rfl), rfl⟩
theorem lkX1_22 : fm_Lk fm_cl fm_Ts RX1 22 1 3 := ⟨RX1, TX1, 11, rfl, inX1, by decide, fwX1 _ (List.mem_of_getElem? (i := 3) rfl), rfl⟩
theorem lkX1_25 : fm_Lk fm_cl fm_Ts RX1 25 1 4 := ⟨RX1, TX1, 11, rfl, inX1, by decide, fwX1 _ (List.mem_of_getElem? (i := 4) rfl), rfl⟩
theorem lkX1_28 : fm_Lk fm_cl fm_Ts RX1 28 1 5 := ⟨RX1, TX1, 11, rfl, inX1, by decide, fwX1 _ (List.mem_of_getElem? (i := 5) rfl), rfl⟩
theorem lkX1_31 : fm_Lk fm_cl fm_Ts RX1 31 1 6 := ⟨RX1, TX1, 11, rfl, inX1, by decide, fwX1 _ (List.mem_of_getElem? (i := 6) rfl), rfl⟩
theorem lkX1_34 : fm_Lk fm_cl fm_Ts RX1 34 1 7 := ⟨RX1, TX1, 11, rfl, inX1, by decide, fwX1 _ (List.mem_of_getElem? (i := 7) rfl), rfl⟩
theorem lkX1_37 : fm_Lk fm_cl fm_Ts RX1 37 1 8 := ⟨RX1, TX1, 11, rfl, inX1, by decide, fwX1 _ (List.mem_of_getElem? (i := 8) rfl), rfl⟩
theorem lkX1_41 : fm_Lk fm_cl fm_Ts RX1 41 1 9 := ⟨RX1, TX1, 11, rfl, inX1, by decide, fwX1 _ (List.mem_of_getElem? (i := 9) rfl), rfl⟩
theorem lkX1_44 : fm_Lk fm_cl fm_Ts RX1 44 1 10 := ⟨RX1, TX1, 11, rfl, inX1, by decide, fwX1 _ (List.mem_of_getElem? (i := 10) rfl), rfl⟩
theorem flX1_ok : ∀ q ∈ flX1, fm_Lk fm_cl fm_Ts RX1 q.1 q.2.1 q.2.2 := List.forall_mem_cons.mpr ⟨lkX1_9, List.forall_mem_cons.mpr ⟨lkX1_15, List.forall_mem_cons.mpr ⟨lkX1_18, List.forall_mem_cons.mpr ⟨lkX1_22, List.forall_mem_cons.mpr ⟨lkX1_25, List.forall_mem_cons.mpr ⟨lkX1_28, List.forall_mem_cons.mpr ⟨lkX1_31, List.forall_mem_cons.mpr ⟨lkX1_34, List.forall_mem_cons.mpr ⟨lkX1_37, List.forall_mem_cons.mpr ⟨lkX1_41, List.forall_mem_cons.mpr ⟨lkX1_44, fun _ h => absurd h List.not_mem_nil⟩⟩⟩⟩⟩⟩⟩⟩⟩⟩⟩
def flX0 : List (Nat × Nat × Nat) := [(9, 0, 0), (15, 0, 1), (18, 0, 2), (21, 0, 3), (24, 0, 4), (27, 0, 5), (33, 0, 6), (37, 0, 7), (40, 0, 8), (43, 0, 9), (47, 0, 10), (50, 0, 11), (53, 0, 12), (56, 0, 13), (59, 0, 14), (63, 0, 15), (66, 0, 16), (69, 0, 17), (128, 2, 1), (135, 2, 2), (152, 1, 9), (155, 2, 3), (158, 2, 4)]
theorem fwX0 : ∀ w ∈ [Jvm.Cond.fieldLink RX0 9 RX0 "dust" "[I", Jvm.Cond.fieldLink RX0 15 RX0 "wind" "[I", Jvm.Cond.fieldLink RX0 18 RX0 "carpets" "[I", Jvm.Cond.fieldLink RX0 21 RX0 "licences" "[I", Jvm.Cond.fieldLink RX0 24 RX0 "skills" "[I", Jvm.Cond.fieldLink RX0 27 RX0 "purses" "[I", Jvm.Cond.fieldLink RX0 33 RX0 "porters" "LDustMint$Porters;", Jvm.Cond.fieldLink RX0 37 RX0 "rains" "[I", Jvm.Cond.fieldLink RX0 40 RX0 "leds" "[I", Jvm.Cond.fieldLink RX0 43 RX0 "clock" "I", Jvm.Cond.fieldLink RX0 47 RX0 "x" "I", Jvm.Cond.fieldLink RX0 50 RX0 "gold" "I", Jvm.Cond.fieldLink RX0 53 RX0 "river" "I", Jvm.Cond.fieldLink RX0 56 RX0 "gone" "I", Jvm.Cond.fieldLink RX0 59 RX0 "needsDust" "Z", Jvm.Cond.fieldLink RX0 63 RX0 "prober" "I", Jvm.Cond.fieldLink RX0 66 RX0 "probed" "I", Jvm.Cond.fieldLink RX0 69 RX0 "moved" "[I", Jvm.Cond.fieldLink RX0 128 RX2 "places" "[I", Jvm.Cond.fieldLink RX0 135 RX2 "bowl" "[I", Jvm.Cond.fieldLink RX0 152 RX1 "sees" "[I", Jvm.Cond.fieldLink RX0 155 RX2 "limps" "[I", Jvm.Cond.fieldLink RX0 158 RX2 "sneezes" "[I"], w ∈ fm_Ts := fm_ins [246, 248, 250, 252, 255, 257, 260, 262, 264, 265, 267, 269, 271, 273, 275, 277, 279, 281, 221, 225, 155, 228, 231] (by decide +kernel) (by decide +kernel)
theorem lkX0_9 : fm_Lk fm_cl fm_Ts RX0 9 0 0 := ⟨RX0, TX0, 18, rfl, inX0, by decide, fwX0 _ (List.mem_of_getElem? (i := 0) rfl), rfl⟩
theorem lkX0_15 : fm_Lk fm_cl fm_Ts RX0 15 0 1 := ⟨RX0, TX0, 18, rfl, inX0, by decide, fwX0 _ (List.mem_of_getElem? (i := 1) rfl), rfl⟩
theorem lkX0_18 : fm_Lk fm_cl fm_Ts RX0 18 0 2 := ⟨RX0, TX0, 18, rfl, inX0, by decide, fwX0 _ (List.mem_of_getElem? (i := 2) rfl), rfl⟩
theorem lkX0_21 : fm_Lk fm_cl fm_Ts RX0 21 0 3 := ⟨RX0, TX0, 18, rfl, inX0, by decide, fwX0 _ (List.mem_of_getElem? (i := 3) rfl), rfl⟩
theorem lkX0_24 : fm_Lk fm_cl fm_Ts RX0 24 0 4 := ⟨RX0, TX0, 18, rfl, inX0, by decide, fwX0 _ (List.mem_of_getElem? (i := 4) rfl), rfl⟩
theorem lkX0_27 : fm_Lk fm_cl fm_Ts RX0 27 0 5 := ⟨RX0, TX0, 18, rfl, inX0, by decide, fwX0 _ (List.mem_of_getElem? (i := 5) rfl), rfl⟩
theorem lkX0_33 : fm_Lk fm_cl fm_Ts RX0 33 0 6 := ⟨RX0, TX0, 18, rfl, inX0, by decide, fwX0 _ (List.mem_of_getElem? (i := 6) rfl), rfl⟩
theorem lkX0_37 : fm_Lk fm_cl fm_Ts RX0 37 0 7 := ⟨RX0, TX0, 18, rfl, inX0, by decide, fwX0 _ (List.mem_of_getElem? (i := 7) rfl), rfl⟩
theorem lkX0_40 : fm_Lk fm_cl fm_Ts RX0 40 0 8 := ⟨RX0, TX0, 18, rfl, inX0, by decide, fwX0 _ (List.mem_of_getElem? (i := 8) rfl), rfl⟩
theorem lkX0_43 : fm_Lk fm_cl fm_Ts RX0 43 0 9 := ⟨RX0, TX0, 18, rfl, inX0, by decide, fwX0 _ (List.mem_of_getElem? (i := 9) rfl), rfl⟩
theorem lkX0_47 : fm_Lk fm_cl fm_Ts RX0 47 0 10 := ⟨RX0, TX0, 18, rfl, inX0, by decide, fwX0 _ (List.mem_of_getElem? (i := 10) rfl), rfl⟩
theorem lkX0_50 : fm_Lk fm_cl fm_Ts RX0 50 0 11 := ⟨RX0, TX0, 18, rfl, inX0, by decide, fwX0 _ (List.mem_of_getElem? (i := 11) rfl), rfl⟩
theorem lkX0_53 : fm_Lk fm_cl fm_Ts RX0 53 0 12 := ⟨RX0, TX0, 18, rfl, inX0, by decide, fwX0 _ (List.mem_of_getElem? (i := 12) rfl), rfl⟩
theorem lkX0_56 : fm_Lk fm_cl fm_Ts RX0 56 0 13 := ⟨RX0, TX0, 18, rfl, inX0, by decide, fwX0 _ (List.mem_of_getElem? (i := 13) rfl), rfl⟩
theorem lkX0_59 : fm_Lk fm_cl fm_Ts RX0 59 0 14 := ⟨RX0, TX0, 18, rfl, inX0, by decide, fwX0 _ (List.mem_of_getElem? (i := 14) rfl), rfl⟩
theorem lkX0_63 : fm_Lk fm_cl fm_Ts RX0 63 0 15 := ⟨RX0, TX0, 18, rfl, inX0, by decide, fwX0 _ (List.mem_of_getElem? (i := 15) rfl), rfl⟩
theorem lkX0_66 : fm_Lk fm_cl fm_Ts RX0 66 0 16 := ⟨RX0, TX0, 18, rfl, inX0, by decide, fwX0 _ (List.mem_of_getElem? (i := 16) rfl), rfl⟩
theorem lkX0_69 : fm_Lk fm_cl fm_Ts RX0 69 0 17 := ⟨RX0, TX0, 18, rfl, inX0, by decide, fwX0 _ (List.mem_of_getElem? (i := 17) rfl), rfl⟩
theorem lkX0_128 : fm_Lk fm_cl fm_Ts RX0 128 2 1 := ⟨RX2, TX2, 5, rfl, inX2, by decide, fwX0 _ (List.mem_of_getElem? (i := 18) rfl), rfl⟩
theorem lkX0_135 : fm_Lk fm_cl fm_Ts RX0 135 2 2 := ⟨RX2, TX2, 5, rfl, inX2, by decide, fwX0 _ (List.mem_of_getElem? (i := 19) rfl), rfl⟩
theorem lkX0_152 : fm_Lk fm_cl fm_Ts RX0 152 1 9 := ⟨RX1, TX1, 11, rfl, inX1, by decide, fwX0 _ (List.mem_of_getElem? (i := 20) rfl), rfl⟩
theorem lkX0_155 : fm_Lk fm_cl fm_Ts RX0 155 2 3 := ⟨RX2, TX2, 5, rfl, inX2, by decide, fwX0 _ (List.mem_of_getElem? (i := 21) rfl), rfl⟩
theorem lkX0_158 : fm_Lk fm_cl fm_Ts RX0 158 2 4 := ⟨RX2, TX2, 5, rfl, inX2, by decide, fwX0 _ (List.mem_of_getElem? (i := 22) rfl), rfl⟩
theorem flX0_ok : ∀ q ∈ flX0, fm_Lk fm_cl fm_Ts RX0 q.1 q.2.1 q.2.2 := List.forall_mem_cons.mpr ⟨lkX0_9, List.forall_mem_cons.mpr ⟨lkX0_15, List.forall_mem_cons.mpr ⟨lkX0_18, List.forall_mem_cons.mpr ⟨lkX0_21, List.forall_mem_cons.mpr ⟨lkX0_24, List.forall_mem_cons.mpr ⟨lkX0_27, List.forall_mem_cons.mpr ⟨lkX0_33, List.forall_mem_cons.mpr ⟨lkX0_37, List.forall_mem_cons.mpr ⟨lkX0_40, List.forall_mem_cons.mpr ⟨lkX0_43, List.forall_mem_cons.mpr ⟨lkX0_47, List.forall_mem_cons.mpr ⟨lkX0_50, List.forall_mem_cons.mpr ⟨lkX0_53, List.forall_mem_cons.mpr ⟨lkX0_56, List.forall_mem_cons.mpr ⟨lkX0_59, List.forall_mem_cons.mpr ⟨lkX0_63, List.forall_mem_cons.mpr ⟨lkX0_66, List.forall_mem_cons.mpr ⟨lkX0_69, List.forall_mem_cons.mpr ⟨lkX0_128, List.forall_mem_cons.mpr ⟨lkX0_135, List.forall_mem_cons.mpr ⟨lkX0_152, List.forall_mem_cons.mpr ⟨lkX0_155, List.forall_mem_cons.mpr ⟨lkX0_158, fun _ h => absurd h List.not_mem_nil⟩⟩⟩⟩⟩⟩⟩⟩⟩⟩⟩⟩⟩⟩⟩⟩⟩⟩⟩⟩⟩⟩⟩
def flX2 : List (Nat × Nat × Nat) := [(9, 2, 0), (15, 2, 1), (19, 2, 2), (22, 2, 3), (25, 2, 4)]
theorem fwX2 : ∀ w ∈ [Jvm.Cond.fieldLink RX2 9 RX2 "told" "I", Jvm.Cond.fieldLink RX2 15 RX2 "places" "[I", Jvm.Cond.fieldLink RX2 19 RX2 "bowl" "[I", Jvm.Cond.fieldLink RX2 22 RX2 "limps" "[I", Jvm.Cond.fieldLink RX2 25 RX2 "sneezes" "[I"], w ∈ fm_Ts := fm_ins [217, 219, 222, 226, 229] (by decide +kernel) (by decide +kernel)
theorem lkX2_9 : fm_Lk fm_cl fm_Ts RX2 9 2 0 := ⟨RX2, TX2, 5, rfl, inX2, by decide, fwX2 _ (List.mem_of_getElem? (i := 0) rfl), rfl⟩
theorem lkX2_15 : fm_Lk fm_cl fm_Ts RX2 15 2 1 := ⟨RX2, TX2, 5, rfl, inX2, by decide, fwX2 _ (List.mem_of_getElem? (i := 1) rfl), rfl⟩
theorem lkX2_19 : fm_Lk fm_cl fm_Ts RX2 19 2 2 := ⟨RX2, TX2, 5, rfl, inX2, by decide, fwX2 _ (List.mem_of_getElem? (i := 2) rfl), rfl⟩
theorem lkX2_22 : fm_Lk fm_cl fm_Ts RX2 22 2 3 := ⟨RX2, TX2, 5, rfl, inX2, by decide, fwX2 _ (List.mem_of_getElem? (i := 3) rfl), rfl⟩
theorem lkX2_25 : fm_Lk fm_cl fm_Ts RX2 25 2 4 := ⟨RX2, TX2, 5, rfl, inX2, by decide, fwX2 _ (List.mem_of_getElem? (i := 4) rfl), rfl⟩
theorem flX2_ok : ∀ q ∈ flX2, fm_Lk fm_cl fm_Ts RX2 q.1 q.2.1 q.2.2 := List.forall_mem_cons.mpr ⟨lkX2_9, List.forall_mem_cons.mpr ⟨lkX2_15, List.forall_mem_cons.mpr ⟨lkX2_19, List.forall_mem_cons.mpr ⟨lkX2_22, List.forall_mem_cons.mpr ⟨lkX2_25, fun _ h => absurd h List.not_mem_nil⟩⟩⟩⟩⟩
def flX5 : List (Nat × Nat × Nat) := [(9, 5, 0), (15, 5, 1), (18, 5, 2), (21, 5, 3), (43, 2, 2)]
theorem fwX5 : ∀ w ∈ [Jvm.Cond.fieldLink RX5 9 RX5 "who" "[I", Jvm.Cond.fieldLink RX5 15 RX5 "row" "[I", Jvm.Cond.fieldLink RX5 18 RX5 "best" "[I", Jvm.Cond.fieldLink RX5 21 RX5 "size" "I", Jvm.Cond.fieldLink RX5 43 RX2 "bowl" "[I"], w ∈ fm_Ts := fm_ins [370, 371, 372, 373, 224] (by decide +kernel) (by decide +kernel)
theorem lkX5_9 : fm_Lk fm_cl fm_Ts RX5 9 5 0 := ⟨RX5, TX5, 4, rfl, inX5, by decide, fwX5 _ (List.mem_of_getElem? (i := 0) rfl), rfl⟩
theorem lkX5_15 : fm_Lk fm_cl fm_Ts RX5 15 5 1 := ⟨RX5, TX5, 4, rfl, inX5, by decide, fwX5 _ (List.mem_of_getElem? (i := 1) rfl), rfl⟩
theorem lkX5_18 : fm_Lk fm_cl fm_Ts RX5 18 5 2 := ⟨RX5, TX5, 4, rfl, inX5, by decide, fwX5 _ (List.mem_of_getElem? (i := 2) rfl), rfl⟩
theorem lkX5_21 : fm_Lk fm_cl fm_Ts RX5 21 5 3 := ⟨RX5, TX5, 4, rfl, inX5, by decide, fwX5 _ (List.mem_of_getElem? (i := 3) rfl), rfl⟩
theorem lkX5_43 : fm_Lk fm_cl fm_Ts RX5 43 2 2 := ⟨RX2, TX2, 5, rfl, inX2, by decide, fwX5 _ (List.mem_of_getElem? (i := 4) rfl), rfl⟩
theorem flX5_ok : ∀ q ∈ flX5, fm_Lk fm_cl fm_Ts RX5 q.1 q.2.1 q.2.2 := List.forall_mem_cons.mpr ⟨lkX5_9, List.forall_mem_cons.mpr ⟨lkX5_15, List.forall_mem_cons.mpr ⟨lkX5_18, List.forall_mem_cons.mpr ⟨lkX5_21, List.forall_mem_cons.mpr ⟨lkX5_43, fun _ h => absurd h List.not_mem_nil⟩⟩⟩⟩⟩
def flX4 : List (Nat × Nat × Nat) := [(9, 4, 0), (15, 4, 1), (18, 4, 2), (22, 4, 3), (25, 4, 4), (28, 4, 5), (31, 4, 9), (34, 4, 10), (37, 4, 11), (40, 4, 6), (44, 4, 7), (47, 4, 8), (57, 0, 15), (72, 0, 16), (91, 0, 5), (103, 0, 3)]
theorem fwX4 : ∀ w ∈ [Jvm.Cond.fieldLink RX4 9 RX4 "bestSize" "I", Jvm.Cond.fieldLink RX4 15 RX4 "bestGain" "I", Jvm.Cond.fieldLink RX4 18 RX4 "best" "[I", Jvm.Cond.fieldLink RX4 22 RX4 "row" "[I", Jvm.Cond.fieldLink RX4 25 RX4 "besideOne" "[I", Jvm.Cond.fieldLink RX4 28 RX4 "besideTwo" "[I", Jvm.Cond.fieldLink RX4 31 RX4 "beggar" "I", Jvm.Cond.fieldLink RX4 34 RX4 "hours" "I", Jvm.Cond.fieldLink RX4 37 RX4 "price" "I", Jvm.Cond.fieldLink RX4 40 RX4 "hill" "LDustMint$Hill;", Jvm.Cond.fieldLink RX4 44 RX4 "trial" "LDustMint$Hill;", Jvm.Cond.fieldLink RX4 47 RX4 "law" "LDustMint$Law;", Jvm.Cond.fieldLink RX4 57 RX0 "prober" "I", Jvm.Cond.fieldLink RX4 72 RX0 "probed" "I", Jvm.Cond.fieldLink RX4 91 RX0 "purses" "[I", Jvm.Cond.fieldLink RX4 103 RX0 "licences" "[I"], w ∈ fm_Ts := fm_ins [325, 327, 329, 330, 331, 332, 336, 337, 338, 333, 334, 335, 278, 280, 258, 254] (by decide +kernel) (by decide +kernel)
theorem lkX4_9 : fm_Lk fm_cl fm_Ts RX4 9 4 0 := ⟨RX4, TX4, 12, rfl, inX4, by decide, fwX4 _ (List.mem_of_getElem? (i := 0) rfl), rfl⟩
theorem lkX4_15 : fm_Lk fm_cl fm_Ts RX4 15 4 1 := ⟨RX4, TX4, 12, rfl, inX4, by decide, fwX4 _ (List.mem_of_getElem? (i := 1) rfl), rfl⟩
theorem lkX4_18 : fm_Lk fm_cl fm_Ts RX4 18 4 2 := ⟨RX4, TX4, 12, rfl, inX4, by decide, fwX4 _ (List.mem_of_getElem? (i := 2) rfl), rfl⟩
theorem lkX4_22 : fm_Lk fm_cl fm_Ts RX4 22 4 3 := ⟨RX4, TX4, 12, rfl, inX4, by decide, fwX4 _ (List.mem_of_getElem? (i := 3) rfl), rfl⟩
theorem lkX4_25 : fm_Lk fm_cl fm_Ts RX4 25 4 4 := ⟨RX4, TX4, 12, rfl, inX4, by decide, fwX4 _ (List.mem_of_getElem? (i := 4) rfl), rfl⟩
theorem lkX4_28 : fm_Lk fm_cl fm_Ts RX4 28 4 5 := ⟨RX4, TX4, 12, rfl, inX4, by decide, fwX4 _ (List.mem_of_getElem? (i := 5) rfl), rfl⟩
theorem lkX4_31 : fm_Lk fm_cl fm_Ts RX4 31 4 9 := ⟨RX4, TX4, 12, rfl, inX4, by decide, fwX4 _ (List.mem_of_getElem? (i := 6) rfl), rfl⟩
theorem lkX4_34 : fm_Lk fm_cl fm_Ts RX4 34 4 10 := ⟨RX4, TX4, 12, rfl, inX4, by decide, fwX4 _ (List.mem_of_getElem? (i := 7) rfl), rfl⟩
theorem lkX4_37 : fm_Lk fm_cl fm_Ts RX4 37 4 11 := ⟨RX4, TX4, 12, rfl, inX4, by decide, fwX4 _ (List.mem_of_getElem? (i := 8) rfl), rfl⟩
theorem lkX4_40 : fm_Lk fm_cl fm_Ts RX4 40 4 6 := ⟨RX4, TX4, 12, rfl, inX4, by decide, fwX4 _ (List.mem_of_getElem? (i := 9) rfl), rfl⟩
theorem lkX4_44 : fm_Lk fm_cl fm_Ts RX4 44 4 7 := ⟨RX4, TX4, 12, rfl, inX4, by decide, fwX4 _ (List.mem_of_getElem? (i := 10) rfl), rfl⟩
theorem lkX4_47 : fm_Lk fm_cl fm_Ts RX4 47 4 8 := ⟨RX4, TX4, 12, rfl, inX4, by decide, fwX4 _ (List.mem_of_getElem? (i := 11) rfl), rfl⟩
theorem lkX4_57 : fm_Lk fm_cl fm_Ts RX4 57 0 15 := ⟨RX0, TX0, 18, rfl, inX0, by decide, fwX4 _ (List.mem_of_getElem? (i := 12) rfl), rfl⟩
theorem lkX4_72 : fm_Lk fm_cl fm_Ts RX4 72 0 16 := ⟨RX0, TX0, 18, rfl, inX0, by decide, fwX4 _ (List.mem_of_getElem? (i := 13) rfl), rfl⟩
theorem lkX4_91 : fm_Lk fm_cl fm_Ts RX4 91 0 5 := ⟨RX0, TX0, 18, rfl, inX0, by decide, fwX4 _ (List.mem_of_getElem? (i := 14) rfl), rfl⟩
theorem lkX4_103 : fm_Lk fm_cl fm_Ts RX4 103 0 3 := ⟨RX0, TX0, 18, rfl, inX0, by decide, fwX4 _ (List.mem_of_getElem? (i := 15) rfl), rfl⟩
theorem flX4_ok : ∀ q ∈ flX4, fm_Lk fm_cl fm_Ts RX4 q.1 q.2.1 q.2.2 := List.forall_mem_cons.mpr ⟨lkX4_9, List.forall_mem_cons.mpr ⟨lkX4_15, List.forall_mem_cons.mpr ⟨lkX4_18, List.forall_mem_cons.mpr ⟨lkX4_22, List.forall_mem_cons.mpr ⟨lkX4_25, List.forall_mem_cons.mpr ⟨lkX4_28, List.forall_mem_cons.mpr ⟨lkX4_31, List.forall_mem_cons.mpr ⟨lkX4_34, List.forall_mem_cons.mpr ⟨lkX4_37, List.forall_mem_cons.mpr ⟨lkX4_40, List.forall_mem_cons.mpr ⟨lkX4_44, List.forall_mem_cons.mpr ⟨lkX4_47, List.forall_mem_cons.mpr ⟨lkX4_57, List.forall_mem_cons.mpr ⟨lkX4_72, List.forall_mem_cons.mpr ⟨lkX4_91, List.forall_mem_cons.mpr ⟨lkX4_103, fun _ h => absurd h List.not_mem_nil⟩⟩⟩⟩⟩⟩⟩⟩⟩⟩⟩⟩⟩⟩⟩⟩
def flX8 : List (Nat × Nat × Nat) := [(7, 8, 0), (13, 8, 3), (17, 8, 7), (21, 8, 8), (24, 8, 9), (28, 8, 10), (31, 8, 11), (34, 8, 12), (37, 8, 13), (40, 8, 14), (43, 8, 15), (46, 8, 16), (49, 8, 17), (52, 8, 18), (55, 8, 19), (58, 8, 21), (61, 8, 22), (64, 8, 23), (67, 8, 24), (70, 8, 25), (73, 8, 26), (76, 8, 27), (79, 8, 28), (82, 8, 29), (85, 8, 30), (88, 8, 31), (91, 8, 32), (94, 8, 42), (97, 8, 47), (100, 8, 48), (103, 8, 49), (106, 8, 50), (109, 8, 52), (112, 8, 53), (115, 8, 54), (118, 8, 55), (121, 8, 56), (124, 8, 57), (127, 8, 58), (130, 8, 59), (133, 8, 60), (136, 8, 61), (139, 8, 62), (142, 8, 63), (145, 8, 64), (148, 8, 65), (151, 8, 68), (154, 8, 69), (157, 8, 70), (160, 8, 71), (163, 8, 72), (201, 8, 1), (208, 8, 33), (211, 8, 34), (214, 8, 35), (221, 8, 37), (224, 8, 39), (227, 8, 38), (276, 8, 41), (298, 8, 40), (307, 8, 36), (318, 8, 20), (321, 8, 2), (324, 8, 43), (330, 8, 44), (333, 8, 46), (343, 8, 45), (370, 8, 6), (380, 8, 51), (386, 8, 4), (389, 8, 5), (455, 8, 66), (458, 8, 67), (506, 8, 73)]
theorem fwX8 : ∀ w ∈ [Jvm.Cond.fieldLink RX8 7 RX8 "tape" "[B", Jvm.Cond.fieldLink RX8 13 RX8 "luck" "I", Jvm.Cond.fieldLink RX8 17 RX8 "dust" "[I", Jvm.Cond.fieldLink RX8 21 RX8 "windOf" "[I", Jvm.Cond.fieldLink RX8 24 RX8 "isCarpet" "[Z", Jvm.Cond.fieldLink RX8 28 RX8 "licenceOf" "[I", Jvm.Cond.fieldLink RX8 31 RX8 "skills" "[I", Jvm.Cond.fieldLink RX8 34 RX8 "purse" "[I", Jvm.Cond.fieldLink RX8 37 RX8 "isTold" "[Z", Jvm.Cond.fieldLink RX8 40 RX8 "porterYard" "[I", Jvm.Cond.fieldLink RX8 43 RX8 "bowl" "[I", Jvm.Cond.fieldLink RX8 46 RX8 "limp" "[I", Jvm.Cond.fieldLink RX8 49 RX8 "sneeze" "[I", Jvm.Cond.fieldLink RX8 52 RX8 "rains" "[I", Jvm.Cond.fieldLink RX8 55 RX8 "ledTo" "[I", Jvm.Cond.fieldLink RX8 58 RX8 "clauseLetter" "[I", Jvm.Cond.fieldLink RX8 61 RX8 "sumFrom" "[I", Jvm.Cond.fieldLink RX8 64 RX8 "codeFrom" "[I", Jvm.Cond.fieldLink RX8 67 RX8 "codeTo" "[I", Jvm.Cond.fieldLink RX8 70 RX8 "code" "[I", Jvm.Cond.fieldLink RX8 73 RX8 "codeArg" "[I", Jvm.Cond.fieldLink RX8 76 RX8 "newLetter" "[I", Jvm.Cond.fieldLink RX8 79 RX8 "newSum" "[I", Jvm.Cond.fieldLink RX8 82 RX8 "newFrom" "[I", Jvm.Cond.fieldLink RX8 85 RX8 "newTo" "[I", Jvm.Cond.fieldLink RX8 88 RX8 "newCode" "[I", Jvm.Cond.fieldLink RX8 91 RX8 "newArg" "[I", Jvm.Cond.fieldLink RX8 94 RX8 "stack" "[I", Jvm.Cond.fieldLink RX8 97 RX8 "worths" "[I", Jvm.Cond.fieldLink RX8 100 RX8 "isRefused" "[Z", Jvm.Cond.fieldLink RX8 103 RX8 "lostNow" "[I", Jvm.Cond.fieldLink RX8 106 RX8 "moves" "[I", Jvm.Cond.fieldLink RX8 109 RX8 "sideDust" "[I", Jvm.Cond.fieldLink RX8 112 RX8 "sideWind" "[I", Jvm.Cond.fieldLink RX8 115 RX8 "sideCarpet" "[Z", Jvm.Cond.fieldLink RX8 118 RX8 "sideLicence" "[I", Jvm.Cond.fieldLink RX8 121 RX8 "sideSkill" "[I", Jvm.Cond.fieldLink RX8 124 RX8 "sidePurse" "[I", Jvm.Cond.fieldLink RX8 127 RX8 "sideTold" "[Z", Jvm.Cond.fieldLink RX8 130 RX8 "sideYard" "[I", Jvm.Cond.fieldLink RX8 133 RX8 "sideBowl" "[I", Jvm.Cond.fieldLink RX8 136 RX8 "sideLimp" "[I", Jvm.Cond.fieldLink RX8 139 RX8 "sideSneeze" "[I", Jvm.Cond.fieldLink RX8 142 RX8 "sideRain" "[I", Jvm.Cond.fieldLink RX8 145 RX8 "sideLed" "[I", Jvm.Cond.fieldLink RX8 148 RX8 "sideNumbers" "[I", Jvm.Cond.fieldLink RX8 151 RX8 "some" "[I", Jvm.Cond.fieldLink RX8 154 RX8 "row" "[I", Jvm.Cond.fieldLink RX8 157 RX8 "bestRow" "[I", Jvm.Cond.fieldLink RX8 160 RX8 "bowlWas" "[I", Jvm.Cond.fieldLink RX8 163 RX8 "dustThen" "[I", Jvm.Cond.fieldLink RX8 201 RX8 "taped" "I", Jvm.Cond.fieldLink RX8 208 RX8 "place" "I", Jvm.Cond.fieldLink RX8 211 RX8 "end" "I", Jvm.Cond.fieldLink RX8 214 RX8 "bad" "I", Jvm.Cond.fieldLink RX8 221 RX8 "codes" "I", Jvm.Cond.fieldLink RX8 224 RX8 "stacked" "I", Jvm.Cond.fieldLink RX8 227 RX8 "open" "I", Jvm.Cond.fieldLink RX8 276 RX8 "isBehind" "Z", Jvm.Cond.fieldLink RX8 298 RX8 "isOver" "Z", Jvm.Cond.fieldLink RX8 307 RX8 "clauses" "I", Jvm.Cond.fieldLink RX8 318 RX8 "clauseMany" "I", Jvm.Cond.fieldLink RX8 321 RX8 "hour" "I", Jvm.Cond.fieldLink RX8 324 RX8 "atYard" "I", Jvm.Cond.fieldLink RX8 330 RX8 "atPorter" "I", Jvm.Cond.fieldLink RX8 333 RX8 "drawn" "I", Jvm.Cond.fieldLink RX8 343 RX8 "atBeggar" "I", Jvm.Cond.fieldLink RX8 370 RX8 "gone" "I", Jvm.Cond.fieldLink RX8 380 RX8 "lost" "I", Jvm.Cond.fieldLink RX8 386 RX8 "gold" "I", Jvm.Cond.fieldLink RX8 389 RX8 "river" "I", Jvm.Cond.fieldLink RX8 455 RX8 "sieveBest" "I", Jvm.Cond.fieldLink RX8 458 RX8 "sieveSet" "I", Jvm.Cond.fieldLink RX8 506 RX8 "isKept" "Z"], w ∈ fm_Ts := fm_ins [970, 973, 977, 978, 979, 980, 981, 982, 983, 984, 985, 986, 987, 988, 989, 991, 992, 993, 994, 995, 996, 997, 998, 999, 1000, 1001, 1002, 1012, 1017, 1018, 1019, 1020, 1022, 1023, 1024, 1025, 1026, 1027, 1028, 1029, 1030, 1031, 1032, 1033, 1034, 1035, 1038, 1039, 1040, 1041, 1042, 971, 1003, 1004, 1005, 1007, 1009, 1008, 1011, 1010, 1006, 990, 972, 1013, 1014, 1016, 1015, 976, 1021, 974, 975, 1036, 1037, 1043] (by decide +kernel) (by decide +kernel)
theorem lkX8_7 : fm_Lk fm_cl fm_Ts RX8 7 8 0 := ⟨RX8, TX8, 74, rfl, inX8, by decide, fwX8 _ (List.mem_of_getElem? (i := 0) rfl), rfl⟩
theorem lkX8_13 : fm_Lk fm_cl fm_Ts RX8 13 8 3 := ⟨RX8, TX8, 74, rfl, inX8, by decide, fwX8 _ (List.mem_of_getElem? (i := 1) rfl), rfl⟩
theorem lkX8_17 : fm_Lk fm_cl fm_Ts RX8 17 8 7 := ⟨RX8, TX8, 74, rfl, inX8, by decide, fwX8 _ (List.mem_of_getElem? (i := 2) rfl), rfl⟩
theorem lkX8_21 : fm_Lk fm_cl fm_Ts RX8 21 8 8 := ⟨RX8, TX8, 74, rfl, inX8, by decide, fwX8 _ (List.mem_of_getElem? (i := 3) rfl), rfl⟩
theorem lkX8_24 : fm_Lk fm_cl fm_Ts RX8 24 8 9 := ⟨RX8, TX8, 74, rfl, inX8, by decide, fwX8 _ (List.mem_of_getElem? (i := 4) rfl), rfl⟩
theorem lkX8_28 : fm_Lk fm_cl fm_Ts RX8 28 8 10 := ⟨RX8, TX8, 74, rfl, inX8, by decide, fwX8 _ (List.mem_of_getElem? (i := 5) rfl), rfl⟩
theorem lkX8_31 : fm_Lk fm_cl fm_Ts RX8 31 8 11 := ⟨RX8, TX8, 74, rfl, inX8, by decide, fwX8 _ (List.mem_of_getElem? (i := 6) rfl), rfl⟩
theorem lkX8_34 : fm_Lk fm_cl fm_Ts RX8 34 8 12 := ⟨RX8, TX8, 74, rfl, inX8, by decide, fwX8 _ (List.mem_of_getElem? (i := 7) rfl), rfl⟩
theorem lkX8_37 : fm_Lk fm_cl fm_Ts RX8 37 8 13 := ⟨RX8, TX8, 74, rfl, inX8, by decide, fwX8 _ (List.mem_of_getElem? (i := 8) rfl), rfl⟩
theorem lkX8_40 : fm_Lk fm_cl fm_Ts RX8 40 8 14 := ⟨RX8, TX8, 74, rfl, inX8, by decide, fwX8 _ (List.mem_of_getElem? (i := 9) rfl), rfl⟩
theorem lkX8_43 : fm_Lk fm_cl fm_Ts RX8 43 8 15 := ⟨RX8, TX8, 74, rfl, inX8, by decide, fwX8 _ (List.mem_of_getElem? (i := 10) rfl), rfl⟩
theorem lkX8_46 : fm_Lk fm_cl fm_Ts RX8 46 8 16 := ⟨RX8, TX8, 74, rfl, inX8, by decide, fwX8 _ (List.mem_of_getElem? (i := 11) rfl), rfl⟩
theorem lkX8_49 : fm_Lk fm_cl fm_Ts RX8 49 8 17 := ⟨RX8, TX8, 74, rfl, inX8, by decide, fwX8 _ (List.mem_of_getElem? (i := 12) rfl), rfl⟩
theorem lkX8_52 : fm_Lk fm_cl fm_Ts RX8 52 8 18 := ⟨RX8, TX8, 74, rfl, inX8, by decide, fwX8 _ (List.mem_of_getElem? (i := 13) rfl), rfl⟩
theorem lkX8_55 : fm_Lk fm_cl fm_Ts RX8 55 8 19 := ⟨RX8, TX8, 74, rfl, inX8, by decide, fwX8 _ (List.mem_of_getElem? (i := 14) rfl), rfl⟩
theorem lkX8_58 : fm_Lk fm_cl fm_Ts RX8 58 8 21 := ⟨RX8, TX8, 74, rfl, inX8, by decide, fwX8 _ (List.mem_of_getElem? (i := 15) rfl), rfl⟩
theorem lkX8_61 : fm_Lk fm_cl fm_Ts RX8 61 8 22 := ⟨RX8, TX8, 74, rfl, inX8, by decide, fwX8 _ (List.mem_of_getElem? (i := 16) rfl), rfl⟩
theorem lkX8_64 : fm_Lk fm_cl fm_Ts RX8 64 8 23 := ⟨RX8, TX8, 74, rfl, inX8, by decide, fwX8 _ (List.mem_of_getElem? (i := 17) rfl), rfl⟩
theorem lkX8_67 : fm_Lk fm_cl fm_Ts RX8 67 8 24 := ⟨RX8, TX8, 74, rfl, inX8, by decide, fwX8 _ (List.mem_of_getElem? (i := 18) rfl), rfl⟩
theorem lkX8_70 : fm_Lk fm_cl fm_Ts RX8 70 8 25 := ⟨RX8, TX8, 74, rfl, inX8, by decide, fwX8 _ (List.mem_of_getElem? (i := 19) rfl), rfl⟩
theorem lkX8_73 : fm_Lk fm_cl fm_Ts RX8 73 8 26 := ⟨RX8, TX8, 74, rfl, inX8, by decide, fwX8 _ (List.mem_of_getElem? (i := 20) rfl), rfl⟩
theorem lkX8_76 : fm_Lk fm_cl fm_Ts RX8 76 8 27 := ⟨RX8, TX8, 74, rfl, inX8, by decide, fwX8 _ (List.mem_of_getElem? (i := 21) rfl), rfl⟩
theorem lkX8_79 : fm_Lk fm_cl fm_Ts RX8 79 8 28 := ⟨RX8, TX8, 74, rfl, inX8, by decide, fwX8 _ (List.mem_of_getElem? (i := 22) rfl), rfl⟩
theorem lkX8_82 : fm_Lk fm_cl fm_Ts RX8 82 8 29 := ⟨RX8, TX8, 74, rfl, inX8, by decide, fwX8 _ (List.mem_of_getElem? (i := 23) rfl), rfl⟩
theorem lkX8_85 : fm_Lk fm_cl fm_Ts RX8 85 8 30 := ⟨RX8, TX8, 74, rfl, inX8, by decide, fwX8 _ (List.mem_of_getElem? (i := 24) rfl), rfl⟩
theorem lkX8_88 : fm_Lk fm_cl fm_Ts RX8 88 8 31 := ⟨RX8, TX8, 74, rfl, inX8, by decide, fwX8 _ (List.mem_of_getElem? (i := 25) rfl), rfl⟩
theorem lkX8_91 : fm_Lk fm_cl fm_Ts RX8 91 8 32 := ⟨RX8, TX8, 74, rfl, inX8, by decide, fwX8 _ (List.mem_of_getElem? (i := 26) rfl), rfl⟩
theorem lkX8_94 : fm_Lk fm_cl fm_Ts RX8 94 8 42 := ⟨RX8, TX8, 74, rfl, inX8, by decide, fwX8 _ (List.mem_of_getElem? (i := 27) rfl), rfl⟩
theorem lkX8_97 : fm_Lk fm_cl fm_Ts RX8 97 8 47 := ⟨RX8, TX8, 74, rfl, inX8, by decide, fwX8 _ (List.mem_of_getElem? (i := 28) rfl), rfl⟩
theorem lkX8_100 : fm_Lk fm_cl fm_Ts RX8 100 8 48 := ⟨RX8, TX8, 74, rfl, inX8, by decide, fwX8 _ (List.mem_of_getElem? (i := 29) rfl), rfl⟩
theorem lkX8_103 : fm_Lk fm_cl fm_Ts RX8 103 8 49 := ⟨RX8, TX8, 74, rfl, inX8, by decide, fwX8 _ (List.mem_of_getElem? (i := 30) rfl), rfl⟩
theorem lkX8_106 : fm_Lk fm_cl fm_Ts RX8 106 8 50 := ⟨RX8, TX8, 74, rfl, inX8, by decide, fwX8 _ (List.mem_of_getElem? (i := 31) rfl), rfl⟩
theorem lkX8_109 : fm_Lk fm_cl fm_Ts RX8 109 8 52 := ⟨RX8, TX8, 74, rfl, inX8, by decide, fwX8 _ (List.mem_of_getElem? (i := 32) rfl), rfl⟩
theorem lkX8_112 : fm_Lk fm_cl fm_Ts RX8 112 8 53 := ⟨RX8, TX8, 74, rfl, inX8, by decide, fwX8 _ (List.mem_of_getElem? (i := 33) rfl), rfl⟩
theorem lkX8_115 : fm_Lk fm_cl fm_Ts RX8 115 8 54 := ⟨RX8, TX8, 74, rfl, inX8, by decide, fwX8 _ (List.mem_of_getElem? (i := 34) rfl), rfl⟩
theorem lkX8_118 : fm_Lk fm_cl fm_Ts RX8 118 8 55 := ⟨RX8, TX8, 74, rfl, inX8, by decide, fwX8 _ (List.mem_of_getElem? (i := 35) rfl), rfl⟩
theorem lkX8_121 : fm_Lk fm_cl fm_Ts RX8 121 8 56 := ⟨RX8, TX8, 74, rfl, inX8, by decide, fwX8 _ (List.mem_of_getElem? (i := 36) rfl), rfl⟩
theorem lkX8_124 : fm_Lk fm_cl fm_Ts RX8 124 8 57 := ⟨RX8, TX8, 74, rfl, inX8, by decide, fwX8 _ (List.mem_of_getElem? (i := 37) rfl), rfl⟩
theorem lkX8_127 : fm_Lk fm_cl fm_Ts RX8 127 8 58 := ⟨RX8, TX8, 74, rfl, inX8, by decide, fwX8 _ (List.mem_of_getElem? (i := 38) rfl), rfl⟩
theorem lkX8_130 : fm_Lk fm_cl fm_Ts RX8 130 8 59 := ⟨RX8, TX8, 74, rfl, inX8, by decide, fwX8 _ (List.mem_of_getElem? (i := 39) rfl), rfl⟩
theorem lkX8_133 : fm_Lk fm_cl fm_Ts RX8 133 8 60 := ⟨RX8, TX8, 74, rfl, inX8, by decide, fwX8 _ (List.mem_of_getElem? (i := 40) rfl), rfl⟩
theorem lkX8_136 : fm_Lk fm_cl fm_Ts RX8 136 8 61 := ⟨RX8, TX8, 74, rfl, inX8, by decide, fwX8 _ (List.mem_of_getElem? (i := 41) rfl), rfl⟩
theorem lkX8_139 : fm_Lk fm_cl fm_Ts RX8 139 8 62 := ⟨RX8, TX8, 74, rfl, inX8, by decide, fwX8 _ (List.mem_of_getElem? (i := 42) rfl), rfl⟩
theorem lkX8_142 : fm_Lk fm_cl fm_Ts RX8 142 8 63 := ⟨RX8, TX8, 74, rfl, inX8, by decide, fwX8 _ (List.mem_of_getElem? (i := 43) rfl), rfl⟩
theorem lkX8_145 : fm_Lk fm_cl fm_Ts RX8 145 8 64 := ⟨RX8, TX8, 74, rfl, inX8, by decide, fwX8 _ (List.mem_of_getElem? (i := 44) rfl), rfl⟩
theorem lkX8_148 : fm_Lk fm_cl fm_Ts RX8 148 8 65 := ⟨RX8, TX8, 74, rfl, inX8, by decide, fwX8 _ (List.mem_of_getElem? (i := 45) rfl), rfl⟩
theorem lkX8_151 : fm_Lk fm_cl fm_Ts RX8 151 8 68 := ⟨RX8, TX8, 74, rfl, inX8, by decide, fwX8 _ (List.mem_of_getElem? (i := 46) rfl), rfl⟩
theorem lkX8_154 : fm_Lk fm_cl fm_Ts RX8 154 8 69 := ⟨RX8, TX8, 74, rfl, inX8, by decide, fwX8 _ (List.mem_of_getElem? (i := 47) rfl), rfl⟩
theorem lkX8_157 : fm_Lk fm_cl fm_Ts RX8 157 8 70 := ⟨RX8, TX8, 74, rfl, inX8, by decide, fwX8 _ (List.mem_of_getElem? (i := 48) rfl), rfl⟩
theorem lkX8_160 : fm_Lk fm_cl fm_Ts RX8 160 8 71 := ⟨RX8, TX8, 74, rfl, inX8, by decide, fwX8 _ (List.mem_of_getElem? (i := 49) rfl), rfl⟩
theorem lkX8_163 : fm_Lk fm_cl fm_Ts RX8 163 8 72 := ⟨RX8, TX8, 74, rfl, inX8, by decide, fwX8 _ (List.mem_of_getElem? (i := 50) rfl), rfl⟩
theorem lkX8_201 : fm_Lk fm_cl fm_Ts RX8 201 8 1 := ⟨RX8, TX8, 74, rfl, inX8, by decide, fwX8 _ (List.mem_of_getElem? (i := 51) rfl), rfl⟩
theorem lkX8_208 : fm_Lk fm_cl fm_Ts RX8 208 8 33 := ⟨RX8, TX8, 74, rfl, inX8, by decide, fwX8 _ (List.mem_of_getElem? (i := 52) rfl), rfl⟩
theorem lkX8_211 : fm_Lk fm_cl fm_Ts RX8 211 8 34 := ⟨RX8, TX8, 74, rfl, inX8, by decide, fwX8 _ (List.mem_of_getElem? (i := 53) rfl), rfl⟩
theorem lkX8_214 : fm_Lk fm_cl fm_Ts RX8 214 8 35 := ⟨RX8, TX8, 74, rfl, inX8, by decide, fwX8 _ (List.mem_of_getElem? (i := 54) rfl), rfl⟩
theorem lkX8_221 : fm_Lk fm_cl fm_Ts RX8 221 8 37 := ⟨RX8, TX8, 74, rfl, inX8, by decide, fwX8 _ (List.mem_of_getElem? (i := 55) rfl), rfl⟩
theorem lkX8_224 : fm_Lk fm_cl fm_Ts RX8 224 8 39 := ⟨RX8, TX8, 74, rfl, inX8, by decide, fwX8 _ (List.mem_of_getElem? (i := 56) rfl), rfl⟩
theorem lkX8_227 : fm_Lk fm_cl fm_Ts RX8 227 8 38 := ⟨RX8, TX8, 74, rfl, inX8, by decide, fwX8 _ (List.mem_of_getElem? (i := 57) rfl), rfl⟩
theorem lkX8_276 : fm_Lk fm_cl fm_Ts RX8 276 8 41 := ⟨RX8, TX8, 74, rfl, inX8, by decide, fwX8 _ (List.mem_of_getElem? (i := 58) rfl), rfl⟩
theorem lkX8_298 : fm_Lk fm_cl fm_Ts RX8 298 8 40 := ⟨RX8, TX8, 74, rfl, inX8, by decide, fwX8 _ (List.mem_of_getElem? (i := 59) rfl), rfl⟩
theorem lkX8_307 : fm_Lk fm_cl fm_Ts RX8 307 8 36 := ⟨RX8, TX8, 74, rfl, inX8, by decide, fwX8 _ (List.mem_of_getElem? (i := 60) rfl), rfl⟩
theorem lkX8_318 : fm_Lk fm_cl fm_Ts RX8 318 8 20 := ⟨RX8, TX8, 74, rfl, inX8, by decide, fwX8 _ (List.mem_of_getElem? (i := 61) rfl), rfl⟩
theorem lkX8_321 : fm_Lk fm_cl fm_Ts RX8 321 8 2 := ⟨RX8, TX8, 74, rfl, inX8, by decide, fwX8 _ (List.mem_of_getElem? (i := 62) rfl), rfl⟩
theorem lkX8_324 : fm_Lk fm_cl fm_Ts RX8 324 8 43 := ⟨RX8, TX8, 74, rfl, inX8, by decide, fwX8 _ (List.mem_of_getElem? (i := 63) rfl), rfl⟩
theorem lkX8_330 : fm_Lk fm_cl fm_Ts RX8 330 8 44 := ⟨RX8, TX8, 74, rfl, inX8, by decide, fwX8 _ (List.mem_of_getElem? (i := 64) rfl), rfl⟩
theorem lkX8_333 : fm_Lk fm_cl fm_Ts RX8 333 8 46 := ⟨RX8, TX8, 74, rfl, inX8, by decide, fwX8 _ (List.mem_of_getElem? (i := 65) rfl), rfl⟩
theorem lkX8_343 : fm_Lk fm_cl fm_Ts RX8 343 8 45 := ⟨RX8, TX8, 74, rfl, inX8, by decide, fwX8 _ (List.mem_of_getElem? (i := 66) rfl), rfl⟩
theorem lkX8_370 : fm_Lk fm_cl fm_Ts RX8 370 8 6 := ⟨RX8, TX8, 74, rfl, inX8, by decide, fwX8 _ (List.mem_of_getElem? (i := 67) rfl), rfl⟩
theorem lkX8_380 : fm_Lk fm_cl fm_Ts RX8 380 8 51 := ⟨RX8, TX8, 74, rfl, inX8, by decide, fwX8 _ (List.mem_of_getElem? (i := 68) rfl), rfl⟩
theorem lkX8_386 : fm_Lk fm_cl fm_Ts RX8 386 8 4 := ⟨RX8, TX8, 74, rfl, inX8, by decide, fwX8 _ (List.mem_of_getElem? (i := 69) rfl), rfl⟩
theorem lkX8_389 : fm_Lk fm_cl fm_Ts RX8 389 8 5 := ⟨RX8, TX8, 74, rfl, inX8, by decide, fwX8 _ (List.mem_of_getElem? (i := 70) rfl), rfl⟩
theorem lkX8_455 : fm_Lk fm_cl fm_Ts RX8 455 8 66 := ⟨RX8, TX8, 74, rfl, inX8, by decide, fwX8 _ (List.mem_of_getElem? (i := 71) rfl), rfl⟩
theorem lkX8_458 : fm_Lk fm_cl fm_Ts RX8 458 8 67 := ⟨RX8, TX8, 74, rfl, inX8, by decide, fwX8 _ (List.mem_of_getElem? (i := 72) rfl), rfl⟩
theorem lkX8_506 : fm_Lk fm_cl fm_Ts RX8 506 8 73 := ⟨RX8, TX8, 74, rfl, inX8, by decide, fwX8 _ (List.mem_of_getElem? (i := 73) rfl), rfl⟩
theorem flX8_ok : ∀ q ∈ flX8, fm_Lk fm_cl fm_Ts RX8 q.1 q.2.1 q.2.2 := List.forall_mem_cons.mpr ⟨lkX8_7, List.forall_mem_cons.mpr ⟨lkX8_13, List.forall_mem_cons.mpr ⟨lkX8_17, List.forall_mem_cons.mpr ⟨lkX8_21, List.forall_mem_cons.mpr ⟨lkX8_24, List.forall_mem_cons.mpr ⟨lkX8_28, List.forall_mem_cons.mpr ⟨lkX8_31, List.forall_mem_cons.mpr ⟨lkX8_34, List.forall_mem_cons.mpr ⟨lkX8_37, List.forall_mem_cons.mpr ⟨lkX8_40, List.forall_mem_cons.mpr ⟨lkX8_43, List.forall_mem_cons.mpr ⟨lkX8_46, List.forall_mem_cons.mpr ⟨lkX8_49, List.forall_mem_cons.mpr ⟨lkX8_52, List.forall_mem_cons.mpr ⟨lkX8_55, List.forall_mem_cons.mpr ⟨lkX8_58, List.forall_mem_cons.mpr ⟨lkX8_61, List.forall_mem_cons.mpr ⟨lkX8_64, List.forall_mem_cons.mpr ⟨lkX8_67, List.forall_mem_cons.mpr ⟨lkX8_70, List.forall_mem_cons.mpr ⟨lkX8_73, List.forall_mem_cons.mpr ⟨lkX8_76, List.forall_mem_cons.mpr ⟨lkX8_79, List.forall_mem_cons.mpr ⟨lkX8_82, List.forall_mem_cons.mpr ⟨lkX8_85, List.forall_mem_cons.mpr ⟨lkX8_88, List.forall_mem_cons.mpr ⟨lkX8_91, List.forall_mem_cons.mpr ⟨lkX8_94, List.forall_mem_cons.mpr ⟨lkX8_97, List.forall_mem_cons.mpr ⟨lkX8_100, List.forall_mem_cons.mpr ⟨lkX8_103, List.forall_mem_cons.mpr ⟨lkX8_106, List.forall_mem_cons.mpr ⟨lkX8_109, List.forall_mem_cons.mpr ⟨lkX8_112, List.forall_mem_cons.mpr ⟨lkX8_115, List.forall_mem_cons.mpr ⟨lkX8_118, List.forall_mem_cons.mpr ⟨lkX8_121, List.forall_mem_cons.mpr ⟨lkX8_124, List.forall_mem_cons.mpr ⟨lkX8_127, List.forall_mem_cons.mpr ⟨lkX8_130, List.forall_mem_cons.mpr ⟨lkX8_133, List.forall_mem_cons.mpr ⟨lkX8_136, List.forall_mem_cons.mpr ⟨lkX8_139, List.forall_mem_cons.mpr ⟨lkX8_142, List.forall_mem_cons.mpr ⟨lkX8_145, List.forall_mem_cons.mpr ⟨lkX8_148, List.forall_mem_cons.mpr ⟨lkX8_151, List.forall_mem_cons.mpr ⟨lkX8_154, List.forall_mem_cons.mpr ⟨lkX8_157, List.forall_mem_cons.mpr ⟨lkX8_160, List.forall_mem_cons.mpr ⟨lkX8_163, List.forall_mem_cons.mpr ⟨lkX8_201, List.forall_mem_cons.mpr ⟨lkX8_208, List.forall_mem_cons.mpr ⟨lkX8_211, List.forall_mem_cons.mpr ⟨lkX8_214, List.forall_mem_cons.mpr ⟨lkX8_221, List.forall_mem_cons.mpr ⟨lkX8_224, List.forall_mem_cons.mpr ⟨lkX8_227, List.forall_mem_cons.mpr ⟨lkX8_276, List.forall_mem_cons.mpr ⟨lkX8_298, List.forall_mem_cons.mpr ⟨lkX8_307, List.forall_mem_cons.mpr ⟨lkX8_318, List.forall_mem_cons.mpr ⟨lkX8_321, List.forall_mem_cons.mpr ⟨lkX8_324, List.forall_mem_cons.mpr ⟨lkX8_330, List.forall_mem_cons.mpr ⟨lkX8_333, List.forall_mem_cons.mpr ⟨lkX8_343, List.forall_mem_cons.mpr ⟨lkX8_370, List.forall_mem_cons.mpr ⟨lkX8_380, List.forall_mem_cons.mpr ⟨lkX8_386, List.forall_mem_cons.mpr ⟨lkX8_389, List.forall_mem_cons.mpr ⟨lkX8_455, List.forall_mem_cons.mpr ⟨lkX8_458, List.forall_mem_cons.mpr ⟨lkX8_506, fun _ h => absurd h List.not_mem_nil⟩⟩⟩⟩⟩⟩⟩⟩⟩⟩⟩⟩⟩⟩⟩⟩⟩⟩⟩⟩⟩⟩⟩⟩⟩⟩⟩⟩⟩⟩⟩⟩⟩⟩⟩⟩⟩⟩⟩⟩⟩⟩⟩⟩⟩⟩⟩⟩⟩⟩⟩⟩⟩⟩⟩⟩⟩⟩⟩⟩⟩⟩⟩⟩⟩⟩⟩⟩⟩⟩⟩⟩⟩⟩
def fm_wr : List (Nat × Nat × Nat) := [(0, 9, 0), (0, 10, 0), (0, 11, 0), (0, 12, 0), (0, 13, 0), (0, 14, 2), (0, 15, 0), (0, 16, 0), (1, 2, 0), (1, 7, 0), (1, 8, 2), (2, 0, 0), (3, 2, 0), (3, 3, 0), (3, 4, 0), (4, 0, 0), (4, 1, 0), (4, 9, 0), (4, 10, 0), (4, 11, 0), (5, 3, 0), (6, 1, 0), (7, 11, 2), (8, 1, 0), (8, 2, 0), (8, 3, 0), (8, 4, 0), (8, 5, 0), (8, 6, 0), (8, 20, 0), (8, 33, 0), (8, 34, 0), (8, 35, 0), (8, 36, 0), (8, 37, 0), (8, 38, 0), (8, 39, 0), (8, 40, 2), (8, 41, 2), (8, 43, 0), (8, 44, 0), (8, 45, 0), (8, 46, 0), (8, 51, 0), (8, 66, 0), (8, 67, 0), (8, 73, 2)]
theorem wr_0_9 : fm_Cl fm_cl 0 ∧ ∀ (C : String) (T : u_T) (N : Nat), fm_cl[0]? = some (C, T, N) → (T 9).2.2.2 = false ∧ parseFieldDescriptor (T 9).2.2.1 = some (if 0 = 0 then .int else .boolean) := ⟨clX0, fun C T N h => by cases h; exact ⟨rfl, by decide +kernel⟩⟩
theorem wr_0_10 : fm_Cl fm_cl 0 ∧ ∀ (C : String) (T : u_T) (N : Nat), fm_cl[0]? = some (C, T, N) → (T 10).2.2.2 = false ∧ parseFieldDescriptor (T 10).2.2.1 = some (if 0 = 0 then .int else .boolean) := ⟨clX0, fun C T N h => by cases h; exact ⟨rfl, by decide +kernel⟩⟩
theorem wr_0_11 : fm_Cl fm_cl 0 ∧ ∀ (C : String) (T : u_T) (N : Nat), fm_cl[0]? = some (C, T, N) → (T 11).2.2.2 = false ∧ parseFieldDescriptor (T 11).2.2.1 = some (if 0 = 0 then .int else .boolean) := ⟨clX0, fun C T N h => by cases h; exact ⟨rfl, by decide +kernel⟩⟩
theorem wr_0_12 : fm_Cl fm_cl 0 ∧ ∀ (C : String) (T : u_T) (N : Nat), fm_cl[0]? = some (C, T, N) → (T 12).2.2.2 = false ∧ parseFieldDescriptor (T 12).2.2.1 = some (if 0 = 0 then .int else .boolean) := ⟨clX0, fun C T N h => by cases h; exact ⟨rfl, by decide +kernel⟩⟩
theorem wr_0_13 : fm_Cl fm_cl 0 ∧ ∀ (C : String) (T : u_T) (N : Nat), fm_cl[0]? = some (C, T, N) → (T 13).2.2.2 = false ∧ parseFieldDescriptor (T 13).2.2.1 = some (if 0 = 0 then .int else .boolean) := ⟨clX0, fun C T N h => by cases h; exact ⟨rfl, by decide +kernel⟩⟩
theorem wr_0_14 : fm_Cl fm_cl 0 ∧ ∀ (C : String) (T : u_T) (N : Nat), fm_cl[0]? = some (C, T, N) → (T 14).2.2.2 = false ∧ parseFieldDescriptor (T 14).2.2.1 = some (if 2 = 0 then .int else .boolean) := ⟨clX0, fun C T N h => by cases h; exact ⟨rfl, by decide +kernel⟩⟩
theorem wr_0_15 : fm_Cl fm_cl 0 ∧ ∀ (C : String) (T : u_T) (N : Nat), fm_cl[0]? = some (C, T, N) → (T 15).2.2.2 = false ∧ parseFieldDescriptor (T 15).2.2.1 = some (if 0 = 0 then .int else .boolean) := ⟨clX0, fun C T N h => by cases h; exact ⟨rfl, by decide +kernel⟩⟩
theorem wr_0_16 : fm_Cl fm_cl 0 ∧ ∀ (C : String) (T : u_T) (N : Nat), fm_cl[0]? = some (C, T, N) → (T 16).2.2.2 = false ∧ parseFieldDescriptor (T 16).2.2.1 = some (if 0 = 0 then .int else .boolean) := ⟨clX0, fun C T N h => by cases h; exact ⟨rfl, by decide +kernel⟩⟩
theorem wr_1_2 : fm_Cl fm_cl 1 ∧ ∀ (C : String) (T : u_T) (N : Nat), fm_cl[1]? = some (C, T, N) → (T 2).2.2.2 = false ∧ parseFieldDescriptor (T 2).2.2.1 = some (if 0 = 0 then .int else .boolean) := ⟨clX1, fun C T N h => by cases h; exact ⟨rfl, by decide +kernel⟩⟩
theorem wr_1_7 : fm_Cl fm_cl 1 ∧ ∀ (C : String) (T : u_T) (N : Nat), fm_cl[1]? = some (C, T, N) → (T 7).2.2.2 = false ∧ parseFieldDescriptor (T 7).2.2.1 = some (if 0 = 0 then .int else .boolean) := ⟨clX1, fun C T N h => by cases h; exact ⟨rfl, by decide +kernel⟩⟩
theorem wr_1_8 : fm_Cl fm_cl 1 ∧ ∀ (C : String) (T : u_T) (N : Nat), fm_cl[1]? = some (C, T, N) → (T 8).2.2.2 = false ∧ parseFieldDescriptor (T 8).2.2.1 = some (if 2 = 0 then .int else .boolean) := ⟨clX1, fun C T N h => by cases h; exact ⟨rfl, by decide +kernel⟩⟩
theorem wr_2_0 : fm_Cl fm_cl 2 ∧ ∀ (C : String) (T : u_T) (N : Nat), fm_cl[2]? = some (C, T, N) → (T 0).2.2.2 = false ∧ parseFieldDescriptor (T 0).2.2.1 = some (if 0 = 0 then .int else .boolean) := ⟨clX2, fun C T N h => by cases h; exact ⟨rfl, by decide +kernel⟩⟩
theorem wr_3_2 : fm_Cl fm_cl 3 ∧ ∀ (C : String) (T : u_T) (N : Nat), fm_cl[3]? = some (C, T, N) → (T 2).2.2.2 = false ∧ parseFieldDescriptor (T 2).2.2.1 = some (if 0 = 0 then .int else .boolean) := ⟨clX3, fun C T N h => by cases h; exact ⟨rfl, by decide +kernel⟩⟩
theorem wr_3_3 : fm_Cl fm_cl 3 ∧ ∀ (C : String) (T : u_T) (N : Nat), fm_cl[3]? = some (C, T, N) → (T 3).2.2.2 = false ∧ parseFieldDescriptor (T 3).2.2.1 = some (if 0 = 0 then .int else .boolean) := ⟨clX3, fun C T N h => by cases h; exact ⟨rfl, by decide +kernel⟩⟩
theorem wr_3_4 : fm_Cl fm_cl 3 ∧ ∀ (C : String) (T : u_T) (N : Nat), fm_cl[3]? = some (C, T, N) → (T 4).2.2.2 = false ∧ parseFieldDescriptor (T 4).2.2.1 = some (if 0 = 0 then .int else .boolean) := ⟨clX3, fun C T N h => by cases h; exact ⟨rfl, by decide +kernel⟩⟩
theorem wr_4_0 : fm_Cl fm_cl 4 ∧ ∀ (C : String) (T : u_T) (N : Nat), fm_cl[4]? = some (C, T, N) → (T 0).2.2.2 = false ∧ parseFieldDescriptor (T 0).2.2.1 = some (if 0 = 0 then .int else .boolean) := ⟨clX4, fun C T N h => by cases h; exact ⟨rfl, by decide +kernel⟩⟩
theorem wr_4_1 : fm_Cl fm_cl 4 ∧ ∀ (C : String) (T : u_T) (N : Nat), fm_cl[4]? = some (C, T, N) → (T 1).2.2.2 = false ∧ parseFieldDescriptor (T 1).2.2.1 = some (if 0 = 0 then .int else .boolean) := ⟨clX4, fun C T N h => by cases h; exact ⟨rfl, by decide +kernel⟩⟩
theorem wr_4_9 : fm_Cl fm_cl 4 ∧ ∀ (C : String) (T : u_T) (N : Nat), fm_cl[4]? = some (C, T, N) → (T 9).2.2.2 = false ∧ parseFieldDescriptor (T 9).2.2.1 = some (if 0 = 0 then .int else .boolean) := ⟨clX4, fun C T N h => by cases h; exact ⟨rfl, by decide +kernel⟩⟩
theorem wr_4_10 : fm_Cl fm_cl 4 ∧ ∀ (C : String) (T : u_T) (N : Nat), fm_cl[4]? = some (C, T, N) → (T 10).2.2.2 = false ∧ parseFieldDescriptor (T 10).2.2.1 = some (if 0 = 0 then .int else .boolean) := ⟨clX4, fun C T N h => by cases h; exact ⟨rfl, by decide +kernel⟩⟩
theorem wr_4_11 : fm_Cl fm_cl 4 ∧ ∀ (C : String) (T : u_T) (N : Nat), fm_cl[4]? = some (C, T, N) → (T 11).2.2.2 = false ∧ parseFieldDescriptor (T 11).2.2.1 = some (if 0 = 0 then .int else .boolean) := ⟨clX4, fun C T N h => by cases h; exact ⟨rfl, by decide +kernel⟩⟩
theorem wr_5_3 : fm_Cl fm_cl 5 ∧ ∀ (C : String) (T : u_T) (N : Nat), fm_cl[5]? = some (C, T, N) → (T 3).2.2.2 = false ∧ parseFieldDescriptor (T 3).2.2.1 = some (if 0 = 0 then .int else .boolean) := ⟨clX5, fun C T N h => by cases h; exact ⟨rfl, by decide +kernel⟩⟩
theorem wr_6_1 : fm_Cl fm_cl 6 ∧ ∀ (C : String) (T : u_T) (N : Nat), fm_cl[6]? = some (C, T, N) → (T 1).2.2.2 = false ∧ parseFieldDescriptor (T 1).2.2.1 = some (if 0 = 0 then .int else .boolean) := ⟨clX6, fun C T N h => by cases h; exact ⟨rfl, by decide +kernel⟩⟩
theorem wr_7_11 : fm_Cl fm_cl 7 ∧ ∀ (C : String) (T : u_T) (N : Nat), fm_cl[7]? = some (C, T, N) → (T 11).2.2.2 = false ∧ parseFieldDescriptor (T 11).2.2.1 = some (if 2 = 0 then .int else .boolean) := ⟨clX7, fun C T N h => by cases h; exact ⟨rfl, by decide +kernel⟩⟩
theorem wr_8_1 : fm_Cl fm_cl 8 ∧ ∀ (C : String) (T : u_T) (N : Nat), fm_cl[8]? = some (C, T, N) → (T 1).2.2.2 = false ∧ parseFieldDescriptor (T 1).2.2.1 = some (if 0 = 0 then .int else .boolean) := ⟨clX8, fun C T N h => by cases h; exact ⟨rfl, by decide +kernel⟩⟩
theorem wr_8_2 : fm_Cl fm_cl 8 ∧ ∀ (C : String) (T : u_T) (N : Nat), fm_cl[8]? = some (C, T, N) → (T 2).2.2.2 = false ∧ parseFieldDescriptor (T 2).2.2.1 = some (if 0 = 0 then .int else .boolean) := ⟨clX8, fun C T N h => by cases h; exact ⟨rfl, by decide +kernel⟩⟩
theorem wr_8_3 : fm_Cl fm_cl 8 ∧ ∀ (C : String) (T : u_T) (N : Nat), fm_cl[8]? = some (C, T, N) → (T 3).2.2.2 = false ∧ parseFieldDescriptor (T 3).2.2.1 = some (if 0 = 0 then .int else .boolean) := ⟨clX8, fun C T N h => by cases h; exact ⟨rfl, by decide +kernel⟩⟩
theorem wr_8_4 : fm_Cl fm_cl 8 ∧ ∀ (C : String) (T : u_T) (N : Nat), fm_cl[8]? = some (C, T, N) → (T 4).2.2.2 = false ∧ parseFieldDescriptor (T 4).2.2.1 = some (if 0 = 0 then .int else .boolean) := ⟨clX8, fun C T N h => by cases h; exact ⟨rfl, by decide +kernel⟩⟩
theorem wr_8_5 : fm_Cl fm_cl 8 ∧ ∀ (C : String) (T : u_T) (N : Nat), fm_cl[8]? = some (C, T, N) → (T 5).2.2.2 = false ∧ parseFieldDescriptor (T 5).2.2.1 = some (if 0 = 0 then .int else .boolean) := ⟨clX8, fun C T N h => by cases h; exact ⟨rfl, by decide +kernel⟩⟩
theorem wr_8_6 : fm_Cl fm_cl 8 ∧ ∀ (C : String) (T : u_T) (N : Nat), fm_cl[8]? = some (C, T, N) → (T 6).2.2.2 = false ∧ parseFieldDescriptor (T 6).2.2.1 = some (if 0 = 0 then .int else .boolean) := ⟨clX8, fun C T N h => by cases h; exact ⟨rfl, by decide +kernel⟩⟩
theorem wr_8_20 : fm_Cl fm_cl 8 ∧ ∀ (C : String) (T : u_T) (N : Nat), fm_cl[8]? = some (C, T, N) → (T 20).2.2.2 = false ∧ parseFieldDescriptor (T 20).2.2.1 = some (if 0 = 0 then .int else .boolean) := ⟨clX8, fun C T N h => by cases h; exact ⟨rfl, by decide +kernel⟩⟩
theorem wr_8_33 : fm_Cl fm_cl 8 ∧ ∀ (C : String) (T : u_T) (N : Nat), fm_cl[8]? = some (C, T, N) → (T 33).2.2.2 = false ∧ parseFieldDescriptor (T 33).2.2.1 = some (if 0 = 0 then .int else .boolean) := ⟨clX8, fun C T N h => by cases h; exact ⟨rfl, by decide +kernel⟩⟩
theorem wr_8_34 : fm_Cl fm_cl 8 ∧ ∀ (C : String) (T : u_T) (N : Nat), fm_cl[8]? = some (C, T, N) → (T 34).2.2.2 = false ∧ parseFieldDescriptor (T 34).2.2.1 = some (if 0 = 0 then .int else .boolean) := ⟨clX8, fun C T N h => by cases h; exact ⟨rfl, by decide +kernel⟩⟩
theorem wr_8_35 : fm_Cl fm_cl 8 ∧ ∀ (C : String) (T : u_T) (N : Nat), fm_cl[8]? = some (C, T, N) → (T 35).2.2.2 = false ∧ parseFieldDescriptor (T 35).2.2.1 = some (if 0 = 0 then .int else .boolean) := ⟨clX8, fun C T N h => by cases h; exact ⟨rfl, by decide +kernel⟩⟩
theorem wr_8_36 : fm_Cl fm_cl 8 ∧ ∀ (C : String) (T : u_T) (N : Nat), fm_cl[8]? = some (C, T, N) → (T 36).2.2.2 = false ∧ parseFieldDescriptor (T 36).2.2.1 = some (if 0 = 0 then .int else .boolean) := ⟨clX8, fun C T N h => by cases h; exact ⟨rfl, by decide +kernel⟩⟩
theorem wr_8_37 : fm_Cl fm_cl 8 ∧ ∀ (C : String) (T : u_T) (N : Nat), fm_cl[8]? = some (C, T, N) → (T 37).2.2.2 = false ∧ parseFieldDescriptor (T 37).2.2.1 = some (if 0 = 0 then .int else .boolean) := ⟨clX8, fun C T N h => by cases h; exact ⟨rfl, by decide +kernel⟩⟩
theorem wr_8_38 : fm_Cl fm_cl 8 ∧ ∀ (C : String) (T : u_T) (N : Nat), fm_cl[8]? = some (C, T, N) → (T 38).2.2.2 = false ∧ parseFieldDescriptor (T 38).2.2.1 = some (if 0 = 0 then .int else .boolean) := ⟨clX8, fun C T N h => by cases h; exact ⟨rfl, by decide +kernel⟩⟩
theorem wr_8_39 : fm_Cl fm_cl 8 ∧ ∀ (C : String) (T : u_T) (N : Nat), fm_cl[8]? = some (C, T, N) → (T 39).2.2.2 = false ∧ parseFieldDescriptor (T 39).2.2.1 = some (if 0 = 0 then .int else .boolean) := ⟨clX8, fun C T N h => by cases h; exact ⟨rfl, by decide +kernel⟩⟩
theorem wr_8_40 : fm_Cl fm_cl 8 ∧ ∀ (C : String) (T : u_T) (N : Nat), fm_cl[8]? = some (C, T, N) → (T 40).2.2.2 = false ∧ parseFieldDescriptor (T 40).2.2.1 = some (if 2 = 0 then .int else .boolean) := ⟨clX8, fun C T N h => by cases h; exact ⟨rfl, by decide +kernel⟩⟩
theorem wr_8_41 : fm_Cl fm_cl 8 ∧ ∀ (C : String) (T : u_T) (N : Nat), fm_cl[8]? = some (C, T, N) → (T 41).2.2.2 = false ∧ parseFieldDescriptor (T 41).2.2.1 = some (if 2 = 0 then .int else .boolean) := ⟨clX8, fun C T N h => by cases h; exact ⟨rfl, by decide +kernel⟩⟩
theorem wr_8_43 : fm_Cl fm_cl 8 ∧ ∀ (C : String) (T : u_T) (N : Nat), fm_cl[8]? = some (C, T, N) → (T 43).2.2.2 = false ∧ parseFieldDescriptor (T 43).2.2.1 = some (if 0 = 0 then .int else .boolean) := ⟨clX8, fun C T N h => by cases h; exact ⟨rfl, by decide +kernel⟩⟩
theorem wr_8_44 : fm_Cl fm_cl 8 ∧ ∀ (C : String) (T : u_T) (N : Nat), fm_cl[8]? = some (C, T, N) → (T 44).2.2.2 = false ∧ parseFieldDescriptor (T 44).2.2.1 = some (if 0 = 0 then .int else .boolean) := ⟨clX8, fun C T N h => by cases h; exact ⟨rfl, by decide +kernel⟩⟩
theorem wr_8_45 : fm_Cl fm_cl 8 ∧ ∀ (C : String) (T : u_T) (N : Nat), fm_cl[8]? = some (C, T, N) → (T 45).2.2.2 = false ∧ parseFieldDescriptor (T 45).2.2.1 = some (if 0 = 0 then .int else .boolean) := ⟨clX8, fun C T N h => by cases h; exact ⟨rfl, by decide +kernel⟩⟩
theorem wr_8_46 : fm_Cl fm_cl 8 ∧ ∀ (C : String) (T : u_T) (N : Nat), fm_cl[8]? = some (C, T, N) → (T 46).2.2.2 = false ∧ parseFieldDescriptor (T 46).2.2.1 = some (if 0 = 0 then .int else .boolean) := ⟨clX8, fun C T N h => by cases h; exact ⟨rfl, by decide +kernel⟩⟩
theorem wr_8_51 : fm_Cl fm_cl 8 ∧ ∀ (C : String) (T : u_T) (N : Nat), fm_cl[8]? = some (C, T, N) → (T 51).2.2.2 = false ∧ parseFieldDescriptor (T 51).2.2.1 = some (if 0 = 0 then .int else .boolean) := ⟨clX8, fun C T N h => by cases h; exact ⟨rfl, by decide +kernel⟩⟩
theorem wr_8_66 : fm_Cl fm_cl 8 ∧ ∀ (C : String) (T : u_T) (N : Nat), fm_cl[8]? = some (C, T, N) → (T 66).2.2.2 = false ∧ parseFieldDescriptor (T 66).2.2.1 = some (if 0 = 0 then .int else .boolean) := ⟨clX8, fun C T N h => by cases h; exact ⟨rfl, by decide +kernel⟩⟩
theorem wr_8_67 : fm_Cl fm_cl 8 ∧ ∀ (C : String) (T : u_T) (N : Nat), fm_cl[8]? = some (C, T, N) → (T 67).2.2.2 = false ∧ parseFieldDescriptor (T 67).2.2.1 = some (if 0 = 0 then .int else .boolean) := ⟨clX8, fun C T N h => by cases h; exact ⟨rfl, by decide +kernel⟩⟩
theorem wr_8_73 : fm_Cl fm_cl 8 ∧ ∀ (C : String) (T : u_T) (N : Nat), fm_cl[8]? = some (C, T, N) → (T 73).2.2.2 = false ∧ parseFieldDescriptor (T 73).2.2.1 = some (if 2 = 0 then .int else .boolean) := ⟨clX8, fun C T N h => by cases h; exact ⟨rfl, by decide +kernel⟩⟩
theorem fm_wr_ok : ∀ q ∈ fm_wr, fm_Cl fm_cl q.1 ∧ ∀ (C : String) (T : u_T) (N : Nat), fm_cl[q.1]? = some (C, T, N) → (T q.2.1).2.2.2 = false ∧ parseFieldDescriptor (T q.2.1).2.2.1 = some (if q.2.2 = 0 then .int else .boolean) := List.forall_mem_cons.mpr ⟨wr_0_9, List.forall_mem_cons.mpr ⟨wr_0_10, List.forall_mem_cons.mpr ⟨wr_0_11, List.forall_mem_cons.mpr ⟨wr_0_12, List.forall_mem_cons.mpr ⟨wr_0_13, List.forall_mem_cons.mpr ⟨wr_0_14, List.forall_mem_cons.mpr ⟨wr_0_15, List.forall_mem_cons.mpr ⟨wr_0_16, List.forall_mem_cons.mpr ⟨wr_1_2, List.forall_mem_cons.mpr ⟨wr_1_7, List.forall_mem_cons.mpr ⟨wr_1_8, List.forall_mem_cons.mpr ⟨wr_2_0, List.forall_mem_cons.mpr ⟨wr_3_2, List.forall_mem_cons.mpr ⟨wr_3_3, List.forall_mem_cons.mpr ⟨wr_3_4, List.forall_mem_cons.mpr ⟨wr_4_0, List.forall_mem_cons.mpr ⟨wr_4_1, List.forall_mem_cons.mpr ⟨wr_4_9, List.forall_mem_cons.mpr ⟨wr_4_10, List.forall_mem_cons.mpr ⟨wr_4_11, List.forall_mem_cons.mpr ⟨wr_5_3, List.forall_mem_cons.mpr ⟨wr_6_1, List.forall_mem_cons.mpr ⟨wr_7_11, List.forall_mem_cons.mpr ⟨wr_8_1, List.forall_mem_cons.mpr ⟨wr_8_2, List.forall_mem_cons.mpr ⟨wr_8_3, List.forall_mem_cons.mpr ⟨wr_8_4, List.forall_mem_cons.mpr ⟨wr_8_5, List.forall_mem_cons.mpr ⟨wr_8_6, List.forall_mem_cons.mpr ⟨wr_8_20, List.forall_mem_cons.mpr ⟨wr_8_33, List.forall_mem_cons.mpr ⟨wr_8_34, List.forall_mem_cons.mpr ⟨wr_8_35, List.forall_mem_cons.mpr ⟨wr_8_36, List.forall_mem_cons.mpr ⟨wr_8_37, List.forall_mem_cons.mpr ⟨wr_8_38, List.forall_mem_cons.mpr ⟨wr_8_39, List.forall_mem_cons.mpr ⟨wr_8_40, List.forall_mem_cons.mpr ⟨wr_8_41, List.forall_mem_cons.mpr ⟨wr_8_43, List.forall_mem_cons.mpr ⟨wr_8_44, List.forall_mem_cons.mpr ⟨wr_8_45, List.forall_mem_cons.mpr ⟨wr_8_46, List.forall_mem_cons.mpr ⟨wr_8_51, List.forall_mem_cons.mpr ⟨wr_8_66, List.forall_mem_cons.mpr ⟨wr_8_67, List.forall_mem_cons.mpr ⟨wr_8_73, fun _ h => absurd h List.not_mem_nil⟩⟩⟩⟩⟩⟩⟩⟩⟩⟩⟩⟩⟩⟩⟩⟩⟩⟩⟩⟩⟩⟩⟩⟩⟩⟩⟩⟩⟩⟩⟩⟩⟩⟩⟩⟩⟩⟩⟩⟩⟩⟩⟩⟩⟩⟩⟩
def kcX0 : List (Nat × Int) := [(102, 65535), (174, 99999)]
theorem kcX0_w : ∀ w ∈ ([.constant RX0 102 (Int32.ofInt (65535)), .constant RX0 174 (Int32.ofInt (99999))] : List Jvm.Cond), w ∈ fm_Ts := fm_ins [648, 695] (by decide +kernel) (by decide +kernel)
theorem kcX0_ok : ∀ q ∈ kcX0, (-2147483648 ≤ q.2 ∧ q.2 ≤ 2147483647) ∧ Jvm.Cond.constant RX0 q.1 (Int32.ofInt q.2) ∈ fm_Ts := List.forall_mem_cons.mpr ⟨⟨by decide, kcX0_w _ (List.mem_of_getElem? (i := 0) rfl)⟩, List.forall_mem_cons.mpr ⟨⟨by decide, kcX0_w _ (List.mem_of_getElem? (i := 1) rfl)⟩, fun _ h => absurd h List.not_mem_nil⟩⟩
def kcX1 : List (Nat × Int) := []
theorem kcX1_w : ∀ w ∈ ([] : List Jvm.Cond), w ∈ fm_Ts := fm_ins [] (by decide +kernel) (by decide +kernel)
theorem kcX1_ok : ∀ q ∈ kcX1, (-2147483648 ≤ q.2 ∧ q.2 ≤ 2147483647) ∧ Jvm.Cond.constant RX1 q.1 (Int32.ofInt q.2) ∈ fm_Ts := fun _ h => absurd h List.not_mem_nil
def kcX2 : List (Nat × Int) := []
theorem kcX2_w : ∀ w ∈ ([] : List Jvm.Cond), w ∈ fm_Ts := fm_ins [] (by decide +kernel) (by decide +kernel)
theorem kcX2_ok : ∀ q ∈ kcX2, (-2147483648 ≤ q.2 ∧ q.2 ≤ 2147483647) ∧ Jvm.Cond.constant RX2 q.1 (Int32.ofInt q.2) ∈ fm_Ts := fun _ h => absurd h List.not_mem_nil
def kcX3 : List (Nat × Int) := []
theorem kcX3_w : ∀ w ∈ ([] : List Jvm.Cond), w ∈ fm_Ts := fm_ins [] (by decide +kernel) (by decide +kernel)
theorem kcX3_ok : ∀ q ∈ kcX3, (-2147483648 ≤ q.2 ∧ q.2 ≤ 2147483647) ∧ Jvm.Cond.constant RX3 q.1 (Int32.ofInt q.2) ∈ fm_Ts := fun _ h => absurd h List.not_mem_nil
def kcX4 : List (Nat × Int) := [(60, -1000000000)]
theorem kcX4_w : ∀ w ∈ ([.constant RX4 60 (Int32.ofInt (-1000000000))] : List Jvm.Cond), w ∈ fm_Ts := fm_ins [774] (by decide +kernel) (by decide +kernel)
theorem kcX4_ok : ∀ q ∈ kcX4, (-2147483648 ≤ q.2 ∧ q.2 ≤ 2147483647) ∧ Jvm.Cond.constant RX4 q.1 (Int32.ofInt q.2) ∈ fm_Ts := List.forall_mem_cons.mpr ⟨⟨by decide, kcX4_w _ (List.mem_of_getElem? (i := 0) rfl)⟩, fun _ h => absurd h List.not_mem_nil⟩
def kcX5 : List (Nat × Int) := []
theorem kcX5_w : ∀ w ∈ ([] : List Jvm.Cond), w ∈ fm_Ts := fm_ins [] (by decide +kernel) (by decide +kernel)
theorem kcX5_ok : ∀ q ∈ kcX5, (-2147483648 ≤ q.2 ∧ q.2 ≤ 2147483647) ∧ Jvm.Cond.constant RX5 q.1 (Int32.ofInt q.2) ∈ fm_Ts := fun _ h => absurd h List.not_mem_nil
def kcX6 : List (Nat × Int) := []
theorem kcX6_w : ∀ w ∈ ([] : List Jvm.Cond), w ∈ fm_Ts := fm_ins [] (by decide +kernel) (by decide +kernel)
theorem kcX6_ok : ∀ q ∈ kcX6, (-2147483648 ≤ q.2 ∧ q.2 ≤ 2147483647) ∧ Jvm.Cond.constant RX6 q.1 (Int32.ofInt q.2) ∈ fm_Ts := fun _ h => absurd h List.not_mem_nil
def kcX7 : List (Nat × Int) := [(79, 99999), (228, 1000000000), (269, -1000000000), (289, 65535)]
theorem kcX7_w : ∀ w ∈ ([.constant RX7 79 (Int32.ofInt (99999)), .constant RX7 228 (Int32.ofInt (1000000000)), .constant RX7 269 (Int32.ofInt (-1000000000)), .constant RX7 289 (Int32.ofInt (65535))] : List Jvm.Cond), w ∈ fm_Ts := fm_ins [427, 827, 895, 933] (by decide +kernel) (by decide +kernel)
theorem kcX7_ok : ∀ q ∈ kcX7, (-2147483648 ≤ q.2 ∧ q.2 ≤ 2147483647) ∧ Jvm.Cond.constant RX7 q.1 (Int32.ofInt q.2) ∈ fm_Ts := List.forall_mem_cons.mpr ⟨⟨by decide, kcX7_w _ (List.mem_of_getElem? (i := 0) rfl)⟩, List.forall_mem_cons.mpr ⟨⟨by decide, kcX7_w _ (List.mem_of_getElem? (i := 1) rfl)⟩, List.forall_mem_cons.mpr ⟨⟨by decide, kcX7_w _ (List.mem_of_getElem? (i := 2) rfl)⟩, List.forall_mem_cons.mpr ⟨⟨by decide, kcX7_w _ (List.mem_of_getElem? (i := 3) rfl)⟩, fun _ h => absurd h List.not_mem_nil⟩⟩⟩⟩
def kcX8 : List (Nat × Int) := [(373, 99999), (407, 65536), (471, -1000000000), (482, 1000000000)]
theorem kcX8_w : ∀ w ∈ ([.constant RX8 373 (Int32.ofInt (99999)), .constant RX8 407 (Int32.ofInt (65536)), .constant RX8 471 (Int32.ofInt (-1000000000)), .constant RX8 482 (Int32.ofInt (1000000000))] : List Jvm.Cond), w ∈ fm_Ts := fm_ins [1416, 1353, 1485, 1506] (by decide +kernel) (by decide +kernel)
theorem kcX8_ok : ∀ q ∈ kcX8, (-2147483648 ≤ q.2 ∧ q.2 ≤ 2147483647) ∧ Jvm.Cond.constant RX8 q.1 (Int32.ofInt q.2) ∈ fm_Ts := List.forall_mem_cons.mpr ⟨⟨by decide, kcX8_w _ (List.mem_of_getElem? (i := 0) rfl)⟩, List.forall_mem_cons.mpr ⟨⟨by decide, kcX8_w _ (List.mem_of_getElem? (i := 1) rfl)⟩, List.forall_mem_cons.mpr ⟨⟨by decide, kcX8_w _ (List.mem_of_getElem? (i := 2) rfl)⟩, List.forall_mem_cons.mpr ⟨⟨by decide, kcX8_w _ (List.mem_of_getElem? (i := 3) rfl)⟩, fun _ h => absurd h List.not_mem_nil⟩⟩⟩⟩
def kcJ6 : List (Nat × Int) := [(265, 1431655765), (266, 858993459), (267, 252645135)]
theorem kcJ6_w : ∀ w ∈ ([.constant "java/lang/Integer" 265 (Int32.ofInt (1431655765)), .constant "java/lang/Integer" 266 (Int32.ofInt (858993459)), .constant "java/lang/Integer" 267 (Int32.ofInt (252645135))] : List Jvm.Cond), w ∈ fm_Ts := fm_ins [815, 816, 817] (by decide +kernel) (by decide +kernel)
theorem kcJ6_ok : ∀ q ∈ kcJ6, (-2147483648 ≤ q.2 ∧ q.2 ≤ 2147483647) ∧ Jvm.Cond.constant "java/lang/Integer" q.1 (Int32.ofInt q.2) ∈ fm_Ts := List.forall_mem_cons.mpr ⟨⟨by decide, kcJ6_w _ (List.mem_of_getElem? (i := 0) rfl)⟩, List.forall_mem_cons.mpr ⟨⟨by decide, kcJ6_w _ (List.mem_of_getElem? (i := 1) rfl)⟩, List.forall_mem_cons.mpr ⟨⟨by decide, kcJ6_w _ (List.mem_of_getElem? (i := 2) rfl)⟩, fun _ h => absurd h List.not_mem_nil⟩⟩⟩
def kcJ9 : List (Nat × Int) := []
theorem kcJ9_w : ∀ w ∈ ([] : List Jvm.Cond), w ∈ fm_Ts := fm_ins [] (by decide +kernel) (by decide +kernel)
theorem kcJ9_ok : ∀ q ∈ kcJ9, (-2147483648 ≤ q.2 ∧ q.2 ≤ 2147483647) ∧ Jvm.Cond.constant "java/lang/Math" q.1 (Int32.ofInt q.2) ∈ fm_Ts := fun _ h => absurd h List.not_mem_nil
def klX0 : List (Nat × Int) := []
theorem klX0_w : ∀ w ∈ ([] : List Jvm.Cond), w ∈ fm_Ts := fm_ins [] (by decide +kernel) (by decide +kernel)
theorem klX0_ok : ∀ q ∈ klX0, (-2147483648 ≤ q.2 ∧ q.2 ≤ 2147483647) ∧ Jvm.Cond.constantLong RX0 q.1 (Int64.ofInt q.2) ∈ fm_Ts := fun _ h => absurd h List.not_mem_nil
def klX1 : List (Nat × Int) := []
theorem klX1_w : ∀ w ∈ ([] : List Jvm.Cond), w ∈ fm_Ts := fm_ins [] (by decide +kernel) (by decide +kernel)
theorem klX1_ok : ∀ q ∈ klX1, (-2147483648 ≤ q.2 ∧ q.2 ≤ 2147483647) ∧ Jvm.Cond.constantLong RX1 q.1 (Int64.ofInt q.2) ∈ fm_Ts := fun _ h => absurd h List.not_mem_nil
def klX2 : List (Nat × Int) := []
theorem klX2_w : ∀ w ∈ ([] : List Jvm.Cond), w ∈ fm_Ts := fm_ins [] (by decide +kernel) (by decide +kernel)
theorem klX2_ok : ∀ q ∈ klX2, (-2147483648 ≤ q.2 ∧ q.2 ≤ 2147483647) ∧ Jvm.Cond.constantLong RX2 q.1 (Int64.ofInt q.2) ∈ fm_Ts := fun _ h => absurd h List.not_mem_nil
def klX3 : List (Nat × Int) := []
theorem klX3_w : ∀ w ∈ ([] : List Jvm.Cond), w ∈ fm_Ts := fm_ins [] (by decide +kernel) (by decide +kernel)
theorem klX3_ok : ∀ q ∈ klX3, (-2147483648 ≤ q.2 ∧ q.2 ≤ 2147483647) ∧ Jvm.Cond.constantLong RX3 q.1 (Int64.ofInt q.2) ∈ fm_Ts := fun _ h => absurd h List.not_mem_nil
def klX4 : List (Nat × Int) := []
theorem klX4_w : ∀ w ∈ ([] : List Jvm.Cond), w ∈ fm_Ts := fm_ins [] (by decide +kernel) (by decide +kernel)
theorem klX4_ok : ∀ q ∈ klX4, (-2147483648 ≤ q.2 ∧ q.2 ≤ 2147483647) ∧ Jvm.Cond.constantLong RX4 q.1 (Int64.ofInt q.2) ∈ fm_Ts := fun _ h => absurd h List.not_mem_nil
def klX5 : List (Nat × Int) := []
theorem klX5_w : ∀ w ∈ ([] : List Jvm.Cond), w ∈ fm_Ts := fm_ins [] (by decide +kernel) (by decide +kernel)
theorem klX5_ok : ∀ q ∈ klX5, (-2147483648 ≤ q.2 ∧ q.2 ≤ 2147483647) ∧ Jvm.Cond.constantLong RX5 q.1 (Int64.ofInt q.2) ∈ fm_Ts := fun _ h => absurd h List.not_mem_nil
def klX6 : List (Nat × Int) := []
theorem klX6_w : ∀ w ∈ ([] : List Jvm.Cond), w ∈ fm_Ts := fm_ins [] (by decide +kernel) (by decide +kernel)
theorem klX6_ok : ∀ q ∈ klX6, (-2147483648 ≤ q.2 ∧ q.2 ≤ 2147483647) ∧ Jvm.Cond.constantLong RX6 q.1 (Int64.ofInt q.2) ∈ fm_Ts := fun _ h => absurd h List.not_mem_nil
def klX7 : List (Nat × Int) := []
theorem klX7_w : ∀ w ∈ ([] : List Jvm.Cond), w ∈ fm_Ts := fm_ins [] (by decide +kernel) (by decide +kernel)
theorem klX7_ok : ∀ q ∈ klX7, (-2147483648 ≤ q.2 ∧ q.2 ≤ 2147483647) ∧ Jvm.Cond.constantLong RX7 q.1 (Int64.ofInt q.2) ∈ fm_Ts := fun _ h => absurd h List.not_mem_nil
def klX8 : List (Nat × Int) := [(166, 19), (172, 5), (174, 8), (180, 9), (185, 99999), (187, -3), (189, 3), (191, 99), (196, 9999), (241, 48), (243, 57), (313, 200), (411, 40), (413, 20), (424, 59), (426, 30), (428, 35), (430, 28), (432, 10), (434, 18), (467, 999), (469, -1), (476, 511), (478, 2), (480, 6), (504, 65535), (512, 100), (514, 199)]
theorem klX8_w : ∀ w ∈ ([.constantLong RX8 166 (Int64.ofInt (19)), .constantLong RX8 172 (Int64.ofInt (5)), .constantLong RX8 174 (Int64.ofInt (8)), .constantLong RX8 180 (Int64.ofInt (9)), .constantLong RX8 185 (Int64.ofInt (99999)), .constantLong RX8 187 (Int64.ofInt (-3)), .constantLong RX8 189 (Int64.ofInt (3)), .constantLong RX8 191 (Int64.ofInt (99)), .constantLong RX8 196 (Int64.ofInt (9999)), .constantLong RX8 241 (Int64.ofInt (48)), .constantLong RX8 243 (Int64.ofInt (57)), .constantLong RX8 313 (Int64.ofInt (200)), .constantLong RX8 411 (Int64.ofInt (40)), .constantLong RX8 413 (Int64.ofInt (20)), .constantLong RX8 424 (Int64.ofInt (59)), .constantLong RX8 426 (Int64.ofInt (30)), .constantLong RX8 428 (Int64.ofInt (35)), .constantLong RX8 430 (Int64.ofInt (28)), .constantLong RX8 432 (Int64.ofInt (10)), .constantLong RX8 434 (Int64.ofInt (18)), .constantLong RX8 467 (Int64.ofInt (999)), .constantLong RX8 469 (Int64.ofInt (-1)), .constantLong RX8 476 (Int64.ofInt (511)), .constantLong RX8 478 (Int64.ofInt (2)), .constantLong RX8 480 (Int64.ofInt (6)), .constantLong RX8 504 (Int64.ofInt (65535)), .constantLong RX8 512 (Int64.ofInt (100)), .constantLong RX8 514 (Int64.ofInt (199))] : List Jvm.Cond), w ∈ fm_Ts := fm_ins [1201, 1230, 1221, 1216, 1205, 1206, 1207, 1212, 1222, 1284, 1285, 1247, 1348, 1468, 1465, 1466, 1467, 1469, 1470, 1471, 1483, 1484, 1503, 1504, 1505, 1570, 1591, 1592] (by decide +kernel) (by decide +kernel)
theorem klX8_ok : ∀ q ∈ klX8, (-2147483648 ≤ q.2 ∧ q.2 ≤ 2147483647) ∧ Jvm.Cond.constantLong RX8 q.1 (Int64.ofInt q.2) ∈ fm_Ts := List.forall_mem_cons.mpr ⟨⟨by decide, klX8_w _ (List.mem_of_getElem? (i := 0) rfl)⟩, List.forall_mem_cons.mpr ⟨⟨by decide, klX8_w _ (List.mem_of_getElem? (i := 1) rfl)⟩, List.forall_mem_cons.mpr ⟨⟨by decide, klX8_w _ (List.mem_of_getElem? (i := 2) rfl)⟩, List.forall_mem_cons.mpr ⟨⟨by decide, klX8_w _ (List.mem_of_getElem? (i := 3) rfl)⟩, List.forall_mem_cons.mpr ⟨⟨by decide, klX8_w _ (List.mem_of_getElem? (i := 4) rfl)⟩, List.forall_mem_cons.mpr ⟨⟨by decide, klX8_w _ (List.mem_of_getElem? (i := 5) rfl)⟩, List.forall_mem_cons.mpr ⟨⟨by decide, klX8_w _ (List.mem_of_getElem? (i := 6) rfl)⟩, List.forall_mem_cons.mpr ⟨⟨by decide, klX8_w _ (List.mem_of_getElem? (i := 7) rfl)⟩, List.forall_mem_cons.mpr ⟨⟨by decide, klX8_w _ (List.mem_of_getElem? (i := 8) rfl)⟩, List.forall_mem_cons.mpr ⟨⟨by decide, klX8_w _ (List.mem_of_getElem? (i := 9) rfl)⟩, List.forall_mem_cons.mpr ⟨⟨by decide, klX8_w _ (List.mem_of_getElem? (i := 10) rfl)⟩, List.forall_mem_cons.mpr ⟨⟨by decide, klX8_w _ (List.mem_of_getElem? (i := 11) rfl)⟩, List.forall_mem_cons.mpr ⟨⟨by decide, klX8_w _ (List.mem_of_getElem? (i := 12) rfl)⟩, List.forall_mem_cons.mpr ⟨⟨by decide, klX8_w _ (List.mem_of_getElem? (i := 13) rfl)⟩, List.forall_mem_cons.mpr ⟨⟨by decide, klX8_w _ (List.mem_of_getElem? (i := 14) rfl)⟩, List.forall_mem_cons.mpr ⟨⟨by decide, klX8_w _ (List.mem_of_getElem? (i := 15) rfl)⟩, List.forall_mem_cons.mpr ⟨⟨by decide, klX8_w _ (List.mem_of_getElem? (i := 16) rfl)⟩, List.forall_mem_cons.mpr ⟨⟨by decide, klX8_w _ (List.mem_of_getElem? (i := 17) rfl)⟩, List.forall_mem_cons.mpr ⟨⟨by decide, klX8_w _ (List.mem_of_getElem? (i := 18) rfl)⟩, List.forall_mem_cons.mpr ⟨⟨by decide, klX8_w _ (List.mem_of_getElem? (i := 19) rfl)⟩, List.forall_mem_cons.mpr ⟨⟨by decide, klX8_w _ (List.mem_of_getElem? (i := 20) rfl)⟩, List.forall_mem_cons.mpr ⟨⟨by decide, klX8_w _ (List.mem_of_getElem? (i := 21) rfl)⟩, List.forall_mem_cons.mpr ⟨⟨by decide, klX8_w _ (List.mem_of_getElem? (i := 22) rfl)⟩, List.forall_mem_cons.mpr ⟨⟨by decide, klX8_w _ (List.mem_of_getElem? (i := 23) rfl)⟩, List.forall_mem_cons.mpr ⟨⟨by decide, klX8_w _ (List.mem_of_getElem? (i := 24) rfl)⟩, List.forall_mem_cons.mpr ⟨⟨by decide, klX8_w _ (List.mem_of_getElem? (i := 25) rfl)⟩, List.forall_mem_cons.mpr ⟨⟨by decide, klX8_w _ (List.mem_of_getElem? (i := 26) rfl)⟩, List.forall_mem_cons.mpr ⟨⟨by decide, klX8_w _ (List.mem_of_getElem? (i := 27) rfl)⟩, fun _ h => absurd h List.not_mem_nil⟩⟩⟩⟩⟩⟩⟩⟩⟩⟩⟩⟩⟩⟩⟩⟩⟩⟩⟩⟩⟩⟩⟩⟩⟩⟩⟩⟩
def klJ6 : List (Nat × Int) := []
theorem klJ6_w : ∀ w ∈ ([] : List Jvm.Cond), w ∈ fm_Ts := fm_ins [] (by decide +kernel) (by decide +kernel)
theorem klJ6_ok : ∀ q ∈ klJ6, (-2147483648 ≤ q.2 ∧ q.2 ≤ 2147483647) ∧ Jvm.Cond.constantLong "java/lang/Integer" q.1 (Int64.ofInt q.2) ∈ fm_Ts := fun _ h => absurd h List.not_mem_nil
def klJ9 : List (Nat × Int) := []
theorem klJ9_w : ∀ w ∈ ([] : List Jvm.Cond), w ∈ fm_Ts := fm_ins [] (by decide +kernel) (by decide +kernel)
theorem klJ9_ok : ∀ q ∈ klJ9, (-2147483648 ≤ q.2 ∧ q.2 ≤ 2147483647) ∧ Jvm.Cond.constantLong "java/lang/Math" q.1 (Int64.ofInt q.2) ∈ fm_Ts := fun _ h => absurd h List.not_mem_nil
theorem evX0 : rv_Ev fm_cl fm_Ts RX0 flX0 fm_wr kcX0 klX0 := ⟨flX0_ok, fm_wr_ok, kcX0_ok, klX0_ok⟩
theorem evX1 : rv_Ev fm_cl fm_Ts RX1 flX1 fm_wr kcX1 klX1 := ⟨flX1_ok, fm_wr_ok, kcX1_ok, klX1_ok⟩
theorem evX2 : rv_Ev fm_cl fm_Ts RX2 flX2 fm_wr kcX2 klX2 := ⟨flX2_ok, fm_wr_ok, kcX2_ok, klX2_ok⟩
theorem evX3 : rv_Ev fm_cl fm_Ts RX3 flX3 fm_wr kcX3 klX3 := ⟨flX3_ok, fm_wr_ok, kcX3_ok, klX3_ok⟩
theorem evX4 : rv_Ev fm_cl fm_Ts RX4 flX4 fm_wr kcX4 klX4 := ⟨flX4_ok, fm_wr_ok, kcX4_ok, klX4_ok⟩
theorem evX5 : rv_Ev fm_cl fm_Ts RX5 flX5 fm_wr kcX5 klX5 := ⟨flX5_ok, fm_wr_ok, kcX5_ok, klX5_ok⟩
theorem evX6 : rv_Ev fm_cl fm_Ts RX6 flX6 fm_wr kcX6 klX6 := ⟨flX6_ok, fm_wr_ok, kcX6_ok, klX6_ok⟩
theorem evX7 : rv_Ev fm_cl fm_Ts RX7 flX7 fm_wr kcX7 klX7 := ⟨flX7_ok, fm_wr_ok, kcX7_ok, klX7_ok⟩
theorem evX8 : rv_Ev fm_cl fm_Ts RX8 flX8 fm_wr kcX8 klX8 := ⟨flX8_ok, fm_wr_ok, kcX8_ok, klX8_ok⟩
theorem evJ6 : rv_Ev fm_cl fm_Ts "java/lang/Integer" [] fm_wr kcJ6 klJ6 := ⟨fun _ h => absurd h List.not_mem_nil, fm_wr_ok, kcJ6_ok, klJ6_ok⟩
theorem evJ9 : rv_Ev fm_cl fm_Ts "java/lang/Math" [] fm_wr kcJ9 klJ9 := ⟨fun _ h => absurd h List.not_mem_nil, fm_wr_ok, kcJ9_ok, klJ9_ok⟩
