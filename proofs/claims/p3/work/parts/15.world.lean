/-! THE WORLD: the cells of both objects -/
def rv_u : rv_A := (0, 0, 0, 0, [], [])
def rv_i (lo hi : Int) : rv_A := (1, 0, lo, hi, [], [])
def rv_r (j : Nat) : rv_A := (2, j, 0, 0, [], [])
def fm_tm : List fm_C := [
  .inr (7, [.inr 3, .inr 5, .inr 7, .inr 16, .inr 26, .inr 41, .inr 56, .inr 71, .inr 76, .inr 1, .inr 2, .inl (0, 1)]),
  .inl (0, 20, (-2147483648), 2147483647),
  .inl (0, 6, (-2147483648), 2147483647),
  .inr (6, [.inr 4, .inl ((-2147483648), 2147483647)]),
  .inl (0, 220, 0, 255),
  .inr (6, [.inr 6, .inl ((-2147483648), 2147483647)]),
  .inl (0, 220, 0, 255),
  .inr (1, [.inr 8, .inr 9, .inl (0, 200), .inr 10, .inr 11, .inr 12, .inr 13, .inl ((-2147483648), 2147483647), .inl (0, 1), .inr 14, .inr 15]),
  .inl (0, 200, (-2147483648), 2147483647),
  .inl (0, 200, (-10000000), 10000000),
  .inl (0, 14, (-2147483648), 2147483647),
  .inl (0, 14, (-2147483648), 2147483647),
  .inl (0, 14, (-2147483648), 2147483647),
  .inl (0, 14, (-2147483648), 2147483647),
  .inl (0, 13, (-2147483648), 2147483647),
  .inl (0, 40, (-2147483648), 2147483647),
  .inr (3, [.inr 17, .inr 3, .inl ((-2147483648), 2147483647), .inl ((-2147483648), 2147483647), .inl ((-2147483648), 2147483647)]),
  .inr (1, [.inr 18, .inr 19, .inl (0, 200), .inr 20, .inr 21, .inr 22, .inr 23, .inl ((-2147483648), 2147483647), .inl (0, 1), .inr 24, .inr 25]),
  .inl (0, 200, (-2147483648), 2147483647),
  .inl (0, 200, (-10000000), 10000000),
  .inl (0, 14, (-2147483648), 2147483647),
  .inl (0, 14, (-2147483648), 2147483647),
  .inl (0, 14, (-2147483648), 2147483647),
  .inl (0, 14, (-2147483648), 2147483647),
  .inl (0, 13, (-2147483648), 2147483647),
  .inl (0, 40, (-2147483648), 2147483647),
  .inr (0, [.inr 27, .inr 28, .inr 29, .inr 30, .inr 31, .inr 32, .inr 36, .inr 33, .inr 34, .inl ((-2147483648), 2147483647), .inl ((-2147483648), 2147483647), .inl ((-2147483648), 2147483647), .inl ((-2147483648), 2147483647), .inl ((-2147483648), 2147483647), .inl (0, 1), .inl ((-2147483648), 2147483647), .inl ((-2147483648), 2147483647), .inr 35]),
  .inl (0, 20, (-2147483648), 2147483647),
  .inl (0, 20, (-2147483648), 2147483647),
  .inl (0, 20, (-2147483648), 2147483647),
  .inl (0, 20, (-2147483648), 2147483647),
  .inl (0, 6, (-2147483648), 2147483647),
  .inl (0, 6, (-2147483648), 2147483647),
  .inl (0, 100, (-2147483648), 2147483647),
  .inl (0, 180, (-2147483648), 2147483647),
  .inl (0, 20, (-2147483648), 2147483647),
  .inr (2, [.inl ((-2147483648), 2147483647), .inr 37, .inr 38, .inr 39, .inr 40]),
  .inl (0, 9, (-2147483648), 2147483647),
  .inl (0, 9, (-2147483648), 2147483647),
  .inl (0, 9, (-2147483648), 2147483647),
  .inl (0, 9, (-2147483648), 2147483647),
  .inr (0, [.inr 42, .inr 43, .inr 44, .inr 45, .inr 46, .inr 47, .inr 51, .inr 48, .inr 49, .inl ((-2147483648), 2147483647), .inl ((-2147483648), 2147483647), .inl ((-2147483648), 2147483647), .inl ((-2147483648), 2147483647), .inl ((-2147483648), 2147483647), .inl (0, 1), .inl ((-2147483648), 2147483647), .inl ((-2147483648), 2147483647), .inr 50]),
  .inl (0, 20, (-2147483648), 2147483647),
  .inl (0, 20, (-2147483648), 2147483647),
  .inl (0, 20, (-2147483648), 2147483647),
  .inl (0, 20, (-2147483648), 2147483647),
  .inl (0, 6, (-2147483648), 2147483647),
  .inl (0, 6, (-2147483648), 2147483647),
  .inl (0, 100, (-2147483648), 2147483647),
  .inl (0, 180, (-2147483648), 2147483647),
  .inl (0, 20, (-2147483648), 2147483647),
  .inr (2, [.inl ((-2147483648), 2147483647), .inr 52, .inr 53, .inr 54, .inr 55]),
  .inl (0, 9, (-2147483648), 2147483647),
  .inl (0, 9, (-2147483648), 2147483647),
  .inl (0, 9, (-2147483648), 2147483647),
  .inl (0, 9, (-2147483648), 2147483647),
  .inr (0, [.inr 57, .inr 58, .inr 59, .inr 60, .inr 61, .inr 62, .inr 66, .inr 63, .inr 64, .inl ((-2147483648), 2147483647), .inl ((-2147483648), 2147483647), .inl ((-2147483648), 2147483647), .inl ((-2147483648), 2147483647), .inl ((-2147483648), 2147483647), .inl (0, 1), .inl ((-2147483648), 2147483647), .inl ((-2147483648), 2147483647), .inr 65]),
  .inl (0, 20, (-2147483648), 2147483647),
  .inl (0, 20, (-2147483648), 2147483647),
  .inl (0, 20, (-2147483648), 2147483647),
  .inl (0, 20, (-2147483648), 2147483647),
  .inl (0, 6, (-2147483648), 2147483647),
  .inl (0, 6, (-2147483648), 2147483647),
  .inl (0, 100, (-2147483648), 2147483647),
  .inl (0, 180, (-2147483648), 2147483647),
  .inl (0, 20, (-2147483648), 2147483647),
  .inr (2, [.inl ((-2147483648), 2147483647), .inr 67, .inr 68, .inr 69, .inr 70]),
  .inl (0, 9, (-2147483648), 2147483647),
  .inl (0, 9, (-2147483648), 2147483647),
  .inl (0, 9, (-2147483648), 2147483647),
  .inl (0, 9, (-2147483648), 2147483647),
  .inr (4, [.inl ((-2147483648), 2147483647), .inl ((-2147483648), 2147483647), .inr 72, .inr 73, .inr 74, .inr 75, .inr 26, .inr 56, .inr 7, .inl ((-2147483648), 2147483647), .inl ((-2147483648), 2147483647), .inl ((-2147483648), 2147483647)]),
  .inl (0, 3, (-2147483648), 2147483647),
  .inl (0, 3, (-2147483648), 2147483647),
  .inl (0, 20, (-2147483648), 2147483647),
  .inl (0, 400, (-2147483648), 2147483647),
  .inr (5, [.inr 77, .inr 78, .inr 79, .inl (0, 6)]),
  .inl (0, 6, (-2147483648), 2147483647),
  .inl (0, 6, (-2147483648), 2147483647),
  .inl (0, 6, (-2147483648), 2147483647),
  .inr (8, [.inr 81, .inl (0, 220), .inl ((-2147483648), 2147483647), .inl ((-2147483648), 2147483647), .inl ((-2147483648), 2147483647), .inl ((-2147483648), 2147483647), .inl ((-2147483648), 2147483647), .inr 82, .inr 83, .inr 84, .inr 85, .inr 86, .inr 87, .inr 88, .inr 89, .inr 90, .inr 91, .inr 92, .inr 93, .inr 94, .inl ((-2147483648), 2147483647), .inr 95, .inr 96, .inr 97, .inr 98, .inr 99, .inr 100, .inr 101, .inr 102, .inr 103, .inr 104, .inr 105, .inr 106, .inl ((-2147483648), 2147483647), .inl ((-2147483648), 2147483647), .inl ((-2147483648), 2147483647), .inl ((-2147483648), 2147483647), .inl ((-2147483648), 2147483647), .inl ((-2147483648), 2147483647), .inl ((-2147483648), 2147483647), .inl (0, 1), .inl (0, 1), .inr 107, .inl (0, 19), .inl ((-1), 8), .inl ((-1), 5), .inl ((-2147483648), 2147483647), .inr 108, .inr 109, .inr 110, .inr 111, .inl ((-2147483648), 2147483647), .inr 112, .inr 113, .inr 114, .inr 115, .inr 116, .inr 117, .inr 118, .inr 119, .inr 120, .inr 121, .inr 122, .inr 123, .inr 124, .inr 125, .inl ((-2147483648), 2147483647), .inl ((-2147483648), 2147483647), .inr 126, .inr 127, .inr 128, .inr 129, .inr 130, .inl (0, 1)]),
  .inl (1, 220, (-128), 127),
  .inl (0, 20, (-2147483648), 2147483647),
  .inl (0, 20, (-2147483648), 2147483647),
  .inl (2, 20, 0, 1),
  .inl (0, 20, 0, 6),
  .inl (0, 6, (-2147483648), 2147483647),
  .inl (0, 6, (-2147483648), 2147483647),
  .inl (2, 9, 0, 1),
  .inl (0, 9, 0, 20),
  .inl (0, 9, (-2147483648), 2147483647),
  .inl (0, 9, (-2147483648), 2147483647),
  .inl (0, 9, (-2147483648), 2147483647),
  .inl (0, 100, (-2147483648), 2147483647),
  .inl (0, 180, (-2147483648), 2147483647),
  .inl (0, 14, (-2147483648), 2147483647),
  .inl (0, 14, (-2147483648), 2147483647),
  .inl (0, 14, (-2147483648), 2147483647),
  .inl (0, 14, (-2147483648), 2147483647),
  .inl (0, 200, (-2147483648), 2147483647),
  .inl (0, 200, (-2147483648), 2147483647),
  .inl (0, 14, (-2147483648), 2147483647),
  .inl (0, 14, (-2147483648), 2147483647),
  .inl (0, 14, (-2147483648), 2147483647),
  .inl (0, 14, (-2147483648), 2147483647),
  .inl (0, 200, (-2147483648), 2147483647),
  .inl (0, 200, (-2147483648), 2147483647),
  .inl (0, 240, (-2147483648), 2147483647),
  .inl (0, 240, (-2147483648), 2147483647),
  .inl (2, 240, 0, 1),
  .inl (0, 9, (-2147483648), 2147483647),
  .inl (0, 20, (-2147483648), 2147483647),
  .inl (0, 40, (-2147483648), 2147483647),
  .inl (0, 40, (-2147483648), 2147483647),
  .inl (2, 40, 0, 1),
  .inl (0, 40, 0, 6),
  .inl (0, 12, (-2147483648), 2147483647),
  .inl (0, 12, (-2147483648), 2147483647),
  .inl (2, 18, 0, 1),
  .inl (0, 18, 0, 20),
  .inl (0, 18, (-2147483648), 2147483647),
  .inl (0, 18, (-2147483648), 2147483647),
  .inl (0, 18, (-2147483648), 2147483647),
  .inl (0, 200, (-2147483648), 2147483647),
  .inl (0, 360, (-2147483648), 2147483647),
  .inl (0, 10, (-2147483648), 2147483647),
  .inl (0, 6, 0, 8),
  .inl (0, 6, 0, 5),
  .inl (0, 6, 0, 5),
  .inl (0, 6, (-2147483648), 2147483647),
  .inl (0, 20, (-2147483648), 2147483647)]
def fm_nt : fm_Nt := [(RX7, 11, yX6_init, "DustMint"), (RX7, 21, yX1_init, "DustMint"), (RX3, 11, yX1_init, "DustMint"), (RX0, 32, yX2_init, "DustMint"), (RX7, 59, yX5_init, "DustMint"), (RX0, 142, yX7_isPorter, "DustMint"), (RX2, 34, yX7_isPorter, "DustMint"), (RX0, 131, yX7_isYard, "DustMint"), (RX0, 181, yX7_isBeggar, "DustMint"), (RX4, 100, yX7_isYard, "DustMint"), (RX4, 87, yX7_isBeggar, "DustMint"), (RX5, 39, yX7_isPorter, "DustMint")]
/-- the places that the law's tables are made of -/
def fm_gd (i f : Nat) : Bool := decide (i = 99) || decide (i = 96) || decide (i = 97) || decide (i = 98) || (decide (i = 80) && decide (f = 20))
/-- a predicate that hangs on those places alone -/
def fm_Gd (Gp : fm_V → Prop) : Prop := ∀ V V' : fm_V, (∀ i f, fm_gd i f = true → V' i f = V i f) → Gp V → Gp V'
def fm_gk (M : List (Nat × Nat)) : Bool := M.all (fun q => decide (q.1 ≠ 99 ∧ q.1 ≠ 96 ∧ q.1 ≠ 97 ∧ q.1 ≠ 98) && (decide (q.1 ≠ 80) || (decide (q.2 ≠ 20) && decide (q.2 ≠ 9999))))
theorem fm_gm {Gp : fm_V → Prop} (hG : fm_Gd Gp) {M : List (Nat × Nat)} (h : fm_gk M = true) : ∀ V V' : fm_V, (∀ i f, rv_in M i f = false → V' i f = V i f) → Gp V → Gp V' := by
  intro V V' hV
  refine hG V V' (fun i f hif => hV i f ?_)
  cases hb : rv_in M i f with
  | false => rfl
  | true =>
    simp only [rv_in, List.any_eq_true, Bool.and_eq_true, Bool.or_eq_true, decide_eq_true_eq] at hb
    obtain ⟨q, q1, q2, q3⟩ := hb
    have h1 := List.all_eq_true.mp h q q1
    simp only [fm_gd, Bool.and_eq_true, Bool.or_eq_true, decide_eq_true_eq] at hif h1
    omega
theorem fm_acw : Jvm.Cond.native arraycopyName ∈ fm_Ts ∧ Jvm.Cond.static arraycopyName ∈ fm_Ts ∧ Jvm.Cond.initialized "java/lang/System" ∈ fm_Ts := ⟨fm_mem 634 (by decide +kernel) rfl, fm_mem 633 (by decide +kernel) rfl, fm_mem 102 (by decide +kernel) rfl⟩
theorem wm_X7_isYard : Jvm.Cond.static yX7_isYard ∈ fm_Ts ∧ Jvm.Cond.initialized yX7_isYard.cls ∈ fm_Ts ∧ Jvm.Cond.code yX7_isYard prog_1_method_35_code 1 (some .boolean) ∈ fm_Ts := ⟨fm_mem 425 (by decide +kernel) rfl, fm_mem 86 (by decide +kernel) rfl, fm_mem 426 (by decide +kernel) rfl⟩
theorem wy_X7_isYard : yX7_isYard.cls ≠ "java/lang/invoke/MethodHandle" ∧ yX7_isYard.cls ≠ "java/lang/invoke/VarHandle" ∧ (parseMethodDescriptor yX7_isYard.desc).map (fun d => d.parameters.length) = some 1 := by decide +kernel
theorem wm_X7_isWithin : Jvm.Cond.static yX7_isWithin ∈ fm_Ts ∧ Jvm.Cond.initialized yX7_isWithin.cls ∈ fm_Ts ∧ Jvm.Cond.code yX7_isWithin prog_1_method_34_code 3 (some .boolean) ∈ fm_Ts := ⟨fm_mem 429 (by decide +kernel) rfl, fm_mem 86 (by decide +kernel) rfl, fm_mem 430 (by decide +kernel) rfl⟩
theorem wy_X7_isWithin : yX7_isWithin.cls ≠ "java/lang/invoke/MethodHandle" ∧ yX7_isWithin.cls ≠ "java/lang/invoke/VarHandle" ∧ (parseMethodDescriptor yX7_isWithin.desc).map (fun d => d.parameters.length) = some 3 := by decide +kernel
theorem wm_X7_yard : Jvm.Cond.instanceMethod yX7_yard ∈ fm_Ts ∧ Jvm.Cond.selects RX7 yX7_yard yX7_yard ∈ fm_Ts ∧ Jvm.Cond.initialized RX7 ∈ fm_Ts ∧ Jvm.Cond.code yX7_yard prog_1_method_2_code 5 (some .boolean) ∈ fm_Ts := ⟨fm_mem 421 (by decide +kernel) rfl, fm_mem 422 (by decide +kernel) rfl, fm_mem 86 (by decide +kernel) rfl, fm_mem 423 (by decide +kernel) rfl⟩
theorem wy_X7_yard : yX7_yard.cls = RX7 ∧ yX7_yard.cls ≠ "java/lang/invoke/MethodHandle" ∧ yX7_yard.cls ≠ "java/lang/invoke/VarHandle" ∧ (parseMethodDescriptor yX7_yard.desc).map (fun d => d.parameters.length) = some 4 := by decide +kernel
theorem wm_X7_rain : Jvm.Cond.instanceMethod yX7_rain ∈ fm_Ts ∧ Jvm.Cond.selects RX7 yX7_rain yX7_rain ∈ fm_Ts ∧ Jvm.Cond.initialized RX7 ∈ fm_Ts ∧ Jvm.Cond.code yX7_rain prog_1_method_3_code 3 (some .boolean) ∈ fm_Ts := ⟨fm_mem 432 (by decide +kernel) rfl, fm_mem 433 (by decide +kernel) rfl, fm_mem 86 (by decide +kernel) rfl, fm_mem 434 (by decide +kernel) rfl⟩
theorem wy_X7_rain : yX7_rain.cls = RX7 ∧ yX7_rain.cls ≠ "java/lang/invoke/MethodHandle" ∧ yX7_rain.cls ≠ "java/lang/invoke/VarHandle" ∧ (parseMethodDescriptor yX7_rain.desc).map (fun d => d.parameters.length) = some 2 := by decide +kernel
theorem wm_X7_isPorter : Jvm.Cond.static yX7_isPorter ∈ fm_Ts ∧ Jvm.Cond.initialized yX7_isPorter.cls ∈ fm_Ts ∧ Jvm.Cond.code yX7_isPorter prog_1_method_36_code 1 (some .boolean) ∈ fm_Ts := ⟨fm_mem 440 (by decide +kernel) rfl, fm_mem 86 (by decide +kernel) rfl, fm_mem 441 (by decide +kernel) rfl⟩
theorem wy_X7_isPorter : yX7_isPorter.cls ≠ "java/lang/invoke/MethodHandle" ∧ yX7_isPorter.cls ≠ "java/lang/invoke/VarHandle" ∧ (parseMethodDescriptor yX7_isPorter.desc).map (fun d => d.parameters.length) = some 1 := by decide +kernel
theorem wm_X7_porter : Jvm.Cond.instanceMethod yX7_porter ∈ fm_Ts ∧ Jvm.Cond.selects RX7 yX7_porter yX7_porter ∈ fm_Ts ∧ Jvm.Cond.initialized RX7 ∈ fm_Ts ∧ Jvm.Cond.code yX7_porter prog_1_method_4_code 6 (some .boolean) ∈ fm_Ts := ⟨fm_mem 436 (by decide +kernel) rfl, fm_mem 437 (by decide +kernel) rfl, fm_mem 86 (by decide +kernel) rfl, fm_mem 438 (by decide +kernel) rfl⟩
theorem wy_X7_porter : yX7_porter.cls = RX7 ∧ yX7_porter.cls ≠ "java/lang/invoke/MethodHandle" ∧ yX7_porter.cls ≠ "java/lang/invoke/VarHandle" ∧ (parseMethodDescriptor yX7_porter.desc).map (fun d => d.parameters.length) = some 5 := by decide +kernel
theorem wm_X7_licence : Jvm.Cond.instanceMethod yX7_licence ∈ fm_Ts ∧ Jvm.Cond.selects RX7 yX7_licence yX7_licence ∈ fm_Ts ∧ Jvm.Cond.initialized RX7 ∈ fm_Ts ∧ Jvm.Cond.code yX7_licence prog_1_method_5_code 3 (some .boolean) ∈ fm_Ts := ⟨fm_mem 443 (by decide +kernel) rfl, fm_mem 444 (by decide +kernel) rfl, fm_mem 86 (by decide +kernel) rfl, fm_mem 445 (by decide +kernel) rfl⟩
theorem wy_X7_licence : yX7_licence.cls = RX7 ∧ yX7_licence.cls ≠ "java/lang/invoke/MethodHandle" ∧ yX7_licence.cls ≠ "java/lang/invoke/VarHandle" ∧ (parseMethodDescriptor yX7_licence.desc).map (fun d => d.parameters.length) = some 2 := by decide +kernel
theorem wm_X7_isBeggar : Jvm.Cond.static yX7_isBeggar ∈ fm_Ts ∧ Jvm.Cond.initialized yX7_isBeggar.cls ∈ fm_Ts ∧ Jvm.Cond.code yX7_isBeggar prog_1_method_37_code 1 (some .boolean) ∈ fm_Ts := ⟨fm_mem 451 (by decide +kernel) rfl, fm_mem 86 (by decide +kernel) rfl, fm_mem 452 (by decide +kernel) rfl⟩
theorem wy_X7_isBeggar : yX7_isBeggar.cls ≠ "java/lang/invoke/MethodHandle" ∧ yX7_isBeggar.cls ≠ "java/lang/invoke/VarHandle" ∧ (parseMethodDescriptor yX7_isBeggar.desc).map (fun d => d.parameters.length) = some 1 := by decide +kernel
theorem wm_X7_skill : Jvm.Cond.instanceMethod yX7_skill ∈ fm_Ts ∧ Jvm.Cond.selects RX7 yX7_skill yX7_skill ∈ fm_Ts ∧ Jvm.Cond.initialized RX7 ∈ fm_Ts ∧ Jvm.Cond.code yX7_skill prog_1_method_6_code 3 (some .boolean) ∈ fm_Ts := ⟨fm_mem 447 (by decide +kernel) rfl, fm_mem 448 (by decide +kernel) rfl, fm_mem 86 (by decide +kernel) rfl, fm_mem 449 (by decide +kernel) rfl⟩
theorem wy_X7_skill : yX7_skill.cls = RX7 ∧ yX7_skill.cls ≠ "java/lang/invoke/MethodHandle" ∧ yX7_skill.cls ≠ "java/lang/invoke/VarHandle" ∧ (parseMethodDescriptor yX7_skill.desc).map (fun d => d.parameters.length) = some 2 := by decide +kernel
theorem wm_X6_hasRoom : Jvm.Cond.instanceMethod yX6_hasRoom ∈ fm_Ts ∧ Jvm.Cond.selects RX6 yX6_hasRoom yX6_hasRoom ∈ fm_Ts ∧ Jvm.Cond.initialized RX6 ∈ fm_Ts ∧ Jvm.Cond.code yX6_hasRoom prog_8_method_2_code 2 (some .boolean) ∈ fm_Ts := ⟨fm_mem 458 (by decide +kernel) rfl, fm_mem 459 (by decide +kernel) rfl, fm_mem 87 (by decide +kernel) rfl, fm_mem 460 (by decide +kernel) rfl⟩
theorem wy_X6_hasRoom : yX6_hasRoom.cls = RX6 ∧ yX6_hasRoom.cls ≠ "java/lang/invoke/MethodHandle" ∧ yX6_hasRoom.cls ≠ "java/lang/invoke/VarHandle" ∧ (parseMethodDescriptor yX6_hasRoom.desc).map (fun d => d.parameters.length) = some 1 := by decide +kernel
theorem wm_X6_putNumber : Jvm.Cond.instanceMethod yX6_putNumber ∈ fm_Ts ∧ Jvm.Cond.selects RX6 yX6_putNumber yX6_putNumber ∈ fm_Ts ∧ Jvm.Cond.initialized RX6 ∈ fm_Ts ∧ Jvm.Cond.code yX6_putNumber prog_8_method_3_code 3 none ∈ fm_Ts := ⟨fm_mem 462 (by decide +kernel) rfl, fm_mem 463 (by decide +kernel) rfl, fm_mem 87 (by decide +kernel) rfl, fm_mem 464 (by decide +kernel) rfl⟩
theorem wy_X6_putNumber : yX6_putNumber.cls = RX6 ∧ yX6_putNumber.cls ≠ "java/lang/invoke/MethodHandle" ∧ yX6_putNumber.cls ≠ "java/lang/invoke/VarHandle" ∧ (parseMethodDescriptor yX6_putNumber.desc).map (fun d => d.parameters.length) = some 1 := by decide +kernel
theorem wm_X7_feed : Jvm.Cond.instanceMethod yX7_feed ∈ fm_Ts ∧ Jvm.Cond.selects RX7 yX7_feed yX7_feed ∈ fm_Ts ∧ Jvm.Cond.initialized RX7 ∈ fm_Ts ∧ Jvm.Cond.code yX7_feed prog_1_method_7_code 6 (some .int) ∈ fm_Ts := ⟨fm_mem 454 (by decide +kernel) rfl, fm_mem 455 (by decide +kernel) rfl, fm_mem 86 (by decide +kernel) rfl, fm_mem 456 (by decide +kernel) rfl⟩
theorem wy_X7_feed : yX7_feed.cls = RX7 ∧ yX7_feed.cls ≠ "java/lang/invoke/MethodHandle" ∧ yX7_feed.cls ≠ "java/lang/invoke/VarHandle" ∧ (parseMethodDescriptor yX7_feed.desc).map (fun d => d.parameters.length) = some 5 := by decide +kernel
theorem wm_X1_clear : Jvm.Cond.instanceMethod yX1_clear ∈ fm_Ts ∧ Jvm.Cond.selects RX1 yX1_clear yX1_clear ∈ fm_Ts ∧ Jvm.Cond.initialized RX1 ∈ fm_Ts ∧ Jvm.Cond.code yX1_clear prog_3_method_3_code 1 none ∈ fm_Ts := ⟨fm_mem 474 (by decide +kernel) rfl, fm_mem 475 (by decide +kernel) rfl, fm_mem 88 (by decide +kernel) rfl, fm_mem 476 (by decide +kernel) rfl⟩
theorem wy_X1_clear : yX1_clear.cls = RX1 ∧ yX1_clear.cls ≠ "java/lang/invoke/MethodHandle" ∧ yX1_clear.cls ≠ "java/lang/invoke/VarHandle" ∧ (parseMethodDescriptor yX1_clear.desc).map (fun d => d.parameters.length) = some 0 := by decide +kernel
theorem wm_X3_next : Jvm.Cond.instanceMethod yX3_next ∈ fm_Ts ∧ Jvm.Cond.selects RX3 yX3_next yX3_next ∈ fm_Ts ∧ Jvm.Cond.initialized RX3 ∈ fm_Ts ∧ Jvm.Cond.code yX3_next prog_5_method_3_code 1 (some .int) ∈ fm_Ts := ⟨fm_mem 483 (by decide +kernel) rfl, fm_mem 1 (by decide +kernel) rfl, fm_mem 89 (by decide +kernel) rfl, fm_mem 484 (by decide +kernel) rfl⟩
theorem wy_X3_next : yX3_next.cls = RX3 ∧ yX3_next.cls ≠ "java/lang/invoke/MethodHandle" ∧ yX3_next.cls ≠ "java/lang/invoke/VarHandle" ∧ (parseMethodDescriptor yX3_next.desc).map (fun d => d.parameters.length) = some 0 := by decide +kernel
theorem wm_X3_fail : Jvm.Cond.instanceMethod yX3_fail ∈ fm_Ts ∧ Jvm.Cond.selects RX3 yX3_fail yX3_fail ∈ fm_Ts ∧ Jvm.Cond.initialized RX3 ∈ fm_Ts ∧ Jvm.Cond.code yX3_fail prog_5_method_4_code 2 (some .boolean) ∈ fm_Ts := ⟨fm_mem 574 (by decide +kernel) rfl, fm_mem 2 (by decide +kernel) rfl, fm_mem 89 (by decide +kernel) rfl, fm_mem 575 (by decide +kernel) rfl⟩
theorem wy_X3_fail : yX3_fail.cls = RX3 ∧ yX3_fail.cls ≠ "java/lang/invoke/MethodHandle" ∧ yX3_fail.cls ≠ "java/lang/invoke/VarHandle" ∧ (parseMethodDescriptor yX3_fail.desc).map (fun d => d.parameters.length) = some 1 := by decide +kernel
theorem wm_X3_open : Jvm.Cond.instanceMethod yX3_open ∈ fm_Ts ∧ Jvm.Cond.selects RX3 yX3_open yX3_open ∈ fm_Ts ∧ Jvm.Cond.initialized RX3 ∈ fm_Ts ∧ Jvm.Cond.code yX3_open prog_5_method_6_code 3 (some .boolean) ∈ fm_Ts := ⟨fm_mem 590 (by decide +kernel) rfl, fm_mem 6 (by decide +kernel) rfl, fm_mem 89 (by decide +kernel) rfl, fm_mem 591 (by decide +kernel) rfl⟩
theorem wy_X3_open : yX3_open.cls = RX3 ∧ yX3_open.cls ≠ "java/lang/invoke/MethodHandle" ∧ yX3_open.cls ≠ "java/lang/invoke/VarHandle" ∧ (parseMethodDescriptor yX3_open.desc).map (fun d => d.parameters.length) = some 2 := by decide +kernel
theorem wm_X3_isDigit : Jvm.Cond.static yX3_isDigit ∈ fm_Ts ∧ Jvm.Cond.initialized yX3_isDigit.cls ∈ fm_Ts ∧ Jvm.Cond.code yX3_isDigit prog_5_method_16_code 1 (some .boolean) ∈ fm_Ts := ⟨fm_mem 597 (by decide +kernel) rfl, fm_mem 89 (by decide +kernel) rfl, fm_mem 598 (by decide +kernel) rfl⟩
theorem wy_X3_isDigit : yX3_isDigit.cls ≠ "java/lang/invoke/MethodHandle" ∧ yX3_isDigit.cls ≠ "java/lang/invoke/VarHandle" ∧ (parseMethodDescriptor yX3_isDigit.desc).map (fun d => d.parameters.length) = some 1 := by decide +kernel
theorem wm_X1_putStep : Jvm.Cond.instanceMethod yX1_putStep ∈ fm_Ts ∧ Jvm.Cond.selects RX1 yX1_putStep yX1_putStep ∈ fm_Ts ∧ Jvm.Cond.initialized RX1 ∈ fm_Ts ∧ Jvm.Cond.code yX1_putStep prog_3_method_4_code 3 (some .int) ∈ fm_Ts := ⟨fm_mem 604 (by decide +kernel) rfl, fm_mem 605 (by decide +kernel) rfl, fm_mem 88 (by decide +kernel) rfl, fm_mem 606 (by decide +kernel) rfl⟩
theorem wy_X1_putStep : yX1_putStep.cls = RX1 ∧ yX1_putStep.cls ≠ "java/lang/invoke/MethodHandle" ∧ yX1_putStep.cls ≠ "java/lang/invoke/VarHandle" ∧ (parseMethodDescriptor yX1_putStep.desc).map (fun d => d.parameters.length) = some 2 := by decide +kernel
theorem wm_X3_readNumber : Jvm.Cond.instanceMethod yX3_readNumber ∈ fm_Ts ∧ Jvm.Cond.selects RX3 yX3_readNumber yX3_readNumber ∈ fm_Ts ∧ Jvm.Cond.initialized RX3 ∈ fm_Ts ∧ Jvm.Cond.code yX3_readNumber prog_5_method_15_code 3 (some .boolean) ∈ fm_Ts := ⟨fm_mem 601 (by decide +kernel) rfl, fm_mem 8 (by decide +kernel) rfl, fm_mem 89 (by decide +kernel) rfl, fm_mem 602 (by decide +kernel) rfl⟩
theorem wy_X3_readNumber : yX3_readNumber.cls = RX3 ∧ yX3_readNumber.cls ≠ "java/lang/invoke/MethodHandle" ∧ yX3_readNumber.cls ≠ "java/lang/invoke/VarHandle" ∧ (parseMethodDescriptor yX3_readNumber.desc).map (fun d => d.parameters.length) = some 0 := by decide +kernel
theorem wm_X3_readFactor : Jvm.Cond.instanceMethod yX3_readFactor ∈ fm_Ts ∧ Jvm.Cond.selects RX3 yX3_readFactor yX3_readFactor ∈ fm_Ts ∧ Jvm.Cond.initialized RX3 ∈ fm_Ts ∧ Jvm.Cond.code yX3_readFactor prog_5_method_14_code 4 (some .boolean) ∈ fm_Ts := ⟨fm_mem 586 (by decide +kernel) rfl, fm_mem 5 (by decide +kernel) rfl, fm_mem 89 (by decide +kernel) rfl, fm_mem 587 (by decide +kernel) rfl⟩
theorem wy_X3_readFactor : yX3_readFactor.cls = RX3 ∧ yX3_readFactor.cls ≠ "java/lang/invoke/MethodHandle" ∧ yX3_readFactor.cls ≠ "java/lang/invoke/VarHandle" ∧ (parseMethodDescriptor yX3_readFactor.desc).map (fun d => d.parameters.length) = some 1 := by decide +kernel
theorem wm_X3_readTerm : Jvm.Cond.instanceMethod yX3_readTerm ∈ fm_Ts ∧ Jvm.Cond.selects RX3 yX3_readTerm yX3_readTerm ∈ fm_Ts ∧ Jvm.Cond.initialized RX3 ∈ fm_Ts ∧ Jvm.Cond.code yX3_readTerm prog_5_method_13_code 4 (some .boolean) ∈ fm_Ts := ⟨fm_mem 582 (by decide +kernel) rfl, fm_mem 4 (by decide +kernel) rfl, fm_mem 89 (by decide +kernel) rfl, fm_mem 583 (by decide +kernel) rfl⟩
theorem wy_X3_readTerm : yX3_readTerm.cls = RX3 ∧ yX3_readTerm.cls ≠ "java/lang/invoke/MethodHandle" ∧ yX3_readTerm.cls ≠ "java/lang/invoke/VarHandle" ∧ (parseMethodDescriptor yX3_readTerm.desc).map (fun d => d.parameters.length) = some 1 := by decide +kernel
theorem wm_X3_readSum : Jvm.Cond.instanceMethod yX3_readSum ∈ fm_Ts ∧ Jvm.Cond.selects RX3 yX3_readSum yX3_readSum ∈ fm_Ts ∧ Jvm.Cond.initialized RX3 ∈ fm_Ts ∧ Jvm.Cond.code yX3_readSum prog_5_method_12_code 4 (some .boolean) ∈ fm_Ts := ⟨fm_mem 578 (by decide +kernel) rfl, fm_mem 3 (by decide +kernel) rfl, fm_mem 89 (by decide +kernel) rfl, fm_mem 579 (by decide +kernel) rfl⟩
theorem wy_X3_readSum : yX3_readSum.cls = RX3 ∧ yX3_readSum.cls ≠ "java/lang/invoke/MethodHandle" ∧ yX3_readSum.cls ≠ "java/lang/invoke/VarHandle" ∧ (parseMethodDescriptor yX3_readSum.desc).map (fun d => d.parameters.length) = some 1 := by decide +kernel
theorem wm_X3_close : Jvm.Cond.instanceMethod yX3_close ∈ fm_Ts ∧ Jvm.Cond.selects RX3 yX3_close yX3_close ∈ fm_Ts ∧ Jvm.Cond.initialized RX3 ∈ fm_Ts ∧ Jvm.Cond.code yX3_close prog_5_method_5_code 2 (some .boolean) ∈ fm_Ts := ⟨fm_mem 594 (by decide +kernel) rfl, fm_mem 7 (by decide +kernel) rfl, fm_mem 89 (by decide +kernel) rfl, fm_mem 595 (by decide +kernel) rfl⟩
theorem wy_X3_close : yX3_close.cls = RX3 ∧ yX3_close.cls ≠ "java/lang/invoke/MethodHandle" ∧ yX3_close.cls ≠ "java/lang/invoke/VarHandle" ∧ (parseMethodDescriptor yX3_close.desc).map (fun d => d.parameters.length) = some 1 := by decide +kernel
theorem wm_X3_readPiece : Jvm.Cond.instanceMethod yX3_readPiece ∈ fm_Ts ∧ Jvm.Cond.selects RX3 yX3_readPiece yX3_readPiece ∈ fm_Ts ∧ Jvm.Cond.initialized RX3 ∈ fm_Ts ∧ Jvm.Cond.code yX3_readPiece prog_5_method_11_code 4 (some .boolean) ∈ fm_Ts := ⟨fm_mem 618 (by decide +kernel) rfl, fm_mem 11 (by decide +kernel) rfl, fm_mem 89 (by decide +kernel) rfl, fm_mem 619 (by decide +kernel) rfl⟩
theorem wy_X3_readPiece : yX3_readPiece.cls = RX3 ∧ yX3_readPiece.cls ≠ "java/lang/invoke/MethodHandle" ∧ yX3_readPiece.cls ≠ "java/lang/invoke/VarHandle" ∧ (parseMethodDescriptor yX3_readPiece.desc).map (fun d => d.parameters.length) = some 1 := by decide +kernel
theorem wm_X1_leadToEnd : Jvm.Cond.instanceMethod yX1_leadToEnd ∈ fm_Ts ∧ Jvm.Cond.selects RX1 yX1_leadToEnd yX1_leadToEnd ∈ fm_Ts ∧ Jvm.Cond.initialized RX1 ∈ fm_Ts ∧ Jvm.Cond.code yX1_leadToEnd prog_3_method_5_code 2 none ∈ fm_Ts := ⟨fm_mem 621 (by decide +kernel) rfl, fm_mem 622 (by decide +kernel) rfl, fm_mem 88 (by decide +kernel) rfl, fm_mem 623 (by decide +kernel) rfl⟩
theorem wy_X1_leadToEnd : yX1_leadToEnd.cls = RX1 ∧ yX1_leadToEnd.cls ≠ "java/lang/invoke/MethodHandle" ∧ yX1_leadToEnd.cls ≠ "java/lang/invoke/VarHandle" ∧ (parseMethodDescriptor yX1_leadToEnd.desc).map (fun d => d.parameters.length) = some 1 := by decide +kernel
theorem wm_X3_readPieces : Jvm.Cond.instanceMethod yX3_readPieces ∈ fm_Ts ∧ Jvm.Cond.selects RX3 yX3_readPieces yX3_readPieces ∈ fm_Ts ∧ Jvm.Cond.initialized RX3 ∈ fm_Ts ∧ Jvm.Cond.code yX3_readPieces prog_5_method_10_code 4 (some .boolean) ∈ fm_Ts := ⟨fm_mem 614 (by decide +kernel) rfl, fm_mem 10 (by decide +kernel) rfl, fm_mem 89 (by decide +kernel) rfl, fm_mem 615 (by decide +kernel) rfl⟩
theorem wy_X3_readPieces : yX3_readPieces.cls = RX3 ∧ yX3_readPieces.cls ≠ "java/lang/invoke/MethodHandle" ∧ yX3_readPieces.cls ≠ "java/lang/invoke/VarHandle" ∧ (parseMethodDescriptor yX3_readPieces.desc).map (fun d => d.parameters.length) = some 1 := by decide +kernel
theorem wm_X3_readParts : Jvm.Cond.instanceMethod yX3_readParts ∈ fm_Ts ∧ Jvm.Cond.selects RX3 yX3_readParts yX3_readParts ∈ fm_Ts ∧ Jvm.Cond.initialized RX3 ∈ fm_Ts ∧ Jvm.Cond.code yX3_readParts prog_5_method_9_code 4 (some .boolean) ∈ fm_Ts := ⟨fm_mem 610 (by decide +kernel) rfl, fm_mem 9 (by decide +kernel) rfl, fm_mem 89 (by decide +kernel) rfl, fm_mem 611 (by decide +kernel) rfl⟩
theorem wy_X3_readParts : yX3_readParts.cls = RX3 ∧ yX3_readParts.cls ≠ "java/lang/invoke/MethodHandle" ∧ yX3_readParts.cls ≠ "java/lang/invoke/VarHandle" ∧ (parseMethodDescriptor yX3_readParts.desc).map (fun d => d.parameters.length) = some 1 := by decide +kernel
theorem wm_X3_seesDust : Jvm.Cond.instanceMethod yX3_seesDust ∈ fm_Ts ∧ Jvm.Cond.selects RX3 yX3_seesDust yX3_seesDust ∈ fm_Ts ∧ Jvm.Cond.initialized RX3 ∈ fm_Ts ∧ Jvm.Cond.code yX3_seesDust prog_5_method_8_code 3 (some .boolean) ∈ fm_Ts := ⟨fm_mem 626 (by decide +kernel) rfl, fm_mem 12 (by decide +kernel) rfl, fm_mem 89 (by decide +kernel) rfl, fm_mem 627 (by decide +kernel) rfl⟩
theorem wy_X3_seesDust : yX3_seesDust.cls = RX3 ∧ yX3_seesDust.cls ≠ "java/lang/invoke/MethodHandle" ∧ yX3_seesDust.cls ≠ "java/lang/invoke/VarHandle" ∧ (parseMethodDescriptor yX3_seesDust.desc).map (fun d => d.parameters.length) = some 1 := by decide +kernel
theorem wm_X3_readClause : Jvm.Cond.instanceMethod yX3_readClause ∈ fm_Ts ∧ Jvm.Cond.selects RX3 yX3_readClause yX3_readClause ∈ fm_Ts ∧ Jvm.Cond.initialized RX3 ∈ fm_Ts ∧ Jvm.Cond.code yX3_readClause prog_5_method_7_code 3 (some .boolean) ∈ fm_Ts := ⟨fm_mem 479 (by decide +kernel) rfl, fm_mem 0 (by decide +kernel) rfl, fm_mem 89 (by decide +kernel) rfl, fm_mem 480 (by decide +kernel) rfl⟩
theorem wy_X3_readClause : yX3_readClause.cls = RX3 ∧ yX3_readClause.cls ≠ "java/lang/invoke/MethodHandle" ∧ yX3_readClause.cls ≠ "java/lang/invoke/VarHandle" ∧ (parseMethodDescriptor yX3_readClause.desc).map (fun d => d.parameters.length) = some 0 := by decide +kernel
theorem wm_X3_readText : Jvm.Cond.instanceMethod yX3_readText ∈ fm_Ts ∧ Jvm.Cond.selects RX3 yX3_readText yX3_readText ∈ fm_Ts ∧ Jvm.Cond.initialized RX3 ∈ fm_Ts ∧ Jvm.Cond.code yX3_readText prog_5_method_2_code 4 (some .int) ∈ fm_Ts := ⟨fm_mem 470 (by decide +kernel) rfl, fm_mem 471 (by decide +kernel) rfl, fm_mem 89 (by decide +kernel) rfl, fm_mem 472 (by decide +kernel) rfl⟩
theorem wy_X3_readText : yX3_readText.cls = RX3 ∧ yX3_readText.cls ≠ "java/lang/invoke/MethodHandle" ∧ yX3_readText.cls ≠ "java/lang/invoke/VarHandle" ∧ (parseMethodDescriptor yX3_readText.desc).map (fun d => d.parameters.length) = some 1 := by decide +kernel
theorem wm_X1_take : Jvm.Cond.instanceMethod yX1_take ∈ fm_Ts ∧ Jvm.Cond.selects RX1 yX1_take yX1_take ∈ fm_Ts ∧ Jvm.Cond.initialized RX1 ∈ fm_Ts ∧ Jvm.Cond.code yX1_take prog_3_method_2_code 2 none ∈ fm_Ts := ⟨fm_mem 629 (by decide +kernel) rfl, fm_mem 630 (by decide +kernel) rfl, fm_mem 88 (by decide +kernel) rfl, fm_mem 631 (by decide +kernel) rfl⟩
theorem wy_X1_take : yX1_take.cls = RX1 ∧ yX1_take.cls ≠ "java/lang/invoke/MethodHandle" ∧ yX1_take.cls ≠ "java/lang/invoke/VarHandle" ∧ (parseMethodDescriptor yX1_take.desc).map (fun d => d.parameters.length) = some 1 := by decide +kernel
theorem wm_X7_law : Jvm.Cond.instanceMethod yX7_law ∈ fm_Ts ∧ Jvm.Cond.selects RX7 yX7_law yX7_law ∈ fm_Ts ∧ Jvm.Cond.initialized RX7 ∈ fm_Ts ∧ Jvm.Cond.code yX7_law prog_1_method_8_code 3 (some .int) ∈ fm_Ts := ⟨fm_mem 466 (by decide +kernel) rfl, fm_mem 467 (by decide +kernel) rfl, fm_mem 86 (by decide +kernel) rfl, fm_mem 468 (by decide +kernel) rfl⟩
theorem wy_X7_law : yX7_law.cls = RX7 ∧ yX7_law.cls ≠ "java/lang/invoke/MethodHandle" ∧ yX7_law.cls ≠ "java/lang/invoke/VarHandle" ∧ (parseMethodDescriptor yX7_law.desc).map (fun d => d.parameters.length) = some 1 := by decide +kernel
theorem wm_X0_nextDraw : Jvm.Cond.instanceMethod yX0_nextDraw ∈ fm_Ts ∧ Jvm.Cond.selects RX0 yX0_nextDraw yX0_nextDraw ∈ fm_Ts ∧ Jvm.Cond.initialized RX0 ∈ fm_Ts ∧ Jvm.Cond.code yX0_nextDraw prog_2_method_8_code 1 (some .int) ∈ fm_Ts := ⟨fm_mem 645 (by decide +kernel) rfl, fm_mem 646 (by decide +kernel) rfl, fm_mem 90 (by decide +kernel) rfl, fm_mem 647 (by decide +kernel) rfl⟩
theorem wy_X0_nextDraw : yX0_nextDraw.cls = RX0 ∧ yX0_nextDraw.cls ≠ "java/lang/invoke/MethodHandle" ∧ yX0_nextDraw.cls ≠ "java/lang/invoke/VarHandle" ∧ (parseMethodDescriptor yX0_nextDraw.desc).map (fun d => d.parameters.length) = some 0 := by decide +kernel
theorem wm_X2_climbs : Jvm.Cond.instanceMethod yX2_climbs ∈ fm_Ts ∧ Jvm.Cond.selects RX2 yX2_climbs yX2_climbs ∈ fm_Ts ∧ Jvm.Cond.initialized RX2 ∈ fm_Ts ∧ Jvm.Cond.code yX2_climbs prog_4_method_5_code 2 (some .boolean) ∈ fm_Ts := ⟨fm_mem 663 (by decide +kernel) rfl, fm_mem 664 (by decide +kernel) rfl, fm_mem 91 (by decide +kernel) rfl, fm_mem 665 (by decide +kernel) rfl⟩
theorem wy_X2_climbs : yX2_climbs.cls = RX2 ∧ yX2_climbs.cls ≠ "java/lang/invoke/MethodHandle" ∧ yX2_climbs.cls ≠ "java/lang/invoke/VarHandle" ∧ (parseMethodDescriptor yX2_climbs.desc).map (fun d => d.parameters.length) = some 1 := by decide +kernel
theorem wm_X1_forgetWho : Jvm.Cond.instanceMethod yX1_forgetWho ∈ fm_Ts ∧ Jvm.Cond.selects RX1 yX1_forgetWho yX1_forgetWho ∈ fm_Ts ∧ Jvm.Cond.initialized RX1 ∈ fm_Ts ∧ Jvm.Cond.code yX1_forgetWho prog_3_method_6_code 2 none ∈ fm_Ts := ⟨fm_mem 668 (by decide +kernel) rfl, fm_mem 669 (by decide +kernel) rfl, fm_mem 88 (by decide +kernel) rfl, fm_mem 670 (by decide +kernel) rfl⟩
theorem wy_X1_forgetWho : yX1_forgetWho.cls = RX1 ∧ yX1_forgetWho.cls ≠ "java/lang/invoke/MethodHandle" ∧ yX1_forgetWho.cls ≠ "java/lang/invoke/VarHandle" ∧ (parseMethodDescriptor yX1_forgetWho.desc).map (fun d => d.parameters.length) = some 0 := by decide +kernel
theorem wm_X0_show : Jvm.Cond.instanceMethod yX0_show ∈ fm_Ts ∧ Jvm.Cond.selects RX0 yX0_show yX0_show ∈ fm_Ts ∧ Jvm.Cond.initialized RX0 ∈ fm_Ts ∧ Jvm.Cond.code yX0_show prog_2_method_12_code 3 none ∈ fm_Ts := ⟨fm_mem 673 (by decide +kernel) rfl, fm_mem 14 (by decide +kernel) rfl, fm_mem 90 (by decide +kernel) rfl, fm_mem 674 (by decide +kernel) rfl⟩
theorem wy_X0_show : yX0_show.cls = RX0 ∧ yX0_show.cls ≠ "java/lang/invoke/MethodHandle" ∧ yX0_show.cls ≠ "java/lang/invoke/VarHandle" ∧ (parseMethodDescriptor yX0_show.desc).map (fun d => d.parameters.length) = some 2 := by decide +kernel
theorem wm_X2_countAt : Jvm.Cond.instanceMethod yX2_countAt ∈ fm_Ts ∧ Jvm.Cond.selects RX2 yX2_countAt yX2_countAt ∈ fm_Ts ∧ Jvm.Cond.initialized RX2 ∈ fm_Ts ∧ Jvm.Cond.code yX2_countAt prog_4_method_7_code 4 (some .int) ∈ fm_Ts := ⟨fm_mem 677 (by decide +kernel) rfl, fm_mem 678 (by decide +kernel) rfl, fm_mem 91 (by decide +kernel) rfl, fm_mem 679 (by decide +kernel) rfl⟩
theorem wy_X2_countAt : yX2_countAt.cls = RX2 ∧ yX2_countAt.cls ≠ "java/lang/invoke/MethodHandle" ∧ yX2_countAt.cls ≠ "java/lang/invoke/VarHandle" ∧ (parseMethodDescriptor yX2_countAt.desc).map (fun d => d.parameters.length) = some 1 := by decide +kernel
theorem wm_X1_reckon : Jvm.Cond.instanceMethod yX1_reckon ∈ fm_Ts ∧ Jvm.Cond.selects RX1 yX1_reckon yX1_reckon ∈ fm_Ts ∧ Jvm.Cond.initialized RX1 ∈ fm_Ts ∧ Jvm.Cond.code yX1_reckon prog_3_method_9_code 9 (some .int) ∈ fm_Ts := ⟨fm_mem 686 (by decide +kernel) rfl, fm_mem 15 (by decide +kernel) rfl, fm_mem 88 (by decide +kernel) rfl, fm_mem 687 (by decide +kernel) rfl⟩
theorem wy_X1_reckon : yX1_reckon.cls = RX1 ∧ yX1_reckon.cls ≠ "java/lang/invoke/MethodHandle" ∧ yX1_reckon.cls ≠ "java/lang/invoke/VarHandle" ∧ (parseMethodDescriptor yX1_reckon.desc).map (fun d => d.parameters.length) = some 2 := by decide +kernel
theorem wm_J9_min_7cf53 : Jvm.Cond.static yJ9_min_7cf53 ∈ fm_Ts ∧ Jvm.Cond.initialized yJ9_min_7cf53.cls ∈ fm_Ts ∧ Jvm.Cond.code yJ9_min_7cf53 prog_13_method_69_code 2 (some .int) ∈ fm_Ts := ⟨fm_mem 518 (by decide +kernel) rfl, fm_mem 98 (by decide +kernel) rfl, fm_mem 519 (by decide +kernel) rfl⟩
theorem wy_J9_min_7cf53 : yJ9_min_7cf53.cls ≠ "java/lang/invoke/MethodHandle" ∧ yJ9_min_7cf53.cls ≠ "java/lang/invoke/VarHandle" ∧ (parseMethodDescriptor yJ9_min_7cf53.desc).map (fun d => d.parameters.length) = some 2 := by decide +kernel
theorem wm_J9_max_7cf53 : Jvm.Cond.static yJ9_max_7cf53 ∈ fm_Ts ∧ Jvm.Cond.initialized yJ9_max_7cf53.cls ∈ fm_Ts ∧ Jvm.Cond.code yJ9_max_7cf53 prog_13_method_65_code 2 (some .int) ∈ fm_Ts := ⟨fm_mem 515 (by decide +kernel) rfl, fm_mem 98 (by decide +kernel) rfl, fm_mem 516 (by decide +kernel) rfl⟩
theorem wy_J9_max_7cf53 : yJ9_max_7cf53.cls ≠ "java/lang/invoke/MethodHandle" ∧ yJ9_max_7cf53.cls ≠ "java/lang/invoke/VarHandle" ∧ (parseMethodDescriptor yJ9_max_7cf53.desc).map (fun d => d.parameters.length) = some 2 := by decide +kernel
theorem wm_X1_amount : Jvm.Cond.instanceMethod yX1_amount ∈ fm_Ts ∧ Jvm.Cond.selects RX1 yX1_amount yX1_amount ∈ fm_Ts ∧ Jvm.Cond.initialized RX1 ∈ fm_Ts ∧ Jvm.Cond.code yX1_amount prog_3_method_8_code 3 (some .int) ∈ fm_Ts := ⟨fm_mem 681 (by decide +kernel) rfl, fm_mem 682 (by decide +kernel) rfl, fm_mem 88 (by decide +kernel) rfl, fm_mem 683 (by decide +kernel) rfl⟩
theorem wy_X1_amount : yX1_amount.cls = RX1 ∧ yX1_amount.cls ≠ "java/lang/invoke/MethodHandle" ∧ yX1_amount.cls ≠ "java/lang/invoke/VarHandle" ∧ (parseMethodDescriptor yX1_amount.desc).map (fun d => d.parameters.length) = some 1 := by decide +kernel
theorem wm_X0_loss : Jvm.Cond.instanceMethod yX0_loss ∈ fm_Ts ∧ Jvm.Cond.selects RX0 yX0_loss yX0_loss ∈ fm_Ts ∧ Jvm.Cond.initialized RX0 ∈ fm_Ts ∧ Jvm.Cond.code yX0_loss prog_2_method_11_code 5 (some .int) ∈ fm_Ts := ⟨fm_mem 658 (by decide +kernel) rfl, fm_mem 659 (by decide +kernel) rfl, fm_mem 90 (by decide +kernel) rfl, fm_mem 660 (by decide +kernel) rfl⟩
theorem wy_X0_loss : yX0_loss.cls = RX0 ∧ yX0_loss.cls ≠ "java/lang/invoke/MethodHandle" ∧ yX0_loss.cls ≠ "java/lang/invoke/VarHandle" ∧ (parseMethodDescriptor yX0_loss.desc).map (fun d => d.parameters.length) = some 3 := by decide +kernel
theorem wm_X0_heap : Jvm.Cond.instanceMethod yX0_heap ∈ fm_Ts ∧ Jvm.Cond.selects RX0 yX0_heap yX0_heap ∈ fm_Ts ∧ Jvm.Cond.initialized RX0 ∈ fm_Ts ∧ Jvm.Cond.code yX0_heap prog_2_method_13_code 5 none ∈ fm_Ts := ⟨fm_mem 693 (by decide +kernel) rfl, fm_mem 16 (by decide +kernel) rfl, fm_mem 90 (by decide +kernel) rfl, fm_mem 694 (by decide +kernel) rfl⟩
theorem wy_X0_heap : yX0_heap.cls = RX0 ∧ yX0_heap.cls ≠ "java/lang/invoke/MethodHandle" ∧ yX0_heap.cls ≠ "java/lang/invoke/VarHandle" ∧ (parseMethodDescriptor yX0_heap.desc).map (fun d => d.parameters.length) = some 2 := by decide +kernel
theorem wm_X0_spill : Jvm.Cond.instanceMethod yX0_spill ∈ fm_Ts ∧ Jvm.Cond.selects RX0 yX0_spill yX0_spill ∈ fm_Ts ∧ Jvm.Cond.initialized RX0 ∈ fm_Ts ∧ Jvm.Cond.code yX0_spill prog_2_method_10_code 7 (some .int) ∈ fm_Ts := ⟨fm_mem 655 (by decide +kernel) rfl, fm_mem 13 (by decide +kernel) rfl, fm_mem 90 (by decide +kernel) rfl, fm_mem 656 (by decide +kernel) rfl⟩
theorem wy_X0_spill : yX0_spill.cls = RX0 ∧ yX0_spill.cls ≠ "java/lang/invoke/MethodHandle" ∧ yX0_spill.cls ≠ "java/lang/invoke/VarHandle" ∧ (parseMethodDescriptor yX0_spill.desc).map (fun d => d.parameters.length) = some 2 := by decide +kernel
theorem wm_X0_climb : Jvm.Cond.instanceMethod yX0_climb ∈ fm_Ts ∧ Jvm.Cond.selects RX0 yX0_climb yX0_climb ∈ fm_Ts ∧ Jvm.Cond.initialized RX0 ∈ fm_Ts ∧ Jvm.Cond.code yX0_climb prog_2_method_14_code 2 none ∈ fm_Ts := ⟨fm_mem 698 (by decide +kernel) rfl, fm_mem 17 (by decide +kernel) rfl, fm_mem 90 (by decide +kernel) rfl, fm_mem 699 (by decide +kernel) rfl⟩
theorem wy_X0_climb : yX0_climb.cls = RX0 ∧ yX0_climb.cls ≠ "java/lang/invoke/MethodHandle" ∧ yX0_climb.cls ≠ "java/lang/invoke/VarHandle" ∧ (parseMethodDescriptor yX0_climb.desc).map (fun d => d.parameters.length) = some 0 := by decide +kernel
theorem wm_X1_has : Jvm.Cond.instanceMethod yX1_has ∈ fm_Ts ∧ Jvm.Cond.selects RX1 yX1_has yX1_has ∈ fm_Ts ∧ Jvm.Cond.initialized RX1 ∈ fm_Ts ∧ Jvm.Cond.code yX1_has prog_3_method_7_code 3 (some .boolean) ∈ fm_Ts := ⟨fm_mem 705 (by decide +kernel) rfl, fm_mem 706 (by decide +kernel) rfl, fm_mem 88 (by decide +kernel) rfl, fm_mem 707 (by decide +kernel) rfl⟩
theorem wy_X1_has : yX1_has.cls = RX1 ∧ yX1_has.cls ≠ "java/lang/invoke/MethodHandle" ∧ yX1_has.cls ≠ "java/lang/invoke/VarHandle" ∧ (parseMethodDescriptor yX1_has.desc).map (fun d => d.parameters.length) = some 1 := by decide +kernel
theorem wm_X0_taken : Jvm.Cond.instanceMethod yX0_taken ∈ fm_Ts ∧ Jvm.Cond.selects RX0 yX0_taken yX0_taken ∈ fm_Ts ∧ Jvm.Cond.initialized RX0 ∈ fm_Ts ∧ Jvm.Cond.code yX0_taken prog_2_method_18_code 4 (some .int) ∈ fm_Ts := ⟨fm_mem 710 (by decide +kernel) rfl, fm_mem 19 (by decide +kernel) rfl, fm_mem 90 (by decide +kernel) rfl, fm_mem 711 (by decide +kernel) rfl⟩
theorem wy_X0_taken : yX0_taken.cls = RX0 ∧ yX0_taken.cls ≠ "java/lang/invoke/MethodHandle" ∧ yX0_taken.cls ≠ "java/lang/invoke/VarHandle" ∧ (parseMethodDescriptor yX0_taken.desc).map (fun d => d.parameters.length) = some 3 := by decide +kernel
theorem wm_X0_blow : Jvm.Cond.instanceMethod yX0_blow ∈ fm_Ts ∧ Jvm.Cond.selects RX0 yX0_blow yX0_blow ∈ fm_Ts ∧ Jvm.Cond.initialized RX0 ∈ fm_Ts ∧ Jvm.Cond.code yX0_blow prog_2_method_15_code 3 none ∈ fm_Ts := ⟨fm_mem 702 (by decide +kernel) rfl, fm_mem 18 (by decide +kernel) rfl, fm_mem 90 (by decide +kernel) rfl, fm_mem 703 (by decide +kernel) rfl⟩
theorem wy_X0_blow : yX0_blow.cls = RX0 ∧ yX0_blow.cls ≠ "java/lang/invoke/MethodHandle" ∧ yX0_blow.cls ≠ "java/lang/invoke/VarHandle" ∧ (parseMethodDescriptor yX0_blow.desc).map (fun d => d.parameters.length) = some 1 := by decide +kernel
theorem wm_X0_wash : Jvm.Cond.instanceMethod yX0_wash ∈ fm_Ts ∧ Jvm.Cond.selects RX0 yX0_wash yX0_wash ∈ fm_Ts ∧ Jvm.Cond.initialized RX0 ∈ fm_Ts ∧ Jvm.Cond.code yX0_wash prog_2_method_16_code 4 none ∈ fm_Ts := ⟨fm_mem 714 (by decide +kernel) rfl, fm_mem 20 (by decide +kernel) rfl, fm_mem 90 (by decide +kernel) rfl, fm_mem 715 (by decide +kernel) rfl⟩
theorem wy_X0_wash : yX0_wash.cls = RX0 ∧ yX0_wash.cls ≠ "java/lang/invoke/MethodHandle" ∧ yX0_wash.cls ≠ "java/lang/invoke/VarHandle" ∧ (parseMethodDescriptor yX0_wash.desc).map (fun d => d.parameters.length) = some 1 := by decide +kernel
theorem wm_X0_sieve : Jvm.Cond.instanceMethod yX0_sieve ∈ fm_Ts ∧ Jvm.Cond.selects RX0 yX0_sieve yX0_sieve ∈ fm_Ts ∧ Jvm.Cond.initialized RX0 ∈ fm_Ts ∧ Jvm.Cond.code yX0_sieve prog_2_method_17_code 5 none ∈ fm_Ts := ⟨fm_mem 718 (by decide +kernel) rfl, fm_mem 21 (by decide +kernel) rfl, fm_mem 90 (by decide +kernel) rfl, fm_mem 719 (by decide +kernel) rfl⟩
theorem wy_X0_sieve : yX0_sieve.cls = RX0 ∧ yX0_sieve.cls ≠ "java/lang/invoke/MethodHandle" ∧ yX0_sieve.cls ≠ "java/lang/invoke/VarHandle" ∧ (parseMethodDescriptor yX0_sieve.desc).map (fun d => d.parameters.length) = some 1 := by decide +kernel
theorem wm_X0_pass : Jvm.Cond.instanceMethod yX0_pass ∈ fm_Ts ∧ Jvm.Cond.selects RX0 yX0_pass yX0_pass ∈ fm_Ts ∧ Jvm.Cond.initialized RX0 ∈ fm_Ts ∧ Jvm.Cond.code yX0_pass prog_2_method_9_code 4 (some .int) ∈ fm_Ts := ⟨fm_mem 650 (by decide +kernel) rfl, fm_mem 651 (by decide +kernel) rfl, fm_mem 90 (by decide +kernel) rfl, fm_mem 652 (by decide +kernel) rfl⟩
theorem wy_X0_pass : yX0_pass.cls = RX0 ∧ yX0_pass.cls ≠ "java/lang/invoke/MethodHandle" ∧ yX0_pass.cls ≠ "java/lang/invoke/VarHandle" ∧ (parseMethodDescriptor yX0_pass.desc).map (fun d => d.parameters.length) = some 2 := by decide +kernel
theorem wm_X0_passDrawn : Jvm.Cond.instanceMethod yX0_passDrawn ∈ fm_Ts ∧ Jvm.Cond.selects RX0 yX0_passDrawn yX0_passDrawn ∈ fm_Ts ∧ Jvm.Cond.initialized RX0 ∈ fm_Ts ∧ Jvm.Cond.code yX0_passDrawn prog_2_method_6_code 5 (some .int) ∈ fm_Ts := ⟨fm_mem 641 (by decide +kernel) rfl, fm_mem 642 (by decide +kernel) rfl, fm_mem 90 (by decide +kernel) rfl, fm_mem 643 (by decide +kernel) rfl⟩
theorem wy_X0_passDrawn : yX0_passDrawn.cls = RX0 ∧ yX0_passDrawn.cls ≠ "java/lang/invoke/MethodHandle" ∧ yX0_passDrawn.cls ≠ "java/lang/invoke/VarHandle" ∧ (parseMethodDescriptor yX0_passDrawn.desc).map (fun d => d.parameters.length) = some 2 := by decide +kernel
theorem wm_X7_hours : Jvm.Cond.instanceMethod yX7_hours ∈ fm_Ts ∧ Jvm.Cond.selects RX7 yX7_hours yX7_hours ∈ fm_Ts ∧ Jvm.Cond.initialized RX7 ∈ fm_Ts ∧ Jvm.Cond.code yX7_hours prog_1_method_9_code 2 (some .int) ∈ fm_Ts := ⟨fm_mem 637 (by decide +kernel) rfl, fm_mem 638 (by decide +kernel) rfl, fm_mem 86 (by decide +kernel) rfl, fm_mem 639 (by decide +kernel) rfl⟩
theorem wy_X7_hours : yX7_hours.cls = RX7 ∧ yX7_hours.cls ≠ "java/lang/invoke/MethodHandle" ∧ yX7_hours.cls ≠ "java/lang/invoke/VarHandle" ∧ (parseMethodDescriptor yX7_hours.desc).map (fun d => d.parameters.length) = some 1 := by decide +kernel
theorem wm_X7_hour : Jvm.Cond.instanceMethod yX7_hour ∈ fm_Ts ∧ Jvm.Cond.selects RX7 yX7_hour yX7_hour ∈ fm_Ts ∧ Jvm.Cond.initialized RX7 ∈ fm_Ts ∧ Jvm.Cond.code yX7_hour prog_1_method_10_code 2 (some .int) ∈ fm_Ts := ⟨fm_mem 722 (by decide +kernel) rfl, fm_mem 723 (by decide +kernel) rfl, fm_mem 86 (by decide +kernel) rfl, fm_mem 724 (by decide +kernel) rfl⟩
theorem wy_X7_hour : yX7_hour.cls = RX7 ∧ yX7_hour.cls ≠ "java/lang/invoke/MethodHandle" ∧ yX7_hour.cls ≠ "java/lang/invoke/VarHandle" ∧ (parseMethodDescriptor yX7_hour.desc).map (fun d => d.parameters.length) = some 1 := by decide +kernel
theorem wm_X7_yardIs : Jvm.Cond.instanceMethod yX7_yardIs ∈ fm_Ts ∧ Jvm.Cond.selects RX7 yX7_yardIs yX7_yardIs ∈ fm_Ts ∧ Jvm.Cond.initialized RX7 ∈ fm_Ts ∧ Jvm.Cond.code yX7_yardIs prog_1_method_11_code 3 (some .int) ∈ fm_Ts := ⟨fm_mem 727 (by decide +kernel) rfl, fm_mem 728 (by decide +kernel) rfl, fm_mem 86 (by decide +kernel) rfl, fm_mem 729 (by decide +kernel) rfl⟩
theorem wy_X7_yardIs : yX7_yardIs.cls = RX7 ∧ yX7_yardIs.cls ≠ "java/lang/invoke/MethodHandle" ∧ yX7_yardIs.cls ≠ "java/lang/invoke/VarHandle" ∧ (parseMethodDescriptor yX7_yardIs.desc).map (fun d => d.parameters.length) = some 2 := by decide +kernel
theorem wm_X2_isTold : Jvm.Cond.instanceMethod yX2_isTold ∈ fm_Ts ∧ Jvm.Cond.selects RX2 yX2_isTold yX2_isTold ∈ fm_Ts ∧ Jvm.Cond.initialized RX2 ∈ fm_Ts ∧ Jvm.Cond.code yX2_isTold prog_4_method_4_code 2 (some .boolean) ∈ fm_Ts := ⟨fm_mem 735 (by decide +kernel) rfl, fm_mem 736 (by decide +kernel) rfl, fm_mem 91 (by decide +kernel) rfl, fm_mem 737 (by decide +kernel) rfl⟩
theorem wy_X2_isTold : yX2_isTold.cls = RX2 ∧ yX2_isTold.cls ≠ "java/lang/invoke/MethodHandle" ∧ yX2_isTold.cls ≠ "java/lang/invoke/VarHandle" ∧ (parseMethodDescriptor yX2_isTold.desc).map (fun d => d.parameters.length) = some 1 := by decide +kernel
theorem wm_X7_porterIs : Jvm.Cond.instanceMethod yX7_porterIs ∈ fm_Ts ∧ Jvm.Cond.selects RX7 yX7_porterIs yX7_porterIs ∈ fm_Ts ∧ Jvm.Cond.initialized RX7 ∈ fm_Ts ∧ Jvm.Cond.code yX7_porterIs prog_1_method_12_code 3 (some .int) ∈ fm_Ts := ⟨fm_mem 731 (by decide +kernel) rfl, fm_mem 732 (by decide +kernel) rfl, fm_mem 86 (by decide +kernel) rfl, fm_mem 733 (by decide +kernel) rfl⟩
theorem wy_X7_porterIs : yX7_porterIs.cls = RX7 ∧ yX7_porterIs.cls ≠ "java/lang/invoke/MethodHandle" ∧ yX7_porterIs.cls ≠ "java/lang/invoke/VarHandle" ∧ (parseMethodDescriptor yX7_porterIs.desc).map (fun d => d.parameters.length) = some 2 := by decide +kernel
theorem wm_X7_isTriable : Jvm.Cond.instanceMethod yX7_isTriable ∈ fm_Ts ∧ Jvm.Cond.selects RX7 yX7_isTriable yX7_isTriable ∈ fm_Ts ∧ Jvm.Cond.initialized RX7 ∈ fm_Ts ∧ Jvm.Cond.code yX7_isTriable prog_1_method_14_code 2 (some .boolean) ∈ fm_Ts := ⟨fm_mem 745 (by decide +kernel) rfl, fm_mem 22 (by decide +kernel) rfl, fm_mem 86 (by decide +kernel) rfl, fm_mem 746 (by decide +kernel) rfl⟩
theorem wy_X7_isTriable : yX7_isTriable.cls = RX7 ∧ yX7_isTriable.cls ≠ "java/lang/invoke/MethodHandle" ∧ yX7_isTriable.cls ≠ "java/lang/invoke/VarHandle" ∧ (parseMethodDescriptor yX7_isTriable.desc).map (fun d => d.parameters.length) = some 1 := by decide +kernel
theorem wm_X2_takeMoving : Jvm.Cond.instanceMethod yX2_takeMoving ∈ fm_Ts ∧ Jvm.Cond.selects RX2 yX2_takeMoving yX2_takeMoving ∈ fm_Ts ∧ Jvm.Cond.initialized RX2 ∈ fm_Ts ∧ Jvm.Cond.code yX2_takeMoving prog_4_method_3_code 2 none ∈ fm_Ts := ⟨fm_mem 756 (by decide +kernel) rfl, fm_mem 757 (by decide +kernel) rfl, fm_mem 91 (by decide +kernel) rfl, fm_mem 758 (by decide +kernel) rfl⟩
theorem wy_X2_takeMoving : yX2_takeMoving.cls = RX2 ∧ yX2_takeMoving.cls ≠ "java/lang/invoke/MethodHandle" ∧ yX2_takeMoving.cls ≠ "java/lang/invoke/VarHandle" ∧ (parseMethodDescriptor yX2_takeMoving.desc).map (fun d => d.parameters.length) = some 1 := by decide +kernel
theorem wm_X0_takeMoving : Jvm.Cond.instanceMethod yX0_takeMoving ∈ fm_Ts ∧ Jvm.Cond.selects RX0 yX0_takeMoving yX0_takeMoving ∈ fm_Ts ∧ Jvm.Cond.initialized RX0 ∈ fm_Ts ∧ Jvm.Cond.code yX0_takeMoving prog_2_method_3_code 2 none ∈ fm_Ts := ⟨fm_mem 752 (by decide +kernel) rfl, fm_mem 753 (by decide +kernel) rfl, fm_mem 90 (by decide +kernel) rfl, fm_mem 754 (by decide +kernel) rfl⟩
theorem wy_X0_takeMoving : yX0_takeMoving.cls = RX0 ∧ yX0_takeMoving.cls ≠ "java/lang/invoke/MethodHandle" ∧ yX0_takeMoving.cls ≠ "java/lang/invoke/VarHandle" ∧ (parseMethodDescriptor yX0_takeMoving.desc).map (fun d => d.parameters.length) = some 1 := by decide +kernel
theorem wm_X2_takeAll : Jvm.Cond.instanceMethod yX2_takeAll ∈ fm_Ts ∧ Jvm.Cond.selects RX2 yX2_takeAll yX2_takeAll ∈ fm_Ts ∧ Jvm.Cond.initialized RX2 ∈ fm_Ts ∧ Jvm.Cond.code yX2_takeAll prog_4_method_2_code 2 none ∈ fm_Ts := ⟨fm_mem 762 (by decide +kernel) rfl, fm_mem 763 (by decide +kernel) rfl, fm_mem 91 (by decide +kernel) rfl, fm_mem 764 (by decide +kernel) rfl⟩
theorem wy_X2_takeAll : yX2_takeAll.cls = RX2 ∧ yX2_takeAll.cls ≠ "java/lang/invoke/MethodHandle" ∧ yX2_takeAll.cls ≠ "java/lang/invoke/VarHandle" ∧ (parseMethodDescriptor yX2_takeAll.desc).map (fun d => d.parameters.length) = some 1 := by decide +kernel
theorem wm_X0_takeAll : Jvm.Cond.instanceMethod yX0_takeAll ∈ fm_Ts ∧ Jvm.Cond.selects RX0 yX0_takeAll yX0_takeAll ∈ fm_Ts ∧ Jvm.Cond.initialized RX0 ∈ fm_Ts ∧ Jvm.Cond.code yX0_takeAll prog_2_method_2_code 2 none ∈ fm_Ts := ⟨fm_mem 748 (by decide +kernel) rfl, fm_mem 749 (by decide +kernel) rfl, fm_mem 90 (by decide +kernel) rfl, fm_mem 750 (by decide +kernel) rfl⟩
theorem wy_X0_takeAll : yX0_takeAll.cls = RX0 ∧ yX0_takeAll.cls ≠ "java/lang/invoke/MethodHandle" ∧ yX0_takeAll.cls ≠ "java/lang/invoke/VarHandle" ∧ (parseMethodDescriptor yX0_takeAll.desc).map (fun d => d.parameters.length) = some 1 := by decide +kernel
theorem wm_X7_tried : Jvm.Cond.instanceMethod yX7_tried ∈ fm_Ts ∧ Jvm.Cond.selects RX7 yX7_tried yX7_tried ∈ fm_Ts ∧ Jvm.Cond.initialized RX7 ∈ fm_Ts ∧ Jvm.Cond.code yX7_tried prog_1_method_13_code 4 (some .int) ∈ fm_Ts := ⟨fm_mem 740 (by decide +kernel) rfl, fm_mem 741 (by decide +kernel) rfl, fm_mem 86 (by decide +kernel) rfl, fm_mem 742 (by decide +kernel) rfl⟩
theorem wy_X7_tried : yX7_tried.cls = RX7 ∧ yX7_tried.cls ≠ "java/lang/invoke/MethodHandle" ∧ yX7_tried.cls ≠ "java/lang/invoke/VarHandle" ∧ (parseMethodDescriptor yX7_tried.desc).map (fun d => d.parameters.length) = some 2 := by decide +kernel
theorem wm_X4_begin : Jvm.Cond.instanceMethod yX4_begin ∈ fm_Ts ∧ Jvm.Cond.selects RX4 yX4_begin yX4_begin ∈ fm_Ts ∧ Jvm.Cond.initialized RX4 ∈ fm_Ts ∧ Jvm.Cond.code yX4_begin prog_6_method_2_code 4 none ∈ fm_Ts := ⟨fm_mem 770 (by decide +kernel) rfl, fm_mem 771 (by decide +kernel) rfl, fm_mem 93 (by decide +kernel) rfl, fm_mem 772 (by decide +kernel) rfl⟩
theorem wy_X4_begin : yX4_begin.cls = RX4 ∧ yX4_begin.cls ≠ "java/lang/invoke/MethodHandle" ∧ yX4_begin.cls ≠ "java/lang/invoke/VarHandle" ∧ (parseMethodDescriptor yX4_begin.desc).map (fun d => d.parameters.length) = some 3 := by decide +kernel
theorem wm_X4_grant : Jvm.Cond.instanceMethod yX4_grant ∈ fm_Ts ∧ Jvm.Cond.selects RX4 yX4_grant yX4_grant ∈ fm_Ts ∧ Jvm.Cond.initialized RX4 ∈ fm_Ts ∧ Jvm.Cond.code yX4_grant prog_6_method_9_code 4 none ∈ fm_Ts := ⟨fm_mem 786 (by decide +kernel) rfl, fm_mem 24 (by decide +kernel) rfl, fm_mem 93 (by decide +kernel) rfl, fm_mem 787 (by decide +kernel) rfl⟩
theorem wy_X4_grant : yX4_grant.cls = RX4 ∧ yX4_grant.cls ≠ "java/lang/invoke/MethodHandle" ∧ yX4_grant.cls ≠ "java/lang/invoke/VarHandle" ∧ (parseMethodDescriptor yX4_grant.desc).map (fun d => d.parameters.length) = some 2 := by decide +kernel
theorem wm_X4_weigh : Jvm.Cond.instanceMethod yX4_weigh ∈ fm_Ts ∧ Jvm.Cond.selects RX4 yX4_weigh yX4_weigh ∈ fm_Ts ∧ Jvm.Cond.initialized RX4 ∈ fm_Ts ∧ Jvm.Cond.code yX4_weigh prog_6_method_8_code 3 (some .int) ∈ fm_Ts := ⟨fm_mem 781 (by decide +kernel) rfl, fm_mem 23 (by decide +kernel) rfl, fm_mem 93 (by decide +kernel) rfl, fm_mem 782 (by decide +kernel) rfl⟩
theorem wy_X4_weigh : yX4_weigh.cls = RX4 ∧ yX4_weigh.cls ≠ "java/lang/invoke/MethodHandle" ∧ yX4_weigh.cls ≠ "java/lang/invoke/VarHandle" ∧ (parseMethodDescriptor yX4_weigh.desc).map (fun d => d.parameters.length) = some 1 := by decide +kernel
theorem wm_X4_hasBit : Jvm.Cond.static yX4_hasBit ∈ fm_Ts ∧ Jvm.Cond.initialized yX4_hasBit.cls ∈ fm_Ts ∧ Jvm.Cond.code yX4_hasBit prog_6_method_7_code 2 (some .boolean) ∈ fm_Ts := ⟨fm_mem 794 (by decide +kernel) rfl, fm_mem 93 (by decide +kernel) rfl, fm_mem 795 (by decide +kernel) rfl⟩
theorem wy_X4_hasBit : yX4_hasBit.cls ≠ "java/lang/invoke/MethodHandle" ∧ yX4_hasBit.cls ≠ "java/lang/invoke/VarHandle" ∧ (parseMethodDescriptor yX4_hasBit.desc).map (fun d => d.parameters.length) = some 2 := by decide +kernel
theorem wm_X4_weighOnes : Jvm.Cond.instanceMethod yX4_weighOnes ∈ fm_Ts ∧ Jvm.Cond.selects RX4 yX4_weighOnes yX4_weighOnes ∈ fm_Ts ∧ Jvm.Cond.initialized RX4 ∈ fm_Ts ∧ Jvm.Cond.code yX4_weighOnes prog_6_method_4_code 3 none ∈ fm_Ts := ⟨fm_mem 776 (by decide +kernel) rfl, fm_mem 777 (by decide +kernel) rfl, fm_mem 93 (by decide +kernel) rfl, fm_mem 778 (by decide +kernel) rfl⟩
theorem wy_X4_weighOnes : yX4_weighOnes.cls = RX4 ∧ yX4_weighOnes.cls ≠ "java/lang/invoke/MethodHandle" ∧ yX4_weighOnes.cls ≠ "java/lang/invoke/VarHandle" ∧ (parseMethodDescriptor yX4_weighOnes.desc).map (fun d => d.parameters.length) = some 0 := by decide +kernel
theorem wm_X4_weighPairs : Jvm.Cond.instanceMethod yX4_weighPairs ∈ fm_Ts ∧ Jvm.Cond.selects RX4 yX4_weighPairs yX4_weighPairs ∈ fm_Ts ∧ Jvm.Cond.initialized RX4 ∈ fm_Ts ∧ Jvm.Cond.code yX4_weighPairs prog_6_method_5_code 4 none ∈ fm_Ts := ⟨fm_mem 797 (by decide +kernel) rfl, fm_mem 798 (by decide +kernel) rfl, fm_mem 93 (by decide +kernel) rfl, fm_mem 799 (by decide +kernel) rfl⟩
theorem wy_X4_weighPairs : yX4_weighPairs.cls = RX4 ∧ yX4_weighPairs.cls ≠ "java/lang/invoke/MethodHandle" ∧ yX4_weighPairs.cls ≠ "java/lang/invoke/VarHandle" ∧ (parseMethodDescriptor yX4_weighPairs.desc).map (fun d => d.parameters.length) = some 0 := by decide +kernel
theorem wm_X4_weighTriples : Jvm.Cond.instanceMethod yX4_weighTriples ∈ fm_Ts ∧ Jvm.Cond.selects RX4 yX4_weighTriples yX4_weighTriples ∈ fm_Ts ∧ Jvm.Cond.initialized RX4 ∈ fm_Ts ∧ Jvm.Cond.code yX4_weighTriples prog_6_method_6_code 5 none ∈ fm_Ts := ⟨fm_mem 801 (by decide +kernel) rfl, fm_mem 802 (by decide +kernel) rfl, fm_mem 93 (by decide +kernel) rfl, fm_mem 803 (by decide +kernel) rfl⟩
theorem wy_X4_weighTriples : yX4_weighTriples.cls = RX4 ∧ yX4_weighTriples.cls ≠ "java/lang/invoke/MethodHandle" ∧ yX4_weighTriples.cls ≠ "java/lang/invoke/VarHandle" ∧ (parseMethodDescriptor yX4_weighTriples.desc).map (fun d => d.parameters.length) = some 0 := by decide +kernel
theorem wm_X4_bestAt : Jvm.Cond.instanceMethod yX4_bestAt ∈ fm_Ts ∧ Jvm.Cond.selects RX4 yX4_bestAt yX4_bestAt ∈ fm_Ts ∧ Jvm.Cond.initialized RX4 ∈ fm_Ts ∧ Jvm.Cond.code yX4_bestAt prog_6_method_3_code 2 (some .int) ∈ fm_Ts := ⟨fm_mem 805 (by decide +kernel) rfl, fm_mem 806 (by decide +kernel) rfl, fm_mem 93 (by decide +kernel) rfl, fm_mem 807 (by decide +kernel) rfl⟩
theorem wy_X4_bestAt : yX4_bestAt.cls = RX4 ∧ yX4_bestAt.cls ≠ "java/lang/invoke/MethodHandle" ∧ yX4_bestAt.cls ≠ "java/lang/invoke/VarHandle" ∧ (parseMethodDescriptor yX4_bestAt.desc).map (fun d => d.parameters.length) = some 1 := by decide +kernel
theorem wm_X7_sieved : Jvm.Cond.instanceMethod yX7_sieved ∈ fm_Ts ∧ Jvm.Cond.selects RX7 yX7_sieved yX7_sieved ∈ fm_Ts ∧ Jvm.Cond.initialized RX7 ∈ fm_Ts ∧ Jvm.Cond.code yX7_sieved prog_1_method_15_code 6 (some .int) ∈ fm_Ts := ⟨fm_mem 766 (by decide +kernel) rfl, fm_mem 767 (by decide +kernel) rfl, fm_mem 86 (by decide +kernel) rfl, fm_mem 768 (by decide +kernel) rfl⟩
theorem wy_X7_sieved : yX7_sieved.cls = RX7 ∧ yX7_sieved.cls ≠ "java/lang/invoke/MethodHandle" ∧ yX7_sieved.cls ≠ "java/lang/invoke/VarHandle" ∧ (parseMethodDescriptor yX7_sieved.desc).map (fun d => d.parameters.length) = some 5 := by decide +kernel
theorem wm_J6_bitCount_0f7a4 : Jvm.Cond.static yJ6_bitCount_0f7a4 ∈ fm_Ts ∧ Jvm.Cond.initialized yJ6_bitCount_0f7a4.cls ∈ fm_Ts ∧ Jvm.Cond.code yJ6_bitCount_0f7a4 prog_12_method_49_code 1 (some .int) ∈ fm_Ts := ⟨fm_mem 813 (by decide +kernel) rfl, fm_mem 103 (by decide +kernel) rfl, fm_mem 814 (by decide +kernel) rfl⟩
theorem wy_J6_bitCount_0f7a4 : yJ6_bitCount_0f7a4.cls ≠ "java/lang/invoke/MethodHandle" ∧ yJ6_bitCount_0f7a4.cls ≠ "java/lang/invoke/VarHandle" ∧ (parseMethodDescriptor yJ6_bitCount_0f7a4.desc).map (fun d => d.parameters.length) = some 1 := by decide +kernel
theorem wm_X2_allClimb : Jvm.Cond.instanceMethod yX2_allClimb ∈ fm_Ts ∧ Jvm.Cond.selects RX2 yX2_allClimb yX2_allClimb ∈ fm_Ts ∧ Jvm.Cond.initialized RX2 ∈ fm_Ts ∧ Jvm.Cond.code yX2_allClimb prog_4_method_6_code 3 (some .boolean) ∈ fm_Ts := ⟨fm_mem 819 (by decide +kernel) rfl, fm_mem 820 (by decide +kernel) rfl, fm_mem 91 (by decide +kernel) rfl, fm_mem 821 (by decide +kernel) rfl⟩
theorem wy_X2_allClimb : yX2_allClimb.cls = RX2 ∧ yX2_allClimb.cls ≠ "java/lang/invoke/MethodHandle" ∧ yX2_allClimb.cls ≠ "java/lang/invoke/VarHandle" ∧ (parseMethodDescriptor yX2_allClimb.desc).map (fun d => d.parameters.length) = some 1 := by decide +kernel
theorem wm_X5_begin : Jvm.Cond.instanceMethod yX5_begin ∈ fm_Ts ∧ Jvm.Cond.selects RX5 yX5_begin yX5_begin ∈ fm_Ts ∧ Jvm.Cond.initialized RX5 ∈ fm_Ts ∧ Jvm.Cond.code yX5_begin prog_7_method_2_code 3 none ∈ fm_Ts := ⟨fm_mem 829 (by decide +kernel) rfl, fm_mem 830 (by decide +kernel) rfl, fm_mem 94 (by decide +kernel) rfl, fm_mem 831 (by decide +kernel) rfl⟩
theorem wy_X5_begin : yX5_begin.cls = RX5 ∧ yX5_begin.cls ≠ "java/lang/invoke/MethodHandle" ∧ yX5_begin.cls ≠ "java/lang/invoke/VarHandle" ∧ (parseMethodDescriptor yX5_begin.desc).map (fun d => d.parameters.length) = some 1 := by decide +kernel
theorem wm_X5_handOutBy : Jvm.Cond.instanceMethod yX5_handOutBy ∈ fm_Ts ∧ Jvm.Cond.selects RX5 yX5_handOutBy yX5_handOutBy ∈ fm_Ts ∧ Jvm.Cond.initialized RX5 ∈ fm_Ts ∧ Jvm.Cond.code yX5_handOutBy prog_7_method_9_code 5 none ∈ fm_Ts := ⟨fm_mem 839 (by decide +kernel) rfl, fm_mem 26 (by decide +kernel) rfl, fm_mem 94 (by decide +kernel) rfl, fm_mem 840 (by decide +kernel) rfl⟩
theorem wy_X5_handOutBy : yX5_handOutBy.cls = RX5 ∧ yX5_handOutBy.cls ≠ "java/lang/invoke/MethodHandle" ∧ yX5_handOutBy.cls ≠ "java/lang/invoke/VarHandle" ∧ (parseMethodDescriptor yX5_handOutBy.desc).map (fun d => d.parameters.length) = some 3 := by decide +kernel
theorem wm_X5_handOut : Jvm.Cond.instanceMethod yX5_handOut ∈ fm_Ts ∧ Jvm.Cond.selects RX5 yX5_handOut yX5_handOut ∈ fm_Ts ∧ Jvm.Cond.initialized RX5 ∈ fm_Ts ∧ Jvm.Cond.code yX5_handOut prog_7_method_7_code 3 none ∈ fm_Ts := ⟨fm_mem 834 (by decide +kernel) rfl, fm_mem 835 (by decide +kernel) rfl, fm_mem 94 (by decide +kernel) rfl, fm_mem 836 (by decide +kernel) rfl⟩
theorem wy_X5_handOut : yX5_handOut.cls = RX5 ∧ yX5_handOut.cls ≠ "java/lang/invoke/MethodHandle" ∧ yX5_handOut.cls ≠ "java/lang/invoke/VarHandle" ∧ (parseMethodDescriptor yX5_handOut.desc).map (fun d => d.parameters.length) = some 2 := by decide +kernel
theorem wm_X0_passUnder : Jvm.Cond.instanceMethod yX0_passUnder ∈ fm_Ts ∧ Jvm.Cond.selects RX0 yX0_passUnder yX0_passUnder ∈ fm_Ts ∧ Jvm.Cond.initialized RX0 ∈ fm_Ts ∧ Jvm.Cond.code yX0_passUnder prog_2_method_7_code 6 (some .int) ∈ fm_Ts := ⟨fm_mem 843 (by decide +kernel) rfl, fm_mem 844 (by decide +kernel) rfl, fm_mem 90 (by decide +kernel) rfl, fm_mem 845 (by decide +kernel) rfl⟩
theorem wy_X0_passUnder : yX0_passUnder.cls = RX0 ∧ yX0_passUnder.cls ≠ "java/lang/invoke/MethodHandle" ∧ yX0_passUnder.cls ≠ "java/lang/invoke/VarHandle" ∧ (parseMethodDescriptor yX0_passUnder.desc).map (fun d => d.parameters.length) = some 3 := by decide +kernel
theorem wm_X5_holdBest : Jvm.Cond.instanceMethod yX5_holdBest ∈ fm_Ts ∧ Jvm.Cond.selects RX5 yX5_holdBest yX5_holdBest ∈ fm_Ts ∧ Jvm.Cond.initialized RX5 ∈ fm_Ts ∧ Jvm.Cond.code yX5_holdBest prog_7_method_5_code 1 none ∈ fm_Ts := ⟨fm_mem 847 (by decide +kernel) rfl, fm_mem 848 (by decide +kernel) rfl, fm_mem 94 (by decide +kernel) rfl, fm_mem 849 (by decide +kernel) rfl⟩
theorem wy_X5_holdBest : yX5_holdBest.cls = RX5 ∧ yX5_holdBest.cls ≠ "java/lang/invoke/MethodHandle" ∧ yX5_holdBest.cls ≠ "java/lang/invoke/VarHandle" ∧ (parseMethodDescriptor yX5_holdBest.desc).map (fun d => d.parameters.length) = some 0 := by decide +kernel
theorem wm_X5_exchange : Jvm.Cond.instanceMethod yX5_exchange ∈ fm_Ts ∧ Jvm.Cond.selects RX5 yX5_exchange yX5_exchange ∈ fm_Ts ∧ Jvm.Cond.initialized RX5 ∈ fm_Ts ∧ Jvm.Cond.code yX5_exchange prog_7_method_4_code 4 none ∈ fm_Ts := ⟨fm_mem 857 (by decide +kernel) rfl, fm_mem 27 (by decide +kernel) rfl, fm_mem 94 (by decide +kernel) rfl, fm_mem 858 (by decide +kernel) rfl⟩
theorem wy_X5_exchange : yX5_exchange.cls = RX5 ∧ yX5_exchange.cls ≠ "java/lang/invoke/MethodHandle" ∧ yX5_exchange.cls ≠ "java/lang/invoke/VarHandle" ∧ (parseMethodDescriptor yX5_exchange.desc).map (fun d => d.parameters.length) = some 2 := by decide +kernel
theorem wm_X5_goOn : Jvm.Cond.instanceMethod yX5_goOn ∈ fm_Ts ∧ Jvm.Cond.selects RX5 yX5_goOn yX5_goOn ∈ fm_Ts ∧ Jvm.Cond.initialized RX5 ∈ fm_Ts ∧ Jvm.Cond.code yX5_goOn prog_7_method_3_code 5 (some .boolean) ∈ fm_Ts := ⟨fm_mem 852 (by decide +kernel) rfl, fm_mem 853 (by decide +kernel) rfl, fm_mem 94 (by decide +kernel) rfl, fm_mem 854 (by decide +kernel) rfl⟩
theorem wy_X5_goOn : yX5_goOn.cls = RX5 ∧ yX5_goOn.cls ≠ "java/lang/invoke/MethodHandle" ∧ yX5_goOn.cls ≠ "java/lang/invoke/VarHandle" ∧ (parseMethodDescriptor yX5_goOn.desc).map (fun d => d.parameters.length) = some 0 := by decide +kernel
theorem wm_X7_searchSwap : Jvm.Cond.instanceMethod yX7_searchSwap ∈ fm_Ts ∧ Jvm.Cond.selects RX7 yX7_searchSwap yX7_searchSwap ∈ fm_Ts ∧ Jvm.Cond.initialized RX7 ∈ fm_Ts ∧ Jvm.Cond.code yX7_searchSwap prog_1_method_17_code 7 (some .int) ∈ fm_Ts := ⟨fm_mem 825 (by decide +kernel) rfl, fm_mem 25 (by decide +kernel) rfl, fm_mem 86 (by decide +kernel) rfl, fm_mem 826 (by decide +kernel) rfl⟩
theorem wy_X7_searchSwap : yX7_searchSwap.cls = RX7 ∧ yX7_searchSwap.cls ≠ "java/lang/invoke/MethodHandle" ∧ yX7_searchSwap.cls ≠ "java/lang/invoke/VarHandle" ∧ (parseMethodDescriptor yX7_searchSwap.desc).map (fun d => d.parameters.length) = some 2 := by decide +kernel
theorem wm_X5_whoseFor : Jvm.Cond.instanceMethod yX5_whoseFor ∈ fm_Ts ∧ Jvm.Cond.selects RX5 yX5_whoseFor yX5_whoseFor ∈ fm_Ts ∧ Jvm.Cond.initialized RX5 ∈ fm_Ts ∧ Jvm.Cond.code yX5_whoseFor prog_7_method_6_code 3 (some .int) ∈ fm_Ts := ⟨fm_mem 860 (by decide +kernel) rfl, fm_mem 861 (by decide +kernel) rfl, fm_mem 94 (by decide +kernel) rfl, fm_mem 862 (by decide +kernel) rfl⟩
theorem wy_X5_whoseFor : yX5_whoseFor.cls = RX5 ∧ yX5_whoseFor.cls ≠ "java/lang/invoke/MethodHandle" ∧ yX5_whoseFor.cls ≠ "java/lang/invoke/VarHandle" ∧ (parseMethodDescriptor yX5_whoseFor.desc).map (fun d => d.parameters.length) = some 1 := by decide +kernel
theorem wm_X5_handOutBest : Jvm.Cond.instanceMethod yX5_handOutBest ∈ fm_Ts ∧ Jvm.Cond.selects RX5 yX5_handOutBest yX5_handOutBest ∈ fm_Ts ∧ Jvm.Cond.initialized RX5 ∈ fm_Ts ∧ Jvm.Cond.code yX5_handOutBest prog_7_method_8_code 3 none ∈ fm_Ts := ⟨fm_mem 864 (by decide +kernel) rfl, fm_mem 865 (by decide +kernel) rfl, fm_mem 94 (by decide +kernel) rfl, fm_mem 866 (by decide +kernel) rfl⟩
theorem wy_X5_handOutBest : yX5_handOutBest.cls = RX5 ∧ yX5_handOutBest.cls ≠ "java/lang/invoke/MethodHandle" ∧ yX5_handOutBest.cls ≠ "java/lang/invoke/VarHandle" ∧ (parseMethodDescriptor yX5_handOutBest.desc).map (fun d => d.parameters.length) = some 2 := by decide +kernel
theorem wm_X7_bowls : Jvm.Cond.instanceMethod yX7_bowls ∈ fm_Ts ∧ Jvm.Cond.selects RX7 yX7_bowls yX7_bowls ∈ fm_Ts ∧ Jvm.Cond.initialized RX7 ∈ fm_Ts ∧ Jvm.Cond.code yX7_bowls prog_1_method_16_code 6 (some .int) ∈ fm_Ts := ⟨fm_mem 809 (by decide +kernel) rfl, fm_mem 810 (by decide +kernel) rfl, fm_mem 86 (by decide +kernel) rfl, fm_mem 811 (by decide +kernel) rfl⟩
theorem wy_X7_bowls : yX7_bowls.cls = RX7 ∧ yX7_bowls.cls ≠ "java/lang/invoke/MethodHandle" ∧ yX7_bowls.cls ≠ "java/lang/invoke/VarHandle" ∧ (parseMethodDescriptor yX7_bowls.desc).map (fun d => d.parameters.length) = some 3 := by decide +kernel
theorem wm_X7_carpet : Jvm.Cond.instanceMethod yX7_carpet ∈ fm_Ts ∧ Jvm.Cond.selects RX7 yX7_carpet yX7_carpet ∈ fm_Ts ∧ Jvm.Cond.initialized RX7 ∈ fm_Ts ∧ Jvm.Cond.code yX7_carpet prog_1_method_18_code 7 (some .int) ∈ fm_Ts := ⟨fm_mem 868 (by decide +kernel) rfl, fm_mem 869 (by decide +kernel) rfl, fm_mem 86 (by decide +kernel) rfl, fm_mem 870 (by decide +kernel) rfl⟩
theorem wy_X7_carpet : yX7_carpet.cls = RX7 ∧ yX7_carpet.cls ≠ "java/lang/invoke/MethodHandle" ∧ yX7_carpet.cls ≠ "java/lang/invoke/VarHandle" ∧ (parseMethodDescriptor yX7_carpet.desc).map (fun d => d.parameters.length) = some 2 := by decide +kernel
theorem wm_J9_abs_0f7a4 : Jvm.Cond.static yJ9_abs_0f7a4 ∈ fm_Ts ∧ Jvm.Cond.initialized yJ9_abs_0f7a4.cls ∈ fm_Ts ∧ Jvm.Cond.code yJ9_abs_0f7a4 prog_13_method_59_code 1 (some .int) ∈ fm_Ts := ⟨fm_mem 877 (by decide +kernel) rfl, fm_mem 98 (by decide +kernel) rfl, fm_mem 878 (by decide +kernel) rfl⟩
theorem wy_J9_abs_0f7a4 : yJ9_abs_0f7a4.cls ≠ "java/lang/invoke/MethodHandle" ∧ yJ9_abs_0f7a4.cls ≠ "java/lang/invoke/VarHandle" ∧ (parseMethodDescriptor yJ9_abs_0f7a4.desc).map (fun d => d.parameters.length) = some 1 := by decide +kernel
theorem wm_X7_gust : Jvm.Cond.instanceMethod yX7_gust ∈ fm_Ts ∧ Jvm.Cond.selects RX7 yX7_gust yX7_gust ∈ fm_Ts ∧ Jvm.Cond.initialized RX7 ∈ fm_Ts ∧ Jvm.Cond.code yX7_gust prog_1_method_19_code 10 (some .int) ∈ fm_Ts := ⟨fm_mem 872 (by decide +kernel) rfl, fm_mem 873 (by decide +kernel) rfl, fm_mem 86 (by decide +kernel) rfl, fm_mem 874 (by decide +kernel) rfl⟩
theorem wy_X7_gust : yX7_gust.cls = RX7 ∧ yX7_gust.cls ≠ "java/lang/invoke/MethodHandle" ∧ yX7_gust.cls ≠ "java/lang/invoke/VarHandle" ∧ (parseMethodDescriptor yX7_gust.desc).map (fun d => d.parameters.length) = some 4 := by decide +kernel
theorem wm_X7_tryUnlicensed : Jvm.Cond.instanceMethod yX7_tryUnlicensed ∈ fm_Ts ∧ Jvm.Cond.selects RX7 yX7_tryUnlicensed yX7_tryUnlicensed ∈ fm_Ts ∧ Jvm.Cond.initialized RX7 ∈ fm_Ts ∧ Jvm.Cond.code yX7_tryUnlicensed prog_1_method_22_code 3 none ∈ fm_Ts := ⟨fm_mem 885 (by decide +kernel) rfl, fm_mem 28 (by decide +kernel) rfl, fm_mem 86 (by decide +kernel) rfl, fm_mem 886 (by decide +kernel) rfl⟩
theorem wy_X7_tryUnlicensed : yX7_tryUnlicensed.cls = RX7 ∧ yX7_tryUnlicensed.cls ≠ "java/lang/invoke/MethodHandle" ∧ yX7_tryUnlicensed.cls ≠ "java/lang/invoke/VarHandle" ∧ (parseMethodDescriptor yX7_tryUnlicensed.desc).map (fun d => d.parameters.length) = some 2 := by decide +kernel
theorem wm_X7_worthTo : Jvm.Cond.instanceMethod yX7_worthTo ∈ fm_Ts ∧ Jvm.Cond.selects RX7 yX7_worthTo yX7_worthTo ∈ fm_Ts ∧ Jvm.Cond.initialized RX7 ∈ fm_Ts ∧ Jvm.Cond.code yX7_worthTo prog_1_method_23_code 4 (some .int) ∈ fm_Ts := ⟨fm_mem 889 (by decide +kernel) rfl, fm_mem 29 (by decide +kernel) rfl, fm_mem 86 (by decide +kernel) rfl, fm_mem 890 (by decide +kernel) rfl⟩
theorem wy_X7_worthTo : yX7_worthTo.cls = RX7 ∧ yX7_worthTo.cls ≠ "java/lang/invoke/MethodHandle" ∧ yX7_worthTo.cls ≠ "java/lang/invoke/VarHandle" ∧ (parseMethodDescriptor yX7_worthTo.desc).map (fun d => d.parameters.length) = some 3 := by decide +kernel
theorem wm_X7_worth : Jvm.Cond.instanceMethod yX7_worth ∈ fm_Ts ∧ Jvm.Cond.selects RX7 yX7_worth yX7_worth ∈ fm_Ts ∧ Jvm.Cond.initialized RX7 ∈ fm_Ts ∧ Jvm.Cond.code yX7_worth prog_1_method_20_code 4 (some .int) ∈ fm_Ts := ⟨fm_mem 880 (by decide +kernel) rfl, fm_mem 881 (by decide +kernel) rfl, fm_mem 86 (by decide +kernel) rfl, fm_mem 882 (by decide +kernel) rfl⟩
theorem wy_X7_worth : yX7_worth.cls = RX7 ∧ yX7_worth.cls ≠ "java/lang/invoke/MethodHandle" ∧ yX7_worth.cls ≠ "java/lang/invoke/VarHandle" ∧ (parseMethodDescriptor yX7_worth.desc).map (fun d => d.parameters.length) = some 3 := by decide +kernel
theorem wm_X7_sold : Jvm.Cond.instanceMethod yX7_sold ∈ fm_Ts ∧ Jvm.Cond.selects RX7 yX7_sold yX7_sold ∈ fm_Ts ∧ Jvm.Cond.initialized RX7 ∈ fm_Ts ∧ Jvm.Cond.code yX7_sold prog_1_method_21_code 7 (some .int) ∈ fm_Ts := ⟨fm_mem 892 (by decide +kernel) rfl, fm_mem 893 (by decide +kernel) rfl, fm_mem 86 (by decide +kernel) rfl, fm_mem 894 (by decide +kernel) rfl⟩
theorem wy_X7_sold : yX7_sold.cls = RX7 ∧ yX7_sold.cls ≠ "java/lang/invoke/MethodHandle" ∧ yX7_sold.cls ≠ "java/lang/invoke/VarHandle" ∧ (parseMethodDescriptor yX7_sold.desc).map (fun d => d.parameters.length) = some 3 := by decide +kernel
theorem wm_X0_sumLed : Jvm.Cond.instanceMethod yX0_sumLed ∈ fm_Ts ∧ Jvm.Cond.selects RX0 yX0_sumLed yX0_sumLed ∈ fm_Ts ∧ Jvm.Cond.initialized RX0 ∈ fm_Ts ∧ Jvm.Cond.code yX0_sumLed prog_2_method_5_code 6 (some .int) ∈ fm_Ts := ⟨fm_mem 907 (by decide +kernel) rfl, fm_mem 908 (by decide +kernel) rfl, fm_mem 90 (by decide +kernel) rfl, fm_mem 909 (by decide +kernel) rfl⟩
theorem wy_X0_sumLed : yX0_sumLed.cls = RX0 ∧ yX0_sumLed.cls ≠ "java/lang/invoke/MethodHandle" ∧ yX0_sumLed.cls ≠ "java/lang/invoke/VarHandle" ∧ (parseMethodDescriptor yX0_sumLed.desc).map (fun d => d.parameters.length) = some 2 := by decide +kernel
theorem wm_X6_byteAt : Jvm.Cond.instanceMethod yX6_byteAt ∈ fm_Ts ∧ Jvm.Cond.selects RX6 yX6_byteAt yX6_byteAt ∈ fm_Ts ∧ Jvm.Cond.initialized RX6 ∈ fm_Ts ∧ Jvm.Cond.code yX6_byteAt prog_8_method_4_code 2 (some .int) ∈ fm_Ts := ⟨fm_mem 911 (by decide +kernel) rfl, fm_mem 912 (by decide +kernel) rfl, fm_mem 87 (by decide +kernel) rfl, fm_mem 913 (by decide +kernel) rfl⟩
theorem wy_X6_byteAt : yX6_byteAt.cls = RX6 ∧ yX6_byteAt.cls ≠ "java/lang/invoke/MethodHandle" ∧ yX6_byteAt.cls ≠ "java/lang/invoke/VarHandle" ∧ (parseMethodDescriptor yX6_byteAt.desc).map (fun d => d.parameters.length) = some 1 := by decide +kernel
theorem wm_X7_wouldShake : Jvm.Cond.instanceMethod yX7_wouldShake ∈ fm_Ts ∧ Jvm.Cond.selects RX7 yX7_wouldShake yX7_wouldShake ∈ fm_Ts ∧ Jvm.Cond.initialized RX7 ∈ fm_Ts ∧ Jvm.Cond.code yX7_wouldShake prog_1_method_25_code 7 (some .boolean) ∈ fm_Ts := ⟨fm_mem 904 (by decide +kernel) rfl, fm_mem 30 (by decide +kernel) rfl, fm_mem 86 (by decide +kernel) rfl, fm_mem 905 (by decide +kernel) rfl⟩
theorem wy_X7_wouldShake : yX7_wouldShake.cls = RX7 ∧ yX7_wouldShake.cls ≠ "java/lang/invoke/MethodHandle" ∧ yX7_wouldShake.cls ≠ "java/lang/invoke/VarHandle" ∧ (parseMethodDescriptor yX7_wouldShake.desc).map (fun d => d.parameters.length) = some 4 := by decide +kernel
theorem wm_X7_shook : Jvm.Cond.instanceMethod yX7_shook ∈ fm_Ts ∧ Jvm.Cond.selects RX7 yX7_shook yX7_shook ∈ fm_Ts ∧ Jvm.Cond.initialized RX7 ∈ fm_Ts ∧ Jvm.Cond.code yX7_shook prog_1_method_24_code 7 (some .int) ∈ fm_Ts := ⟨fm_mem 898 (by decide +kernel) rfl, fm_mem 899 (by decide +kernel) rfl, fm_mem 86 (by decide +kernel) rfl, fm_mem 900 (by decide +kernel) rfl⟩
theorem wy_X7_shook : yX7_shook.cls = RX7 ∧ yX7_shook.cls ≠ "java/lang/invoke/MethodHandle" ∧ yX7_shook.cls ≠ "java/lang/invoke/VarHandle" ∧ (parseMethodDescriptor yX7_shook.desc).map (fun d => d.parameters.length) = some 3 := by decide +kernel
theorem wm_X7_led : Jvm.Cond.instanceMethod yX7_led ∈ fm_Ts ∧ Jvm.Cond.selects RX7 yX7_led yX7_led ∈ fm_Ts ∧ Jvm.Cond.initialized RX7 ∈ fm_Ts ∧ Jvm.Cond.code yX7_led prog_1_method_26_code 3 (some .int) ∈ fm_Ts := ⟨fm_mem 915 (by decide +kernel) rfl, fm_mem 916 (by decide +kernel) rfl, fm_mem 86 (by decide +kernel) rfl, fm_mem 917 (by decide +kernel) rfl⟩
theorem wy_X7_led : yX7_led.cls = RX7 ∧ yX7_led.cls ≠ "java/lang/invoke/MethodHandle" ∧ yX7_led.cls ≠ "java/lang/invoke/VarHandle" ∧ (parseMethodDescriptor yX7_led.desc).map (fun d => d.parameters.length) = some 2 := by decide +kernel
theorem wm_X7_reduced : Jvm.Cond.static yX7_reduced ∈ fm_Ts ∧ Jvm.Cond.initialized yX7_reduced.cls ∈ fm_Ts ∧ Jvm.Cond.code yX7_reduced prog_1_method_38_code 7 (some .int) ∈ fm_Ts := ⟨fm_mem 923 (by decide +kernel) rfl, fm_mem 86 (by decide +kernel) rfl, fm_mem 924 (by decide +kernel) rfl⟩
theorem wy_X7_reduced : yX7_reduced.cls ≠ "java/lang/invoke/MethodHandle" ∧ yX7_reduced.cls ≠ "java/lang/invoke/VarHandle" ∧ (parseMethodDescriptor yX7_reduced.desc).map (fun d => d.parameters.length) = some 3 := by decide +kernel
theorem wm_X7_share : Jvm.Cond.instanceMethod yX7_share ∈ fm_Ts ∧ Jvm.Cond.selects RX7 yX7_share yX7_share ∈ fm_Ts ∧ Jvm.Cond.initialized RX7 ∈ fm_Ts ∧ Jvm.Cond.code yX7_share prog_1_method_27_code 5 (some .int) ∈ fm_Ts := ⟨fm_mem 919 (by decide +kernel) rfl, fm_mem 920 (by decide +kernel) rfl, fm_mem 86 (by decide +kernel) rfl, fm_mem 921 (by decide +kernel) rfl⟩
theorem wy_X7_share : yX7_share.cls = RX7 ∧ yX7_share.cls ≠ "java/lang/invoke/MethodHandle" ∧ yX7_share.cls ≠ "java/lang/invoke/VarHandle" ∧ (parseMethodDescriptor yX7_share.desc).map (fun d => d.parameters.length) = some 3 := by decide +kernel
theorem wm_X7_odds : Jvm.Cond.instanceMethod yX7_odds ∈ fm_Ts ∧ Jvm.Cond.selects RX7 yX7_odds yX7_odds ∈ fm_Ts ∧ Jvm.Cond.initialized RX7 ∈ fm_Ts ∧ Jvm.Cond.code yX7_odds prog_1_method_28_code 9 (some .int) ∈ fm_Ts := ⟨fm_mem 926 (by decide +kernel) rfl, fm_mem 927 (by decide +kernel) rfl, fm_mem 86 (by decide +kernel) rfl, fm_mem 928 (by decide +kernel) rfl⟩
theorem wy_X7_odds : yX7_odds.cls = RX7 ∧ yX7_odds.cls ≠ "java/lang/invoke/MethodHandle" ∧ yX7_odds.cls ≠ "java/lang/invoke/VarHandle" ∧ (parseMethodDescriptor yX7_odds.desc).map (fun d => d.parameters.length) = some 3 := by decide +kernel
theorem wm_X7_seed : Jvm.Cond.instanceMethod yX7_seed ∈ fm_Ts ∧ Jvm.Cond.selects RX7 yX7_seed yX7_seed ∈ fm_Ts ∧ Jvm.Cond.initialized RX7 ∈ fm_Ts ∧ Jvm.Cond.code yX7_seed prog_1_method_29_code 2 (some .boolean) ∈ fm_Ts := ⟨fm_mem 930 (by decide +kernel) rfl, fm_mem 931 (by decide +kernel) rfl, fm_mem 86 (by decide +kernel) rfl, fm_mem 932 (by decide +kernel) rfl⟩
theorem wy_X7_seed : yX7_seed.cls = RX7 ∧ yX7_seed.cls ≠ "java/lang/invoke/MethodHandle" ∧ yX7_seed.cls ≠ "java/lang/invoke/VarHandle" ∧ (parseMethodDescriptor yX7_seed.desc).map (fun d => d.parameters.length) = some 1 := by decide +kernel
theorem wm_X6_take : Jvm.Cond.instanceMethod yX6_take ∈ fm_Ts ∧ Jvm.Cond.selects RX6 yX6_take yX6_take ∈ fm_Ts ∧ Jvm.Cond.initialized RX6 ∈ fm_Ts ∧ Jvm.Cond.code yX6_take prog_8_method_6_code 2 none ∈ fm_Ts := ⟨fm_mem 939 (by decide +kernel) rfl, fm_mem 940 (by decide +kernel) rfl, fm_mem 87 (by decide +kernel) rfl, fm_mem 941 (by decide +kernel) rfl⟩
theorem wy_X6_take : yX6_take.cls = RX6 ∧ yX6_take.cls ≠ "java/lang/invoke/MethodHandle" ∧ yX6_take.cls ≠ "java/lang/invoke/VarHandle" ∧ (parseMethodDescriptor yX6_take.desc).map (fun d => d.parameters.length) = some 1 := by decide +kernel
theorem wm_X7_keep : Jvm.Cond.instanceMethod yX7_keep ∈ fm_Ts ∧ Jvm.Cond.selects RX7 yX7_keep yX7_keep ∈ fm_Ts ∧ Jvm.Cond.initialized RX7 ∈ fm_Ts ∧ Jvm.Cond.code yX7_keep prog_1_method_30_code 1 (some .int) ∈ fm_Ts := ⟨fm_mem 935 (by decide +kernel) rfl, fm_mem 936 (by decide +kernel) rfl, fm_mem 86 (by decide +kernel) rfl, fm_mem 937 (by decide +kernel) rfl⟩
theorem wy_X7_keep : yX7_keep.cls = RX7 ∧ yX7_keep.cls ≠ "java/lang/invoke/MethodHandle" ∧ yX7_keep.cls ≠ "java/lang/invoke/VarHandle" ∧ (parseMethodDescriptor yX7_keep.desc).map (fun d => d.parameters.length) = some 0 := by decide +kernel
theorem wm_X7_undo : Jvm.Cond.instanceMethod yX7_undo ∈ fm_Ts ∧ Jvm.Cond.selects RX7 yX7_undo yX7_undo ∈ fm_Ts ∧ Jvm.Cond.initialized RX7 ∈ fm_Ts ∧ Jvm.Cond.code yX7_undo prog_1_method_31_code 1 (some .boolean) ∈ fm_Ts := ⟨fm_mem 944 (by decide +kernel) rfl, fm_mem 945 (by decide +kernel) rfl, fm_mem 86 (by decide +kernel) rfl, fm_mem 946 (by decide +kernel) rfl⟩
theorem wy_X7_undo : yX7_undo.cls = RX7 ∧ yX7_undo.cls ≠ "java/lang/invoke/MethodHandle" ∧ yX7_undo.cls ≠ "java/lang/invoke/VarHandle" ∧ (parseMethodDescriptor yX7_undo.desc).map (fun d => d.parameters.length) = some 0 := by decide +kernel
theorem wm_X6_numberAt : Jvm.Cond.instanceMethod yX6_numberAt ∈ fm_Ts ∧ Jvm.Cond.selects RX6 yX6_numberAt yX6_numberAt ∈ fm_Ts ∧ Jvm.Cond.initialized RX6 ∈ fm_Ts ∧ Jvm.Cond.code yX6_numberAt prog_8_method_5_code 4 (some .int) ∈ fm_Ts := ⟨fm_mem 952 (by decide +kernel) rfl, fm_mem 953 (by decide +kernel) rfl, fm_mem 87 (by decide +kernel) rfl, fm_mem 954 (by decide +kernel) rfl⟩
theorem wy_X6_numberAt : yX6_numberAt.cls = RX6 ∧ yX6_numberAt.cls ≠ "java/lang/invoke/MethodHandle" ∧ yX6_numberAt.cls ≠ "java/lang/invoke/VarHandle" ∧ (parseMethodDescriptor yX6_numberAt.desc).map (fun d => d.parameters.length) = some 1 := by decide +kernel
theorem wm_X7_check : Jvm.Cond.instanceMethod yX7_check ∈ fm_Ts ∧ Jvm.Cond.selects RX7 yX7_check yX7_check ∈ fm_Ts ∧ Jvm.Cond.initialized RX7 ∈ fm_Ts ∧ Jvm.Cond.code yX7_check prog_1_method_32_code 3 (some .int) ∈ fm_Ts := ⟨fm_mem 948 (by decide +kernel) rfl, fm_mem 949 (by decide +kernel) rfl, fm_mem 86 (by decide +kernel) rfl, fm_mem 950 (by decide +kernel) rfl⟩
theorem wy_X7_check : yX7_check.cls = RX7 ∧ yX7_check.cls ≠ "java/lang/invoke/MethodHandle" ∧ yX7_check.cls ≠ "java/lang/invoke/VarHandle" ∧ (parseMethodDescriptor yX7_check.desc).map (fun d => d.parameters.length) = some 1 := by decide +kernel
theorem wm_X0_sumDust : Jvm.Cond.instanceMethod yX0_sumDust ∈ fm_Ts ∧ Jvm.Cond.selects RX0 yX0_sumDust yX0_sumDust ∈ fm_Ts ∧ Jvm.Cond.initialized RX0 ∈ fm_Ts ∧ Jvm.Cond.code yX0_sumDust prog_2_method_4_code 3 (some .int) ∈ fm_Ts := ⟨fm_mem 961 (by decide +kernel) rfl, fm_mem 962 (by decide +kernel) rfl, fm_mem 90 (by decide +kernel) rfl, fm_mem 963 (by decide +kernel) rfl⟩
theorem wy_X0_sumDust : yX0_sumDust.cls = RX0 ∧ yX0_sumDust.cls ≠ "java/lang/invoke/MethodHandle" ∧ yX0_sumDust.cls ≠ "java/lang/invoke/VarHandle" ∧ (parseMethodDescriptor yX0_sumDust.desc).map (fun d => d.parameters.length) = some 0 := by decide +kernel
theorem wm_X7_count : Jvm.Cond.instanceMethod yX7_count ∈ fm_Ts ∧ Jvm.Cond.selects RX7 yX7_count yX7_count ∈ fm_Ts ∧ Jvm.Cond.initialized RX7 ∈ fm_Ts ∧ Jvm.Cond.code yX7_count prog_1_method_33_code 2 (some .int) ∈ fm_Ts := ⟨fm_mem 957 (by decide +kernel) rfl, fm_mem 958 (by decide +kernel) rfl, fm_mem 86 (by decide +kernel) rfl, fm_mem 959 (by decide +kernel) rfl⟩
theorem wy_X7_count : yX7_count.cls = RX7 ∧ yX7_count.cls ≠ "java/lang/invoke/MethodHandle" ∧ yX7_count.cls ≠ "java/lang/invoke/VarHandle" ∧ (parseMethodDescriptor yX7_count.desc).map (fun d => d.parameters.length) = some 1 := by decide +kernel
theorem wl_X7_75 : Jvm.Cond.methodLink RX7 75 yX7_isYard ∈ fm_Ts := fm_mem 424 (by decide +kernel) rfl
theorem wl_X7_80 : Jvm.Cond.methodLink RX7 80 yX7_isWithin ∈ fm_Ts := fm_mem 428 (by decide +kernel) rfl
theorem wl_X7_96 : Jvm.Cond.methodLink RX7 96 yX7_isPorter ∈ fm_Ts := fm_mem 439 (by decide +kernel) rfl
theorem wl_X7_124 : Jvm.Cond.methodLink RX7 124 yX7_isBeggar ∈ fm_Ts := fm_mem 450 (by decide +kernel) rfl
theorem wl_X7_130 : Jvm.Cond.methodLink RX7 130 yX6_hasRoom ∈ fm_Ts := fm_mem 457 (by decide +kernel) rfl
theorem wl_X7_133 : Jvm.Cond.methodLink RX7 133 yX6_putNumber ∈ fm_Ts := fm_mem 461 (by decide +kernel) rfl
theorem wl_X3_39 : Jvm.Cond.methodLink RX3 39 yX3_next ∈ fm_Ts := fm_mem 481 (by decide +kernel) rfl
theorem wl_X3_43 : Jvm.Cond.methodLink RX3 43 yX3_fail ∈ fm_Ts := fm_mem 572 (by decide +kernel) rfl
theorem wl_X3_125 : Jvm.Cond.methodLink RX3 125 yX3_isDigit ∈ fm_Ts := fm_mem 596 (by decide +kernel) rfl
theorem wl_X3_108 : Jvm.Cond.methodLink RX3 108 yX1_putStep ∈ fm_Ts := fm_mem 603 (by decide +kernel) rfl
theorem wl_X3_79 : Jvm.Cond.methodLink RX3 79 yX3_open ∈ fm_Ts := fm_mem 588 (by decide +kernel) rfl
theorem wl_X3_128 : Jvm.Cond.methodLink RX3 128 yX3_readNumber ∈ fm_Ts := fm_mem 599 (by decide +kernel) rfl
theorem wl_X3_122 : Jvm.Cond.methodLink RX3 122 yX3_readFactor ∈ fm_Ts := fm_mem 584 (by decide +kernel) rfl
theorem wl_X3_119 : Jvm.Cond.methodLink RX3 119 yX3_readTerm ∈ fm_Ts := fm_mem 580 (by decide +kernel) rfl
theorem wl_X3_73 : Jvm.Cond.methodLink RX3 73 yX3_readSum ∈ fm_Ts := fm_mem 576 (by decide +kernel) rfl
theorem wl_X3_86 : Jvm.Cond.methodLink RX3 86 yX3_close ∈ fm_Ts := fm_mem 592 (by decide +kernel) rfl
theorem wl_X3_116 : Jvm.Cond.methodLink RX3 116 yX3_readPiece ∈ fm_Ts := fm_mem 616 (by decide +kernel) rfl
theorem wl_X3_112 : Jvm.Cond.methodLink RX3 112 yX1_leadToEnd ∈ fm_Ts := fm_mem 620 (by decide +kernel) rfl
theorem wl_X3_105 : Jvm.Cond.methodLink RX3 105 yX3_readPieces ∈ fm_Ts := fm_mem 612 (by decide +kernel) rfl
theorem wl_X3_83 : Jvm.Cond.methodLink RX3 83 yX3_readParts ∈ fm_Ts := fm_mem 608 (by decide +kernel) rfl
theorem wl_X3_96 : Jvm.Cond.methodLink RX3 96 yX3_seesDust ∈ fm_Ts := fm_mem 624 (by decide +kernel) rfl
theorem wl_X3_32 : Jvm.Cond.methodLink RX3 32 yX1_clear ∈ fm_Ts := fm_mem 473 (by decide +kernel) rfl
theorem wl_X3_35 : Jvm.Cond.methodLink RX3 35 yX3_readClause ∈ fm_Ts := fm_mem 477 (by decide +kernel) rfl
theorem wl_X1_47 : Jvm.Cond.methodLink RX1 47 arraycopyName ∈ fm_Ts := fm_mem 632 (by decide +kernel) rfl
theorem wl_X7_140 : Jvm.Cond.methodLink RX7 140 yX3_readText ∈ fm_Ts := fm_mem 469 (by decide +kernel) rfl
theorem wl_X7_147 : Jvm.Cond.methodLink RX7 147 yX1_take ∈ fm_Ts := fm_mem 628 (by decide +kernel) rfl
theorem wl_X2_34 : (RX2, 34, yX7_isPorter, "DustMint") ∈ fm_nt := List.mem_of_getElem? (i := 6) rfl
theorem wl_X0_131 : (RX0, 131, yX7_isYard, "DustMint") ∈ fm_nt := List.mem_of_getElem? (i := 7) rfl
theorem wl_X1_53 : Jvm.Cond.methodLink RX1 53 yX1_reckon ∈ fm_Ts := fm_mem 684 (by decide +kernel) rfl
theorem wl_X1_57 : Jvm.Cond.methodLink RX1 57 yJ9_min_7cf53 ∈ fm_Ts := fm_mem 688 (by decide +kernel) rfl
theorem wl_X1_62 : Jvm.Cond.methodLink RX1 62 yJ9_max_7cf53 ∈ fm_Ts := fm_mem 689 (by decide +kernel) rfl
theorem wl_X0_142 : (RX0, 142, yX7_isPorter, "DustMint") ∈ fm_nt := List.mem_of_getElem? (i := 5) rfl
theorem wl_X0_145 : Jvm.Cond.methodLink RX0 145 yX2_climbs ∈ fm_Ts := fm_mem 662 (by decide +kernel) rfl
theorem wl_X0_109 : Jvm.Cond.methodLink RX0 109 yX1_forgetWho ∈ fm_Ts := fm_mem 667 (by decide +kernel) rfl
theorem wl_X0_148 : Jvm.Cond.methodLink RX0 148 yX0_show ∈ fm_Ts := fm_mem 671 (by decide +kernel) rfl
theorem wl_X0_161 : Jvm.Cond.methodLink RX0 161 yX2_countAt ∈ fm_Ts := fm_mem 676 (by decide +kernel) rfl
theorem wl_X0_165 : Jvm.Cond.methodLink RX0 165 yX1_amount ∈ fm_Ts := fm_mem 680 (by decide +kernel) rfl
theorem wl_X0_168 : Jvm.Cond.methodLink RX0 168 yJ9_min_7cf53 ∈ fm_Ts := fm_mem 690 (by decide +kernel) rfl
theorem wl_X0_124 : Jvm.Cond.methodLink RX0 124 yX0_loss ∈ fm_Ts := fm_mem 657 (by decide +kernel) rfl
theorem wl_X0_138 : Jvm.Cond.methodLink RX0 138 yX0_heap ∈ fm_Ts := fm_mem 691 (by decide +kernel) rfl
theorem wl_X0_175 : Jvm.Cond.methodLink RX0 175 yX1_has ∈ fm_Ts := fm_mem 704 (by decide +kernel) rfl
theorem wl_X0_178 : Jvm.Cond.methodLink RX0 178 yX0_taken ∈ fm_Ts := fm_mem 708 (by decide +kernel) rfl
theorem wl_X0_181 : (RX0, 181, yX7_isBeggar, "DustMint") ∈ fm_nt := List.mem_of_getElem? (i := 8) rfl
theorem wl_X0_103 : Jvm.Cond.methodLink RX0 103 yX0_spill ∈ fm_Ts := fm_mem 653 (by decide +kernel) rfl
theorem wl_X0_106 : Jvm.Cond.methodLink RX0 106 yX0_climb ∈ fm_Ts := fm_mem 696 (by decide +kernel) rfl
theorem wl_X0_114 : Jvm.Cond.methodLink RX0 114 yX0_blow ∈ fm_Ts := fm_mem 700 (by decide +kernel) rfl
theorem wl_X0_118 : Jvm.Cond.methodLink RX0 118 yX0_wash ∈ fm_Ts := fm_mem 712 (by decide +kernel) rfl
theorem wl_X0_121 : Jvm.Cond.methodLink RX0 121 yX0_sieve ∈ fm_Ts := fm_mem 716 (by decide +kernel) rfl
theorem wl_X0_94 : Jvm.Cond.methodLink RX0 94 yX0_nextDraw ∈ fm_Ts := fm_mem 644 (by decide +kernel) rfl
theorem wl_X0_98 : Jvm.Cond.methodLink RX0 98 yX0_pass ∈ fm_Ts := fm_mem 649 (by decide +kernel) rfl
theorem wl_X7_151 : Jvm.Cond.methodLink RX7 151 yX0_passDrawn ∈ fm_Ts := fm_mem 640 (by decide +kernel) rfl
theorem wl_X7_155 : Jvm.Cond.methodLink RX7 155 yX0_pass ∈ fm_Ts := fm_mem 725 (by decide +kernel) rfl
theorem wl_X7_158 : Jvm.Cond.methodLink RX7 158 yX2_isTold ∈ fm_Ts := fm_mem 734 (by decide +kernel) rfl
theorem wl_X7_161 : Jvm.Cond.methodLink RX7 161 yX0_loss ∈ fm_Ts := fm_mem 738 (by decide +kernel) rfl
theorem wl_X2_28 : Jvm.Cond.methodLink RX2 28 arraycopyName ∈ fm_Ts := fm_mem 759 (by decide +kernel) rfl
theorem wl_X0_92 : Jvm.Cond.methodLink RX0 92 yX2_takeMoving ∈ fm_Ts := fm_mem 755 (by decide +kernel) rfl
theorem wl_X0_86 : Jvm.Cond.methodLink RX0 86 arraycopyName ∈ fm_Ts := fm_mem 760 (by decide +kernel) rfl
theorem wl_X0_78 : Jvm.Cond.methodLink RX0 78 yX0_takeMoving ∈ fm_Ts := fm_mem 751 (by decide +kernel) rfl
theorem wl_X0_82 : Jvm.Cond.methodLink RX0 82 yX2_takeAll ∈ fm_Ts := fm_mem 761 (by decide +kernel) rfl
theorem wl_X7_165 : Jvm.Cond.methodLink RX7 165 yX7_isTriable ∈ fm_Ts := fm_mem 743 (by decide +kernel) rfl
theorem wl_X7_168 : Jvm.Cond.methodLink RX7 168 yX0_takeAll ∈ fm_Ts := fm_mem 747 (by decide +kernel) rfl
theorem wl_X4_51 : Jvm.Cond.methodLink RX4 51 yX0_takeAll ∈ fm_Ts := fm_mem 773 (by decide +kernel) rfl
theorem wl_X4_100 : (RX4, 100, yX7_isYard, "DustMint") ∈ fm_nt := List.mem_of_getElem? (i := 9) rfl
theorem wl_X4_69 : Jvm.Cond.methodLink RX4 69 yX0_takeMoving ∈ fm_Ts := fm_mem 783 (by decide +kernel) rfl
theorem wl_X4_75 : Jvm.Cond.methodLink RX4 75 yX4_grant ∈ fm_Ts := fm_mem 784 (by decide +kernel) rfl
theorem wl_X4_79 : Jvm.Cond.methodLink RX4 79 yX0_nextDraw ∈ fm_Ts := fm_mem 789 (by decide +kernel) rfl
theorem wl_X4_83 : Jvm.Cond.methodLink RX4 83 yX0_pass ∈ fm_Ts := fm_mem 790 (by decide +kernel) rfl
theorem wl_X4_87 : (RX4, 87, yX7_isBeggar, "DustMint") ∈ fm_nt := List.mem_of_getElem? (i := 10) rfl
theorem wl_X4_94 : Jvm.Cond.methodLink RX4 94 arraycopyName ∈ fm_Ts := fm_mem 792 (by decide +kernel) rfl
theorem wl_X4_61 : Jvm.Cond.methodLink RX4 61 yX4_weigh ∈ fm_Ts := fm_mem 779 (by decide +kernel) rfl
theorem wl_X4_65 : Jvm.Cond.methodLink RX4 65 yX4_hasBit ∈ fm_Ts := fm_mem 793 (by decide +kernel) rfl
theorem wl_X7_184 : Jvm.Cond.methodLink RX7 184 yX4_begin ∈ fm_Ts := fm_mem 769 (by decide +kernel) rfl
theorem wl_X7_188 : Jvm.Cond.methodLink RX7 188 yX4_weighOnes ∈ fm_Ts := fm_mem 775 (by decide +kernel) rfl
theorem wl_X7_191 : Jvm.Cond.methodLink RX7 191 yX4_weighPairs ∈ fm_Ts := fm_mem 796 (by decide +kernel) rfl
theorem wl_X7_194 : Jvm.Cond.methodLink RX7 194 yX4_weighTriples ∈ fm_Ts := fm_mem 800 (by decide +kernel) rfl
theorem wl_X7_203 : Jvm.Cond.methodLink RX7 203 yX4_bestAt ∈ fm_Ts := fm_mem 804 (by decide +kernel) rfl
theorem wl_X2_38 : Jvm.Cond.methodLink RX2 38 yX2_climbs ∈ fm_Ts := fm_mem 822 (by decide +kernel) rfl
theorem wl_X5_39 : (RX5, 39, yX7_isPorter, "DustMint") ∈ fm_nt := List.mem_of_getElem? (i := 11) rfl
theorem wl_X5_35 : Jvm.Cond.methodLink RX5 35 yX5_handOutBy ∈ fm_Ts := fm_mem 837 (by decide +kernel) rfl
theorem wl_X5_29 : Jvm.Cond.methodLink RX5 29 arraycopyName ∈ fm_Ts := fm_mem 850 (by decide +kernel) rfl
theorem wl_X5_25 : Jvm.Cond.methodLink RX5 25 yX5_exchange ∈ fm_Ts := fm_mem 855 (by decide +kernel) rfl
theorem wl_X7_229 : Jvm.Cond.methodLink RX7 229 yX5_begin ∈ fm_Ts := fm_mem 828 (by decide +kernel) rfl
theorem wl_X7_221 : Jvm.Cond.methodLink RX7 221 yX0_takeMoving ∈ fm_Ts := fm_mem 832 (by decide +kernel) rfl
theorem wl_X7_237 : Jvm.Cond.methodLink RX7 237 yX5_handOut ∈ fm_Ts := fm_mem 833 (by decide +kernel) rfl
theorem wl_X7_240 : Jvm.Cond.methodLink RX7 240 yX0_passUnder ∈ fm_Ts := fm_mem 842 (by decide +kernel) rfl
theorem wl_X7_243 : Jvm.Cond.methodLink RX7 243 yX5_holdBest ∈ fm_Ts := fm_mem 846 (by decide +kernel) rfl
theorem wl_X7_246 : Jvm.Cond.methodLink RX7 246 yX5_goOn ∈ fm_Ts := fm_mem 851 (by decide +kernel) rfl
theorem wl_X7_206 : Jvm.Cond.methodLink RX7 206 yJ6_bitCount_0f7a4 ∈ fm_Ts := fm_mem 812 (by decide +kernel) rfl
theorem wl_X7_211 : Jvm.Cond.methodLink RX7 211 yX2_allClimb ∈ fm_Ts := fm_mem 818 (by decide +kernel) rfl
theorem wl_X7_214 : Jvm.Cond.methodLink RX7 214 yX7_searchSwap ∈ fm_Ts := fm_mem 823 (by decide +kernel) rfl
theorem wl_X7_218 : Jvm.Cond.methodLink RX7 218 yX5_whoseFor ∈ fm_Ts := fm_mem 859 (by decide +kernel) rfl
theorem wl_X7_224 : Jvm.Cond.methodLink RX7 224 yX5_handOutBest ∈ fm_Ts := fm_mem 863 (by decide +kernel) rfl
theorem wl_X7_250 : Jvm.Cond.methodLink RX7 250 arraycopyName ∈ fm_Ts := fm_mem 875 (by decide +kernel) rfl
theorem wl_X7_256 : Jvm.Cond.methodLink RX7 256 yJ9_abs_0f7a4 ∈ fm_Ts := fm_mem 876 (by decide +kernel) rfl
theorem wl_X7_261 : Jvm.Cond.methodLink RX7 261 yX7_tryUnlicensed ∈ fm_Ts := fm_mem 883 (by decide +kernel) rfl
theorem wl_X7_265 : Jvm.Cond.methodLink RX7 265 yX7_worthTo ∈ fm_Ts := fm_mem 887 (by decide +kernel) rfl
theorem wl_X7_270 : Jvm.Cond.methodLink RX7 270 yJ9_max_7cf53 ∈ fm_Ts := fm_mem 896 (by decide +kernel) rfl
theorem wl_X7_280 : Jvm.Cond.methodLink RX7 280 yX0_sumLed ∈ fm_Ts := fm_mem 906 (by decide +kernel) rfl
theorem wl_X7_283 : Jvm.Cond.methodLink RX7 283 yX6_byteAt ∈ fm_Ts := fm_mem 910 (by decide +kernel) rfl
theorem wl_X7_273 : Jvm.Cond.methodLink RX7 273 yX2_climbs ∈ fm_Ts := fm_mem 901 (by decide +kernel) rfl
theorem wl_X7_276 : Jvm.Cond.methodLink RX7 276 yX7_wouldShake ∈ fm_Ts := fm_mem 902 (by decide +kernel) rfl
theorem wl_X7_286 : Jvm.Cond.methodLink RX7 286 yX7_reduced ∈ fm_Ts := fm_mem 922 (by decide +kernel) rfl
theorem wl_X6_23 : Jvm.Cond.methodLink RX6 23 arraycopyName ∈ fm_Ts := fm_mem 942 (by decide +kernel) rfl
theorem wl_X7_293 : Jvm.Cond.methodLink RX7 293 yX6_take ∈ fm_Ts := fm_mem 938 (by decide +kernel) rfl
theorem wl_X6_19 : Jvm.Cond.methodLink RX6 19 yX6_byteAt ∈ fm_Ts := fm_mem 955 (by decide +kernel) rfl
theorem wl_X7_298 : Jvm.Cond.methodLink RX7 298 yX6_numberAt ∈ fm_Ts := fm_mem 951 (by decide +kernel) rfl
theorem wl_X7_304 : Jvm.Cond.methodLink RX7 304 yX0_sumDust ∈ fm_Ts := fm_mem 960 (by decide +kernel) rfl
