/-! THE WORLD: the cells of both objects -/
def rv_u : rv_A := (0, 0, 0, 0, [], [])
def rv_i (lo hi : Int) : rv_A := (1, 0, lo, hi, [], [])
def rv_r (j : Nat) : rv_A := (2, j, 0, 0, [], [])
def fm_tm : List fm_C := [
  .inr (7, [.inr 3, .inr 5, .inr 7, .inr 16, .inr 26, .inr 41, .inr 56, .inr 71, .inr 76, .inr 1, .inr 2, .inl (0, 1)]),
  .inl (0, 20, (-2147483648), 2147483647),
  .inl (0, 6, (-2147483648), 2147483647),
  .inr (6, [.inr 4, .inl ((-2147483648), 2147483647)]),
  .inl (0, 220, 0, 255),
  .inr (6, [.inr 6, .inl ((-2147483648), 2147483647)]),
  .inl (0, 220, 0, 255),
  .inr (1, [.inr 8, .inr 9, .inl (0, 200), .inr 10, .inr 11, .inr 12, .inr 13, .inl ((-2147483648), 2147483647), .inl (0, 1), .inr 14, .inr 15]),
  .inl (0, 200, (-2147483648), 2147483647),
  .inl (0, 200, (-10000000), 10000000),
  .inl (0, 14, (-2147483648), 2147483647),
  .inl (0, 14, (-2147483648), 2147483647),
  .inl (0, 14, (-2147483648), 2147483647),
  .inl (0, 14, (-2147483648), 2147483647),
  .inl (0, 13, (-2147483648), 2147483647),
  .inl (0, 40, (-2147483648), 2147483647),
  .inr (3, [.inr 17, .inr 3, .inl ((-2147483648), 2147483647), .inl ((-2147483648), 2147483647), .inl ((-2147483648), 2147483647)]),
  .inr (1, [.inr 18, .inr 19, .inl (0, 200), .inr 20, .inr 21, .inr 22, .inr 23, .inl ((-2147483648), 2147483647), .inl (0, 1), .inr 24, .inr 25]),
  .inl (0, 200, (-2147483648), 2147483647),
  .inl (0, 200, (-10000000), 10000000),
  .inl (0, 14, (-2147483648), 2147483647),
  .inl (0, 14, (-2147483648), 2147483647),
  .inl (0, 14, (-2147483648), 2147483647),
  .inl (0, 14, (-2147483648), 2147483647),
  .inl (0, 13, (-2147483648), 2147483647),
  .inl (0, 40, (-2147483648), 2147483647),
  .inr (0, [.inr 27, .inr 28, .inr 29, .inr 30, .inr 31, .inr 32, .inr 36, .inr 33, .inr 34, .inl ((-2147483648), 2147483647), .inl ((-2147483648), 2147483647), .inl ((-2147483648), 2147483647), .inl ((-2147483648), 2147483647), .inl ((-2147483648), 2147483647), .inl (0, 1), .inl ((-2147483648), 2147483647), .inl ((-2147483648), 2147483647), .inr 35]),
  .inl (0, 20, (-2147483648), 2147483647),
  .inl (0, 20, (-2147483648), 2147483647),
  .inl (0, 20, (-2147483648), 2147483647),
  .inl (0, 20, (-2147483648), 2147483647),
  .inl (0, 6, (-2147483648), 2147483647),
  .inl (0, 6, (-2147483648), 2147483647),
  .inl (0, 100, (-2147483648), 2147483647),
  .inl (0, 180, (-2147483648), 2147483647),
  .inl (0, 20, (-2147483648), 2147483647),
  .inr (2, [.inl ((-2147483648), 2147483647), .inr 37, .inr 38, .inr 39, .inr 40]),
  .inl (0, 9, (-2147483648), 2147483647),
  .inl (0, 9, (-2147483648), 2147483647),
  .inl (0, 9, (-2147483648), 2147483647),
  .inl (0, 9, (-2147483648), 2147483647),
  .inr (0, [.inr 42, .inr 43, .inr 44, .inr 45, .inr 46, .inr 47, .inr 51, .inr 48, .inr 49, .inl ((-2147483648), 2147483647), .inl ((-2147483648), 2147483647), .inl ((-2147483648), 2147483647), .inl ((-2147483648), 2147483647), .inl ((-2147483648), 2147483647), .inl (0, 1), .inl ((-2147483648), 2147483647), .inl ((-2147483648), 2147483647), .inr 50]),
  .inl (0, 20, (-2147483648), 2147483647),
  .inl (0, 20, (-2147483648), 2147483647),
  .inl (0, 20, (-2147483648), 2147483647),
  .inl (0, 20, (-2147483648), 2147483647),
  .inl (0, 6, (-2147483648), 2147483647),
  .inl (0, 6, (-2147483648), 2147483647),
  .inl (0, 100, (-2147483648), 2147483647),
  .inl (0, 180, (-2147483648), 2147483647),
  .inl (0, 20, (-2147483648), 2147483647),
  .inr (2, [.inl ((-2147483648), 2147483647), .inr 52, .inr 53, .inr 54, .inr 55]),
  .inl (0, 9, (-2147483648), 2147483647),
  .inl (0, 9, (-2147483648), 2147483647),
  .inl (0, 9, (-2147483648), 2147483647),
  .inl (0, 9, (-2147483648), 2147483647),
  .inr (0, [.inr 57, .inr 58, .inr 59, .inr 60, .inr 61, .inr 62, .inr 66, .inr 63, .inr 64, .inl ((-2147483648), 2147483647), .inl ((-2147483648), 2147483647), .inl ((-2147483648), 2147483647), .inl ((-2147483648), 2147483647), .inl ((-2147483648), 2147483647), .inl (0, 1), .inl ((-2147483648), 2147483647), .inl ((-2147483648), 2147483647), .inr 65]),
  .inl (0, 20, (-2147483648), 2147483647),
  .inl (0, 20, (-2147483648), 2147483647),
  .inl (0, 20, (-2147483648), 2147483647),
  .inl (0, 20, (-2147483648), 2147483647),
  .inl (0, 6, (-2147483648), 2147483647),
  .inl (0, 6, (-2147483648), 2147483647),
  .inl (0, 100, (-2147483648), 2147483647),
  .inl (0, 180, (-2147483648), 2147483647),
  .inl (0, 20, (-2147483648), 2147483647),
  .inr (2, [.inl ((-2147483648), 2147483647), .inr 67, .inr 68, .inr 69, .inr 70]),
  .inl (0, 9, (-2147483648), 2147483647),
  .inl (0, 9, (-2147483648), 2147483647),
  .inl (0, 9, (-2147483648), 2147483647),
  .inl (0, 9, (-2147483648), 2147483647),
  .inr (4, [.inl ((-2147483648), 2147483647), .inl ((-2147483648), 2147483647), .inr 72, .inr 73, .inr 74, .inr 75, .inr 26, .inr 56, .inr 7, .inl ((-2147483648), 2147483647), .inl ((-2147483648), 2147483647), .inl ((-2147483648), 2147483647)]),
  .inl (0, 3, (-2147483648), 2147483647),
  .inl (0, 3, (-2147483648), 2147483647),
  .inl (0, 20, (-2147483648), 2147483647),
  .inl (0, 400, (-2147483648), 2147483647),
  .inr (5, [.inr 77, .inr 78, .inr 79, .inl (0, 6)]),
  .inl (0, 6, (-2147483648), 2147483647),
  .inl (0, 6, (-2147483648), 2147483647),
  .inl (0, 6, (-2147483648), 2147483647),
  .inr (8, [.inr 81, .inl (0, 220), .inl ((-2147483648), 2147483647), .inl ((-2147483648), 2147483647), .inl ((-2147483648), 2147483647), .inl ((-2147483648), 2147483647), .inl ((-2147483648), 2147483647), .inr 82, .inr 83, .inr 84, .inr 85, .inr 86, .inr 87, .inr 88, .inr 89, .inr 90, .inr 91, .inr 92, .inr 93, .inr 94, .inl ((-2147483648), 2147483647), .inr 95, .inr 96, .inr 97, .inr 98, .inr 99, .inr 100, .inr 101, .inr 102, .inr 103, .inr 104, .inr 105, .inr 106, .inl ((-2147483648), 2147483647), .inl ((-2147483648), 2147483647), .inl ((-2147483648), 2147483647), .inl ((-2147483648), 2147483647), .inl ((-2147483648), 2147483647), .inl ((-2147483648), 2147483647), .inl ((-2147483648), 2147483647), .inl (0, 1), .inl (0, 1), .inr 107, .inl (0, 19), .inl ((-1), 8), .inl ((-1), 5), .inl ((-2147483648), 2147483647), .inr 108, .inr 109, .inr 110, .inr 111, .inl ((-2147483648), 2147483647), .inr 112, .inr 113, .inr 114, .inr 115, .inr 116, .inr 117, .inr 118, .inr 119, .inr 120, .inr 121, .inr 122, .inr 123, .inr 124, .inr 125, .inl ((-2147483648), 2147483647), .inl ((-2147483648), 2147483647), .inr 126, .inr 127, .inr 128, .inr 129, .inr 130, .inl (0, 1)]),
  .inl (1, 220, (-128), 127),
  .inl (0, 20, (-2147483648), 2147483647),
  .inl (0, 20, (-2147483648), 2147483647),
  .inl (2, 20, 0, 1),
  .inl (0, 20, 0, 6),
  .inl (0, 6, (-2147483648), 2147483647),
  .inl (0, 6, (-2147483648), 2147483647),
  .inl (2, 9, 0, 1),
  .inl (0, 9, 0, 20),
  .inl (0, 9, (-2147483648), 2147483647),
  .inl (0, 9, (-2147483648), 2147483647),
  .inl (0, 9, (-2147483648), 2147483647),
  .inl (0, 100, (-2147483648), 2147483647),
  .inl (0, 180, (-2147483648), 2147483647),
  .inl (0, 14, (-2147483648), 2147483647),
  .inl (0, 14, (-2147483648), 2147483647),
  .inl (0, 14, (-2147483648), 2147483647),
  .inl (0, 14, (-2147483648), 2147483647),
  .inl (0, 200, (-2147483648), 2147483647),
  .inl (0, 200, (-2147483648), 2147483647),
  .inl (0, 14, (-2147483648), 2147483647),
  .inl (0, 14, (-2147483648), 2147483647),
  .inl (0, 14, (-2147483648), 2147483647),
  .inl (0, 14, (-2147483648), 2147483647),
  .inl (0, 200, (-2147483648), 2147483647),
  .inl (0, 200, (-2147483648), 2147483647),
  .inl (0, 240, (-2147483648), 2147483647),
  .inl (0, 240, (-2147483648), 2147483647),
  .inl (2, 240, 0, 1),
  .inl (0, 9, (-2147483648), 2147483647),
  .inl (0, 20, (-2147483648), 2147483647),
  .inl (0, 40, (-2147483648), 2147483647),
  .inl (0, 40, (-2147483648), 2147483647),
  .inl (2, 40, 0, 1),
  .inl (0, 40, 0, 6),
  .inl (0, 12, (-2147483648), 2147483647),
  .inl (0, 12, (-2147483648), 2147483647),
  .inl (2, 18, 0, 1),
  .inl (0, 18, 0, 20),
  .inl (0, 18, (-2147483648), 2147483647),
  .inl (0, 18, (-2147483648), 2147483647),
  .inl (0, 18, (-2147483648), 2147483647),
  .inl (0, 200, (-2147483648), 2147483647),
  .inl (0, 360, (-2147483648), 2147483647),
  .inl (0, 10, (-2147483648), 2147483647),
  .inl (0, 6, 0, 8),
  .inl (0, 6, 0, 5),
  .inl (0, 6, 0, 5),
  .inl (0, 6, (-2147483648), 2147483647),
  .inl (0, 20, (-2147483648), 2147483647)]
def fm_nt : fm_Nt := [(RX7, 11, yX6_init, "DustMint"), (RX7, 21, yX1_init, "DustMint"), (RX3, 11, yX1_init, "DustMint"), (RX0, 32, yX2_init, "DustMint"), (RX7, 59, yX5_init, "DustMint"), (RX0, 142, yX7_isPorter, "DustMint"), (RX2, 34, yX7_isPorter, "DustMint"), (RX0, 131, yX7_isYard, "DustMint"), (RX0, 181, yX7_isBeggar, "DustMint"), (RX4, 100, yX7_isYard, "DustMint"), (RX4, 87, yX7_isBeggar, "DustMint"), (RX5, 39, yX7_isPorter, "DustMint")]
/-- the places that the law's tables are made of -/
def fm_gd (i f : Nat) : Bool := decide (i = 99) || decide (i = 96) || decide (i = 97) || decide (i = 98) || (decide (i = 80) && decide (f = 20))
/-- a predicate that hangs on those places alone -/
def fm_Gd (Gp : fm_V → Prop) : Prop := ∀ V V' : fm_V, (∀ i f, fm_gd i f = true → V' i f = V i f) → Gp V → Gp V'
def fm_gk (M : List (Nat × Nat)) : Bool := M.all (fun q => decide (q.1 ≠ 99 ∧ q.1 ≠ 96 ∧ q.1 ≠ 97 ∧ q.1 ≠ 98) && (decide (q.1 ≠ 80) || (decide (q.2 ≠ 20) && decide (q.2 ≠ 9999))))
theorem fm_gm {Gp : fm_V → Prop} (hG : fm_Gd Gp) {M : List (Nat × Nat)} (h : fm_gk M = true) : ∀ V V' : fm_V, (∀ i f, rv_in M i f = false → V' i f = V i f) → Gp V → Gp V' := by
  intro V V' hV
  refine hG V V' (fun i f hif => hV i f ?_)
  cases hb : rv_in M i f with
  | false => rfl
  | true =>
    simp only [rv_in, List.any_eq_true, Bool.and_eq_true, Bool.or_eq_true, decide_eq_true_eq] at hb
    obtain ⟨q, q1, q2, q3⟩ := hb
    have h1 := List.all_eq_true.mp h q q1
    simp only [fm_gd, Bool.and_eq_true, Bool.or_eq_true, decide_eq_true_eq] at hif h1
    omega
theorem fm_acw : Jvm.Cond.native arraycopyName ∈ fm_Ts ∧ Jvm.Cond.static arraycopyName ∈ fm_Ts ∧ Jvm.Cond.initialized "java/lang/System" ∈ fm_Ts := ⟨fm_t3 69 rfl rfl, fm_t3 68 rfl rfl, fm_t1 17 rfl rfl⟩
theorem wz_class_0 : Jvm.Cond.code yX7_isYard prog_1_method_35_code 1 (some .boolean) ∈ fm_Ts := fm_t2 101 rfl rfl
theorem wz_class_1 : Jvm.Cond.static yX7_isYard ∈ fm_Ts := fm_t2 100 rfl rfl
theorem wz_class_2 : Jvm.Cond.initialized yX7_isYard.cls ∈ fm_Ts := fm_t1 1 rfl rfl
theorem wz_class_3 : Jvm.Cond.code yX7_isWithin prog_1_method_34_code 3 (some .boolean) ∈ fm_Ts := fm_t2 105 rfl rfl
theorem wz_class_4 : Jvm.Cond.static yX7_isWithin ∈ fm_Ts := fm_t2 104 rfl rfl
theorem wz_class_5 : Jvm.Cond.initialized yX7_isWithin.cls ∈ fm_Ts := fm_t1 1 rfl rfl
theorem wz_class_6 : Jvm.Cond.code yX7_yard prog_1_method_2_code 5 (some .boolean) ∈ fm_Ts := fm_t2 98 rfl rfl
theorem wz_class_7 : Jvm.Cond.instanceMethod yX7_yard ∈ fm_Ts := fm_t2 96 rfl rfl
theorem wz_class_8 : Jvm.Cond.selects RX7 yX7_yard yX7_yard ∈ fm_Ts := fm_t2 97 rfl rfl
theorem wz_class_9 : Jvm.Cond.initialized RX7 ∈ fm_Ts := fm_t1 1 rfl rfl
theorem wz_class_10 : Jvm.Cond.code yX7_rain prog_1_method_3_code 3 (some .boolean) ∈ fm_Ts := fm_t2 109 rfl rfl
theorem wz_class_11 : Jvm.Cond.instanceMethod yX7_rain ∈ fm_Ts := fm_t2 107 rfl rfl
theorem wz_class_12 : Jvm.Cond.selects RX7 yX7_rain yX7_rain ∈ fm_Ts := fm_t2 108 rfl rfl
theorem wz_class_13 : Jvm.Cond.code yX7_isPorter prog_1_method_36_code 1 (some .boolean) ∈ fm_Ts := fm_t2 116 rfl rfl
theorem wz_class_14 : Jvm.Cond.static yX7_isPorter ∈ fm_Ts := fm_t2 115 rfl rfl
theorem wz_class_15 : Jvm.Cond.initialized yX7_isPorter.cls ∈ fm_Ts := fm_t1 1 rfl rfl
theorem wz_class_16 : Jvm.Cond.code yX7_porter prog_1_method_4_code 6 (some .boolean) ∈ fm_Ts := fm_t2 113 rfl rfl
theorem wz_class_17 : Jvm.Cond.instanceMethod yX7_porter ∈ fm_Ts := fm_t2 111 rfl rfl
theorem wz_class_18 : Jvm.Cond.selects RX7 yX7_porter yX7_porter ∈ fm_Ts := fm_t2 112 rfl rfl
theorem wz_class_19 : Jvm.Cond.code yX7_licence prog_1_method_5_code 3 (some .boolean) ∈ fm_Ts := fm_t2 120 rfl rfl
theorem wz_class_20 : Jvm.Cond.instanceMethod yX7_licence ∈ fm_Ts := fm_t2 118 rfl rfl
theorem wz_class_21 : Jvm.Cond.selects RX7 yX7_licence yX7_licence ∈ fm_Ts := fm_t2 119 rfl rfl
set_option maxRecDepth 20000 in
theorem wz_class_22 : Jvm.Cond.code yX7_isBeggar prog_1_method_37_code 1 (some .boolean) ∈ fm_Ts := fm_t2 127 rfl rfl
set_option maxRecDepth 20000 in
theorem wz_class_23 : Jvm.Cond.static yX7_isBeggar ∈ fm_Ts := fm_t2 126 rfl rfl
theorem wz_class_24 : Jvm.Cond.initialized yX7_isBeggar.cls ∈ fm_Ts := fm_t1 1 rfl rfl
set_option maxRecDepth 20000 in
theorem wz_class_25 : Jvm.Cond.code yX7_skill prog_1_method_6_code 3 (some .boolean) ∈ fm_Ts := fm_t2 124 rfl rfl
set_option maxRecDepth 20000 in
theorem wz_class_26 : Jvm.Cond.instanceMethod yX7_skill ∈ fm_Ts := fm_t2 122 rfl rfl
set_option maxRecDepth 20000 in
theorem wz_class_27 : Jvm.Cond.selects RX7 yX7_skill yX7_skill ∈ fm_Ts := fm_t2 123 rfl rfl
set_option maxRecDepth 20000 in
theorem wz_class_28 : Jvm.Cond.code yX6_hasRoom prog_8_method_2_code 2 (some .boolean) ∈ fm_Ts := fm_t2 135 rfl rfl
set_option maxRecDepth 20000 in
theorem wz_class_29 : Jvm.Cond.instanceMethod yX6_hasRoom ∈ fm_Ts := fm_t2 133 rfl rfl
set_option maxRecDepth 20000 in
theorem wz_class_30 : Jvm.Cond.selects RX6 yX6_hasRoom yX6_hasRoom ∈ fm_Ts := fm_t2 134 rfl rfl
theorem wz_class_31 : Jvm.Cond.initialized RX6 ∈ fm_Ts := fm_t1 2 rfl rfl
set_option maxRecDepth 20000 in
theorem wz_class_32 : Jvm.Cond.code yX6_putNumber prog_8_method_3_code 3 none ∈ fm_Ts := fm_t2 139 rfl rfl
set_option maxRecDepth 20000 in
theorem wz_class_33 : Jvm.Cond.instanceMethod yX6_putNumber ∈ fm_Ts := fm_t2 137 rfl rfl
set_option maxRecDepth 20000 in
theorem wz_class_34 : Jvm.Cond.selects RX6 yX6_putNumber yX6_putNumber ∈ fm_Ts := fm_t2 138 rfl rfl
set_option maxRecDepth 20000 in
theorem wz_class_35 : Jvm.Cond.code yX7_feed prog_1_method_7_code 6 (some .int) ∈ fm_Ts := fm_t2 131 rfl rfl
set_option maxRecDepth 20000 in
theorem wz_class_36 : Jvm.Cond.instanceMethod yX7_feed ∈ fm_Ts := fm_t2 129 rfl rfl
set_option maxRecDepth 20000 in
theorem wz_class_37 : Jvm.Cond.selects RX7 yX7_feed yX7_feed ∈ fm_Ts := fm_t2 130 rfl rfl
set_option maxRecDepth 20000 in
theorem wz_class_38 : Jvm.Cond.code yX1_clear prog_3_method_3_code 1 none ∈ fm_Ts := fm_t2 151 rfl rfl
set_option maxRecDepth 20000 in
theorem wz_class_39 : Jvm.Cond.instanceMethod yX1_clear ∈ fm_Ts := fm_t2 149 rfl rfl
set_option maxRecDepth 20000 in
theorem wz_class_40 : Jvm.Cond.selects RX1 yX1_clear yX1_clear ∈ fm_Ts := fm_t2 150 rfl rfl
theorem wz_class_41 : Jvm.Cond.initialized RX1 ∈ fm_Ts := fm_t1 3 rfl rfl
set_option maxRecDepth 20000 in
theorem wz_class_42 : Jvm.Cond.code yX3_next prog_5_method_3_code 1 (some .int) ∈ fm_Ts := fm_t2 159 rfl rfl
set_option maxRecDepth 20000 in
theorem wz_class_43 : Jvm.Cond.instanceMethod yX3_next ∈ fm_Ts := fm_t2 158 rfl rfl
theorem wz_class_44 : Jvm.Cond.selects RX3 yX3_next yX3_next ∈ fm_Ts := fm_p1 (q := (yX3_next, 5)) 1 rfl rfl
theorem wz_class_45 : Jvm.Cond.initialized RX3 ∈ fm_Ts := fm_t1 4 rfl rfl
theorem wz_class_46 : Jvm.Cond.code yX3_fail prog_5_method_4_code 2 (some .boolean) ∈ fm_Ts := fm_t3 10 rfl rfl
theorem wz_class_47 : Jvm.Cond.instanceMethod yX3_fail ∈ fm_Ts := fm_t3 9 rfl rfl
theorem wz_class_48 : Jvm.Cond.selects RX3 yX3_fail yX3_fail ∈ fm_Ts := fm_p1 (q := (yX3_fail, 5)) 2 rfl rfl
theorem wz_class_49 : Jvm.Cond.code yX3_open prog_5_method_6_code 3 (some .boolean) ∈ fm_Ts := fm_t3 26 rfl rfl
theorem wz_class_50 : Jvm.Cond.instanceMethod yX3_open ∈ fm_Ts := fm_t3 25 rfl rfl
theorem wz_class_51 : Jvm.Cond.selects RX3 yX3_open yX3_open ∈ fm_Ts := fm_p1 (q := (yX3_open, 5)) 6 rfl rfl
theorem wz_class_52 : Jvm.Cond.code yX3_isDigit prog_5_method_16_code 1 (some .boolean) ∈ fm_Ts := fm_t3 33 rfl rfl
theorem wz_class_53 : Jvm.Cond.static yX3_isDigit ∈ fm_Ts := fm_t3 32 rfl rfl
theorem wz_class_54 : Jvm.Cond.initialized yX3_isDigit.cls ∈ fm_Ts := fm_t1 4 rfl rfl
theorem wz_class_55 : Jvm.Cond.code yX1_putStep prog_3_method_4_code 3 (some .int) ∈ fm_Ts := fm_t3 41 rfl rfl
theorem wz_class_56 : Jvm.Cond.instanceMethod yX1_putStep ∈ fm_Ts := fm_t3 39 rfl rfl
theorem wz_class_57 : Jvm.Cond.selects RX1 yX1_putStep yX1_putStep ∈ fm_Ts := fm_t3 40 rfl rfl
theorem wz_class_58 : Jvm.Cond.code yX3_readNumber prog_5_method_15_code 3 (some .boolean) ∈ fm_Ts := fm_t3 37 rfl rfl
theorem wz_class_59 : Jvm.Cond.instanceMethod yX3_readNumber ∈ fm_Ts := fm_t3 36 rfl rfl
theorem wz_class_60 : Jvm.Cond.selects RX3 yX3_readNumber yX3_readNumber ∈ fm_Ts := fm_p1 (q := (yX3_readNumber, 5)) 8 rfl rfl
theorem wz_class_61 : Jvm.Cond.code yX3_readFactor prog_5_method_14_code 4 (some .boolean) ∈ fm_Ts := fm_t3 22 rfl rfl
theorem wz_class_62 : Jvm.Cond.instanceMethod yX3_readFactor ∈ fm_Ts := fm_t3 21 rfl rfl
theorem wz_class_63 : Jvm.Cond.selects RX3 yX3_readFactor yX3_readFactor ∈ fm_Ts := fm_p1 (q := (yX3_readFactor, 5)) 5 rfl rfl
theorem wz_class_64 : Jvm.Cond.code yX3_readTerm prog_5_method_13_code 4 (some .boolean) ∈ fm_Ts := fm_t3 18 rfl rfl
theorem wz_class_65 : Jvm.Cond.instanceMethod yX3_readTerm ∈ fm_Ts := fm_t3 17 rfl rfl
theorem wz_class_66 : Jvm.Cond.selects RX3 yX3_readTerm yX3_readTerm ∈ fm_Ts := fm_p1 (q := (yX3_readTerm, 5)) 4 rfl rfl
theorem wz_class_67 : Jvm.Cond.code yX3_readSum prog_5_method_12_code 4 (some .boolean) ∈ fm_Ts := fm_t3 14 rfl rfl
theorem wz_class_68 : Jvm.Cond.instanceMethod yX3_readSum ∈ fm_Ts := fm_t3 13 rfl rfl
theorem wz_class_69 : Jvm.Cond.selects RX3 yX3_readSum yX3_readSum ∈ fm_Ts := fm_p1 (q := (yX3_readSum, 5)) 3 rfl rfl
theorem wz_class_70 : Jvm.Cond.code yX3_close prog_5_method_5_code 2 (some .boolean) ∈ fm_Ts := fm_t3 30 rfl rfl
theorem wz_class_71 : Jvm.Cond.instanceMethod yX3_close ∈ fm_Ts := fm_t3 29 rfl rfl
theorem wz_class_72 : Jvm.Cond.selects RX3 yX3_close yX3_close ∈ fm_Ts := fm_p1 (q := (yX3_close, 5)) 7 rfl rfl
theorem wz_class_73 : Jvm.Cond.code yX3_readPiece prog_5_method_11_code 4 (some .boolean) ∈ fm_Ts := fm_t3 54 rfl rfl
theorem wz_class_74 : Jvm.Cond.instanceMethod yX3_readPiece ∈ fm_Ts := fm_t3 53 rfl rfl
theorem wz_class_75 : Jvm.Cond.selects RX3 yX3_readPiece yX3_readPiece ∈ fm_Ts := fm_p1 (q := (yX3_readPiece, 5)) 11 rfl rfl
theorem wz_class_76 : Jvm.Cond.code yX1_leadToEnd prog_3_method_5_code 2 none ∈ fm_Ts := fm_t3 58 rfl rfl
theorem wz_class_77 : Jvm.Cond.instanceMethod yX1_leadToEnd ∈ fm_Ts := fm_t3 56 rfl rfl
theorem wz_class_78 : Jvm.Cond.selects RX1 yX1_leadToEnd yX1_leadToEnd ∈ fm_Ts := fm_t3 57 rfl rfl
theorem wz_class_79 : Jvm.Cond.code yX3_readPieces prog_5_method_10_code 4 (some .boolean) ∈ fm_Ts := fm_t3 50 rfl rfl
theorem wz_class_80 : Jvm.Cond.instanceMethod yX3_readPieces ∈ fm_Ts := fm_t3 49 rfl rfl
theorem wz_class_81 : Jvm.Cond.selects RX3 yX3_readPieces yX3_readPieces ∈ fm_Ts := fm_p1 (q := (yX3_readPieces, 5)) 10 rfl rfl
theorem wz_class_82 : Jvm.Cond.code yX3_readParts prog_5_method_9_code 4 (some .boolean) ∈ fm_Ts := fm_t3 46 rfl rfl
theorem wz_class_83 : Jvm.Cond.instanceMethod yX3_readParts ∈ fm_Ts := fm_t3 45 rfl rfl
theorem wz_class_84 : Jvm.Cond.selects RX3 yX3_readParts yX3_readParts ∈ fm_Ts := fm_p1 (q := (yX3_readParts, 5)) 9 rfl rfl
theorem wz_class_85 : Jvm.Cond.code yX3_seesDust prog_5_method_8_code 3 (some .boolean) ∈ fm_Ts := fm_t3 62 rfl rfl
theorem wz_class_86 : Jvm.Cond.instanceMethod yX3_seesDust ∈ fm_Ts := fm_t3 61 rfl rfl
theorem wz_class_87 : Jvm.Cond.selects RX3 yX3_seesDust yX3_seesDust ∈ fm_Ts := fm_p1 (q := (yX3_seesDust, 5)) 12 rfl rfl
set_option maxRecDepth 20000 in
theorem wz_class_88 : Jvm.Cond.code yX3_readClause prog_5_method_7_code 3 (some .boolean) ∈ fm_Ts := fm_t2 155 rfl rfl
set_option maxRecDepth 20000 in
theorem wz_class_89 : Jvm.Cond.instanceMethod yX3_readClause ∈ fm_Ts := fm_t2 154 rfl rfl
theorem wz_class_90 : Jvm.Cond.selects RX3 yX3_readClause yX3_readClause ∈ fm_Ts := fm_p1 (q := (yX3_readClause, 5)) 0 rfl rfl
set_option maxRecDepth 20000 in
theorem wz_class_91 : Jvm.Cond.code yX3_readText prog_5_method_2_code 4 (some .int) ∈ fm_Ts := fm_t2 147 rfl rfl
set_option maxRecDepth 20000 in
theorem wz_class_92 : Jvm.Cond.instanceMethod yX3_readText ∈ fm_Ts := fm_t2 145 rfl rfl
set_option maxRecDepth 20000 in
theorem wz_class_93 : Jvm.Cond.selects RX3 yX3_readText yX3_readText ∈ fm_Ts := fm_t2 146 rfl rfl
theorem wz_class_94 : Jvm.Cond.code yX1_take prog_3_method_2_code 2 none ∈ fm_Ts := fm_t3 66 rfl rfl
theorem wz_class_95 : Jvm.Cond.instanceMethod yX1_take ∈ fm_Ts := fm_t3 64 rfl rfl
theorem wz_class_96 : Jvm.Cond.selects RX1 yX1_take yX1_take ∈ fm_Ts := fm_t3 65 rfl rfl
set_option maxRecDepth 20000 in
theorem wz_class_97 : Jvm.Cond.code yX7_law prog_1_method_8_code 3 (some .int) ∈ fm_Ts := fm_t2 143 rfl rfl
set_option maxRecDepth 20000 in
theorem wz_class_98 : Jvm.Cond.instanceMethod yX7_law ∈ fm_Ts := fm_t2 141 rfl rfl
set_option maxRecDepth 20000 in
theorem wz_class_99 : Jvm.Cond.selects RX7 yX7_law yX7_law ∈ fm_Ts := fm_t2 142 rfl rfl
theorem wz_class_100 : Jvm.Cond.code yX0_nextDraw prog_2_method_8_code 1 (some .int) ∈ fm_Ts := fm_t3 82 rfl rfl
theorem wz_class_101 : Jvm.Cond.instanceMethod yX0_nextDraw ∈ fm_Ts := fm_t3 80 rfl rfl
theorem wz_class_102 : Jvm.Cond.selects RX0 yX0_nextDraw yX0_nextDraw ∈ fm_Ts := fm_t3 81 rfl rfl
theorem wz_class_103 : Jvm.Cond.initialized RX0 ∈ fm_Ts := fm_t1 5 rfl rfl
theorem wz_class_104 : Jvm.Cond.code yX2_climbs prog_4_method_5_code 2 (some .boolean) ∈ fm_Ts := fm_t3 100 rfl rfl
theorem wz_class_105 : Jvm.Cond.instanceMethod yX2_climbs ∈ fm_Ts := fm_t3 98 rfl rfl
theorem wz_class_106 : Jvm.Cond.selects RX2 yX2_climbs yX2_climbs ∈ fm_Ts := fm_t3 99 rfl rfl
theorem wz_class_107 : Jvm.Cond.initialized RX2 ∈ fm_Ts := fm_t1 6 rfl rfl
theorem wz_class_108 : Jvm.Cond.code yX1_forgetWho prog_3_method_6_code 2 none ∈ fm_Ts := fm_t3 105 rfl rfl
theorem wz_class_109 : Jvm.Cond.instanceMethod yX1_forgetWho ∈ fm_Ts := fm_t3 103 rfl rfl
theorem wz_class_110 : Jvm.Cond.selects RX1 yX1_forgetWho yX1_forgetWho ∈ fm_Ts := fm_t3 104 rfl rfl
theorem wz_class_111 : Jvm.Cond.code yX0_show prog_2_method_12_code 3 none ∈ fm_Ts := fm_t3 109 rfl rfl
theorem wz_class_112 : Jvm.Cond.instanceMethod yX0_show ∈ fm_Ts := fm_t3 108 rfl rfl
theorem wz_class_113 : Jvm.Cond.selects RX0 yX0_show yX0_show ∈ fm_Ts := fm_p1 (q := (yX0_show, 18)) 14 rfl rfl
theorem wz_class_114 : Jvm.Cond.code yX2_countAt prog_4_method_7_code 4 (some .int) ∈ fm_Ts := fm_t3 114 rfl rfl
theorem wz_class_115 : Jvm.Cond.instanceMethod yX2_countAt ∈ fm_Ts := fm_t3 112 rfl rfl
theorem wz_class_116 : Jvm.Cond.selects RX2 yX2_countAt yX2_countAt ∈ fm_Ts := fm_t3 113 rfl rfl
set_option maxRecDepth 20000 in
theorem wz_class_117 : Jvm.Cond.code yX1_reckon prog_3_method_9_code 9 (some .int) ∈ fm_Ts := fm_t3 122 rfl rfl
set_option maxRecDepth 20000 in
theorem wz_class_118 : Jvm.Cond.instanceMethod yX1_reckon ∈ fm_Ts := fm_t3 121 rfl rfl
theorem wz_class_119 : Jvm.Cond.selects RX1 yX1_reckon yX1_reckon ∈ fm_Ts := fm_p1 (q := (yX1_reckon, 11)) 15 rfl rfl
set_option maxRecDepth 20000 in
theorem wz_class_120 : Jvm.Cond.code yJ9_min_7cf53 prog_13_method_69_code 2 (some .int) ∈ fm_Ts := fm_t2 194 rfl rfl
set_option maxRecDepth 20000 in
theorem wz_class_121 : Jvm.Cond.static yJ9_min_7cf53 ∈ fm_Ts := fm_t2 193 rfl rfl
theorem wz_class_122 : Jvm.Cond.initialized yJ9_min_7cf53.cls ∈ fm_Ts := fm_t1 13 rfl rfl
set_option maxRecDepth 20000 in
theorem wz_class_123 : Jvm.Cond.code yJ9_max_7cf53 prog_13_method_65_code 2 (some .int) ∈ fm_Ts := fm_t2 191 rfl rfl
set_option maxRecDepth 20000 in
theorem wz_class_124 : Jvm.Cond.static yJ9_max_7cf53 ∈ fm_Ts := fm_t2 190 rfl rfl
theorem wz_class_125 : Jvm.Cond.initialized yJ9_max_7cf53.cls ∈ fm_Ts := fm_t1 13 rfl rfl
theorem wz_class_126 : Jvm.Cond.code yX1_amount prog_3_method_8_code 3 (some .int) ∈ fm_Ts := fm_t3 118 rfl rfl
theorem wz_class_127 : Jvm.Cond.instanceMethod yX1_amount ∈ fm_Ts := fm_t3 116 rfl rfl
theorem wz_class_128 : Jvm.Cond.selects RX1 yX1_amount yX1_amount ∈ fm_Ts := fm_t3 117 rfl rfl
theorem wz_class_129 : Jvm.Cond.code yX0_loss prog_2_method_11_code 5 (some .int) ∈ fm_Ts := fm_t3 95 rfl rfl
theorem wz_class_130 : Jvm.Cond.instanceMethod yX0_loss ∈ fm_Ts := fm_t3 93 rfl rfl
theorem wz_class_131 : Jvm.Cond.selects RX0 yX0_loss yX0_loss ∈ fm_Ts := fm_t3 94 rfl rfl
set_option maxRecDepth 20000 in
theorem wz_class_132 : Jvm.Cond.code yX0_heap prog_2_method_13_code 5 none ∈ fm_Ts := fm_t3 129 rfl rfl
set_option maxRecDepth 20000 in
theorem wz_class_133 : Jvm.Cond.instanceMethod yX0_heap ∈ fm_Ts := fm_t3 128 rfl rfl
theorem wz_class_134 : Jvm.Cond.selects RX0 yX0_heap yX0_heap ∈ fm_Ts := fm_p2 (q := (yX0_heap, 18)) 0 rfl rfl
theorem wz_class_135 : Jvm.Cond.code yX0_spill prog_2_method_10_code 7 (some .int) ∈ fm_Ts := fm_t3 91 rfl rfl
theorem wz_class_136 : Jvm.Cond.instanceMethod yX0_spill ∈ fm_Ts := fm_t3 90 rfl rfl
theorem wz_class_137 : Jvm.Cond.selects RX0 yX0_spill yX0_spill ∈ fm_Ts := fm_p1 (q := (yX0_spill, 18)) 13 rfl rfl
set_option maxRecDepth 20000 in
theorem wz_class_138 : Jvm.Cond.code yX0_climb prog_2_method_14_code 2 none ∈ fm_Ts := fm_t3 134 rfl rfl
set_option maxRecDepth 20000 in
theorem wz_class_139 : Jvm.Cond.instanceMethod yX0_climb ∈ fm_Ts := fm_t3 133 rfl rfl
theorem wz_class_140 : Jvm.Cond.selects RX0 yX0_climb yX0_climb ∈ fm_Ts := fm_p2 (q := (yX0_climb, 18)) 1 rfl rfl
set_option maxRecDepth 20000 in
theorem wz_class_141 : Jvm.Cond.code yX1_has prog_3_method_7_code 3 (some .boolean) ∈ fm_Ts := fm_t3 142 rfl rfl
set_option maxRecDepth 20000 in
theorem wz_class_142 : Jvm.Cond.instanceMethod yX1_has ∈ fm_Ts := fm_t3 140 rfl rfl
set_option maxRecDepth 20000 in
theorem wz_class_143 : Jvm.Cond.selects RX1 yX1_has yX1_has ∈ fm_Ts := fm_t3 141 rfl rfl
set_option maxRecDepth 20000 in
theorem wz_class_144 : Jvm.Cond.code yX0_taken prog_2_method_18_code 4 (some .int) ∈ fm_Ts := fm_t3 146 rfl rfl
set_option maxRecDepth 20000 in
theorem wz_class_145 : Jvm.Cond.instanceMethod yX0_taken ∈ fm_Ts := fm_t3 145 rfl rfl
theorem wz_class_146 : Jvm.Cond.selects RX0 yX0_taken yX0_taken ∈ fm_Ts := fm_p2 (q := (yX0_taken, 18)) 3 rfl rfl
set_option maxRecDepth 20000 in
theorem wz_class_147 : Jvm.Cond.code yX0_blow prog_2_method_15_code 3 none ∈ fm_Ts := fm_t3 138 rfl rfl
set_option maxRecDepth 20000 in
theorem wz_class_148 : Jvm.Cond.instanceMethod yX0_blow ∈ fm_Ts := fm_t3 137 rfl rfl
theorem wz_class_149 : Jvm.Cond.selects RX0 yX0_blow yX0_blow ∈ fm_Ts := fm_p2 (q := (yX0_blow, 18)) 2 rfl rfl
set_option maxRecDepth 20000 in
theorem wz_class_150 : Jvm.Cond.code yX0_wash prog_2_method_16_code 4 none ∈ fm_Ts := fm_t3 150 rfl rfl
set_option maxRecDepth 20000 in
theorem wz_class_151 : Jvm.Cond.instanceMethod yX0_wash ∈ fm_Ts := fm_t3 149 rfl rfl
theorem wz_class_152 : Jvm.Cond.selects RX0 yX0_wash yX0_wash ∈ fm_Ts := fm_p2 (q := (yX0_wash, 18)) 4 rfl rfl
set_option maxRecDepth 20000 in
theorem wz_class_153 : Jvm.Cond.code yX0_sieve prog_2_method_17_code 5 none ∈ fm_Ts := fm_t3 154 rfl rfl
set_option maxRecDepth 20000 in
theorem wz_class_154 : Jvm.Cond.instanceMethod yX0_sieve ∈ fm_Ts := fm_t3 153 rfl rfl
theorem wz_class_155 : Jvm.Cond.selects RX0 yX0_sieve yX0_sieve ∈ fm_Ts := fm_p2 (q := (yX0_sieve, 18)) 5 rfl rfl
theorem wz_class_156 : Jvm.Cond.code yX0_pass prog_2_method_9_code 4 (some .int) ∈ fm_Ts := fm_t3 87 rfl rfl
theorem wz_class_157 : Jvm.Cond.instanceMethod yX0_pass ∈ fm_Ts := fm_t3 85 rfl rfl
theorem wz_class_158 : Jvm.Cond.selects RX0 yX0_pass yX0_pass ∈ fm_Ts := fm_t3 86 rfl rfl
theorem wz_class_159 : Jvm.Cond.code yX0_passDrawn prog_2_method_6_code 5 (some .int) ∈ fm_Ts := fm_t3 78 rfl rfl
theorem wz_class_160 : Jvm.Cond.instanceMethod yX0_passDrawn ∈ fm_Ts := fm_t3 76 rfl rfl
theorem wz_class_161 : Jvm.Cond.selects RX0 yX0_passDrawn yX0_passDrawn ∈ fm_Ts := fm_t3 77 rfl rfl
theorem wz_class_162 : Jvm.Cond.code yX7_hours prog_1_method_9_code 2 (some .int) ∈ fm_Ts := fm_t3 74 rfl rfl
theorem wz_class_163 : Jvm.Cond.instanceMethod yX7_hours ∈ fm_Ts := fm_t3 72 rfl rfl
theorem wz_class_164 : Jvm.Cond.selects RX7 yX7_hours yX7_hours ∈ fm_Ts := fm_t3 73 rfl rfl
set_option maxRecDepth 20000 in
theorem wz_class_165 : Jvm.Cond.code yX7_hour prog_1_method_10_code 2 (some .int) ∈ fm_Ts := fm_t3 159 rfl rfl
set_option maxRecDepth 20000 in
theorem wz_class_166 : Jvm.Cond.instanceMethod yX7_hour ∈ fm_Ts := fm_t3 157 rfl rfl
set_option maxRecDepth 20000 in
theorem wz_class_167 : Jvm.Cond.selects RX7 yX7_hour yX7_hour ∈ fm_Ts := fm_t3 158 rfl rfl
set_option maxRecDepth 20000 in
theorem wz_class_168 : Jvm.Cond.code yX7_yardIs prog_1_method_11_code 3 (some .int) ∈ fm_Ts := fm_t3 164 rfl rfl
set_option maxRecDepth 20000 in
theorem wz_class_169 : Jvm.Cond.instanceMethod yX7_yardIs ∈ fm_Ts := fm_t3 162 rfl rfl
set_option maxRecDepth 20000 in
theorem wz_class_170 : Jvm.Cond.selects RX7 yX7_yardIs yX7_yardIs ∈ fm_Ts := fm_t3 163 rfl rfl
set_option maxRecDepth 20000 in
theorem wz_class_171 : Jvm.Cond.code yX2_isTold prog_4_method_4_code 2 (some .boolean) ∈ fm_Ts := fm_t3 172 rfl rfl
set_option maxRecDepth 20000 in
theorem wz_class_172 : Jvm.Cond.instanceMethod yX2_isTold ∈ fm_Ts := fm_t3 170 rfl rfl
set_option maxRecDepth 20000 in
theorem wz_class_173 : Jvm.Cond.selects RX2 yX2_isTold yX2_isTold ∈ fm_Ts := fm_t3 171 rfl rfl
set_option maxRecDepth 20000 in
theorem wz_class_174 : Jvm.Cond.code yX7_porterIs prog_1_method_12_code 3 (some .int) ∈ fm_Ts := fm_t3 168 rfl rfl
set_option maxRecDepth 20000 in
theorem wz_class_175 : Jvm.Cond.instanceMethod yX7_porterIs ∈ fm_Ts := fm_t3 166 rfl rfl
set_option maxRecDepth 20000 in
theorem wz_class_176 : Jvm.Cond.selects RX7 yX7_porterIs yX7_porterIs ∈ fm_Ts := fm_t3 167 rfl rfl
set_option maxRecDepth 20000 in
theorem wz_class_177 : Jvm.Cond.code yX7_isTriable prog_1_method_14_code 2 (some .boolean) ∈ fm_Ts := fm_t3 181 rfl rfl
set_option maxRecDepth 20000 in
theorem wz_class_178 : Jvm.Cond.instanceMethod yX7_isTriable ∈ fm_Ts := fm_t3 180 rfl rfl
theorem wz_class_179 : Jvm.Cond.selects RX7 yX7_isTriable yX7_isTriable ∈ fm_Ts := fm_p2 (q := (yX7_isTriable, 12)) 6 rfl rfl
set_option maxRecDepth 20000 in
theorem wz_class_180 : Jvm.Cond.code yX2_takeMoving prog_4_method_3_code 2 none ∈ fm_Ts := fm_t3 193 rfl rfl
set_option maxRecDepth 20000 in
theorem wz_class_181 : Jvm.Cond.instanceMethod yX2_takeMoving ∈ fm_Ts := fm_t3 191 rfl rfl
set_option maxRecDepth 20000 in
theorem wz_class_182 : Jvm.Cond.selects RX2 yX2_takeMoving yX2_takeMoving ∈ fm_Ts := fm_t3 192 rfl rfl
set_option maxRecDepth 20000 in
theorem wz_class_183 : Jvm.Cond.code yX0_takeMoving prog_2_method_3_code 2 none ∈ fm_Ts := fm_t3 189 rfl rfl
set_option maxRecDepth 20000 in
theorem wz_class_184 : Jvm.Cond.instanceMethod yX0_takeMoving ∈ fm_Ts := fm_t3 187 rfl rfl
set_option maxRecDepth 20000 in
theorem wz_class_185 : Jvm.Cond.selects RX0 yX0_takeMoving yX0_takeMoving ∈ fm_Ts := fm_t3 188 rfl rfl
set_option maxRecDepth 20000 in
theorem wz_class_186 : Jvm.Cond.code yX2_takeAll prog_4_method_2_code 2 none ∈ fm_Ts := fm_t3 199 rfl rfl
set_option maxRecDepth 20000 in
theorem wz_class_187 : Jvm.Cond.instanceMethod yX2_takeAll ∈ fm_Ts := fm_t3 197 rfl rfl
set_option maxRecDepth 20000 in
theorem wz_class_188 : Jvm.Cond.selects RX2 yX2_takeAll yX2_takeAll ∈ fm_Ts := fm_t3 198 rfl rfl
set_option maxRecDepth 20000 in
theorem wz_class_189 : Jvm.Cond.code yX0_takeAll prog_2_method_2_code 2 none ∈ fm_Ts := fm_t3 185 rfl rfl
set_option maxRecDepth 20000 in
theorem wz_class_190 : Jvm.Cond.instanceMethod yX0_takeAll ∈ fm_Ts := fm_t3 183 rfl rfl
set_option maxRecDepth 20000 in
theorem wz_class_191 : Jvm.Cond.selects RX0 yX0_takeAll yX0_takeAll ∈ fm_Ts := fm_t3 184 rfl rfl
set_option maxRecDepth 20000 in
theorem wz_class_192 : Jvm.Cond.code yX7_tried prog_1_method_13_code 4 (some .int) ∈ fm_Ts := fm_t3 177 rfl rfl
set_option maxRecDepth 20000 in
theorem wz_class_193 : Jvm.Cond.instanceMethod yX7_tried ∈ fm_Ts := fm_t3 175 rfl rfl
set_option maxRecDepth 20000 in
theorem wz_class_194 : Jvm.Cond.selects RX7 yX7_tried yX7_tried ∈ fm_Ts := fm_t3 176 rfl rfl
set_option maxRecDepth 20000 in
theorem wz_class_195 : Jvm.Cond.code yX4_begin prog_6_method_2_code 4 none ∈ fm_Ts := fm_t3 207 rfl rfl
set_option maxRecDepth 20000 in
theorem wz_class_196 : Jvm.Cond.instanceMethod yX4_begin ∈ fm_Ts := fm_t3 205 rfl rfl
set_option maxRecDepth 20000 in
theorem wz_class_197 : Jvm.Cond.selects RX4 yX4_begin yX4_begin ∈ fm_Ts := fm_t3 206 rfl rfl
theorem wz_class_198 : Jvm.Cond.initialized RX4 ∈ fm_Ts := fm_t1 8 rfl rfl
set_option maxRecDepth 20000 in
theorem wz_class_199 : Jvm.Cond.code yX4_grant prog_6_method_9_code 4 none ∈ fm_Ts := fm_t3 222 rfl rfl
set_option maxRecDepth 20000 in
theorem wz_class_200 : Jvm.Cond.instanceMethod yX4_grant ∈ fm_Ts := fm_t3 221 rfl rfl
theorem wz_class_201 : Jvm.Cond.selects RX4 yX4_grant yX4_grant ∈ fm_Ts := fm_p2 (q := (yX4_grant, 12)) 8 rfl rfl
set_option maxRecDepth 20000 in
theorem wz_class_202 : Jvm.Cond.code yX4_weigh prog_6_method_8_code 3 (some .int) ∈ fm_Ts := fm_t3 217 rfl rfl
set_option maxRecDepth 20000 in
theorem wz_class_203 : Jvm.Cond.instanceMethod yX4_weigh ∈ fm_Ts := fm_t3 216 rfl rfl
theorem wz_class_204 : Jvm.Cond.selects RX4 yX4_weigh yX4_weigh ∈ fm_Ts := fm_p2 (q := (yX4_weigh, 12)) 7 rfl rfl
set_option maxRecDepth 20000 in
theorem wz_class_205 : Jvm.Cond.code yX4_hasBit prog_6_method_7_code 2 (some .boolean) ∈ fm_Ts := fm_t3 230 rfl rfl
set_option maxRecDepth 20000 in
theorem wz_class_206 : Jvm.Cond.static yX4_hasBit ∈ fm_Ts := fm_t3 229 rfl rfl
theorem wz_class_207 : Jvm.Cond.initialized yX4_hasBit.cls ∈ fm_Ts := fm_t1 8 rfl rfl
set_option maxRecDepth 20000 in
theorem wz_class_208 : Jvm.Cond.code yX4_weighOnes prog_6_method_4_code 3 none ∈ fm_Ts := fm_t3 213 rfl rfl
set_option maxRecDepth 20000 in
theorem wz_class_209 : Jvm.Cond.instanceMethod yX4_weighOnes ∈ fm_Ts := fm_t3 211 rfl rfl
set_option maxRecDepth 20000 in
theorem wz_class_210 : Jvm.Cond.selects RX4 yX4_weighOnes yX4_weighOnes ∈ fm_Ts := fm_t3 212 rfl rfl
set_option maxRecDepth 20000 in
theorem wz_class_211 : Jvm.Cond.code yX4_weighPairs prog_6_method_5_code 4 none ∈ fm_Ts := fm_t3 234 rfl rfl
set_option maxRecDepth 20000 in
theorem wz_class_212 : Jvm.Cond.instanceMethod yX4_weighPairs ∈ fm_Ts := fm_t3 232 rfl rfl
set_option maxRecDepth 20000 in
theorem wz_class_213 : Jvm.Cond.selects RX4 yX4_weighPairs yX4_weighPairs ∈ fm_Ts := fm_t3 233 rfl rfl
set_option maxRecDepth 20000 in
theorem wz_class_214 : Jvm.Cond.code yX4_weighTriples prog_6_method_6_code 5 none ∈ fm_Ts := fm_t3 238 rfl rfl
set_option maxRecDepth 20000 in
theorem wz_class_215 : Jvm.Cond.instanceMethod yX4_weighTriples ∈ fm_Ts := fm_t3 236 rfl rfl
set_option maxRecDepth 20000 in
theorem wz_class_216 : Jvm.Cond.selects RX4 yX4_weighTriples yX4_weighTriples ∈ fm_Ts := fm_t3 237 rfl rfl
theorem wz_class_217 : Jvm.Cond.code yX4_bestAt prog_6_method_3_code 2 (some .int) ∈ fm_Ts := fm_t4 2 rfl rfl
theorem wz_class_218 : Jvm.Cond.instanceMethod yX4_bestAt ∈ fm_Ts := fm_t4 0 rfl rfl
theorem wz_class_219 : Jvm.Cond.selects RX4 yX4_bestAt yX4_bestAt ∈ fm_Ts := fm_t4 1 rfl rfl
set_option maxRecDepth 20000 in
theorem wz_class_220 : Jvm.Cond.code yX7_sieved prog_1_method_15_code 6 (some .int) ∈ fm_Ts := fm_t3 203 rfl rfl
set_option maxRecDepth 20000 in
theorem wz_class_221 : Jvm.Cond.instanceMethod yX7_sieved ∈ fm_Ts := fm_t3 201 rfl rfl
set_option maxRecDepth 20000 in
theorem wz_class_222 : Jvm.Cond.selects RX7 yX7_sieved yX7_sieved ∈ fm_Ts := fm_t3 202 rfl rfl
theorem wz_class_223 : Jvm.Cond.code yJ6_bitCount_0f7a4 prog_12_method_49_code 1 (some .int) ∈ fm_Ts := fm_t4 9 rfl rfl
theorem wz_class_224 : Jvm.Cond.static yJ6_bitCount_0f7a4 ∈ fm_Ts := fm_t4 8 rfl rfl
theorem wz_class_225 : Jvm.Cond.initialized yJ6_bitCount_0f7a4.cls ∈ fm_Ts := fm_t1 18 rfl rfl
theorem wz_class_226 : Jvm.Cond.code yX2_allClimb prog_4_method_6_code 3 (some .boolean) ∈ fm_Ts := fm_t4 16 rfl rfl
theorem wz_class_227 : Jvm.Cond.instanceMethod yX2_allClimb ∈ fm_Ts := fm_t4 14 rfl rfl
theorem wz_class_228 : Jvm.Cond.selects RX2 yX2_allClimb yX2_allClimb ∈ fm_Ts := fm_t4 15 rfl rfl
theorem wz_class_229 : Jvm.Cond.code yX5_begin prog_7_method_2_code 3 none ∈ fm_Ts := fm_t4 26 rfl rfl
theorem wz_class_230 : Jvm.Cond.instanceMethod yX5_begin ∈ fm_Ts := fm_t4 24 rfl rfl
theorem wz_class_231 : Jvm.Cond.selects RX5 yX5_begin yX5_begin ∈ fm_Ts := fm_t4 25 rfl rfl
theorem wz_class_232 : Jvm.Cond.initialized RX5 ∈ fm_Ts := fm_t1 9 rfl rfl
theorem wz_class_233 : Jvm.Cond.code yX5_handOutBy prog_7_method_9_code 5 none ∈ fm_Ts := fm_t4 35 rfl rfl
theorem wz_class_234 : Jvm.Cond.instanceMethod yX5_handOutBy ∈ fm_Ts := fm_t4 34 rfl rfl
theorem wz_class_235 : Jvm.Cond.selects RX5 yX5_handOutBy yX5_handOutBy ∈ fm_Ts := fm_p2 (q := (yX5_handOutBy, 4)) 10 rfl rfl
theorem wz_class_236 : Jvm.Cond.code yX5_handOut prog_7_method_7_code 3 none ∈ fm_Ts := fm_t4 31 rfl rfl
theorem wz_class_237 : Jvm.Cond.instanceMethod yX5_handOut ∈ fm_Ts := fm_t4 29 rfl rfl
theorem wz_class_238 : Jvm.Cond.selects RX5 yX5_handOut yX5_handOut ∈ fm_Ts := fm_t4 30 rfl rfl
theorem wz_class_239 : Jvm.Cond.code yX0_passUnder prog_2_method_7_code 6 (some .int) ∈ fm_Ts := fm_t4 40 rfl rfl
theorem wz_class_240 : Jvm.Cond.instanceMethod yX0_passUnder ∈ fm_Ts := fm_t4 38 rfl rfl
theorem wz_class_241 : Jvm.Cond.selects RX0 yX0_passUnder yX0_passUnder ∈ fm_Ts := fm_t4 39 rfl rfl
theorem wz_class_242 : Jvm.Cond.code yX5_holdBest prog_7_method_5_code 1 none ∈ fm_Ts := fm_t4 44 rfl rfl
theorem wz_class_243 : Jvm.Cond.instanceMethod yX5_holdBest ∈ fm_Ts := fm_t4 42 rfl rfl
theorem wz_class_244 : Jvm.Cond.selects RX5 yX5_holdBest yX5_holdBest ∈ fm_Ts := fm_t4 43 rfl rfl
theorem wz_class_245 : Jvm.Cond.code yX5_exchange prog_7_method_4_code 4 none ∈ fm_Ts := fm_t4 53 rfl rfl
theorem wz_class_246 : Jvm.Cond.instanceMethod yX5_exchange ∈ fm_Ts := fm_t4 52 rfl rfl
theorem wz_class_247 : Jvm.Cond.selects RX5 yX5_exchange yX5_exchange ∈ fm_Ts := fm_p2 (q := (yX5_exchange, 4)) 11 rfl rfl
theorem wz_class_248 : Jvm.Cond.code yX5_goOn prog_7_method_3_code 5 (some .boolean) ∈ fm_Ts := fm_t4 49 rfl rfl
theorem wz_class_249 : Jvm.Cond.instanceMethod yX5_goOn ∈ fm_Ts := fm_t4 47 rfl rfl
theorem wz_class_250 : Jvm.Cond.selects RX5 yX5_goOn yX5_goOn ∈ fm_Ts := fm_t4 48 rfl rfl
theorem wz_class_251 : Jvm.Cond.code yX7_searchSwap prog_1_method_17_code 7 (some .int) ∈ fm_Ts := fm_t4 21 rfl rfl
theorem wz_class_252 : Jvm.Cond.instanceMethod yX7_searchSwap ∈ fm_Ts := fm_t4 20 rfl rfl
theorem wz_class_253 : Jvm.Cond.selects RX7 yX7_searchSwap yX7_searchSwap ∈ fm_Ts := fm_p2 (q := (yX7_searchSwap, 12)) 9 rfl rfl
theorem wz_class_254 : Jvm.Cond.code yX5_whoseFor prog_7_method_6_code 3 (some .int) ∈ fm_Ts := fm_t4 57 rfl rfl
theorem wz_class_255 : Jvm.Cond.instanceMethod yX5_whoseFor ∈ fm_Ts := fm_t4 55 rfl rfl
theorem wz_class_256 : Jvm.Cond.selects RX5 yX5_whoseFor yX5_whoseFor ∈ fm_Ts := fm_t4 56 rfl rfl
theorem wz_class_257 : Jvm.Cond.code yX5_handOutBest prog_7_method_8_code 3 none ∈ fm_Ts := fm_t4 61 rfl rfl
theorem wz_class_258 : Jvm.Cond.instanceMethod yX5_handOutBest ∈ fm_Ts := fm_t4 59 rfl rfl
theorem wz_class_259 : Jvm.Cond.selects RX5 yX5_handOutBest yX5_handOutBest ∈ fm_Ts := fm_t4 60 rfl rfl
theorem wz_class_260 : Jvm.Cond.code yX7_bowls prog_1_method_16_code 6 (some .int) ∈ fm_Ts := fm_t4 6 rfl rfl
theorem wz_class_261 : Jvm.Cond.instanceMethod yX7_bowls ∈ fm_Ts := fm_t4 4 rfl rfl
theorem wz_class_262 : Jvm.Cond.selects RX7 yX7_bowls yX7_bowls ∈ fm_Ts := fm_t4 5 rfl rfl
theorem wz_class_263 : Jvm.Cond.code yX7_carpet prog_1_method_18_code 7 (some .int) ∈ fm_Ts := fm_t4 65 rfl rfl
theorem wz_class_264 : Jvm.Cond.instanceMethod yX7_carpet ∈ fm_Ts := fm_t4 63 rfl rfl
theorem wz_class_265 : Jvm.Cond.selects RX7 yX7_carpet yX7_carpet ∈ fm_Ts := fm_t4 64 rfl rfl
theorem wz_class_266 : Jvm.Cond.code yJ9_abs_0f7a4 prog_13_method_59_code 1 (some .int) ∈ fm_Ts := fm_t4 73 rfl rfl
theorem wz_class_267 : Jvm.Cond.static yJ9_abs_0f7a4 ∈ fm_Ts := fm_t4 72 rfl rfl
theorem wz_class_268 : Jvm.Cond.initialized yJ9_abs_0f7a4.cls ∈ fm_Ts := fm_t1 13 rfl rfl
theorem wz_class_269 : Jvm.Cond.code yX7_gust prog_1_method_19_code 10 (some .int) ∈ fm_Ts := fm_t4 69 rfl rfl
theorem wz_class_270 : Jvm.Cond.instanceMethod yX7_gust ∈ fm_Ts := fm_t4 67 rfl rfl
theorem wz_class_271 : Jvm.Cond.selects RX7 yX7_gust yX7_gust ∈ fm_Ts := fm_t4 68 rfl rfl
theorem wz_class_272 : Jvm.Cond.code yX7_tryUnlicensed prog_1_method_22_code 3 none ∈ fm_Ts := fm_t4 81 rfl rfl
theorem wz_class_273 : Jvm.Cond.instanceMethod yX7_tryUnlicensed ∈ fm_Ts := fm_t4 80 rfl rfl
theorem wz_class_274 : Jvm.Cond.selects RX7 yX7_tryUnlicensed yX7_tryUnlicensed ∈ fm_Ts := fm_p2 (q := (yX7_tryUnlicensed, 12)) 12 rfl rfl
theorem wz_class_275 : Jvm.Cond.code yX7_worthTo prog_1_method_23_code 4 (some .int) ∈ fm_Ts := fm_t4 85 rfl rfl
theorem wz_class_276 : Jvm.Cond.instanceMethod yX7_worthTo ∈ fm_Ts := fm_t4 84 rfl rfl
theorem wz_class_277 : Jvm.Cond.selects RX7 yX7_worthTo yX7_worthTo ∈ fm_Ts := fm_p2 (q := (yX7_worthTo, 12)) 13 rfl rfl
theorem wz_class_278 : Jvm.Cond.code yX7_worth prog_1_method_20_code 4 (some .int) ∈ fm_Ts := fm_t4 77 rfl rfl
theorem wz_class_279 : Jvm.Cond.instanceMethod yX7_worth ∈ fm_Ts := fm_t4 75 rfl rfl
theorem wz_class_280 : Jvm.Cond.selects RX7 yX7_worth yX7_worth ∈ fm_Ts := fm_t4 76 rfl rfl
theorem wz_class_281 : Jvm.Cond.code yX7_sold prog_1_method_21_code 7 (some .int) ∈ fm_Ts := fm_t4 89 rfl rfl
theorem wz_class_282 : Jvm.Cond.instanceMethod yX7_sold ∈ fm_Ts := fm_t4 87 rfl rfl
theorem wz_class_283 : Jvm.Cond.selects RX7 yX7_sold yX7_sold ∈ fm_Ts := fm_t4 88 rfl rfl
theorem wz_class_284 : Jvm.Cond.code yX0_sumLed prog_2_method_5_code 6 (some .int) ∈ fm_Ts := fm_t4 104 rfl rfl
theorem wz_class_285 : Jvm.Cond.instanceMethod yX0_sumLed ∈ fm_Ts := fm_t4 102 rfl rfl
theorem wz_class_286 : Jvm.Cond.selects RX0 yX0_sumLed yX0_sumLed ∈ fm_Ts := fm_t4 103 rfl rfl
theorem wz_class_287 : Jvm.Cond.code yX6_byteAt prog_8_method_4_code 2 (some .int) ∈ fm_Ts := fm_t4 108 rfl rfl
theorem wz_class_288 : Jvm.Cond.instanceMethod yX6_byteAt ∈ fm_Ts := fm_t4 106 rfl rfl
theorem wz_class_289 : Jvm.Cond.selects RX6 yX6_byteAt yX6_byteAt ∈ fm_Ts := fm_t4 107 rfl rfl
theorem wz_class_290 : Jvm.Cond.code yX7_wouldShake prog_1_method_25_code 7 (some .boolean) ∈ fm_Ts := fm_t4 100 rfl rfl
theorem wz_class_291 : Jvm.Cond.instanceMethod yX7_wouldShake ∈ fm_Ts := fm_t4 99 rfl rfl
theorem wz_class_292 : Jvm.Cond.selects RX7 yX7_wouldShake yX7_wouldShake ∈ fm_Ts := fm_p2 (q := (yX7_wouldShake, 12)) 14 rfl rfl
theorem wz_class_293 : Jvm.Cond.code yX7_shook prog_1_method_24_code 7 (some .int) ∈ fm_Ts := fm_t4 95 rfl rfl
theorem wz_class_294 : Jvm.Cond.instanceMethod yX7_shook ∈ fm_Ts := fm_t4 93 rfl rfl
theorem wz_class_295 : Jvm.Cond.selects RX7 yX7_shook yX7_shook ∈ fm_Ts := fm_t4 94 rfl rfl
theorem wz_class_296 : Jvm.Cond.code yX7_led prog_1_method_26_code 3 (some .int) ∈ fm_Ts := fm_t4 112 rfl rfl
theorem wz_class_297 : Jvm.Cond.instanceMethod yX7_led ∈ fm_Ts := fm_t4 110 rfl rfl
theorem wz_class_298 : Jvm.Cond.selects RX7 yX7_led yX7_led ∈ fm_Ts := fm_t4 111 rfl rfl
theorem wz_class_299 : Jvm.Cond.code yX7_reduced prog_1_method_38_code 7 (some .int) ∈ fm_Ts := fm_t4 119 rfl rfl
theorem wz_class_300 : Jvm.Cond.static yX7_reduced ∈ fm_Ts := fm_t4 118 rfl rfl
theorem wz_class_301 : Jvm.Cond.initialized yX7_reduced.cls ∈ fm_Ts := fm_t1 1 rfl rfl
theorem wz_class_302 : Jvm.Cond.code yX7_share prog_1_method_27_code 5 (some .int) ∈ fm_Ts := fm_t4 116 rfl rfl
theorem wz_class_303 : Jvm.Cond.instanceMethod yX7_share ∈ fm_Ts := fm_t4 114 rfl rfl
theorem wz_class_304 : Jvm.Cond.selects RX7 yX7_share yX7_share ∈ fm_Ts := fm_t4 115 rfl rfl
set_option maxRecDepth 20000 in
theorem wz_class_305 : Jvm.Cond.code yX7_odds prog_1_method_28_code 9 (some .int) ∈ fm_Ts := fm_t4 123 rfl rfl
set_option maxRecDepth 20000 in
theorem wz_class_306 : Jvm.Cond.instanceMethod yX7_odds ∈ fm_Ts := fm_t4 121 rfl rfl
set_option maxRecDepth 20000 in
theorem wz_class_307 : Jvm.Cond.selects RX7 yX7_odds yX7_odds ∈ fm_Ts := fm_t4 122 rfl rfl
set_option maxRecDepth 20000 in
theorem wz_class_308 : Jvm.Cond.code yX7_seed prog_1_method_29_code 2 (some .boolean) ∈ fm_Ts := fm_t4 127 rfl rfl
set_option maxRecDepth 20000 in
theorem wz_class_309 : Jvm.Cond.instanceMethod yX7_seed ∈ fm_Ts := fm_t4 125 rfl rfl
set_option maxRecDepth 20000 in
theorem wz_class_310 : Jvm.Cond.selects RX7 yX7_seed yX7_seed ∈ fm_Ts := fm_t4 126 rfl rfl
set_option maxRecDepth 20000 in
theorem wz_class_311 : Jvm.Cond.code yX6_take prog_8_method_6_code 2 none ∈ fm_Ts := fm_t4 136 rfl rfl
set_option maxRecDepth 20000 in
theorem wz_class_312 : Jvm.Cond.instanceMethod yX6_take ∈ fm_Ts := fm_t4 134 rfl rfl
set_option maxRecDepth 20000 in
theorem wz_class_313 : Jvm.Cond.selects RX6 yX6_take yX6_take ∈ fm_Ts := fm_t4 135 rfl rfl
set_option maxRecDepth 20000 in
theorem wz_class_314 : Jvm.Cond.code yX7_keep prog_1_method_30_code 1 (some .int) ∈ fm_Ts := fm_t4 132 rfl rfl
set_option maxRecDepth 20000 in
theorem wz_class_315 : Jvm.Cond.instanceMethod yX7_keep ∈ fm_Ts := fm_t4 130 rfl rfl
set_option maxRecDepth 20000 in
theorem wz_class_316 : Jvm.Cond.selects RX7 yX7_keep yX7_keep ∈ fm_Ts := fm_t4 131 rfl rfl
set_option maxRecDepth 20000 in
theorem wz_class_317 : Jvm.Cond.code yX7_undo prog_1_method_31_code 1 (some .boolean) ∈ fm_Ts := fm_t4 141 rfl rfl
set_option maxRecDepth 20000 in
theorem wz_class_318 : Jvm.Cond.instanceMethod yX7_undo ∈ fm_Ts := fm_t4 139 rfl rfl
set_option maxRecDepth 20000 in
theorem wz_class_319 : Jvm.Cond.selects RX7 yX7_undo yX7_undo ∈ fm_Ts := fm_t4 140 rfl rfl
set_option maxRecDepth 20000 in
theorem wz_class_320 : Jvm.Cond.code yX6_numberAt prog_8_method_5_code 4 (some .int) ∈ fm_Ts := fm_t4 149 rfl rfl
set_option maxRecDepth 20000 in
theorem wz_class_321 : Jvm.Cond.instanceMethod yX6_numberAt ∈ fm_Ts := fm_t4 147 rfl rfl
set_option maxRecDepth 20000 in
theorem wz_class_322 : Jvm.Cond.selects RX6 yX6_numberAt yX6_numberAt ∈ fm_Ts := fm_t4 148 rfl rfl
set_option maxRecDepth 20000 in
theorem wz_class_323 : Jvm.Cond.code yX7_check prog_1_method_32_code 3 (some .int) ∈ fm_Ts := fm_t4 145 rfl rfl
set_option maxRecDepth 20000 in
theorem wz_class_324 : Jvm.Cond.instanceMethod yX7_check ∈ fm_Ts := fm_t4 143 rfl rfl
set_option maxRecDepth 20000 in
theorem wz_class_325 : Jvm.Cond.selects RX7 yX7_check yX7_check ∈ fm_Ts := fm_t4 144 rfl rfl
set_option maxRecDepth 20000 in
theorem wz_class_326 : Jvm.Cond.code yX0_sumDust prog_2_method_4_code 3 (some .int) ∈ fm_Ts := fm_t4 158 rfl rfl
set_option maxRecDepth 20000 in
theorem wz_class_327 : Jvm.Cond.instanceMethod yX0_sumDust ∈ fm_Ts := fm_t4 156 rfl rfl
set_option maxRecDepth 20000 in
theorem wz_class_328 : Jvm.Cond.selects RX0 yX0_sumDust yX0_sumDust ∈ fm_Ts := fm_t4 157 rfl rfl
set_option maxRecDepth 20000 in
theorem wz_class_329 : Jvm.Cond.code yX7_count prog_1_method_33_code 2 (some .int) ∈ fm_Ts := fm_t4 154 rfl rfl
set_option maxRecDepth 20000 in
theorem wz_class_330 : Jvm.Cond.instanceMethod yX7_count ∈ fm_Ts := fm_t4 152 rfl rfl
set_option maxRecDepth 20000 in
theorem wz_class_331 : Jvm.Cond.selects RX7 yX7_count yX7_count ∈ fm_Ts := fm_t4 153 rfl rfl
theorem wz_class_332 : Jvm.Cond.methodLink RX7 75 yX7_isYard ∈ fm_Ts := fm_t2 99 rfl rfl
theorem wz_class_333 : Jvm.Cond.methodLink RX7 80 yX7_isWithin ∈ fm_Ts := fm_t2 103 rfl rfl
theorem wz_class_334 : Jvm.Cond.methodLink RX7 96 yX7_isPorter ∈ fm_Ts := fm_t2 114 rfl rfl
set_option maxRecDepth 20000 in
theorem wz_class_335 : Jvm.Cond.methodLink RX7 124 yX7_isBeggar ∈ fm_Ts := fm_t2 125 rfl rfl
set_option maxRecDepth 20000 in
theorem wz_class_336 : Jvm.Cond.methodLink RX7 130 yX6_hasRoom ∈ fm_Ts := fm_t2 132 rfl rfl
set_option maxRecDepth 20000 in
theorem wz_class_337 : Jvm.Cond.methodLink RX7 133 yX6_putNumber ∈ fm_Ts := fm_t2 136 rfl rfl
set_option maxRecDepth 20000 in
theorem wz_class_338 : Jvm.Cond.methodLink RX3 39 yX3_next ∈ fm_Ts := fm_t2 156 rfl rfl
theorem wz_class_339 : Jvm.Cond.methodLink RX3 43 yX3_fail ∈ fm_Ts := fm_t3 7 rfl rfl
theorem wz_class_340 : Jvm.Cond.methodLink RX3 125 yX3_isDigit ∈ fm_Ts := fm_t3 31 rfl rfl
theorem wz_class_341 : Jvm.Cond.methodLink RX3 108 yX1_putStep ∈ fm_Ts := fm_t3 38 rfl rfl
theorem wz_class_342 : Jvm.Cond.methodLink RX3 79 yX3_open ∈ fm_Ts := fm_t3 23 rfl rfl
theorem wz_class_343 : Jvm.Cond.methodLink RX3 128 yX3_readNumber ∈ fm_Ts := fm_t3 34 rfl rfl
theorem wz_class_344 : Jvm.Cond.methodLink RX3 122 yX3_readFactor ∈ fm_Ts := fm_t3 19 rfl rfl
theorem wz_class_345 : Jvm.Cond.methodLink RX3 119 yX3_readTerm ∈ fm_Ts := fm_t3 15 rfl rfl
theorem wz_class_346 : Jvm.Cond.methodLink RX3 73 yX3_readSum ∈ fm_Ts := fm_t3 11 rfl rfl
theorem wz_class_347 : Jvm.Cond.methodLink RX3 86 yX3_close ∈ fm_Ts := fm_t3 27 rfl rfl
theorem wz_class_348 : Jvm.Cond.methodLink RX3 116 yX3_readPiece ∈ fm_Ts := fm_t3 51 rfl rfl
theorem wz_class_349 : Jvm.Cond.methodLink RX3 112 yX1_leadToEnd ∈ fm_Ts := fm_t3 55 rfl rfl
theorem wz_class_350 : Jvm.Cond.methodLink RX3 105 yX3_readPieces ∈ fm_Ts := fm_t3 47 rfl rfl
theorem wz_class_351 : Jvm.Cond.methodLink RX3 83 yX3_readParts ∈ fm_Ts := fm_t3 43 rfl rfl
theorem wz_class_352 : Jvm.Cond.methodLink RX3 96 yX3_seesDust ∈ fm_Ts := fm_t3 59 rfl rfl
set_option maxRecDepth 20000 in
theorem wz_class_353 : Jvm.Cond.methodLink RX3 32 yX1_clear ∈ fm_Ts := fm_t2 148 rfl rfl
set_option maxRecDepth 20000 in
theorem wz_class_354 : Jvm.Cond.methodLink RX3 35 yX3_readClause ∈ fm_Ts := fm_t2 152 rfl rfl
theorem wz_class_355 : Jvm.Cond.methodLink RX1 47 arraycopyName ∈ fm_Ts := fm_t3 67 rfl rfl
set_option maxRecDepth 20000 in
theorem wz_class_356 : Jvm.Cond.methodLink RX7 140 yX3_readText ∈ fm_Ts := fm_t2 144 rfl rfl
theorem wz_class_357 : Jvm.Cond.methodLink RX7 147 yX1_take ∈ fm_Ts := fm_t3 63 rfl rfl
theorem wz_class_358 : Jvm.Cond.methodLink RX1 53 yX1_reckon ∈ fm_Ts := fm_t3 119 rfl rfl
set_option maxRecDepth 20000 in
theorem wz_class_359 : Jvm.Cond.methodLink RX1 57 yJ9_min_7cf53 ∈ fm_Ts := fm_t3 123 rfl rfl
set_option maxRecDepth 20000 in
theorem wz_class_360 : Jvm.Cond.methodLink RX1 62 yJ9_max_7cf53 ∈ fm_Ts := fm_t3 124 rfl rfl
theorem wz_class_361 : Jvm.Cond.methodLink RX0 145 yX2_climbs ∈ fm_Ts := fm_t3 97 rfl rfl
theorem wz_class_362 : Jvm.Cond.methodLink RX0 109 yX1_forgetWho ∈ fm_Ts := fm_t3 102 rfl rfl
theorem wz_class_363 : Jvm.Cond.methodLink RX0 148 yX0_show ∈ fm_Ts := fm_t3 106 rfl rfl
theorem wz_class_364 : Jvm.Cond.methodLink RX0 161 yX2_countAt ∈ fm_Ts := fm_t3 111 rfl rfl
theorem wz_class_365 : Jvm.Cond.methodLink RX0 165 yX1_amount ∈ fm_Ts := fm_t3 115 rfl rfl
set_option maxRecDepth 20000 in
theorem wz_class_366 : Jvm.Cond.methodLink RX0 168 yJ9_min_7cf53 ∈ fm_Ts := fm_t3 125 rfl rfl
theorem wz_class_367 : Jvm.Cond.methodLink RX0 124 yX0_loss ∈ fm_Ts := fm_t3 92 rfl rfl
set_option maxRecDepth 20000 in
theorem wz_class_368 : Jvm.Cond.methodLink RX0 138 yX0_heap ∈ fm_Ts := fm_t3 126 rfl rfl
set_option maxRecDepth 20000 in
theorem wz_class_369 : Jvm.Cond.methodLink RX0 175 yX1_has ∈ fm_Ts := fm_t3 139 rfl rfl
set_option maxRecDepth 20000 in
theorem wz_class_370 : Jvm.Cond.methodLink RX0 178 yX0_taken ∈ fm_Ts := fm_t3 143 rfl rfl
theorem wz_class_371 : Jvm.Cond.methodLink RX0 103 yX0_spill ∈ fm_Ts := fm_t3 88 rfl rfl
set_option maxRecDepth 20000 in
theorem wz_class_372 : Jvm.Cond.methodLink RX0 106 yX0_climb ∈ fm_Ts := fm_t3 131 rfl rfl
set_option maxRecDepth 20000 in
theorem wz_class_373 : Jvm.Cond.methodLink RX0 114 yX0_blow ∈ fm_Ts := fm_t3 135 rfl rfl
set_option maxRecDepth 20000 in
theorem wz_class_374 : Jvm.Cond.methodLink RX0 118 yX0_wash ∈ fm_Ts := fm_t3 147 rfl rfl
set_option maxRecDepth 20000 in
theorem wz_class_375 : Jvm.Cond.methodLink RX0 121 yX0_sieve ∈ fm_Ts := fm_t3 151 rfl rfl
theorem wz_class_376 : Jvm.Cond.methodLink RX0 94 yX0_nextDraw ∈ fm_Ts := fm_t3 79 rfl rfl
theorem wz_class_377 : Jvm.Cond.methodLink RX0 98 yX0_pass ∈ fm_Ts := fm_t3 84 rfl rfl
theorem wz_class_378 : Jvm.Cond.methodLink RX7 151 yX0_passDrawn ∈ fm_Ts := fm_t3 75 rfl rfl
set_option maxRecDepth 20000 in
theorem wz_class_379 : Jvm.Cond.methodLink RX7 155 yX0_pass ∈ fm_Ts := fm_t3 160 rfl rfl
set_option maxRecDepth 20000 in
theorem wz_class_380 : Jvm.Cond.methodLink RX7 158 yX2_isTold ∈ fm_Ts := fm_t3 169 rfl rfl
set_option maxRecDepth 20000 in
theorem wz_class_381 : Jvm.Cond.methodLink RX7 161 yX0_loss ∈ fm_Ts := fm_t3 173 rfl rfl
set_option maxRecDepth 20000 in
theorem wz_class_382 : Jvm.Cond.methodLink RX2 28 arraycopyName ∈ fm_Ts := fm_t3 194 rfl rfl
set_option maxRecDepth 20000 in
theorem wz_class_383 : Jvm.Cond.methodLink RX0 92 yX2_takeMoving ∈ fm_Ts := fm_t3 190 rfl rfl
set_option maxRecDepth 20000 in
theorem wz_class_384 : Jvm.Cond.methodLink RX0 86 arraycopyName ∈ fm_Ts := fm_t3 195 rfl rfl
set_option maxRecDepth 20000 in
theorem wz_class_385 : Jvm.Cond.methodLink RX0 78 yX0_takeMoving ∈ fm_Ts := fm_t3 186 rfl rfl
set_option maxRecDepth 20000 in
theorem wz_class_386 : Jvm.Cond.methodLink RX0 82 yX2_takeAll ∈ fm_Ts := fm_t3 196 rfl rfl
set_option maxRecDepth 20000 in
theorem wz_class_387 : Jvm.Cond.methodLink RX7 165 yX7_isTriable ∈ fm_Ts := fm_t3 178 rfl rfl
set_option maxRecDepth 20000 in
theorem wz_class_388 : Jvm.Cond.methodLink RX7 168 yX0_takeAll ∈ fm_Ts := fm_t3 182 rfl rfl
set_option maxRecDepth 20000 in
theorem wz_class_389 : Jvm.Cond.methodLink RX4 51 yX0_takeAll ∈ fm_Ts := fm_t3 208 rfl rfl
set_option maxRecDepth 20000 in
theorem wz_class_390 : Jvm.Cond.methodLink RX4 69 yX0_takeMoving ∈ fm_Ts := fm_t3 218 rfl rfl
set_option maxRecDepth 20000 in
theorem wz_class_391 : Jvm.Cond.methodLink RX4 75 yX4_grant ∈ fm_Ts := fm_t3 219 rfl rfl
set_option maxRecDepth 20000 in
theorem wz_class_392 : Jvm.Cond.methodLink RX4 79 yX0_nextDraw ∈ fm_Ts := fm_t3 224 rfl rfl
set_option maxRecDepth 20000 in
theorem wz_class_393 : Jvm.Cond.methodLink RX4 83 yX0_pass ∈ fm_Ts := fm_t3 225 rfl rfl
set_option maxRecDepth 20000 in
theorem wz_class_394 : Jvm.Cond.methodLink RX4 94 arraycopyName ∈ fm_Ts := fm_t3 227 rfl rfl
set_option maxRecDepth 20000 in
theorem wz_class_395 : Jvm.Cond.methodLink RX4 61 yX4_weigh ∈ fm_Ts := fm_t3 214 rfl rfl
set_option maxRecDepth 20000 in
theorem wz_class_396 : Jvm.Cond.methodLink RX4 65 yX4_hasBit ∈ fm_Ts := fm_t3 228 rfl rfl
set_option maxRecDepth 20000 in
theorem wz_class_397 : Jvm.Cond.methodLink RX7 184 yX4_begin ∈ fm_Ts := fm_t3 204 rfl rfl
set_option maxRecDepth 20000 in
theorem wz_class_398 : Jvm.Cond.methodLink RX7 188 yX4_weighOnes ∈ fm_Ts := fm_t3 210 rfl rfl
set_option maxRecDepth 20000 in
theorem wz_class_399 : Jvm.Cond.methodLink RX7 191 yX4_weighPairs ∈ fm_Ts := fm_t3 231 rfl rfl
set_option maxRecDepth 20000 in
theorem wz_class_400 : Jvm.Cond.methodLink RX7 194 yX4_weighTriples ∈ fm_Ts := fm_t3 235 rfl rfl
set_option maxRecDepth 20000 in
theorem wz_class_401 : Jvm.Cond.methodLink RX7 203 yX4_bestAt ∈ fm_Ts := fm_t3 239 rfl rfl
theorem wz_class_402 : Jvm.Cond.methodLink RX2 38 yX2_climbs ∈ fm_Ts := fm_t4 17 rfl rfl
theorem wz_class_403 : Jvm.Cond.methodLink RX5 35 yX5_handOutBy ∈ fm_Ts := fm_t4 32 rfl rfl
theorem wz_class_404 : Jvm.Cond.methodLink RX5 29 arraycopyName ∈ fm_Ts := fm_t4 45 rfl rfl
theorem wz_class_405 : Jvm.Cond.methodLink RX5 25 yX5_exchange ∈ fm_Ts := fm_t4 50 rfl rfl
theorem wz_class_406 : Jvm.Cond.methodLink RX7 229 yX5_begin ∈ fm_Ts := fm_t4 23 rfl rfl
theorem wz_class_407 : Jvm.Cond.methodLink RX7 221 yX0_takeMoving ∈ fm_Ts := fm_t4 27 rfl rfl
theorem wz_class_408 : Jvm.Cond.methodLink RX7 237 yX5_handOut ∈ fm_Ts := fm_t4 28 rfl rfl
theorem wz_class_409 : Jvm.Cond.methodLink RX7 240 yX0_passUnder ∈ fm_Ts := fm_t4 37 rfl rfl
theorem wz_class_410 : Jvm.Cond.methodLink RX7 243 yX5_holdBest ∈ fm_Ts := fm_t4 41 rfl rfl
theorem wz_class_411 : Jvm.Cond.methodLink RX7 246 yX5_goOn ∈ fm_Ts := fm_t4 46 rfl rfl
theorem wz_class_412 : Jvm.Cond.methodLink RX7 206 yJ6_bitCount_0f7a4 ∈ fm_Ts := fm_t4 7 rfl rfl
theorem wz_class_413 : Jvm.Cond.methodLink RX7 211 yX2_allClimb ∈ fm_Ts := fm_t4 13 rfl rfl
theorem wz_class_414 : Jvm.Cond.methodLink RX7 214 yX7_searchSwap ∈ fm_Ts := fm_t4 18 rfl rfl
theorem wz_class_415 : Jvm.Cond.methodLink RX7 218 yX5_whoseFor ∈ fm_Ts := fm_t4 54 rfl rfl
theorem wz_class_416 : Jvm.Cond.methodLink RX7 224 yX5_handOutBest ∈ fm_Ts := fm_t4 58 rfl rfl
theorem wz_class_417 : Jvm.Cond.methodLink RX7 250 arraycopyName ∈ fm_Ts := fm_t4 70 rfl rfl
theorem wz_class_418 : Jvm.Cond.methodLink RX7 256 yJ9_abs_0f7a4 ∈ fm_Ts := fm_t4 71 rfl rfl
theorem wz_class_419 : Jvm.Cond.methodLink RX7 261 yX7_tryUnlicensed ∈ fm_Ts := fm_t4 78 rfl rfl
theorem wz_class_420 : Jvm.Cond.methodLink RX7 265 yX7_worthTo ∈ fm_Ts := fm_t4 82 rfl rfl
theorem wz_class_421 : Jvm.Cond.methodLink RX7 270 yJ9_max_7cf53 ∈ fm_Ts := fm_t4 91 rfl rfl
theorem wz_class_422 : Jvm.Cond.methodLink RX7 280 yX0_sumLed ∈ fm_Ts := fm_t4 101 rfl rfl
theorem wz_class_423 : Jvm.Cond.methodLink RX7 283 yX6_byteAt ∈ fm_Ts := fm_t4 105 rfl rfl
theorem wz_class_424 : Jvm.Cond.methodLink RX7 273 yX2_climbs ∈ fm_Ts := fm_t4 96 rfl rfl
theorem wz_class_425 : Jvm.Cond.methodLink RX7 276 yX7_wouldShake ∈ fm_Ts := fm_t4 97 rfl rfl
theorem wz_class_426 : Jvm.Cond.methodLink RX7 286 yX7_reduced ∈ fm_Ts := fm_t4 117 rfl rfl
set_option maxRecDepth 20000 in
theorem wz_class_427 : Jvm.Cond.methodLink RX6 23 arraycopyName ∈ fm_Ts := fm_t4 137 rfl rfl
set_option maxRecDepth 20000 in
theorem wz_class_428 : Jvm.Cond.methodLink RX7 293 yX6_take ∈ fm_Ts := fm_t4 133 rfl rfl
set_option maxRecDepth 20000 in
theorem wz_class_429 : Jvm.Cond.methodLink RX6 19 yX6_byteAt ∈ fm_Ts := fm_t4 150 rfl rfl
set_option maxRecDepth 20000 in
theorem wz_class_430 : Jvm.Cond.methodLink RX7 298 yX6_numberAt ∈ fm_Ts := fm_t4 146 rfl rfl
set_option maxRecDepth 20000 in
theorem wz_class_431 : Jvm.Cond.methodLink RX7 304 yX0_sumDust ∈ fm_Ts := fm_t4 155 rfl rfl
theorem wm_X7_isYard : Jvm.Cond.static yX7_isYard ∈ fm_Ts ∧ Jvm.Cond.initialized yX7_isYard.cls ∈ fm_Ts ∧ Jvm.Cond.code yX7_isYard prog_1_method_35_code 1 (some .boolean) ∈ fm_Ts := ⟨wz_class_1, wz_class_2, wz_class_0⟩
theorem wyd_class_0 : (parseMethodDescriptor "(I)Z").map (fun d => d.parameters.length) = some 1 := by decide +kernel
theorem wyc_class_1 : RX7 ≠ "java/lang/invoke/MethodHandle" ∧ RX7 ≠ "java/lang/invoke/VarHandle" := by decide +kernel
theorem wy_X7_isYard : yX7_isYard.cls ≠ "java/lang/invoke/MethodHandle" ∧ yX7_isYard.cls ≠ "java/lang/invoke/VarHandle" ∧ (parseMethodDescriptor yX7_isYard.desc).map (fun d => d.parameters.length) = some 1 := ⟨wyc_class_1.1, wyc_class_1.2, wyd_class_0⟩
theorem wm_X7_isWithin : Jvm.Cond.static yX7_isWithin ∈ fm_Ts ∧ Jvm.Cond.initialized yX7_isWithin.cls ∈ fm_Ts ∧ Jvm.Cond.code yX7_isWithin prog_1_method_34_code 3 (some .boolean) ∈ fm_Ts := ⟨wz_class_4, wz_class_5, wz_class_3⟩
theorem wyd_class_2 : (parseMethodDescriptor "(III)Z").map (fun d => d.parameters.length) = some 3 := by decide +kernel
theorem wy_X7_isWithin : yX7_isWithin.cls ≠ "java/lang/invoke/MethodHandle" ∧ yX7_isWithin.cls ≠ "java/lang/invoke/VarHandle" ∧ (parseMethodDescriptor yX7_isWithin.desc).map (fun d => d.parameters.length) = some 3 := ⟨wyc_class_1.1, wyc_class_1.2, wyd_class_2⟩
theorem wm_X7_yard : Jvm.Cond.instanceMethod yX7_yard ∈ fm_Ts ∧ Jvm.Cond.selects RX7 yX7_yard yX7_yard ∈ fm_Ts ∧ Jvm.Cond.initialized RX7 ∈ fm_Ts ∧ Jvm.Cond.code yX7_yard prog_1_method_2_code 5 (some .boolean) ∈ fm_Ts := ⟨wz_class_7, wz_class_8, wz_class_9, wz_class_6⟩
theorem wyd_class_3 : (parseMethodDescriptor "(IIIZ)Z").map (fun d => d.parameters.length) = some 4 := by decide +kernel
theorem wy_X7_yard : yX7_yard.cls = RX7 ∧ yX7_yard.cls ≠ "java/lang/invoke/MethodHandle" ∧ yX7_yard.cls ≠ "java/lang/invoke/VarHandle" ∧ (parseMethodDescriptor yX7_yard.desc).map (fun d => d.parameters.length) = some 4 := ⟨rfl, wyc_class_1.1, wyc_class_1.2, wyd_class_3⟩
theorem wm_X7_rain : Jvm.Cond.instanceMethod yX7_rain ∈ fm_Ts ∧ Jvm.Cond.selects RX7 yX7_rain yX7_rain ∈ fm_Ts ∧ Jvm.Cond.initialized RX7 ∈ fm_Ts ∧ Jvm.Cond.code yX7_rain prog_1_method_3_code 3 (some .boolean) ∈ fm_Ts := ⟨wz_class_11, wz_class_12, wz_class_9, wz_class_10⟩
theorem wyd_class_4 : (parseMethodDescriptor "(II)Z").map (fun d => d.parameters.length) = some 2 := by decide +kernel
theorem wy_X7_rain : yX7_rain.cls = RX7 ∧ yX7_rain.cls ≠ "java/lang/invoke/MethodHandle" ∧ yX7_rain.cls ≠ "java/lang/invoke/VarHandle" ∧ (parseMethodDescriptor yX7_rain.desc).map (fun d => d.parameters.length) = some 2 := ⟨rfl, wyc_class_1.1, wyc_class_1.2, wyd_class_4⟩
theorem wm_X7_isPorter : Jvm.Cond.static yX7_isPorter ∈ fm_Ts ∧ Jvm.Cond.initialized yX7_isPorter.cls ∈ fm_Ts ∧ Jvm.Cond.code yX7_isPorter prog_1_method_36_code 1 (some .boolean) ∈ fm_Ts := ⟨wz_class_14, wz_class_15, wz_class_13⟩
theorem wy_X7_isPorter : yX7_isPorter.cls ≠ "java/lang/invoke/MethodHandle" ∧ yX7_isPorter.cls ≠ "java/lang/invoke/VarHandle" ∧ (parseMethodDescriptor yX7_isPorter.desc).map (fun d => d.parameters.length) = some 1 := ⟨wyc_class_1.1, wyc_class_1.2, wyd_class_0⟩
theorem wm_X7_porter : Jvm.Cond.instanceMethod yX7_porter ∈ fm_Ts ∧ Jvm.Cond.selects RX7 yX7_porter yX7_porter ∈ fm_Ts ∧ Jvm.Cond.initialized RX7 ∈ fm_Ts ∧ Jvm.Cond.code yX7_porter prog_1_method_4_code 6 (some .boolean) ∈ fm_Ts := ⟨wz_class_17, wz_class_18, wz_class_9, wz_class_16⟩
theorem wyd_class_5 : (parseMethodDescriptor "(IIIII)Z").map (fun d => d.parameters.length) = some 5 := by decide +kernel
theorem wy_X7_porter : yX7_porter.cls = RX7 ∧ yX7_porter.cls ≠ "java/lang/invoke/MethodHandle" ∧ yX7_porter.cls ≠ "java/lang/invoke/VarHandle" ∧ (parseMethodDescriptor yX7_porter.desc).map (fun d => d.parameters.length) = some 5 := ⟨rfl, wyc_class_1.1, wyc_class_1.2, wyd_class_5⟩
theorem wm_X7_licence : Jvm.Cond.instanceMethod yX7_licence ∈ fm_Ts ∧ Jvm.Cond.selects RX7 yX7_licence yX7_licence ∈ fm_Ts ∧ Jvm.Cond.initialized RX7 ∈ fm_Ts ∧ Jvm.Cond.code yX7_licence prog_1_method_5_code 3 (some .boolean) ∈ fm_Ts := ⟨wz_class_20, wz_class_21, wz_class_9, wz_class_19⟩
theorem wy_X7_licence : yX7_licence.cls = RX7 ∧ yX7_licence.cls ≠ "java/lang/invoke/MethodHandle" ∧ yX7_licence.cls ≠ "java/lang/invoke/VarHandle" ∧ (parseMethodDescriptor yX7_licence.desc).map (fun d => d.parameters.length) = some 2 := ⟨rfl, wyc_class_1.1, wyc_class_1.2, wyd_class_4⟩
theorem wm_X7_isBeggar : Jvm.Cond.static yX7_isBeggar ∈ fm_Ts ∧ Jvm.Cond.initialized yX7_isBeggar.cls ∈ fm_Ts ∧ Jvm.Cond.code yX7_isBeggar prog_1_method_37_code 1 (some .boolean) ∈ fm_Ts := ⟨wz_class_23, wz_class_24, wz_class_22⟩
theorem wy_X7_isBeggar : yX7_isBeggar.cls ≠ "java/lang/invoke/MethodHandle" ∧ yX7_isBeggar.cls ≠ "java/lang/invoke/VarHandle" ∧ (parseMethodDescriptor yX7_isBeggar.desc).map (fun d => d.parameters.length) = some 1 := ⟨wyc_class_1.1, wyc_class_1.2, wyd_class_0⟩
theorem wm_X7_skill : Jvm.Cond.instanceMethod yX7_skill ∈ fm_Ts ∧ Jvm.Cond.selects RX7 yX7_skill yX7_skill ∈ fm_Ts ∧ Jvm.Cond.initialized RX7 ∈ fm_Ts ∧ Jvm.Cond.code yX7_skill prog_1_method_6_code 3 (some .boolean) ∈ fm_Ts := ⟨wz_class_26, wz_class_27, wz_class_9, wz_class_25⟩
theorem wy_X7_skill : yX7_skill.cls = RX7 ∧ yX7_skill.cls ≠ "java/lang/invoke/MethodHandle" ∧ yX7_skill.cls ≠ "java/lang/invoke/VarHandle" ∧ (parseMethodDescriptor yX7_skill.desc).map (fun d => d.parameters.length) = some 2 := ⟨rfl, wyc_class_1.1, wyc_class_1.2, wyd_class_4⟩
theorem wm_X6_hasRoom : Jvm.Cond.instanceMethod yX6_hasRoom ∈ fm_Ts ∧ Jvm.Cond.selects RX6 yX6_hasRoom yX6_hasRoom ∈ fm_Ts ∧ Jvm.Cond.initialized RX6 ∈ fm_Ts ∧ Jvm.Cond.code yX6_hasRoom prog_8_method_2_code 2 (some .boolean) ∈ fm_Ts := ⟨wz_class_29, wz_class_30, wz_class_31, wz_class_28⟩
theorem wyc_class_6 : RX6 ≠ "java/lang/invoke/MethodHandle" ∧ RX6 ≠ "java/lang/invoke/VarHandle" := by decide +kernel
theorem wy_X6_hasRoom : yX6_hasRoom.cls = RX6 ∧ yX6_hasRoom.cls ≠ "java/lang/invoke/MethodHandle" ∧ yX6_hasRoom.cls ≠ "java/lang/invoke/VarHandle" ∧ (parseMethodDescriptor yX6_hasRoom.desc).map (fun d => d.parameters.length) = some 1 := ⟨rfl, wyc_class_6.1, wyc_class_6.2, wyd_class_0⟩
theorem wm_X6_putNumber : Jvm.Cond.instanceMethod yX6_putNumber ∈ fm_Ts ∧ Jvm.Cond.selects RX6 yX6_putNumber yX6_putNumber ∈ fm_Ts ∧ Jvm.Cond.initialized RX6 ∈ fm_Ts ∧ Jvm.Cond.code yX6_putNumber prog_8_method_3_code 3 none ∈ fm_Ts := ⟨wz_class_33, wz_class_34, wz_class_31, wz_class_32⟩
theorem wyd_class_7 : (parseMethodDescriptor "(I)V").map (fun d => d.parameters.length) = some 1 := by decide +kernel
theorem wy_X6_putNumber : yX6_putNumber.cls = RX6 ∧ yX6_putNumber.cls ≠ "java/lang/invoke/MethodHandle" ∧ yX6_putNumber.cls ≠ "java/lang/invoke/VarHandle" ∧ (parseMethodDescriptor yX6_putNumber.desc).map (fun d => d.parameters.length) = some 1 := ⟨rfl, wyc_class_6.1, wyc_class_6.2, wyd_class_7⟩
theorem wm_X7_feed : Jvm.Cond.instanceMethod yX7_feed ∈ fm_Ts ∧ Jvm.Cond.selects RX7 yX7_feed yX7_feed ∈ fm_Ts ∧ Jvm.Cond.initialized RX7 ∈ fm_Ts ∧ Jvm.Cond.code yX7_feed prog_1_method_7_code 6 (some .int) ∈ fm_Ts := ⟨wz_class_36, wz_class_37, wz_class_9, wz_class_35⟩
theorem wyd_class_8 : (parseMethodDescriptor "(IIIII)I").map (fun d => d.parameters.length) = some 5 := by decide +kernel
theorem wy_X7_feed : yX7_feed.cls = RX7 ∧ yX7_feed.cls ≠ "java/lang/invoke/MethodHandle" ∧ yX7_feed.cls ≠ "java/lang/invoke/VarHandle" ∧ (parseMethodDescriptor yX7_feed.desc).map (fun d => d.parameters.length) = some 5 := ⟨rfl, wyc_class_1.1, wyc_class_1.2, wyd_class_8⟩
theorem wm_X1_clear : Jvm.Cond.instanceMethod yX1_clear ∈ fm_Ts ∧ Jvm.Cond.selects RX1 yX1_clear yX1_clear ∈ fm_Ts ∧ Jvm.Cond.initialized RX1 ∈ fm_Ts ∧ Jvm.Cond.code yX1_clear prog_3_method_3_code 1 none ∈ fm_Ts := ⟨wz_class_39, wz_class_40, wz_class_41, wz_class_38⟩
theorem wyd_class_9 : (parseMethodDescriptor "()V").map (fun d => d.parameters.length) = some 0 := by decide +kernel
theorem wyc_class_10 : RX1 ≠ "java/lang/invoke/MethodHandle" ∧ RX1 ≠ "java/lang/invoke/VarHandle" := by decide +kernel
theorem wy_X1_clear : yX1_clear.cls = RX1 ∧ yX1_clear.cls ≠ "java/lang/invoke/MethodHandle" ∧ yX1_clear.cls ≠ "java/lang/invoke/VarHandle" ∧ (parseMethodDescriptor yX1_clear.desc).map (fun d => d.parameters.length) = some 0 := ⟨rfl, wyc_class_10.1, wyc_class_10.2, wyd_class_9⟩
theorem wm_X3_next : Jvm.Cond.instanceMethod yX3_next ∈ fm_Ts ∧ Jvm.Cond.selects RX3 yX3_next yX3_next ∈ fm_Ts ∧ Jvm.Cond.initialized RX3 ∈ fm_Ts ∧ Jvm.Cond.code yX3_next prog_5_method_3_code 1 (some .int) ∈ fm_Ts := ⟨wz_class_43, wz_class_44, wz_class_45, wz_class_42⟩
theorem wyd_class_11 : (parseMethodDescriptor "()I").map (fun d => d.parameters.length) = some 0 := by decide +kernel
theorem wyc_class_12 : RX3 ≠ "java/lang/invoke/MethodHandle" ∧ RX3 ≠ "java/lang/invoke/VarHandle" := by decide +kernel
theorem wy_X3_next : yX3_next.cls = RX3 ∧ yX3_next.cls ≠ "java/lang/invoke/MethodHandle" ∧ yX3_next.cls ≠ "java/lang/invoke/VarHandle" ∧ (parseMethodDescriptor yX3_next.desc).map (fun d => d.parameters.length) = some 0 := ⟨rfl, wyc_class_12.1, wyc_class_12.2, wyd_class_11⟩
theorem wm_X3_fail : Jvm.Cond.instanceMethod yX3_fail ∈ fm_Ts ∧ Jvm.Cond.selects RX3 yX3_fail yX3_fail ∈ fm_Ts ∧ Jvm.Cond.initialized RX3 ∈ fm_Ts ∧ Jvm.Cond.code yX3_fail prog_5_method_4_code 2 (some .boolean) ∈ fm_Ts := ⟨wz_class_47, wz_class_48, wz_class_45, wz_class_46⟩
theorem wy_X3_fail : yX3_fail.cls = RX3 ∧ yX3_fail.cls ≠ "java/lang/invoke/MethodHandle" ∧ yX3_fail.cls ≠ "java/lang/invoke/VarHandle" ∧ (parseMethodDescriptor yX3_fail.desc).map (fun d => d.parameters.length) = some 1 := ⟨rfl, wyc_class_12.1, wyc_class_12.2, wyd_class_0⟩
theorem wm_X3_open : Jvm.Cond.instanceMethod yX3_open ∈ fm_Ts ∧ Jvm.Cond.selects RX3 yX3_open yX3_open ∈ fm_Ts ∧ Jvm.Cond.initialized RX3 ∈ fm_Ts ∧ Jvm.Cond.code yX3_open prog_5_method_6_code 3 (some .boolean) ∈ fm_Ts := ⟨wz_class_50, wz_class_51, wz_class_45, wz_class_49⟩
theorem wy_X3_open : yX3_open.cls = RX3 ∧ yX3_open.cls ≠ "java/lang/invoke/MethodHandle" ∧ yX3_open.cls ≠ "java/lang/invoke/VarHandle" ∧ (parseMethodDescriptor yX3_open.desc).map (fun d => d.parameters.length) = some 2 := ⟨rfl, wyc_class_12.1, wyc_class_12.2, wyd_class_4⟩
theorem wm_X3_isDigit : Jvm.Cond.static yX3_isDigit ∈ fm_Ts ∧ Jvm.Cond.initialized yX3_isDigit.cls ∈ fm_Ts ∧ Jvm.Cond.code yX3_isDigit prog_5_method_16_code 1 (some .boolean) ∈ fm_Ts := ⟨wz_class_53, wz_class_54, wz_class_52⟩
theorem wy_X3_isDigit : yX3_isDigit.cls ≠ "java/lang/invoke/MethodHandle" ∧ yX3_isDigit.cls ≠ "java/lang/invoke/VarHandle" ∧ (parseMethodDescriptor yX3_isDigit.desc).map (fun d => d.parameters.length) = some 1 := ⟨wyc_class_12.1, wyc_class_12.2, wyd_class_0⟩
theorem wm_X1_putStep : Jvm.Cond.instanceMethod yX1_putStep ∈ fm_Ts ∧ Jvm.Cond.selects RX1 yX1_putStep yX1_putStep ∈ fm_Ts ∧ Jvm.Cond.initialized RX1 ∈ fm_Ts ∧ Jvm.Cond.code yX1_putStep prog_3_method_4_code 3 (some .int) ∈ fm_Ts := ⟨wz_class_56, wz_class_57, wz_class_41, wz_class_55⟩
theorem wyd_class_13 : (parseMethodDescriptor "(II)I").map (fun d => d.parameters.length) = some 2 := by decide +kernel
theorem wy_X1_putStep : yX1_putStep.cls = RX1 ∧ yX1_putStep.cls ≠ "java/lang/invoke/MethodHandle" ∧ yX1_putStep.cls ≠ "java/lang/invoke/VarHandle" ∧ (parseMethodDescriptor yX1_putStep.desc).map (fun d => d.parameters.length) = some 2 := ⟨rfl, wyc_class_10.1, wyc_class_10.2, wyd_class_13⟩
theorem wm_X3_readNumber : Jvm.Cond.instanceMethod yX3_readNumber ∈ fm_Ts ∧ Jvm.Cond.selects RX3 yX3_readNumber yX3_readNumber ∈ fm_Ts ∧ Jvm.Cond.initialized RX3 ∈ fm_Ts ∧ Jvm.Cond.code yX3_readNumber prog_5_method_15_code 3 (some .boolean) ∈ fm_Ts := ⟨wz_class_59, wz_class_60, wz_class_45, wz_class_58⟩
theorem wyd_class_14 : (parseMethodDescriptor "()Z").map (fun d => d.parameters.length) = some 0 := by decide +kernel
theorem wy_X3_readNumber : yX3_readNumber.cls = RX3 ∧ yX3_readNumber.cls ≠ "java/lang/invoke/MethodHandle" ∧ yX3_readNumber.cls ≠ "java/lang/invoke/VarHandle" ∧ (parseMethodDescriptor yX3_readNumber.desc).map (fun d => d.parameters.length) = some 0 := ⟨rfl, wyc_class_12.1, wyc_class_12.2, wyd_class_14⟩
theorem wm_X3_readFactor : Jvm.Cond.instanceMethod yX3_readFactor ∈ fm_Ts ∧ Jvm.Cond.selects RX3 yX3_readFactor yX3_readFactor ∈ fm_Ts ∧ Jvm.Cond.initialized RX3 ∈ fm_Ts ∧ Jvm.Cond.code yX3_readFactor prog_5_method_14_code 4 (some .boolean) ∈ fm_Ts := ⟨wz_class_62, wz_class_63, wz_class_45, wz_class_61⟩
theorem wy_X3_readFactor : yX3_readFactor.cls = RX3 ∧ yX3_readFactor.cls ≠ "java/lang/invoke/MethodHandle" ∧ yX3_readFactor.cls ≠ "java/lang/invoke/VarHandle" ∧ (parseMethodDescriptor yX3_readFactor.desc).map (fun d => d.parameters.length) = some 1 := ⟨rfl, wyc_class_12.1, wyc_class_12.2, wyd_class_0⟩
theorem wm_X3_readTerm : Jvm.Cond.instanceMethod yX3_readTerm ∈ fm_Ts ∧ Jvm.Cond.selects RX3 yX3_readTerm yX3_readTerm ∈ fm_Ts ∧ Jvm.Cond.initialized RX3 ∈ fm_Ts ∧ Jvm.Cond.code yX3_readTerm prog_5_method_13_code 4 (some .boolean) ∈ fm_Ts := ⟨wz_class_65, wz_class_66, wz_class_45, wz_class_64⟩
theorem wy_X3_readTerm : yX3_readTerm.cls = RX3 ∧ yX3_readTerm.cls ≠ "java/lang/invoke/MethodHandle" ∧ yX3_readTerm.cls ≠ "java/lang/invoke/VarHandle" ∧ (parseMethodDescriptor yX3_readTerm.desc).map (fun d => d.parameters.length) = some 1 := ⟨rfl, wyc_class_12.1, wyc_class_12.2, wyd_class_0⟩
theorem wm_X3_readSum : Jvm.Cond.instanceMethod yX3_readSum ∈ fm_Ts ∧ Jvm.Cond.selects RX3 yX3_readSum yX3_readSum ∈ fm_Ts ∧ Jvm.Cond.initialized RX3 ∈ fm_Ts ∧ Jvm.Cond.code yX3_readSum prog_5_method_12_code 4 (some .boolean) ∈ fm_Ts := ⟨wz_class_68, wz_class_69, wz_class_45, wz_class_67⟩
theorem wy_X3_readSum : yX3_readSum.cls = RX3 ∧ yX3_readSum.cls ≠ "java/lang/invoke/MethodHandle" ∧ yX3_readSum.cls ≠ "java/lang/invoke/VarHandle" ∧ (parseMethodDescriptor yX3_readSum.desc).map (fun d => d.parameters.length) = some 1 := ⟨rfl, wyc_class_12.1, wyc_class_12.2, wyd_class_0⟩
theorem wm_X3_close : Jvm.Cond.instanceMethod yX3_close ∈ fm_Ts ∧ Jvm.Cond.selects RX3 yX3_close yX3_close ∈ fm_Ts ∧ Jvm.Cond.initialized RX3 ∈ fm_Ts ∧ Jvm.Cond.code yX3_close prog_5_method_5_code 2 (some .boolean) ∈ fm_Ts := ⟨wz_class_71, wz_class_72, wz_class_45, wz_class_70⟩
theorem wy_X3_close : yX3_close.cls = RX3 ∧ yX3_close.cls ≠ "java/lang/invoke/MethodHandle" ∧ yX3_close.cls ≠ "java/lang/invoke/VarHandle" ∧ (parseMethodDescriptor yX3_close.desc).map (fun d => d.parameters.length) = some 1 := ⟨rfl, wyc_class_12.1, wyc_class_12.2, wyd_class_0⟩
theorem wm_X3_readPiece : Jvm.Cond.instanceMethod yX3_readPiece ∈ fm_Ts ∧ Jvm.Cond.selects RX3 yX3_readPiece yX3_readPiece ∈ fm_Ts ∧ Jvm.Cond.initialized RX3 ∈ fm_Ts ∧ Jvm.Cond.code yX3_readPiece prog_5_method_11_code 4 (some .boolean) ∈ fm_Ts := ⟨wz_class_74, wz_class_75, wz_class_45, wz_class_73⟩
theorem wy_X3_readPiece : yX3_readPiece.cls = RX3 ∧ yX3_readPiece.cls ≠ "java/lang/invoke/MethodHandle" ∧ yX3_readPiece.cls ≠ "java/lang/invoke/VarHandle" ∧ (parseMethodDescriptor yX3_readPiece.desc).map (fun d => d.parameters.length) = some 1 := ⟨rfl, wyc_class_12.1, wyc_class_12.2, wyd_class_0⟩
theorem wm_X1_leadToEnd : Jvm.Cond.instanceMethod yX1_leadToEnd ∈ fm_Ts ∧ Jvm.Cond.selects RX1 yX1_leadToEnd yX1_leadToEnd ∈ fm_Ts ∧ Jvm.Cond.initialized RX1 ∈ fm_Ts ∧ Jvm.Cond.code yX1_leadToEnd prog_3_method_5_code 2 none ∈ fm_Ts := ⟨wz_class_77, wz_class_78, wz_class_41, wz_class_76⟩
theorem wy_X1_leadToEnd : yX1_leadToEnd.cls = RX1 ∧ yX1_leadToEnd.cls ≠ "java/lang/invoke/MethodHandle" ∧ yX1_leadToEnd.cls ≠ "java/lang/invoke/VarHandle" ∧ (parseMethodDescriptor yX1_leadToEnd.desc).map (fun d => d.parameters.length) = some 1 := ⟨rfl, wyc_class_10.1, wyc_class_10.2, wyd_class_7⟩
theorem wm_X3_readPieces : Jvm.Cond.instanceMethod yX3_readPieces ∈ fm_Ts ∧ Jvm.Cond.selects RX3 yX3_readPieces yX3_readPieces ∈ fm_Ts ∧ Jvm.Cond.initialized RX3 ∈ fm_Ts ∧ Jvm.Cond.code yX3_readPieces prog_5_method_10_code 4 (some .boolean) ∈ fm_Ts := ⟨wz_class_80, wz_class_81, wz_class_45, wz_class_79⟩
theorem wy_X3_readPieces : yX3_readPieces.cls = RX3 ∧ yX3_readPieces.cls ≠ "java/lang/invoke/MethodHandle" ∧ yX3_readPieces.cls ≠ "java/lang/invoke/VarHandle" ∧ (parseMethodDescriptor yX3_readPieces.desc).map (fun d => d.parameters.length) = some 1 := ⟨rfl, wyc_class_12.1, wyc_class_12.2, wyd_class_0⟩
theorem wm_X3_readParts : Jvm.Cond.instanceMethod yX3_readParts ∈ fm_Ts ∧ Jvm.Cond.selects RX3 yX3_readParts yX3_readParts ∈ fm_Ts ∧ Jvm.Cond.initialized RX3 ∈ fm_Ts ∧ Jvm.Cond.code yX3_readParts prog_5_method_9_code 4 (some .boolean) ∈ fm_Ts := ⟨wz_class_83, wz_class_84, wz_class_45, wz_class_82⟩
theorem wy_X3_readParts : yX3_readParts.cls = RX3 ∧ yX3_readParts.cls ≠ "java/lang/invoke/MethodHandle" ∧ yX3_readParts.cls ≠ "java/lang/invoke/VarHandle" ∧ (parseMethodDescriptor yX3_readParts.desc).map (fun d => d.parameters.length) = some 1 := ⟨rfl, wyc_class_12.1, wyc_class_12.2, wyd_class_0⟩
theorem wm_X3_seesDust : Jvm.Cond.instanceMethod yX3_seesDust ∈ fm_Ts ∧ Jvm.Cond.selects RX3 yX3_seesDust yX3_seesDust ∈ fm_Ts ∧ Jvm.Cond.initialized RX3 ∈ fm_Ts ∧ Jvm.Cond.code yX3_seesDust prog_5_method_8_code 3 (some .boolean) ∈ fm_Ts := ⟨wz_class_86, wz_class_87, wz_class_45, wz_class_85⟩
theorem wy_X3_seesDust : yX3_seesDust.cls = RX3 ∧ yX3_seesDust.cls ≠ "java/lang/invoke/MethodHandle" ∧ yX3_seesDust.cls ≠ "java/lang/invoke/VarHandle" ∧ (parseMethodDescriptor yX3_seesDust.desc).map (fun d => d.parameters.length) = some 1 := ⟨rfl, wyc_class_12.1, wyc_class_12.2, wyd_class_0⟩
theorem wm_X3_readClause : Jvm.Cond.instanceMethod yX3_readClause ∈ fm_Ts ∧ Jvm.Cond.selects RX3 yX3_readClause yX3_readClause ∈ fm_Ts ∧ Jvm.Cond.initialized RX3 ∈ fm_Ts ∧ Jvm.Cond.code yX3_readClause prog_5_method_7_code 3 (some .boolean) ∈ fm_Ts := ⟨wz_class_89, wz_class_90, wz_class_45, wz_class_88⟩
theorem wy_X3_readClause : yX3_readClause.cls = RX3 ∧ yX3_readClause.cls ≠ "java/lang/invoke/MethodHandle" ∧ yX3_readClause.cls ≠ "java/lang/invoke/VarHandle" ∧ (parseMethodDescriptor yX3_readClause.desc).map (fun d => d.parameters.length) = some 0 := ⟨rfl, wyc_class_12.1, wyc_class_12.2, wyd_class_14⟩
theorem wm_X3_readText : Jvm.Cond.instanceMethod yX3_readText ∈ fm_Ts ∧ Jvm.Cond.selects RX3 yX3_readText yX3_readText ∈ fm_Ts ∧ Jvm.Cond.initialized RX3 ∈ fm_Ts ∧ Jvm.Cond.code yX3_readText prog_5_method_2_code 4 (some .int) ∈ fm_Ts := ⟨wz_class_92, wz_class_93, wz_class_45, wz_class_91⟩
theorem wyd_class_15 : (parseMethodDescriptor "(I)I").map (fun d => d.parameters.length) = some 1 := by decide +kernel
theorem wy_X3_readText : yX3_readText.cls = RX3 ∧ yX3_readText.cls ≠ "java/lang/invoke/MethodHandle" ∧ yX3_readText.cls ≠ "java/lang/invoke/VarHandle" ∧ (parseMethodDescriptor yX3_readText.desc).map (fun d => d.parameters.length) = some 1 := ⟨rfl, wyc_class_12.1, wyc_class_12.2, wyd_class_15⟩
theorem wm_X1_take : Jvm.Cond.instanceMethod yX1_take ∈ fm_Ts ∧ Jvm.Cond.selects RX1 yX1_take yX1_take ∈ fm_Ts ∧ Jvm.Cond.initialized RX1 ∈ fm_Ts ∧ Jvm.Cond.code yX1_take prog_3_method_2_code 2 none ∈ fm_Ts := ⟨wz_class_95, wz_class_96, wz_class_41, wz_class_94⟩
theorem wyd_class_16 : (parseMethodDescriptor "(LDustMint$Law;)V").map (fun d => d.parameters.length) = some 1 := by decide +kernel
theorem wy_X1_take : yX1_take.cls = RX1 ∧ yX1_take.cls ≠ "java/lang/invoke/MethodHandle" ∧ yX1_take.cls ≠ "java/lang/invoke/VarHandle" ∧ (parseMethodDescriptor yX1_take.desc).map (fun d => d.parameters.length) = some 1 := ⟨rfl, wyc_class_10.1, wyc_class_10.2, wyd_class_16⟩
theorem wm_X7_law : Jvm.Cond.instanceMethod yX7_law ∈ fm_Ts ∧ Jvm.Cond.selects RX7 yX7_law yX7_law ∈ fm_Ts ∧ Jvm.Cond.initialized RX7 ∈ fm_Ts ∧ Jvm.Cond.code yX7_law prog_1_method_8_code 3 (some .int) ∈ fm_Ts := ⟨wz_class_98, wz_class_99, wz_class_9, wz_class_97⟩
theorem wy_X7_law : yX7_law.cls = RX7 ∧ yX7_law.cls ≠ "java/lang/invoke/MethodHandle" ∧ yX7_law.cls ≠ "java/lang/invoke/VarHandle" ∧ (parseMethodDescriptor yX7_law.desc).map (fun d => d.parameters.length) = some 1 := ⟨rfl, wyc_class_1.1, wyc_class_1.2, wyd_class_15⟩
theorem wm_X0_nextDraw : Jvm.Cond.instanceMethod yX0_nextDraw ∈ fm_Ts ∧ Jvm.Cond.selects RX0 yX0_nextDraw yX0_nextDraw ∈ fm_Ts ∧ Jvm.Cond.initialized RX0 ∈ fm_Ts ∧ Jvm.Cond.code yX0_nextDraw prog_2_method_8_code 1 (some .int) ∈ fm_Ts := ⟨wz_class_101, wz_class_102, wz_class_103, wz_class_100⟩
theorem wyc_class_17 : RX0 ≠ "java/lang/invoke/MethodHandle" ∧ RX0 ≠ "java/lang/invoke/VarHandle" := by decide +kernel
theorem wy_X0_nextDraw : yX0_nextDraw.cls = RX0 ∧ yX0_nextDraw.cls ≠ "java/lang/invoke/MethodHandle" ∧ yX0_nextDraw.cls ≠ "java/lang/invoke/VarHandle" ∧ (parseMethodDescriptor yX0_nextDraw.desc).map (fun d => d.parameters.length) = some 0 := ⟨rfl, wyc_class_17.1, wyc_class_17.2, wyd_class_11⟩
theorem wm_X2_climbs : Jvm.Cond.instanceMethod yX2_climbs ∈ fm_Ts ∧ Jvm.Cond.selects RX2 yX2_climbs yX2_climbs ∈ fm_Ts ∧ Jvm.Cond.initialized RX2 ∈ fm_Ts ∧ Jvm.Cond.code yX2_climbs prog_4_method_5_code 2 (some .boolean) ∈ fm_Ts := ⟨wz_class_105, wz_class_106, wz_class_107, wz_class_104⟩
theorem wyc_class_18 : RX2 ≠ "java/lang/invoke/MethodHandle" ∧ RX2 ≠ "java/lang/invoke/VarHandle" := by decide +kernel
theorem wy_X2_climbs : yX2_climbs.cls = RX2 ∧ yX2_climbs.cls ≠ "java/lang/invoke/MethodHandle" ∧ yX2_climbs.cls ≠ "java/lang/invoke/VarHandle" ∧ (parseMethodDescriptor yX2_climbs.desc).map (fun d => d.parameters.length) = some 1 := ⟨rfl, wyc_class_18.1, wyc_class_18.2, wyd_class_0⟩
theorem wm_X1_forgetWho : Jvm.Cond.instanceMethod yX1_forgetWho ∈ fm_Ts ∧ Jvm.Cond.selects RX1 yX1_forgetWho yX1_forgetWho ∈ fm_Ts ∧ Jvm.Cond.initialized RX1 ∈ fm_Ts ∧ Jvm.Cond.code yX1_forgetWho prog_3_method_6_code 2 none ∈ fm_Ts := ⟨wz_class_109, wz_class_110, wz_class_41, wz_class_108⟩
theorem wy_X1_forgetWho : yX1_forgetWho.cls = RX1 ∧ yX1_forgetWho.cls ≠ "java/lang/invoke/MethodHandle" ∧ yX1_forgetWho.cls ≠ "java/lang/invoke/VarHandle" ∧ (parseMethodDescriptor yX1_forgetWho.desc).map (fun d => d.parameters.length) = some 0 := ⟨rfl, wyc_class_10.1, wyc_class_10.2, wyd_class_9⟩
theorem wm_X0_show : Jvm.Cond.instanceMethod yX0_show ∈ fm_Ts ∧ Jvm.Cond.selects RX0 yX0_show yX0_show ∈ fm_Ts ∧ Jvm.Cond.initialized RX0 ∈ fm_Ts ∧ Jvm.Cond.code yX0_show prog_2_method_12_code 3 none ∈ fm_Ts := ⟨wz_class_112, wz_class_113, wz_class_103, wz_class_111⟩
theorem wyd_class_19 : (parseMethodDescriptor "(LDustMint$Law;I)V").map (fun d => d.parameters.length) = some 2 := by decide +kernel
theorem wy_X0_show : yX0_show.cls = RX0 ∧ yX0_show.cls ≠ "java/lang/invoke/MethodHandle" ∧ yX0_show.cls ≠ "java/lang/invoke/VarHandle" ∧ (parseMethodDescriptor yX0_show.desc).map (fun d => d.parameters.length) = some 2 := ⟨rfl, wyc_class_17.1, wyc_class_17.2, wyd_class_19⟩
theorem wm_X2_countAt : Jvm.Cond.instanceMethod yX2_countAt ∈ fm_Ts ∧ Jvm.Cond.selects RX2 yX2_countAt yX2_countAt ∈ fm_Ts ∧ Jvm.Cond.initialized RX2 ∈ fm_Ts ∧ Jvm.Cond.code yX2_countAt prog_4_method_7_code 4 (some .int) ∈ fm_Ts := ⟨wz_class_115, wz_class_116, wz_class_107, wz_class_114⟩
theorem wy_X2_countAt : yX2_countAt.cls = RX2 ∧ yX2_countAt.cls ≠ "java/lang/invoke/MethodHandle" ∧ yX2_countAt.cls ≠ "java/lang/invoke/VarHandle" ∧ (parseMethodDescriptor yX2_countAt.desc).map (fun d => d.parameters.length) = some 1 := ⟨rfl, wyc_class_18.1, wyc_class_18.2, wyd_class_15⟩
theorem wm_X1_reckon : Jvm.Cond.instanceMethod yX1_reckon ∈ fm_Ts ∧ Jvm.Cond.selects RX1 yX1_reckon yX1_reckon ∈ fm_Ts ∧ Jvm.Cond.initialized RX1 ∈ fm_Ts ∧ Jvm.Cond.code yX1_reckon prog_3_method_9_code 9 (some .int) ∈ fm_Ts := ⟨wz_class_118, wz_class_119, wz_class_41, wz_class_117⟩
theorem wy_X1_reckon : yX1_reckon.cls = RX1 ∧ yX1_reckon.cls ≠ "java/lang/invoke/MethodHandle" ∧ yX1_reckon.cls ≠ "java/lang/invoke/VarHandle" ∧ (parseMethodDescriptor yX1_reckon.desc).map (fun d => d.parameters.length) = some 2 := ⟨rfl, wyc_class_10.1, wyc_class_10.2, wyd_class_13⟩
theorem wm_J9_min_7cf53 : Jvm.Cond.static yJ9_min_7cf53 ∈ fm_Ts ∧ Jvm.Cond.initialized yJ9_min_7cf53.cls ∈ fm_Ts ∧ Jvm.Cond.code yJ9_min_7cf53 prog_13_method_69_code 2 (some .int) ∈ fm_Ts := ⟨wz_class_121, wz_class_122, wz_class_120⟩
theorem wyc_class_20 : "java/lang/Math" ≠ "java/lang/invoke/MethodHandle" ∧ "java/lang/Math" ≠ "java/lang/invoke/VarHandle" := by decide +kernel
theorem wy_J9_min_7cf53 : yJ9_min_7cf53.cls ≠ "java/lang/invoke/MethodHandle" ∧ yJ9_min_7cf53.cls ≠ "java/lang/invoke/VarHandle" ∧ (parseMethodDescriptor yJ9_min_7cf53.desc).map (fun d => d.parameters.length) = some 2 := ⟨wyc_class_20.1, wyc_class_20.2, wyd_class_13⟩
theorem wm_J9_max_7cf53 : Jvm.Cond.static yJ9_max_7cf53 ∈ fm_Ts ∧ Jvm.Cond.initialized yJ9_max_7cf53.cls ∈ fm_Ts ∧ Jvm.Cond.code yJ9_max_7cf53 prog_13_method_65_code 2 (some .int) ∈ fm_Ts := ⟨wz_class_124, wz_class_125, wz_class_123⟩
theorem wy_J9_max_7cf53 : yJ9_max_7cf53.cls ≠ "java/lang/invoke/MethodHandle" ∧ yJ9_max_7cf53.cls ≠ "java/lang/invoke/VarHandle" ∧ (parseMethodDescriptor yJ9_max_7cf53.desc).map (fun d => d.parameters.length) = some 2 := ⟨wyc_class_20.1, wyc_class_20.2, wyd_class_13⟩
theorem wm_X1_amount : Jvm.Cond.instanceMethod yX1_amount ∈ fm_Ts ∧ Jvm.Cond.selects RX1 yX1_amount yX1_amount ∈ fm_Ts ∧ Jvm.Cond.initialized RX1 ∈ fm_Ts ∧ Jvm.Cond.code yX1_amount prog_3_method_8_code 3 (some .int) ∈ fm_Ts := ⟨wz_class_127, wz_class_128, wz_class_41, wz_class_126⟩
theorem wy_X1_amount : yX1_amount.cls = RX1 ∧ yX1_amount.cls ≠ "java/lang/invoke/MethodHandle" ∧ yX1_amount.cls ≠ "java/lang/invoke/VarHandle" ∧ (parseMethodDescriptor yX1_amount.desc).map (fun d => d.parameters.length) = some 1 := ⟨rfl, wyc_class_10.1, wyc_class_10.2, wyd_class_15⟩
theorem wm_X0_loss : Jvm.Cond.instanceMethod yX0_loss ∈ fm_Ts ∧ Jvm.Cond.selects RX0 yX0_loss yX0_loss ∈ fm_Ts ∧ Jvm.Cond.initialized RX0 ∈ fm_Ts ∧ Jvm.Cond.code yX0_loss prog_2_method_11_code 5 (some .int) ∈ fm_Ts := ⟨wz_class_130, wz_class_131, wz_class_103, wz_class_129⟩
theorem wyd_class_21 : (parseMethodDescriptor "(LDustMint$Law;II)I").map (fun d => d.parameters.length) = some 3 := by decide +kernel
theorem wy_X0_loss : yX0_loss.cls = RX0 ∧ yX0_loss.cls ≠ "java/lang/invoke/MethodHandle" ∧ yX0_loss.cls ≠ "java/lang/invoke/VarHandle" ∧ (parseMethodDescriptor yX0_loss.desc).map (fun d => d.parameters.length) = some 3 := ⟨rfl, wyc_class_17.1, wyc_class_17.2, wyd_class_21⟩
theorem wm_X0_heap : Jvm.Cond.instanceMethod yX0_heap ∈ fm_Ts ∧ Jvm.Cond.selects RX0 yX0_heap yX0_heap ∈ fm_Ts ∧ Jvm.Cond.initialized RX0 ∈ fm_Ts ∧ Jvm.Cond.code yX0_heap prog_2_method_13_code 5 none ∈ fm_Ts := ⟨wz_class_133, wz_class_134, wz_class_103, wz_class_132⟩
theorem wyd_class_22 : (parseMethodDescriptor "(II)V").map (fun d => d.parameters.length) = some 2 := by decide +kernel
theorem wy_X0_heap : yX0_heap.cls = RX0 ∧ yX0_heap.cls ≠ "java/lang/invoke/MethodHandle" ∧ yX0_heap.cls ≠ "java/lang/invoke/VarHandle" ∧ (parseMethodDescriptor yX0_heap.desc).map (fun d => d.parameters.length) = some 2 := ⟨rfl, wyc_class_17.1, wyc_class_17.2, wyd_class_22⟩
theorem wm_X0_spill : Jvm.Cond.instanceMethod yX0_spill ∈ fm_Ts ∧ Jvm.Cond.selects RX0 yX0_spill yX0_spill ∈ fm_Ts ∧ Jvm.Cond.initialized RX0 ∈ fm_Ts ∧ Jvm.Cond.code yX0_spill prog_2_method_10_code 7 (some .int) ∈ fm_Ts := ⟨wz_class_136, wz_class_137, wz_class_103, wz_class_135⟩
theorem wyd_class_23 : (parseMethodDescriptor "(LDustMint$Law;I)I").map (fun d => d.parameters.length) = some 2 := by decide +kernel
theorem wy_X0_spill : yX0_spill.cls = RX0 ∧ yX0_spill.cls ≠ "java/lang/invoke/MethodHandle" ∧ yX0_spill.cls ≠ "java/lang/invoke/VarHandle" ∧ (parseMethodDescriptor yX0_spill.desc).map (fun d => d.parameters.length) = some 2 := ⟨rfl, wyc_class_17.1, wyc_class_17.2, wyd_class_23⟩
theorem wm_X0_climb : Jvm.Cond.instanceMethod yX0_climb ∈ fm_Ts ∧ Jvm.Cond.selects RX0 yX0_climb yX0_climb ∈ fm_Ts ∧ Jvm.Cond.initialized RX0 ∈ fm_Ts ∧ Jvm.Cond.code yX0_climb prog_2_method_14_code 2 none ∈ fm_Ts := ⟨wz_class_139, wz_class_140, wz_class_103, wz_class_138⟩
theorem wy_X0_climb : yX0_climb.cls = RX0 ∧ yX0_climb.cls ≠ "java/lang/invoke/MethodHandle" ∧ yX0_climb.cls ≠ "java/lang/invoke/VarHandle" ∧ (parseMethodDescriptor yX0_climb.desc).map (fun d => d.parameters.length) = some 0 := ⟨rfl, wyc_class_17.1, wyc_class_17.2, wyd_class_9⟩
theorem wm_X1_has : Jvm.Cond.instanceMethod yX1_has ∈ fm_Ts ∧ Jvm.Cond.selects RX1 yX1_has yX1_has ∈ fm_Ts ∧ Jvm.Cond.initialized RX1 ∈ fm_Ts ∧ Jvm.Cond.code yX1_has prog_3_method_7_code 3 (some .boolean) ∈ fm_Ts := ⟨wz_class_142, wz_class_143, wz_class_41, wz_class_141⟩
theorem wy_X1_has : yX1_has.cls = RX1 ∧ yX1_has.cls ≠ "java/lang/invoke/MethodHandle" ∧ yX1_has.cls ≠ "java/lang/invoke/VarHandle" ∧ (parseMethodDescriptor yX1_has.desc).map (fun d => d.parameters.length) = some 1 := ⟨rfl, wyc_class_10.1, wyc_class_10.2, wyd_class_0⟩
theorem wm_X0_taken : Jvm.Cond.instanceMethod yX0_taken ∈ fm_Ts ∧ Jvm.Cond.selects RX0 yX0_taken yX0_taken ∈ fm_Ts ∧ Jvm.Cond.initialized RX0 ∈ fm_Ts ∧ Jvm.Cond.code yX0_taken prog_2_method_18_code 4 (some .int) ∈ fm_Ts := ⟨wz_class_145, wz_class_146, wz_class_103, wz_class_144⟩
theorem wy_X0_taken : yX0_taken.cls = RX0 ∧ yX0_taken.cls ≠ "java/lang/invoke/MethodHandle" ∧ yX0_taken.cls ≠ "java/lang/invoke/VarHandle" ∧ (parseMethodDescriptor yX0_taken.desc).map (fun d => d.parameters.length) = some 3 := ⟨rfl, wyc_class_17.1, wyc_class_17.2, wyd_class_21⟩
theorem wm_X0_blow : Jvm.Cond.instanceMethod yX0_blow ∈ fm_Ts ∧ Jvm.Cond.selects RX0 yX0_blow yX0_blow ∈ fm_Ts ∧ Jvm.Cond.initialized RX0 ∈ fm_Ts ∧ Jvm.Cond.code yX0_blow prog_2_method_15_code 3 none ∈ fm_Ts := ⟨wz_class_148, wz_class_149, wz_class_103, wz_class_147⟩
theorem wy_X0_blow : yX0_blow.cls = RX0 ∧ yX0_blow.cls ≠ "java/lang/invoke/MethodHandle" ∧ yX0_blow.cls ≠ "java/lang/invoke/VarHandle" ∧ (parseMethodDescriptor yX0_blow.desc).map (fun d => d.parameters.length) = some 1 := ⟨rfl, wyc_class_17.1, wyc_class_17.2, wyd_class_16⟩
theorem wm_X0_wash : Jvm.Cond.instanceMethod yX0_wash ∈ fm_Ts ∧ Jvm.Cond.selects RX0 yX0_wash yX0_wash ∈ fm_Ts ∧ Jvm.Cond.initialized RX0 ∈ fm_Ts ∧ Jvm.Cond.code yX0_wash prog_2_method_16_code 4 none ∈ fm_Ts := ⟨wz_class_151, wz_class_152, wz_class_103, wz_class_150⟩
theorem wy_X0_wash : yX0_wash.cls = RX0 ∧ yX0_wash.cls ≠ "java/lang/invoke/MethodHandle" ∧ yX0_wash.cls ≠ "java/lang/invoke/VarHandle" ∧ (parseMethodDescriptor yX0_wash.desc).map (fun d => d.parameters.length) = some 1 := ⟨rfl, wyc_class_17.1, wyc_class_17.2, wyd_class_16⟩
theorem wm_X0_sieve : Jvm.Cond.instanceMethod yX0_sieve ∈ fm_Ts ∧ Jvm.Cond.selects RX0 yX0_sieve yX0_sieve ∈ fm_Ts ∧ Jvm.Cond.initialized RX0 ∈ fm_Ts ∧ Jvm.Cond.code yX0_sieve prog_2_method_17_code 5 none ∈ fm_Ts := ⟨wz_class_154, wz_class_155, wz_class_103, wz_class_153⟩
theorem wy_X0_sieve : yX0_sieve.cls = RX0 ∧ yX0_sieve.cls ≠ "java/lang/invoke/MethodHandle" ∧ yX0_sieve.cls ≠ "java/lang/invoke/VarHandle" ∧ (parseMethodDescriptor yX0_sieve.desc).map (fun d => d.parameters.length) = some 1 := ⟨rfl, wyc_class_17.1, wyc_class_17.2, wyd_class_16⟩
theorem wm_X0_pass : Jvm.Cond.instanceMethod yX0_pass ∈ fm_Ts ∧ Jvm.Cond.selects RX0 yX0_pass yX0_pass ∈ fm_Ts ∧ Jvm.Cond.initialized RX0 ∈ fm_Ts ∧ Jvm.Cond.code yX0_pass prog_2_method_9_code 4 (some .int) ∈ fm_Ts := ⟨wz_class_157, wz_class_158, wz_class_103, wz_class_156⟩
theorem wy_X0_pass : yX0_pass.cls = RX0 ∧ yX0_pass.cls ≠ "java/lang/invoke/MethodHandle" ∧ yX0_pass.cls ≠ "java/lang/invoke/VarHandle" ∧ (parseMethodDescriptor yX0_pass.desc).map (fun d => d.parameters.length) = some 2 := ⟨rfl, wyc_class_17.1, wyc_class_17.2, wyd_class_23⟩
theorem wm_X0_passDrawn : Jvm.Cond.instanceMethod yX0_passDrawn ∈ fm_Ts ∧ Jvm.Cond.selects RX0 yX0_passDrawn yX0_passDrawn ∈ fm_Ts ∧ Jvm.Cond.initialized RX0 ∈ fm_Ts ∧ Jvm.Cond.code yX0_passDrawn prog_2_method_6_code 5 (some .int) ∈ fm_Ts := ⟨wz_class_160, wz_class_161, wz_class_103, wz_class_159⟩
theorem wy_X0_passDrawn : yX0_passDrawn.cls = RX0 ∧ yX0_passDrawn.cls ≠ "java/lang/invoke/MethodHandle" ∧ yX0_passDrawn.cls ≠ "java/lang/invoke/VarHandle" ∧ (parseMethodDescriptor yX0_passDrawn.desc).map (fun d => d.parameters.length) = some 2 := ⟨rfl, wyc_class_17.1, wyc_class_17.2, wyd_class_23⟩
theorem wm_X7_hours : Jvm.Cond.instanceMethod yX7_hours ∈ fm_Ts ∧ Jvm.Cond.selects RX7 yX7_hours yX7_hours ∈ fm_Ts ∧ Jvm.Cond.initialized RX7 ∈ fm_Ts ∧ Jvm.Cond.code yX7_hours prog_1_method_9_code 2 (some .int) ∈ fm_Ts := ⟨wz_class_163, wz_class_164, wz_class_9, wz_class_162⟩
theorem wy_X7_hours : yX7_hours.cls = RX7 ∧ yX7_hours.cls ≠ "java/lang/invoke/MethodHandle" ∧ yX7_hours.cls ≠ "java/lang/invoke/VarHandle" ∧ (parseMethodDescriptor yX7_hours.desc).map (fun d => d.parameters.length) = some 1 := ⟨rfl, wyc_class_1.1, wyc_class_1.2, wyd_class_15⟩
theorem wm_X7_hour : Jvm.Cond.instanceMethod yX7_hour ∈ fm_Ts ∧ Jvm.Cond.selects RX7 yX7_hour yX7_hour ∈ fm_Ts ∧ Jvm.Cond.initialized RX7 ∈ fm_Ts ∧ Jvm.Cond.code yX7_hour prog_1_method_10_code 2 (some .int) ∈ fm_Ts := ⟨wz_class_166, wz_class_167, wz_class_9, wz_class_165⟩
theorem wy_X7_hour : yX7_hour.cls = RX7 ∧ yX7_hour.cls ≠ "java/lang/invoke/MethodHandle" ∧ yX7_hour.cls ≠ "java/lang/invoke/VarHandle" ∧ (parseMethodDescriptor yX7_hour.desc).map (fun d => d.parameters.length) = some 1 := ⟨rfl, wyc_class_1.1, wyc_class_1.2, wyd_class_15⟩
theorem wm_X7_yardIs : Jvm.Cond.instanceMethod yX7_yardIs ∈ fm_Ts ∧ Jvm.Cond.selects RX7 yX7_yardIs yX7_yardIs ∈ fm_Ts ∧ Jvm.Cond.initialized RX7 ∈ fm_Ts ∧ Jvm.Cond.code yX7_yardIs prog_1_method_11_code 3 (some .int) ∈ fm_Ts := ⟨wz_class_169, wz_class_170, wz_class_9, wz_class_168⟩
theorem wy_X7_yardIs : yX7_yardIs.cls = RX7 ∧ yX7_yardIs.cls ≠ "java/lang/invoke/MethodHandle" ∧ yX7_yardIs.cls ≠ "java/lang/invoke/VarHandle" ∧ (parseMethodDescriptor yX7_yardIs.desc).map (fun d => d.parameters.length) = some 2 := ⟨rfl, wyc_class_1.1, wyc_class_1.2, wyd_class_13⟩
theorem wm_X2_isTold : Jvm.Cond.instanceMethod yX2_isTold ∈ fm_Ts ∧ Jvm.Cond.selects RX2 yX2_isTold yX2_isTold ∈ fm_Ts ∧ Jvm.Cond.initialized RX2 ∈ fm_Ts ∧ Jvm.Cond.code yX2_isTold prog_4_method_4_code 2 (some .boolean) ∈ fm_Ts := ⟨wz_class_172, wz_class_173, wz_class_107, wz_class_171⟩
theorem wy_X2_isTold : yX2_isTold.cls = RX2 ∧ yX2_isTold.cls ≠ "java/lang/invoke/MethodHandle" ∧ yX2_isTold.cls ≠ "java/lang/invoke/VarHandle" ∧ (parseMethodDescriptor yX2_isTold.desc).map (fun d => d.parameters.length) = some 1 := ⟨rfl, wyc_class_18.1, wyc_class_18.2, wyd_class_0⟩
theorem wm_X7_porterIs : Jvm.Cond.instanceMethod yX7_porterIs ∈ fm_Ts ∧ Jvm.Cond.selects RX7 yX7_porterIs yX7_porterIs ∈ fm_Ts ∧ Jvm.Cond.initialized RX7 ∈ fm_Ts ∧ Jvm.Cond.code yX7_porterIs prog_1_method_12_code 3 (some .int) ∈ fm_Ts := ⟨wz_class_175, wz_class_176, wz_class_9, wz_class_174⟩
theorem wy_X7_porterIs : yX7_porterIs.cls = RX7 ∧ yX7_porterIs.cls ≠ "java/lang/invoke/MethodHandle" ∧ yX7_porterIs.cls ≠ "java/lang/invoke/VarHandle" ∧ (parseMethodDescriptor yX7_porterIs.desc).map (fun d => d.parameters.length) = some 2 := ⟨rfl, wyc_class_1.1, wyc_class_1.2, wyd_class_13⟩
theorem wm_X7_isTriable : Jvm.Cond.instanceMethod yX7_isTriable ∈ fm_Ts ∧ Jvm.Cond.selects RX7 yX7_isTriable yX7_isTriable ∈ fm_Ts ∧ Jvm.Cond.initialized RX7 ∈ fm_Ts ∧ Jvm.Cond.code yX7_isTriable prog_1_method_14_code 2 (some .boolean) ∈ fm_Ts := ⟨wz_class_178, wz_class_179, wz_class_9, wz_class_177⟩
theorem wy_X7_isTriable : yX7_isTriable.cls = RX7 ∧ yX7_isTriable.cls ≠ "java/lang/invoke/MethodHandle" ∧ yX7_isTriable.cls ≠ "java/lang/invoke/VarHandle" ∧ (parseMethodDescriptor yX7_isTriable.desc).map (fun d => d.parameters.length) = some 1 := ⟨rfl, wyc_class_1.1, wyc_class_1.2, wyd_class_0⟩
theorem wm_X2_takeMoving : Jvm.Cond.instanceMethod yX2_takeMoving ∈ fm_Ts ∧ Jvm.Cond.selects RX2 yX2_takeMoving yX2_takeMoving ∈ fm_Ts ∧ Jvm.Cond.initialized RX2 ∈ fm_Ts ∧ Jvm.Cond.code yX2_takeMoving prog_4_method_3_code 2 none ∈ fm_Ts := ⟨wz_class_181, wz_class_182, wz_class_107, wz_class_180⟩
theorem wyd_class_24 : (parseMethodDescriptor "(LDustMint$Porters;)V").map (fun d => d.parameters.length) = some 1 := by decide +kernel
theorem wy_X2_takeMoving : yX2_takeMoving.cls = RX2 ∧ yX2_takeMoving.cls ≠ "java/lang/invoke/MethodHandle" ∧ yX2_takeMoving.cls ≠ "java/lang/invoke/VarHandle" ∧ (parseMethodDescriptor yX2_takeMoving.desc).map (fun d => d.parameters.length) = some 1 := ⟨rfl, wyc_class_18.1, wyc_class_18.2, wyd_class_24⟩
theorem wm_X0_takeMoving : Jvm.Cond.instanceMethod yX0_takeMoving ∈ fm_Ts ∧ Jvm.Cond.selects RX0 yX0_takeMoving yX0_takeMoving ∈ fm_Ts ∧ Jvm.Cond.initialized RX0 ∈ fm_Ts ∧ Jvm.Cond.code yX0_takeMoving prog_2_method_3_code 2 none ∈ fm_Ts := ⟨wz_class_184, wz_class_185, wz_class_103, wz_class_183⟩
theorem wyd_class_25 : (parseMethodDescriptor "(LDustMint$Hill;)V").map (fun d => d.parameters.length) = some 1 := by decide +kernel
theorem wy_X0_takeMoving : yX0_takeMoving.cls = RX0 ∧ yX0_takeMoving.cls ≠ "java/lang/invoke/MethodHandle" ∧ yX0_takeMoving.cls ≠ "java/lang/invoke/VarHandle" ∧ (parseMethodDescriptor yX0_takeMoving.desc).map (fun d => d.parameters.length) = some 1 := ⟨rfl, wyc_class_17.1, wyc_class_17.2, wyd_class_25⟩
theorem wm_X2_takeAll : Jvm.Cond.instanceMethod yX2_takeAll ∈ fm_Ts ∧ Jvm.Cond.selects RX2 yX2_takeAll yX2_takeAll ∈ fm_Ts ∧ Jvm.Cond.initialized RX2 ∈ fm_Ts ∧ Jvm.Cond.code yX2_takeAll prog_4_method_2_code 2 none ∈ fm_Ts := ⟨wz_class_187, wz_class_188, wz_class_107, wz_class_186⟩
theorem wy_X2_takeAll : yX2_takeAll.cls = RX2 ∧ yX2_takeAll.cls ≠ "java/lang/invoke/MethodHandle" ∧ yX2_takeAll.cls ≠ "java/lang/invoke/VarHandle" ∧ (parseMethodDescriptor yX2_takeAll.desc).map (fun d => d.parameters.length) = some 1 := ⟨rfl, wyc_class_18.1, wyc_class_18.2, wyd_class_24⟩
theorem wm_X0_takeAll : Jvm.Cond.instanceMethod yX0_takeAll ∈ fm_Ts ∧ Jvm.Cond.selects RX0 yX0_takeAll yX0_takeAll ∈ fm_Ts ∧ Jvm.Cond.initialized RX0 ∈ fm_Ts ∧ Jvm.Cond.code yX0_takeAll prog_2_method_2_code 2 none ∈ fm_Ts := ⟨wz_class_190, wz_class_191, wz_class_103, wz_class_189⟩
theorem wy_X0_takeAll : yX0_takeAll.cls = RX0 ∧ yX0_takeAll.cls ≠ "java/lang/invoke/MethodHandle" ∧ yX0_takeAll.cls ≠ "java/lang/invoke/VarHandle" ∧ (parseMethodDescriptor yX0_takeAll.desc).map (fun d => d.parameters.length) = some 1 := ⟨rfl, wyc_class_17.1, wyc_class_17.2, wyd_class_25⟩
theorem wm_X7_tried : Jvm.Cond.instanceMethod yX7_tried ∈ fm_Ts ∧ Jvm.Cond.selects RX7 yX7_tried yX7_tried ∈ fm_Ts ∧ Jvm.Cond.initialized RX7 ∈ fm_Ts ∧ Jvm.Cond.code yX7_tried prog_1_method_13_code 4 (some .int) ∈ fm_Ts := ⟨wz_class_193, wz_class_194, wz_class_9, wz_class_192⟩
theorem wy_X7_tried : yX7_tried.cls = RX7 ∧ yX7_tried.cls ≠ "java/lang/invoke/MethodHandle" ∧ yX7_tried.cls ≠ "java/lang/invoke/VarHandle" ∧ (parseMethodDescriptor yX7_tried.desc).map (fun d => d.parameters.length) = some 2 := ⟨rfl, wyc_class_1.1, wyc_class_1.2, wyd_class_13⟩
theorem wm_X4_begin : Jvm.Cond.instanceMethod yX4_begin ∈ fm_Ts ∧ Jvm.Cond.selects RX4 yX4_begin yX4_begin ∈ fm_Ts ∧ Jvm.Cond.initialized RX4 ∈ fm_Ts ∧ Jvm.Cond.code yX4_begin prog_6_method_2_code 4 none ∈ fm_Ts := ⟨wz_class_196, wz_class_197, wz_class_198, wz_class_195⟩
theorem wyd_class_26 : (parseMethodDescriptor "(III)V").map (fun d => d.parameters.length) = some 3 := by decide +kernel
theorem wyc_class_27 : RX4 ≠ "java/lang/invoke/MethodHandle" ∧ RX4 ≠ "java/lang/invoke/VarHandle" := by decide +kernel
theorem wy_X4_begin : yX4_begin.cls = RX4 ∧ yX4_begin.cls ≠ "java/lang/invoke/MethodHandle" ∧ yX4_begin.cls ≠ "java/lang/invoke/VarHandle" ∧ (parseMethodDescriptor yX4_begin.desc).map (fun d => d.parameters.length) = some 3 := ⟨rfl, wyc_class_27.1, wyc_class_27.2, wyd_class_26⟩
theorem wm_X4_grant : Jvm.Cond.instanceMethod yX4_grant ∈ fm_Ts ∧ Jvm.Cond.selects RX4 yX4_grant yX4_grant ∈ fm_Ts ∧ Jvm.Cond.initialized RX4 ∈ fm_Ts ∧ Jvm.Cond.code yX4_grant prog_6_method_9_code 4 none ∈ fm_Ts := ⟨wz_class_200, wz_class_201, wz_class_198, wz_class_199⟩
theorem wy_X4_grant : yX4_grant.cls = RX4 ∧ yX4_grant.cls ≠ "java/lang/invoke/MethodHandle" ∧ yX4_grant.cls ≠ "java/lang/invoke/VarHandle" ∧ (parseMethodDescriptor yX4_grant.desc).map (fun d => d.parameters.length) = some 2 := ⟨rfl, wyc_class_27.1, wyc_class_27.2, wyd_class_22⟩
theorem wm_X4_weigh : Jvm.Cond.instanceMethod yX4_weigh ∈ fm_Ts ∧ Jvm.Cond.selects RX4 yX4_weigh yX4_weigh ∈ fm_Ts ∧ Jvm.Cond.initialized RX4 ∈ fm_Ts ∧ Jvm.Cond.code yX4_weigh prog_6_method_8_code 3 (some .int) ∈ fm_Ts := ⟨wz_class_203, wz_class_204, wz_class_198, wz_class_202⟩
theorem wy_X4_weigh : yX4_weigh.cls = RX4 ∧ yX4_weigh.cls ≠ "java/lang/invoke/MethodHandle" ∧ yX4_weigh.cls ≠ "java/lang/invoke/VarHandle" ∧ (parseMethodDescriptor yX4_weigh.desc).map (fun d => d.parameters.length) = some 1 := ⟨rfl, wyc_class_27.1, wyc_class_27.2, wyd_class_15⟩
theorem wm_X4_hasBit : Jvm.Cond.static yX4_hasBit ∈ fm_Ts ∧ Jvm.Cond.initialized yX4_hasBit.cls ∈ fm_Ts ∧ Jvm.Cond.code yX4_hasBit prog_6_method_7_code 2 (some .boolean) ∈ fm_Ts := ⟨wz_class_206, wz_class_207, wz_class_205⟩
theorem wy_X4_hasBit : yX4_hasBit.cls ≠ "java/lang/invoke/MethodHandle" ∧ yX4_hasBit.cls ≠ "java/lang/invoke/VarHandle" ∧ (parseMethodDescriptor yX4_hasBit.desc).map (fun d => d.parameters.length) = some 2 := ⟨wyc_class_27.1, wyc_class_27.2, wyd_class_4⟩
theorem wm_X4_weighOnes : Jvm.Cond.instanceMethod yX4_weighOnes ∈ fm_Ts ∧ Jvm.Cond.selects RX4 yX4_weighOnes yX4_weighOnes ∈ fm_Ts ∧ Jvm.Cond.initialized RX4 ∈ fm_Ts ∧ Jvm.Cond.code yX4_weighOnes prog_6_method_4_code 3 none ∈ fm_Ts := ⟨wz_class_209, wz_class_210, wz_class_198, wz_class_208⟩
theorem wy_X4_weighOnes : yX4_weighOnes.cls = RX4 ∧ yX4_weighOnes.cls ≠ "java/lang/invoke/MethodHandle" ∧ yX4_weighOnes.cls ≠ "java/lang/invoke/VarHandle" ∧ (parseMethodDescriptor yX4_weighOnes.desc).map (fun d => d.parameters.length) = some 0 := ⟨rfl, wyc_class_27.1, wyc_class_27.2, wyd_class_9⟩
theorem wm_X4_weighPairs : Jvm.Cond.instanceMethod yX4_weighPairs ∈ fm_Ts ∧ Jvm.Cond.selects RX4 yX4_weighPairs yX4_weighPairs ∈ fm_Ts ∧ Jvm.Cond.initialized RX4 ∈ fm_Ts ∧ Jvm.Cond.code yX4_weighPairs prog_6_method_5_code 4 none ∈ fm_Ts := ⟨wz_class_212, wz_class_213, wz_class_198, wz_class_211⟩
theorem wy_X4_weighPairs : yX4_weighPairs.cls = RX4 ∧ yX4_weighPairs.cls ≠ "java/lang/invoke/MethodHandle" ∧ yX4_weighPairs.cls ≠ "java/lang/invoke/VarHandle" ∧ (parseMethodDescriptor yX4_weighPairs.desc).map (fun d => d.parameters.length) = some 0 := ⟨rfl, wyc_class_27.1, wyc_class_27.2, wyd_class_9⟩
theorem wm_X4_weighTriples : Jvm.Cond.instanceMethod yX4_weighTriples ∈ fm_Ts ∧ Jvm.Cond.selects RX4 yX4_weighTriples yX4_weighTriples ∈ fm_Ts ∧ Jvm.Cond.initialized RX4 ∈ fm_Ts ∧ Jvm.Cond.code yX4_weighTriples prog_6_method_6_code 5 none ∈ fm_Ts := ⟨wz_class_215, wz_class_216, wz_class_198, wz_class_214⟩
theorem wy_X4_weighTriples : yX4_weighTriples.cls = RX4 ∧ yX4_weighTriples.cls ≠ "java/lang/invoke/MethodHandle" ∧ yX4_weighTriples.cls ≠ "java/lang/invoke/VarHandle" ∧ (parseMethodDescriptor yX4_weighTriples.desc).map (fun d => d.parameters.length) = some 0 := ⟨rfl, wyc_class_27.1, wyc_class_27.2, wyd_class_9⟩
theorem wm_X4_bestAt : Jvm.Cond.instanceMethod yX4_bestAt ∈ fm_Ts ∧ Jvm.Cond.selects RX4 yX4_bestAt yX4_bestAt ∈ fm_Ts ∧ Jvm.Cond.initialized RX4 ∈ fm_Ts ∧ Jvm.Cond.code yX4_bestAt prog_6_method_3_code 2 (some .int) ∈ fm_Ts := ⟨wz_class_218, wz_class_219, wz_class_198, wz_class_217⟩
theorem wy_X4_bestAt : yX4_bestAt.cls = RX4 ∧ yX4_bestAt.cls ≠ "java/lang/invoke/MethodHandle" ∧ yX4_bestAt.cls ≠ "java/lang/invoke/VarHandle" ∧ (parseMethodDescriptor yX4_bestAt.desc).map (fun d => d.parameters.length) = some 1 := ⟨rfl, wyc_class_27.1, wyc_class_27.2, wyd_class_15⟩
theorem wm_X7_sieved : Jvm.Cond.instanceMethod yX7_sieved ∈ fm_Ts ∧ Jvm.Cond.selects RX7 yX7_sieved yX7_sieved ∈ fm_Ts ∧ Jvm.Cond.initialized RX7 ∈ fm_Ts ∧ Jvm.Cond.code yX7_sieved prog_1_method_15_code 6 (some .int) ∈ fm_Ts := ⟨wz_class_221, wz_class_222, wz_class_9, wz_class_220⟩
theorem wy_X7_sieved : yX7_sieved.cls = RX7 ∧ yX7_sieved.cls ≠ "java/lang/invoke/MethodHandle" ∧ yX7_sieved.cls ≠ "java/lang/invoke/VarHandle" ∧ (parseMethodDescriptor yX7_sieved.desc).map (fun d => d.parameters.length) = some 5 := ⟨rfl, wyc_class_1.1, wyc_class_1.2, wyd_class_8⟩
theorem wm_J6_bitCount_0f7a4 : Jvm.Cond.static yJ6_bitCount_0f7a4 ∈ fm_Ts ∧ Jvm.Cond.initialized yJ6_bitCount_0f7a4.cls ∈ fm_Ts ∧ Jvm.Cond.code yJ6_bitCount_0f7a4 prog_12_method_49_code 1 (some .int) ∈ fm_Ts := ⟨wz_class_224, wz_class_225, wz_class_223⟩
theorem wyc_class_28 : "java/lang/Integer" ≠ "java/lang/invoke/MethodHandle" ∧ "java/lang/Integer" ≠ "java/lang/invoke/VarHandle" := by decide +kernel
theorem wy_J6_bitCount_0f7a4 : yJ6_bitCount_0f7a4.cls ≠ "java/lang/invoke/MethodHandle" ∧ yJ6_bitCount_0f7a4.cls ≠ "java/lang/invoke/VarHandle" ∧ (parseMethodDescriptor yJ6_bitCount_0f7a4.desc).map (fun d => d.parameters.length) = some 1 := ⟨wyc_class_28.1, wyc_class_28.2, wyd_class_15⟩
theorem wm_X2_allClimb : Jvm.Cond.instanceMethod yX2_allClimb ∈ fm_Ts ∧ Jvm.Cond.selects RX2 yX2_allClimb yX2_allClimb ∈ fm_Ts ∧ Jvm.Cond.initialized RX2 ∈ fm_Ts ∧ Jvm.Cond.code yX2_allClimb prog_4_method_6_code 3 (some .boolean) ∈ fm_Ts := ⟨wz_class_227, wz_class_228, wz_class_107, wz_class_226⟩
theorem wy_X2_allClimb : yX2_allClimb.cls = RX2 ∧ yX2_allClimb.cls ≠ "java/lang/invoke/MethodHandle" ∧ yX2_allClimb.cls ≠ "java/lang/invoke/VarHandle" ∧ (parseMethodDescriptor yX2_allClimb.desc).map (fun d => d.parameters.length) = some 1 := ⟨rfl, wyc_class_18.1, wyc_class_18.2, wyd_class_0⟩
theorem wm_X5_begin : Jvm.Cond.instanceMethod yX5_begin ∈ fm_Ts ∧ Jvm.Cond.selects RX5 yX5_begin yX5_begin ∈ fm_Ts ∧ Jvm.Cond.initialized RX5 ∈ fm_Ts ∧ Jvm.Cond.code yX5_begin prog_7_method_2_code 3 none ∈ fm_Ts := ⟨wz_class_230, wz_class_231, wz_class_232, wz_class_229⟩
theorem wyc_class_29 : RX5 ≠ "java/lang/invoke/MethodHandle" ∧ RX5 ≠ "java/lang/invoke/VarHandle" := by decide +kernel
theorem wy_X5_begin : yX5_begin.cls = RX5 ∧ yX5_begin.cls ≠ "java/lang/invoke/MethodHandle" ∧ yX5_begin.cls ≠ "java/lang/invoke/VarHandle" ∧ (parseMethodDescriptor yX5_begin.desc).map (fun d => d.parameters.length) = some 1 := ⟨rfl, wyc_class_29.1, wyc_class_29.2, wyd_class_7⟩
theorem wm_X5_handOutBy : Jvm.Cond.instanceMethod yX5_handOutBy ∈ fm_Ts ∧ Jvm.Cond.selects RX5 yX5_handOutBy yX5_handOutBy ∈ fm_Ts ∧ Jvm.Cond.initialized RX5 ∈ fm_Ts ∧ Jvm.Cond.code yX5_handOutBy prog_7_method_9_code 5 none ∈ fm_Ts := ⟨wz_class_234, wz_class_235, wz_class_232, wz_class_233⟩
theorem wyd_class_30 : (parseMethodDescriptor "([ILDustMint$Porters;LDustMint$Porters;)V").map (fun d => d.parameters.length) = some 3 := by decide +kernel
theorem wy_X5_handOutBy : yX5_handOutBy.cls = RX5 ∧ yX5_handOutBy.cls ≠ "java/lang/invoke/MethodHandle" ∧ yX5_handOutBy.cls ≠ "java/lang/invoke/VarHandle" ∧ (parseMethodDescriptor yX5_handOutBy.desc).map (fun d => d.parameters.length) = some 3 := ⟨rfl, wyc_class_29.1, wyc_class_29.2, wyd_class_30⟩
theorem wm_X5_handOut : Jvm.Cond.instanceMethod yX5_handOut ∈ fm_Ts ∧ Jvm.Cond.selects RX5 yX5_handOut yX5_handOut ∈ fm_Ts ∧ Jvm.Cond.initialized RX5 ∈ fm_Ts ∧ Jvm.Cond.code yX5_handOut prog_7_method_7_code 3 none ∈ fm_Ts := ⟨wz_class_237, wz_class_238, wz_class_232, wz_class_236⟩
theorem wyd_class_31 : (parseMethodDescriptor "(LDustMint$Porters;LDustMint$Porters;)V").map (fun d => d.parameters.length) = some 2 := by decide +kernel
theorem wy_X5_handOut : yX5_handOut.cls = RX5 ∧ yX5_handOut.cls ≠ "java/lang/invoke/MethodHandle" ∧ yX5_handOut.cls ≠ "java/lang/invoke/VarHandle" ∧ (parseMethodDescriptor yX5_handOut.desc).map (fun d => d.parameters.length) = some 2 := ⟨rfl, wyc_class_29.1, wyc_class_29.2, wyd_class_31⟩
theorem wm_X0_passUnder : Jvm.Cond.instanceMethod yX0_passUnder ∈ fm_Ts ∧ Jvm.Cond.selects RX0 yX0_passUnder yX0_passUnder ∈ fm_Ts ∧ Jvm.Cond.initialized RX0 ∈ fm_Ts ∧ Jvm.Cond.code yX0_passUnder prog_2_method_7_code 6 (some .int) ∈ fm_Ts := ⟨wz_class_240, wz_class_241, wz_class_103, wz_class_239⟩
theorem wy_X0_passUnder : yX0_passUnder.cls = RX0 ∧ yX0_passUnder.cls ≠ "java/lang/invoke/MethodHandle" ∧ yX0_passUnder.cls ≠ "java/lang/invoke/VarHandle" ∧ (parseMethodDescriptor yX0_passUnder.desc).map (fun d => d.parameters.length) = some 3 := ⟨rfl, wyc_class_17.1, wyc_class_17.2, wyd_class_21⟩
theorem wm_X5_holdBest : Jvm.Cond.instanceMethod yX5_holdBest ∈ fm_Ts ∧ Jvm.Cond.selects RX5 yX5_holdBest yX5_holdBest ∈ fm_Ts ∧ Jvm.Cond.initialized RX5 ∈ fm_Ts ∧ Jvm.Cond.code yX5_holdBest prog_7_method_5_code 1 none ∈ fm_Ts := ⟨wz_class_243, wz_class_244, wz_class_232, wz_class_242⟩
theorem wy_X5_holdBest : yX5_holdBest.cls = RX5 ∧ yX5_holdBest.cls ≠ "java/lang/invoke/MethodHandle" ∧ yX5_holdBest.cls ≠ "java/lang/invoke/VarHandle" ∧ (parseMethodDescriptor yX5_holdBest.desc).map (fun d => d.parameters.length) = some 0 := ⟨rfl, wyc_class_29.1, wyc_class_29.2, wyd_class_9⟩
theorem wm_X5_exchange : Jvm.Cond.instanceMethod yX5_exchange ∈ fm_Ts ∧ Jvm.Cond.selects RX5 yX5_exchange yX5_exchange ∈ fm_Ts ∧ Jvm.Cond.initialized RX5 ∈ fm_Ts ∧ Jvm.Cond.code yX5_exchange prog_7_method_4_code 4 none ∈ fm_Ts := ⟨wz_class_246, wz_class_247, wz_class_232, wz_class_245⟩
theorem wy_X5_exchange : yX5_exchange.cls = RX5 ∧ yX5_exchange.cls ≠ "java/lang/invoke/MethodHandle" ∧ yX5_exchange.cls ≠ "java/lang/invoke/VarHandle" ∧ (parseMethodDescriptor yX5_exchange.desc).map (fun d => d.parameters.length) = some 2 := ⟨rfl, wyc_class_29.1, wyc_class_29.2, wyd_class_22⟩
theorem wm_X5_goOn : Jvm.Cond.instanceMethod yX5_goOn ∈ fm_Ts ∧ Jvm.Cond.selects RX5 yX5_goOn yX5_goOn ∈ fm_Ts ∧ Jvm.Cond.initialized RX5 ∈ fm_Ts ∧ Jvm.Cond.code yX5_goOn prog_7_method_3_code 5 (some .boolean) ∈ fm_Ts := ⟨wz_class_249, wz_class_250, wz_class_232, wz_class_248⟩
theorem wy_X5_goOn : yX5_goOn.cls = RX5 ∧ yX5_goOn.cls ≠ "java/lang/invoke/MethodHandle" ∧ yX5_goOn.cls ≠ "java/lang/invoke/VarHandle" ∧ (parseMethodDescriptor yX5_goOn.desc).map (fun d => d.parameters.length) = some 0 := ⟨rfl, wyc_class_29.1, wyc_class_29.2, wyd_class_14⟩
theorem wm_X7_searchSwap : Jvm.Cond.instanceMethod yX7_searchSwap ∈ fm_Ts ∧ Jvm.Cond.selects RX7 yX7_searchSwap yX7_searchSwap ∈ fm_Ts ∧ Jvm.Cond.initialized RX7 ∈ fm_Ts ∧ Jvm.Cond.code yX7_searchSwap prog_1_method_17_code 7 (some .int) ∈ fm_Ts := ⟨wz_class_252, wz_class_253, wz_class_9, wz_class_251⟩
theorem wy_X7_searchSwap : yX7_searchSwap.cls = RX7 ∧ yX7_searchSwap.cls ≠ "java/lang/invoke/MethodHandle" ∧ yX7_searchSwap.cls ≠ "java/lang/invoke/VarHandle" ∧ (parseMethodDescriptor yX7_searchSwap.desc).map (fun d => d.parameters.length) = some 2 := ⟨rfl, wyc_class_1.1, wyc_class_1.2, wyd_class_13⟩
theorem wm_X5_whoseFor : Jvm.Cond.instanceMethod yX5_whoseFor ∈ fm_Ts ∧ Jvm.Cond.selects RX5 yX5_whoseFor yX5_whoseFor ∈ fm_Ts ∧ Jvm.Cond.initialized RX5 ∈ fm_Ts ∧ Jvm.Cond.code yX5_whoseFor prog_7_method_6_code 3 (some .int) ∈ fm_Ts := ⟨wz_class_255, wz_class_256, wz_class_232, wz_class_254⟩
theorem wy_X5_whoseFor : yX5_whoseFor.cls = RX5 ∧ yX5_whoseFor.cls ≠ "java/lang/invoke/MethodHandle" ∧ yX5_whoseFor.cls ≠ "java/lang/invoke/VarHandle" ∧ (parseMethodDescriptor yX5_whoseFor.desc).map (fun d => d.parameters.length) = some 1 := ⟨rfl, wyc_class_29.1, wyc_class_29.2, wyd_class_15⟩
theorem wm_X5_handOutBest : Jvm.Cond.instanceMethod yX5_handOutBest ∈ fm_Ts ∧ Jvm.Cond.selects RX5 yX5_handOutBest yX5_handOutBest ∈ fm_Ts ∧ Jvm.Cond.initialized RX5 ∈ fm_Ts ∧ Jvm.Cond.code yX5_handOutBest prog_7_method_8_code 3 none ∈ fm_Ts := ⟨wz_class_258, wz_class_259, wz_class_232, wz_class_257⟩
theorem wy_X5_handOutBest : yX5_handOutBest.cls = RX5 ∧ yX5_handOutBest.cls ≠ "java/lang/invoke/MethodHandle" ∧ yX5_handOutBest.cls ≠ "java/lang/invoke/VarHandle" ∧ (parseMethodDescriptor yX5_handOutBest.desc).map (fun d => d.parameters.length) = some 2 := ⟨rfl, wyc_class_29.1, wyc_class_29.2, wyd_class_31⟩
theorem wm_X7_bowls : Jvm.Cond.instanceMethod yX7_bowls ∈ fm_Ts ∧ Jvm.Cond.selects RX7 yX7_bowls yX7_bowls ∈ fm_Ts ∧ Jvm.Cond.initialized RX7 ∈ fm_Ts ∧ Jvm.Cond.code yX7_bowls prog_1_method_16_code 6 (some .int) ∈ fm_Ts := ⟨wz_class_261, wz_class_262, wz_class_9, wz_class_260⟩
theorem wyd_class_32 : (parseMethodDescriptor "(III)I").map (fun d => d.parameters.length) = some 3 := by decide +kernel
theorem wy_X7_bowls : yX7_bowls.cls = RX7 ∧ yX7_bowls.cls ≠ "java/lang/invoke/MethodHandle" ∧ yX7_bowls.cls ≠ "java/lang/invoke/VarHandle" ∧ (parseMethodDescriptor yX7_bowls.desc).map (fun d => d.parameters.length) = some 3 := ⟨rfl, wyc_class_1.1, wyc_class_1.2, wyd_class_32⟩
theorem wm_X7_carpet : Jvm.Cond.instanceMethod yX7_carpet ∈ fm_Ts ∧ Jvm.Cond.selects RX7 yX7_carpet yX7_carpet ∈ fm_Ts ∧ Jvm.Cond.initialized RX7 ∈ fm_Ts ∧ Jvm.Cond.code yX7_carpet prog_1_method_18_code 7 (some .int) ∈ fm_Ts := ⟨wz_class_264, wz_class_265, wz_class_9, wz_class_263⟩
theorem wy_X7_carpet : yX7_carpet.cls = RX7 ∧ yX7_carpet.cls ≠ "java/lang/invoke/MethodHandle" ∧ yX7_carpet.cls ≠ "java/lang/invoke/VarHandle" ∧ (parseMethodDescriptor yX7_carpet.desc).map (fun d => d.parameters.length) = some 2 := ⟨rfl, wyc_class_1.1, wyc_class_1.2, wyd_class_13⟩
theorem wm_J9_abs_0f7a4 : Jvm.Cond.static yJ9_abs_0f7a4 ∈ fm_Ts ∧ Jvm.Cond.initialized yJ9_abs_0f7a4.cls ∈ fm_Ts ∧ Jvm.Cond.code yJ9_abs_0f7a4 prog_13_method_59_code 1 (some .int) ∈ fm_Ts := ⟨wz_class_267, wz_class_268, wz_class_266⟩
theorem wy_J9_abs_0f7a4 : yJ9_abs_0f7a4.cls ≠ "java/lang/invoke/MethodHandle" ∧ yJ9_abs_0f7a4.cls ≠ "java/lang/invoke/VarHandle" ∧ (parseMethodDescriptor yJ9_abs_0f7a4.desc).map (fun d => d.parameters.length) = some 1 := ⟨wyc_class_20.1, wyc_class_20.2, wyd_class_15⟩
theorem wm_X7_gust : Jvm.Cond.instanceMethod yX7_gust ∈ fm_Ts ∧ Jvm.Cond.selects RX7 yX7_gust yX7_gust ∈ fm_Ts ∧ Jvm.Cond.initialized RX7 ∈ fm_Ts ∧ Jvm.Cond.code yX7_gust prog_1_method_19_code 10 (some .int) ∈ fm_Ts := ⟨wz_class_270, wz_class_271, wz_class_9, wz_class_269⟩
theorem wyd_class_33 : (parseMethodDescriptor "(IIII)I").map (fun d => d.parameters.length) = some 4 := by decide +kernel
theorem wy_X7_gust : yX7_gust.cls = RX7 ∧ yX7_gust.cls ≠ "java/lang/invoke/MethodHandle" ∧ yX7_gust.cls ≠ "java/lang/invoke/VarHandle" ∧ (parseMethodDescriptor yX7_gust.desc).map (fun d => d.parameters.length) = some 4 := ⟨rfl, wyc_class_1.1, wyc_class_1.2, wyd_class_33⟩
theorem wm_X7_tryUnlicensed : Jvm.Cond.instanceMethod yX7_tryUnlicensed ∈ fm_Ts ∧ Jvm.Cond.selects RX7 yX7_tryUnlicensed yX7_tryUnlicensed ∈ fm_Ts ∧ Jvm.Cond.initialized RX7 ∈ fm_Ts ∧ Jvm.Cond.code yX7_tryUnlicensed prog_1_method_22_code 3 none ∈ fm_Ts := ⟨wz_class_273, wz_class_274, wz_class_9, wz_class_272⟩
theorem wy_X7_tryUnlicensed : yX7_tryUnlicensed.cls = RX7 ∧ yX7_tryUnlicensed.cls ≠ "java/lang/invoke/MethodHandle" ∧ yX7_tryUnlicensed.cls ≠ "java/lang/invoke/VarHandle" ∧ (parseMethodDescriptor yX7_tryUnlicensed.desc).map (fun d => d.parameters.length) = some 2 := ⟨rfl, wyc_class_1.1, wyc_class_1.2, wyd_class_22⟩
theorem wm_X7_worthTo : Jvm.Cond.instanceMethod yX7_worthTo ∈ fm_Ts ∧ Jvm.Cond.selects RX7 yX7_worthTo yX7_worthTo ∈ fm_Ts ∧ Jvm.Cond.initialized RX7 ∈ fm_Ts ∧ Jvm.Cond.code yX7_worthTo prog_1_method_23_code 4 (some .int) ∈ fm_Ts := ⟨wz_class_276, wz_class_277, wz_class_9, wz_class_275⟩
theorem wy_X7_worthTo : yX7_worthTo.cls = RX7 ∧ yX7_worthTo.cls ≠ "java/lang/invoke/MethodHandle" ∧ yX7_worthTo.cls ≠ "java/lang/invoke/VarHandle" ∧ (parseMethodDescriptor yX7_worthTo.desc).map (fun d => d.parameters.length) = some 3 := ⟨rfl, wyc_class_1.1, wyc_class_1.2, wyd_class_32⟩
theorem wm_X7_worth : Jvm.Cond.instanceMethod yX7_worth ∈ fm_Ts ∧ Jvm.Cond.selects RX7 yX7_worth yX7_worth ∈ fm_Ts ∧ Jvm.Cond.initialized RX7 ∈ fm_Ts ∧ Jvm.Cond.code yX7_worth prog_1_method_20_code 4 (some .int) ∈ fm_Ts := ⟨wz_class_279, wz_class_280, wz_class_9, wz_class_278⟩
theorem wy_X7_worth : yX7_worth.cls = RX7 ∧ yX7_worth.cls ≠ "java/lang/invoke/MethodHandle" ∧ yX7_worth.cls ≠ "java/lang/invoke/VarHandle" ∧ (parseMethodDescriptor yX7_worth.desc).map (fun d => d.parameters.length) = some 3 := ⟨rfl, wyc_class_1.1, wyc_class_1.2, wyd_class_32⟩
theorem wm_X7_sold : Jvm.Cond.instanceMethod yX7_sold ∈ fm_Ts ∧ Jvm.Cond.selects RX7 yX7_sold yX7_sold ∈ fm_Ts ∧ Jvm.Cond.initialized RX7 ∈ fm_Ts ∧ Jvm.Cond.code yX7_sold prog_1_method_21_code 7 (some .int) ∈ fm_Ts := ⟨wz_class_282, wz_class_283, wz_class_9, wz_class_281⟩
theorem wy_X7_sold : yX7_sold.cls = RX7 ∧ yX7_sold.cls ≠ "java/lang/invoke/MethodHandle" ∧ yX7_sold.cls ≠ "java/lang/invoke/VarHandle" ∧ (parseMethodDescriptor yX7_sold.desc).map (fun d => d.parameters.length) = some 3 := ⟨rfl, wyc_class_1.1, wyc_class_1.2, wyd_class_32⟩
theorem wm_X0_sumLed : Jvm.Cond.instanceMethod yX0_sumLed ∈ fm_Ts ∧ Jvm.Cond.selects RX0 yX0_sumLed yX0_sumLed ∈ fm_Ts ∧ Jvm.Cond.initialized RX0 ∈ fm_Ts ∧ Jvm.Cond.code yX0_sumLed prog_2_method_5_code 6 (some .int) ∈ fm_Ts := ⟨wz_class_285, wz_class_286, wz_class_103, wz_class_284⟩
theorem wy_X0_sumLed : yX0_sumLed.cls = RX0 ∧ yX0_sumLed.cls ≠ "java/lang/invoke/MethodHandle" ∧ yX0_sumLed.cls ≠ "java/lang/invoke/VarHandle" ∧ (parseMethodDescriptor yX0_sumLed.desc).map (fun d => d.parameters.length) = some 2 := ⟨rfl, wyc_class_17.1, wyc_class_17.2, wyd_class_13⟩
theorem wm_X6_byteAt : Jvm.Cond.instanceMethod yX6_byteAt ∈ fm_Ts ∧ Jvm.Cond.selects RX6 yX6_byteAt yX6_byteAt ∈ fm_Ts ∧ Jvm.Cond.initialized RX6 ∈ fm_Ts ∧ Jvm.Cond.code yX6_byteAt prog_8_method_4_code 2 (some .int) ∈ fm_Ts := ⟨wz_class_288, wz_class_289, wz_class_31, wz_class_287⟩
theorem wy_X6_byteAt : yX6_byteAt.cls = RX6 ∧ yX6_byteAt.cls ≠ "java/lang/invoke/MethodHandle" ∧ yX6_byteAt.cls ≠ "java/lang/invoke/VarHandle" ∧ (parseMethodDescriptor yX6_byteAt.desc).map (fun d => d.parameters.length) = some 1 := ⟨rfl, wyc_class_6.1, wyc_class_6.2, wyd_class_15⟩
theorem wm_X7_wouldShake : Jvm.Cond.instanceMethod yX7_wouldShake ∈ fm_Ts ∧ Jvm.Cond.selects RX7 yX7_wouldShake yX7_wouldShake ∈ fm_Ts ∧ Jvm.Cond.initialized RX7 ∈ fm_Ts ∧ Jvm.Cond.code yX7_wouldShake prog_1_method_25_code 7 (some .boolean) ∈ fm_Ts := ⟨wz_class_291, wz_class_292, wz_class_9, wz_class_290⟩
theorem wyd_class_34 : (parseMethodDescriptor "(IIII)Z").map (fun d => d.parameters.length) = some 4 := by decide +kernel
theorem wy_X7_wouldShake : yX7_wouldShake.cls = RX7 ∧ yX7_wouldShake.cls ≠ "java/lang/invoke/MethodHandle" ∧ yX7_wouldShake.cls ≠ "java/lang/invoke/VarHandle" ∧ (parseMethodDescriptor yX7_wouldShake.desc).map (fun d => d.parameters.length) = some 4 := ⟨rfl, wyc_class_1.1, wyc_class_1.2, wyd_class_34⟩
theorem wm_X7_shook : Jvm.Cond.instanceMethod yX7_shook ∈ fm_Ts ∧ Jvm.Cond.selects RX7 yX7_shook yX7_shook ∈ fm_Ts ∧ Jvm.Cond.initialized RX7 ∈ fm_Ts ∧ Jvm.Cond.code yX7_shook prog_1_method_24_code 7 (some .int) ∈ fm_Ts := ⟨wz_class_294, wz_class_295, wz_class_9, wz_class_293⟩
theorem wy_X7_shook : yX7_shook.cls = RX7 ∧ yX7_shook.cls ≠ "java/lang/invoke/MethodHandle" ∧ yX7_shook.cls ≠ "java/lang/invoke/VarHandle" ∧ (parseMethodDescriptor yX7_shook.desc).map (fun d => d.parameters.length) = some 3 := ⟨rfl, wyc_class_1.1, wyc_class_1.2, wyd_class_32⟩
theorem wm_X7_led : Jvm.Cond.instanceMethod yX7_led ∈ fm_Ts ∧ Jvm.Cond.selects RX7 yX7_led yX7_led ∈ fm_Ts ∧ Jvm.Cond.initialized RX7 ∈ fm_Ts ∧ Jvm.Cond.code yX7_led prog_1_method_26_code 3 (some .int) ∈ fm_Ts := ⟨wz_class_297, wz_class_298, wz_class_9, wz_class_296⟩
theorem wy_X7_led : yX7_led.cls = RX7 ∧ yX7_led.cls ≠ "java/lang/invoke/MethodHandle" ∧ yX7_led.cls ≠ "java/lang/invoke/VarHandle" ∧ (parseMethodDescriptor yX7_led.desc).map (fun d => d.parameters.length) = some 2 := ⟨rfl, wyc_class_1.1, wyc_class_1.2, wyd_class_13⟩
theorem wm_X7_reduced : Jvm.Cond.static yX7_reduced ∈ fm_Ts ∧ Jvm.Cond.initialized yX7_reduced.cls ∈ fm_Ts ∧ Jvm.Cond.code yX7_reduced prog_1_method_38_code 7 (some .int) ∈ fm_Ts := ⟨wz_class_300, wz_class_301, wz_class_299⟩
theorem wy_X7_reduced : yX7_reduced.cls ≠ "java/lang/invoke/MethodHandle" ∧ yX7_reduced.cls ≠ "java/lang/invoke/VarHandle" ∧ (parseMethodDescriptor yX7_reduced.desc).map (fun d => d.parameters.length) = some 3 := ⟨wyc_class_1.1, wyc_class_1.2, wyd_class_32⟩
theorem wm_X7_share : Jvm.Cond.instanceMethod yX7_share ∈ fm_Ts ∧ Jvm.Cond.selects RX7 yX7_share yX7_share ∈ fm_Ts ∧ Jvm.Cond.initialized RX7 ∈ fm_Ts ∧ Jvm.Cond.code yX7_share prog_1_method_27_code 5 (some .int) ∈ fm_Ts := ⟨wz_class_303, wz_class_304, wz_class_9, wz_class_302⟩
theorem wy_X7_share : yX7_share.cls = RX7 ∧ yX7_share.cls ≠ "java/lang/invoke/MethodHandle" ∧ yX7_share.cls ≠ "java/lang/invoke/VarHandle" ∧ (parseMethodDescriptor yX7_share.desc).map (fun d => d.parameters.length) = some 3 := ⟨rfl, wyc_class_1.1, wyc_class_1.2, wyd_class_32⟩
theorem wm_X7_odds : Jvm.Cond.instanceMethod yX7_odds ∈ fm_Ts ∧ Jvm.Cond.selects RX7 yX7_odds yX7_odds ∈ fm_Ts ∧ Jvm.Cond.initialized RX7 ∈ fm_Ts ∧ Jvm.Cond.code yX7_odds prog_1_method_28_code 9 (some .int) ∈ fm_Ts := ⟨wz_class_306, wz_class_307, wz_class_9, wz_class_305⟩
theorem wy_X7_odds : yX7_odds.cls = RX7 ∧ yX7_odds.cls ≠ "java/lang/invoke/MethodHandle" ∧ yX7_odds.cls ≠ "java/lang/invoke/VarHandle" ∧ (parseMethodDescriptor yX7_odds.desc).map (fun d => d.parameters.length) = some 3 := ⟨rfl, wyc_class_1.1, wyc_class_1.2, wyd_class_32⟩
theorem wm_X7_seed : Jvm.Cond.instanceMethod yX7_seed ∈ fm_Ts ∧ Jvm.Cond.selects RX7 yX7_seed yX7_seed ∈ fm_Ts ∧ Jvm.Cond.initialized RX7 ∈ fm_Ts ∧ Jvm.Cond.code yX7_seed prog_1_method_29_code 2 (some .boolean) ∈ fm_Ts := ⟨wz_class_309, wz_class_310, wz_class_9, wz_class_308⟩
theorem wy_X7_seed : yX7_seed.cls = RX7 ∧ yX7_seed.cls ≠ "java/lang/invoke/MethodHandle" ∧ yX7_seed.cls ≠ "java/lang/invoke/VarHandle" ∧ (parseMethodDescriptor yX7_seed.desc).map (fun d => d.parameters.length) = some 1 := ⟨rfl, wyc_class_1.1, wyc_class_1.2, wyd_class_0⟩
theorem wm_X6_take : Jvm.Cond.instanceMethod yX6_take ∈ fm_Ts ∧ Jvm.Cond.selects RX6 yX6_take yX6_take ∈ fm_Ts ∧ Jvm.Cond.initialized RX6 ∈ fm_Ts ∧ Jvm.Cond.code yX6_take prog_8_method_6_code 2 none ∈ fm_Ts := ⟨wz_class_312, wz_class_313, wz_class_31, wz_class_311⟩
theorem wyd_class_35 : (parseMethodDescriptor "(LDustMint$Tape;)V").map (fun d => d.parameters.length) = some 1 := by decide +kernel
theorem wy_X6_take : yX6_take.cls = RX6 ∧ yX6_take.cls ≠ "java/lang/invoke/MethodHandle" ∧ yX6_take.cls ≠ "java/lang/invoke/VarHandle" ∧ (parseMethodDescriptor yX6_take.desc).map (fun d => d.parameters.length) = some 1 := ⟨rfl, wyc_class_6.1, wyc_class_6.2, wyd_class_35⟩
theorem wm_X7_keep : Jvm.Cond.instanceMethod yX7_keep ∈ fm_Ts ∧ Jvm.Cond.selects RX7 yX7_keep yX7_keep ∈ fm_Ts ∧ Jvm.Cond.initialized RX7 ∈ fm_Ts ∧ Jvm.Cond.code yX7_keep prog_1_method_30_code 1 (some .int) ∈ fm_Ts := ⟨wz_class_315, wz_class_316, wz_class_9, wz_class_314⟩
theorem wy_X7_keep : yX7_keep.cls = RX7 ∧ yX7_keep.cls ≠ "java/lang/invoke/MethodHandle" ∧ yX7_keep.cls ≠ "java/lang/invoke/VarHandle" ∧ (parseMethodDescriptor yX7_keep.desc).map (fun d => d.parameters.length) = some 0 := ⟨rfl, wyc_class_1.1, wyc_class_1.2, wyd_class_11⟩
theorem wm_X7_undo : Jvm.Cond.instanceMethod yX7_undo ∈ fm_Ts ∧ Jvm.Cond.selects RX7 yX7_undo yX7_undo ∈ fm_Ts ∧ Jvm.Cond.initialized RX7 ∈ fm_Ts ∧ Jvm.Cond.code yX7_undo prog_1_method_31_code 1 (some .boolean) ∈ fm_Ts := ⟨wz_class_318, wz_class_319, wz_class_9, wz_class_317⟩
theorem wy_X7_undo : yX7_undo.cls = RX7 ∧ yX7_undo.cls ≠ "java/lang/invoke/MethodHandle" ∧ yX7_undo.cls ≠ "java/lang/invoke/VarHandle" ∧ (parseMethodDescriptor yX7_undo.desc).map (fun d => d.parameters.length) = some 0 := ⟨rfl, wyc_class_1.1, wyc_class_1.2, wyd_class_14⟩
theorem wm_X6_numberAt : Jvm.Cond.instanceMethod yX6_numberAt ∈ fm_Ts ∧ Jvm.Cond.selects RX6 yX6_numberAt yX6_numberAt ∈ fm_Ts ∧ Jvm.Cond.initialized RX6 ∈ fm_Ts ∧ Jvm.Cond.code yX6_numberAt prog_8_method_5_code 4 (some .int) ∈ fm_Ts := ⟨wz_class_321, wz_class_322, wz_class_31, wz_class_320⟩
theorem wy_X6_numberAt : yX6_numberAt.cls = RX6 ∧ yX6_numberAt.cls ≠ "java/lang/invoke/MethodHandle" ∧ yX6_numberAt.cls ≠ "java/lang/invoke/VarHandle" ∧ (parseMethodDescriptor yX6_numberAt.desc).map (fun d => d.parameters.length) = some 1 := ⟨rfl, wyc_class_6.1, wyc_class_6.2, wyd_class_15⟩
theorem wm_X7_check : Jvm.Cond.instanceMethod yX7_check ∈ fm_Ts ∧ Jvm.Cond.selects RX7 yX7_check yX7_check ∈ fm_Ts ∧ Jvm.Cond.initialized RX7 ∈ fm_Ts ∧ Jvm.Cond.code yX7_check prog_1_method_32_code 3 (some .int) ∈ fm_Ts := ⟨wz_class_324, wz_class_325, wz_class_9, wz_class_323⟩
theorem wy_X7_check : yX7_check.cls = RX7 ∧ yX7_check.cls ≠ "java/lang/invoke/MethodHandle" ∧ yX7_check.cls ≠ "java/lang/invoke/VarHandle" ∧ (parseMethodDescriptor yX7_check.desc).map (fun d => d.parameters.length) = some 1 := ⟨rfl, wyc_class_1.1, wyc_class_1.2, wyd_class_15⟩
theorem wm_X0_sumDust : Jvm.Cond.instanceMethod yX0_sumDust ∈ fm_Ts ∧ Jvm.Cond.selects RX0 yX0_sumDust yX0_sumDust ∈ fm_Ts ∧ Jvm.Cond.initialized RX0 ∈ fm_Ts ∧ Jvm.Cond.code yX0_sumDust prog_2_method_4_code 3 (some .int) ∈ fm_Ts := ⟨wz_class_327, wz_class_328, wz_class_103, wz_class_326⟩
theorem wy_X0_sumDust : yX0_sumDust.cls = RX0 ∧ yX0_sumDust.cls ≠ "java/lang/invoke/MethodHandle" ∧ yX0_sumDust.cls ≠ "java/lang/invoke/VarHandle" ∧ (parseMethodDescriptor yX0_sumDust.desc).map (fun d => d.parameters.length) = some 0 := ⟨rfl, wyc_class_17.1, wyc_class_17.2, wyd_class_11⟩
theorem wm_X7_count : Jvm.Cond.instanceMethod yX7_count ∈ fm_Ts ∧ Jvm.Cond.selects RX7 yX7_count yX7_count ∈ fm_Ts ∧ Jvm.Cond.initialized RX7 ∈ fm_Ts ∧ Jvm.Cond.code yX7_count prog_1_method_33_code 2 (some .int) ∈ fm_Ts := ⟨wz_class_330, wz_class_331, wz_class_9, wz_class_329⟩
theorem wy_X7_count : yX7_count.cls = RX7 ∧ yX7_count.cls ≠ "java/lang/invoke/MethodHandle" ∧ yX7_count.cls ≠ "java/lang/invoke/VarHandle" ∧ (parseMethodDescriptor yX7_count.desc).map (fun d => d.parameters.length) = some 1 := ⟨rfl, wyc_class_1.1, wyc_class_1.2, wyd_class_15⟩
theorem wl_X7_75 : Jvm.Cond.methodLink RX7 75 yX7_isYard ∈ fm_Ts := wz_class_332
theorem wl_X7_80 : Jvm.Cond.methodLink RX7 80 yX7_isWithin ∈ fm_Ts := wz_class_333
theorem wl_X7_96 : Jvm.Cond.methodLink RX7 96 yX7_isPorter ∈ fm_Ts := wz_class_334
theorem wl_X7_124 : Jvm.Cond.methodLink RX7 124 yX7_isBeggar ∈ fm_Ts := wz_class_335
theorem wl_X7_130 : Jvm.Cond.methodLink RX7 130 yX6_hasRoom ∈ fm_Ts := wz_class_336
theorem wl_X7_133 : Jvm.Cond.methodLink RX7 133 yX6_putNumber ∈ fm_Ts := wz_class_337
theorem wl_X3_39 : Jvm.Cond.methodLink RX3 39 yX3_next ∈ fm_Ts := wz_class_338
theorem wl_X3_43 : Jvm.Cond.methodLink RX3 43 yX3_fail ∈ fm_Ts := wz_class_339
theorem wl_X3_125 : Jvm.Cond.methodLink RX3 125 yX3_isDigit ∈ fm_Ts := wz_class_340
theorem wl_X3_108 : Jvm.Cond.methodLink RX3 108 yX1_putStep ∈ fm_Ts := wz_class_341
theorem wl_X3_79 : Jvm.Cond.methodLink RX3 79 yX3_open ∈ fm_Ts := wz_class_342
theorem wl_X3_128 : Jvm.Cond.methodLink RX3 128 yX3_readNumber ∈ fm_Ts := wz_class_343
theorem wl_X3_122 : Jvm.Cond.methodLink RX3 122 yX3_readFactor ∈ fm_Ts := wz_class_344
theorem wl_X3_119 : Jvm.Cond.methodLink RX3 119 yX3_readTerm ∈ fm_Ts := wz_class_345
theorem wl_X3_73 : Jvm.Cond.methodLink RX3 73 yX3_readSum ∈ fm_Ts := wz_class_346
theorem wl_X3_86 : Jvm.Cond.methodLink RX3 86 yX3_close ∈ fm_Ts := wz_class_347
theorem wl_X3_116 : Jvm.Cond.methodLink RX3 116 yX3_readPiece ∈ fm_Ts := wz_class_348
theorem wl_X3_112 : Jvm.Cond.methodLink RX3 112 yX1_leadToEnd ∈ fm_Ts := wz_class_349
theorem wl_X3_105 : Jvm.Cond.methodLink RX3 105 yX3_readPieces ∈ fm_Ts := wz_class_350
theorem wl_X3_83 : Jvm.Cond.methodLink RX3 83 yX3_readParts ∈ fm_Ts := wz_class_351
theorem wl_X3_96 : Jvm.Cond.methodLink RX3 96 yX3_seesDust ∈ fm_Ts := wz_class_352
theorem wl_X3_32 : Jvm.Cond.methodLink RX3 32 yX1_clear ∈ fm_Ts := wz_class_353
theorem wl_X3_35 : Jvm.Cond.methodLink RX3 35 yX3_readClause ∈ fm_Ts := wz_class_354
theorem wl_X1_47 : Jvm.Cond.methodLink RX1 47 arraycopyName ∈ fm_Ts := wz_class_355
theorem wl_X7_140 : Jvm.Cond.methodLink RX7 140 yX3_readText ∈ fm_Ts := wz_class_356
theorem wl_X7_147 : Jvm.Cond.methodLink RX7 147 yX1_take ∈ fm_Ts := wz_class_357
theorem wl_X2_34 : (RX2, 34, yX7_isPorter, "DustMint") ∈ fm_nt := List.mem_of_getElem? (i := 6) rfl
theorem wl_X0_131 : (RX0, 131, yX7_isYard, "DustMint") ∈ fm_nt := List.mem_of_getElem? (i := 7) rfl
theorem wl_X1_53 : Jvm.Cond.methodLink RX1 53 yX1_reckon ∈ fm_Ts := wz_class_358
theorem wl_X1_57 : Jvm.Cond.methodLink RX1 57 yJ9_min_7cf53 ∈ fm_Ts := wz_class_359
theorem wl_X1_62 : Jvm.Cond.methodLink RX1 62 yJ9_max_7cf53 ∈ fm_Ts := wz_class_360
theorem wl_X0_142 : (RX0, 142, yX7_isPorter, "DustMint") ∈ fm_nt := List.mem_of_getElem? (i := 5) rfl
theorem wl_X0_145 : Jvm.Cond.methodLink RX0 145 yX2_climbs ∈ fm_Ts := wz_class_361
theorem wl_X0_109 : Jvm.Cond.methodLink RX0 109 yX1_forgetWho ∈ fm_Ts := wz_class_362
theorem wl_X0_148 : Jvm.Cond.methodLink RX0 148 yX0_show ∈ fm_Ts := wz_class_363
theorem wl_X0_161 : Jvm.Cond.methodLink RX0 161 yX2_countAt ∈ fm_Ts := wz_class_364
theorem wl_X0_165 : Jvm.Cond.methodLink RX0 165 yX1_amount ∈ fm_Ts := wz_class_365
theorem wl_X0_168 : Jvm.Cond.methodLink RX0 168 yJ9_min_7cf53 ∈ fm_Ts := wz_class_366
theorem wl_X0_124 : Jvm.Cond.methodLink RX0 124 yX0_loss ∈ fm_Ts := wz_class_367
theorem wl_X0_138 : Jvm.Cond.methodLink RX0 138 yX0_heap ∈ fm_Ts := wz_class_368
theorem wl_X0_175 : Jvm.Cond.methodLink RX0 175 yX1_has ∈ fm_Ts := wz_class_369
theorem wl_X0_178 : Jvm.Cond.methodLink RX0 178 yX0_taken ∈ fm_Ts := wz_class_370
theorem wl_X0_181 : (RX0, 181, yX7_isBeggar, "DustMint") ∈ fm_nt := List.mem_of_getElem? (i := 8) rfl
theorem wl_X0_103 : Jvm.Cond.methodLink RX0 103 yX0_spill ∈ fm_Ts := wz_class_371
theorem wl_X0_106 : Jvm.Cond.methodLink RX0 106 yX0_climb ∈ fm_Ts := wz_class_372
theorem wl_X0_114 : Jvm.Cond.methodLink RX0 114 yX0_blow ∈ fm_Ts := wz_class_373
theorem wl_X0_118 : Jvm.Cond.methodLink RX0 118 yX0_wash ∈ fm_Ts := wz_class_374
theorem wl_X0_121 : Jvm.Cond.methodLink RX0 121 yX0_sieve ∈ fm_Ts := wz_class_375
theorem wl_X0_94 : Jvm.Cond.methodLink RX0 94 yX0_nextDraw ∈ fm_Ts := wz_class_376
theorem wl_X0_98 : Jvm.Cond.methodLink RX0 98 yX0_pass ∈ fm_Ts := wz_class_377
theorem wl_X7_151 : Jvm.Cond.methodLink RX7 151 yX0_passDrawn ∈ fm_Ts := wz_class_378
theorem wl_X7_155 : Jvm.Cond.methodLink RX7 155 yX0_pass ∈ fm_Ts := wz_class_379
theorem wl_X7_158 : Jvm.Cond.methodLink RX7 158 yX2_isTold ∈ fm_Ts := wz_class_380
theorem wl_X7_161 : Jvm.Cond.methodLink RX7 161 yX0_loss ∈ fm_Ts := wz_class_381
theorem wl_X2_28 : Jvm.Cond.methodLink RX2 28 arraycopyName ∈ fm_Ts := wz_class_382
theorem wl_X0_92 : Jvm.Cond.methodLink RX0 92 yX2_takeMoving ∈ fm_Ts := wz_class_383
theorem wl_X0_86 : Jvm.Cond.methodLink RX0 86 arraycopyName ∈ fm_Ts := wz_class_384
theorem wl_X0_78 : Jvm.Cond.methodLink RX0 78 yX0_takeMoving ∈ fm_Ts := wz_class_385
theorem wl_X0_82 : Jvm.Cond.methodLink RX0 82 yX2_takeAll ∈ fm_Ts := wz_class_386
theorem wl_X7_165 : Jvm.Cond.methodLink RX7 165 yX7_isTriable ∈ fm_Ts := wz_class_387
theorem wl_X7_168 : Jvm.Cond.methodLink RX7 168 yX0_takeAll ∈ fm_Ts := wz_class_388
theorem wl_X4_51 : Jvm.Cond.methodLink RX4 51 yX0_takeAll ∈ fm_Ts := wz_class_389
theorem wl_X4_100 : (RX4, 100, yX7_isYard, "DustMint") ∈ fm_nt := List.mem_of_getElem? (i := 9) rfl
theorem wl_X4_69 : Jvm.Cond.methodLink RX4 69 yX0_takeMoving ∈ fm_Ts := wz_class_390
theorem wl_X4_75 : Jvm.Cond.methodLink RX4 75 yX4_grant ∈ fm_Ts := wz_class_391
theorem wl_X4_79 : Jvm.Cond.methodLink RX4 79 yX0_nextDraw ∈ fm_Ts := wz_class_392
theorem wl_X4_83 : Jvm.Cond.methodLink RX4 83 yX0_pass ∈ fm_Ts := wz_class_393
theorem wl_X4_87 : (RX4, 87, yX7_isBeggar, "DustMint") ∈ fm_nt := List.mem_of_getElem? (i := 10) rfl
theorem wl_X4_94 : Jvm.Cond.methodLink RX4 94 arraycopyName ∈ fm_Ts := wz_class_394
theorem wl_X4_61 : Jvm.Cond.methodLink RX4 61 yX4_weigh ∈ fm_Ts := wz_class_395
theorem wl_X4_65 : Jvm.Cond.methodLink RX4 65 yX4_hasBit ∈ fm_Ts := wz_class_396
theorem wl_X7_184 : Jvm.Cond.methodLink RX7 184 yX4_begin ∈ fm_Ts := wz_class_397
theorem wl_X7_188 : Jvm.Cond.methodLink RX7 188 yX4_weighOnes ∈ fm_Ts := wz_class_398
theorem wl_X7_191 : Jvm.Cond.methodLink RX7 191 yX4_weighPairs ∈ fm_Ts := wz_class_399
theorem wl_X7_194 : Jvm.Cond.methodLink RX7 194 yX4_weighTriples ∈ fm_Ts := wz_class_400
theorem wl_X7_203 : Jvm.Cond.methodLink RX7 203 yX4_bestAt ∈ fm_Ts := wz_class_401
theorem wl_X2_38 : Jvm.Cond.methodLink RX2 38 yX2_climbs ∈ fm_Ts := wz_class_402
theorem wl_X5_39 : (RX5, 39, yX7_isPorter, "DustMint") ∈ fm_nt := List.mem_of_getElem? (i := 11) rfl
theorem wl_X5_35 : Jvm.Cond.methodLink RX5 35 yX5_handOutBy ∈ fm_Ts := wz_class_403
theorem wl_X5_29 : Jvm.Cond.methodLink RX5 29 arraycopyName ∈ fm_Ts := wz_class_404
theorem wl_X5_25 : Jvm.Cond.methodLink RX5 25 yX5_exchange ∈ fm_Ts := wz_class_405
theorem wl_X7_229 : Jvm.Cond.methodLink RX7 229 yX5_begin ∈ fm_Ts := wz_class_406
theorem wl_X7_221 : Jvm.Cond.methodLink RX7 221 yX0_takeMoving ∈ fm_Ts := wz_class_407
theorem wl_X7_237 : Jvm.Cond.methodLink RX7 237 yX5_handOut ∈ fm_Ts := wz_class_408
theorem wl_X7_240 : Jvm.Cond.methodLink RX7 240 yX0_passUnder ∈ fm_Ts := wz_class_409
theorem wl_X7_243 : Jvm.Cond.methodLink RX7 243 yX5_holdBest ∈ fm_Ts := wz_class_410
theorem wl_X7_246 : Jvm.Cond.methodLink RX7 246 yX5_goOn ∈ fm_Ts := wz_class_411
theorem wl_X7_206 : Jvm.Cond.methodLink RX7 206 yJ6_bitCount_0f7a4 ∈ fm_Ts := wz_class_412
theorem wl_X7_211 : Jvm.Cond.methodLink RX7 211 yX2_allClimb ∈ fm_Ts := wz_class_413
theorem wl_X7_214 : Jvm.Cond.methodLink RX7 214 yX7_searchSwap ∈ fm_Ts := wz_class_414
theorem wl_X7_218 : Jvm.Cond.methodLink RX7 218 yX5_whoseFor ∈ fm_Ts := wz_class_415
theorem wl_X7_224 : Jvm.Cond.methodLink RX7 224 yX5_handOutBest ∈ fm_Ts := wz_class_416
theorem wl_X7_250 : Jvm.Cond.methodLink RX7 250 arraycopyName ∈ fm_Ts := wz_class_417
theorem wl_X7_256 : Jvm.Cond.methodLink RX7 256 yJ9_abs_0f7a4 ∈ fm_Ts := wz_class_418
theorem wl_X7_261 : Jvm.Cond.methodLink RX7 261 yX7_tryUnlicensed ∈ fm_Ts := wz_class_419
theorem wl_X7_265 : Jvm.Cond.methodLink RX7 265 yX7_worthTo ∈ fm_Ts := wz_class_420
theorem wl_X7_270 : Jvm.Cond.methodLink RX7 270 yJ9_max_7cf53 ∈ fm_Ts := wz_class_421
theorem wl_X7_280 : Jvm.Cond.methodLink RX7 280 yX0_sumLed ∈ fm_Ts := wz_class_422
theorem wl_X7_283 : Jvm.Cond.methodLink RX7 283 yX6_byteAt ∈ fm_Ts := wz_class_423
theorem wl_X7_273 : Jvm.Cond.methodLink RX7 273 yX2_climbs ∈ fm_Ts := wz_class_424
theorem wl_X7_276 : Jvm.Cond.methodLink RX7 276 yX7_wouldShake ∈ fm_Ts := wz_class_425
theorem wl_X7_286 : Jvm.Cond.methodLink RX7 286 yX7_reduced ∈ fm_Ts := wz_class_426
theorem wl_X6_23 : Jvm.Cond.methodLink RX6 23 arraycopyName ∈ fm_Ts := wz_class_427
theorem wl_X7_293 : Jvm.Cond.methodLink RX7 293 yX6_take ∈ fm_Ts := wz_class_428
theorem wl_X6_19 : Jvm.Cond.methodLink RX6 19 yX6_byteAt ∈ fm_Ts := wz_class_429
theorem wl_X7_298 : Jvm.Cond.methodLink RX7 298 yX6_numberAt ∈ fm_Ts := wz_class_430
theorem wl_X7_304 : Jvm.Cond.methodLink RX7 304 yX0_sumDust ∈ fm_Ts := wz_class_431
