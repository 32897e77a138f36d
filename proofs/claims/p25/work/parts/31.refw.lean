/-! THE REFERENCE'S LAW TABLES: every clause's two stretches of code can be worked through -/
/-- how many numbers lie on the stack behind n codes from a on; none: one of them finds too few -/
def dp_ (f : Nat → Int32) (a : Nat) : Nat → Option Nat
  | 0 => some 0
  | n + 1 => match dp_ f a n with
    | none => none
    | some d => if 2 < (f (a + n)).toInt then (if 2 ≤ d then some (d - 1) else none) else if (f (a + n)).toInt = 2 then (if 1 ≤ d then some d else none) else some (d + 1)
def fm_G (V : fm_V) : Prop := 0 ≤ (V 80 20).toInt ∧ (V 80 20).toInt ≤ 14 ∧ ∀ k : Nat, (k : Int) < (V 80 20).toInt → ∃ a b c : Nat, (V 96 k).toInt = a ∧ (V 97 k).toInt = b ∧ (V 98 k).toInt = c ∧ a ≤ b ∧ b ≤ c ∧ c ≤ 200 ∧ dp_ (V 99) a (b - a) ≠ none ∧ dp_ (V 99) b (c - b) ≠ none
theorem fm_G_gd : fm_Gd fm_G := by
  intro V V' h hG
  have e1 : V' 80 20 = V 80 20 := h _ _ (by decide)
  have e2 : ∀ k, V' 96 k = V 96 k := fun k => h _ _ (by simp [fm_gd])
  have e3 : ∀ k, V' 97 k = V 97 k := fun k => h _ _ (by simp [fm_gd])
  have e4 : ∀ k, V' 98 k = V 98 k := fun k => h _ _ (by simp [fm_gd])
  have e5 : V' 99 = V 99 := funext fun k => h _ _ (by simp [fm_gd])
  unfold fm_G at hG ⊢
  rw [e1, e5]
  refine ⟨hG.1, hG.2.1, fun k hk => ?_⟩
  rw [e2, e3, e4]
  exact hG.2.2 k hk
theorem wz_ref_0 : Jvm.Cond.code yX8_worked prog_10_method_48_code 3 (some .int) ∈ fm_Ts := fm_t6 103 rfl rfl
theorem wz_ref_1 : Jvm.Cond.static yX8_worked ∈ fm_Ts := fm_t6 102 rfl rfl
theorem wz_ref_2 : Jvm.Cond.initialized yX8_worked.cls ∈ fm_Ts := fm_t1 10 rfl rfl
theorem wz_ref_3 : Jvm.Cond.code yX8_does prog_10_method_49_code 4 none ∈ fm_Ts := fm_t6 100 rfl rfl
theorem wz_ref_4 : Jvm.Cond.instanceMethod yX8_does ∈ fm_Ts := fm_t6 99 rfl rfl
theorem wz_ref_5 : Jvm.Cond.selects RX8 yX8_does yX8_does ∈ fm_Ts := fm_p4 (q := (yX8_does, 74)) 11 rfl rfl
theorem wz_ref_6 : Jvm.Cond.initialized RX8 ∈ fm_Ts := fm_t1 10 rfl rfl
theorem wz_ref_7 : Jvm.Cond.code yX8_isOfYard prog_10_method_30_code 1 (some .boolean) ∈ fm_Ts := fm_t6 14 rfl rfl
theorem wz_ref_8 : Jvm.Cond.static yX8_isOfYard ∈ fm_Ts := fm_t6 13 rfl rfl
theorem wz_ref_9 : Jvm.Cond.initialized yX8_isOfYard.cls ∈ fm_Ts := fm_t1 10 rfl rfl
theorem wz_ref_10 : Jvm.Cond.code yX8_rainNow prog_10_method_43_code 1 (some .int) ∈ fm_Ts := fm_t6 115 rfl rfl
theorem wz_ref_11 : Jvm.Cond.instanceMethod yX8_rainNow ∈ fm_Ts := fm_t6 114 rfl rfl
theorem wz_ref_12 : Jvm.Cond.selects RX8 yX8_rainNow yX8_rainNow ∈ fm_Ts := fm_p4 (q := (yX8_rainNow, 74)) 14 rfl rfl
theorem wz_ref_13 : Jvm.Cond.code yX8_ofYard prog_10_method_45_code 2 (some .int) ∈ fm_Ts := fm_t6 111 rfl rfl
theorem wz_ref_14 : Jvm.Cond.instanceMethod yX8_ofYard ∈ fm_Ts := fm_t6 110 rfl rfl
theorem wz_ref_15 : Jvm.Cond.selects RX8 yX8_ofYard yX8_ofYard ∈ fm_Ts := fm_p4 (q := (yX8_ofYard, 74)) 13 rfl rfl
set_option maxRecDepth 20000 in
theorem wz_ref_16 : Jvm.Cond.code yX8_portersAt prog_10_method_44_code 4 (some .int) ∈ fm_Ts := fm_t6 123 rfl rfl
set_option maxRecDepth 20000 in
theorem wz_ref_17 : Jvm.Cond.instanceMethod yX8_portersAt ∈ fm_Ts := fm_t6 122 rfl rfl
theorem wz_ref_18 : Jvm.Cond.selects RX8 yX8_portersAt yX8_portersAt ∈ fm_Ts := fm_p5 (q := (yX8_portersAt, 74)) 0 rfl rfl
theorem wz_ref_19 : Jvm.Cond.code yX8_ofPorter prog_10_method_46_code 2 (some .int) ∈ fm_Ts := fm_t6 119 rfl rfl
theorem wz_ref_20 : Jvm.Cond.instanceMethod yX8_ofPorter ∈ fm_Ts := fm_t6 118 rfl rfl
theorem wz_ref_21 : Jvm.Cond.selects RX8 yX8_ofPorter yX8_ofPorter ∈ fm_Ts := fm_p4 (q := (yX8_ofPorter, 74)) 15 rfl rfl
theorem wz_ref_22 : Jvm.Cond.code yX8_valueOf prog_10_method_47_code 2 (some .int) ∈ fm_Ts := fm_t6 107 rfl rfl
theorem wz_ref_23 : Jvm.Cond.instanceMethod yX8_valueOf ∈ fm_Ts := fm_t6 106 rfl rfl
theorem wz_ref_24 : Jvm.Cond.selects RX8 yX8_valueOf yX8_valueOf ∈ fm_Ts := fm_p4 (q := (yX8_valueOf, 74)) 12 rfl rfl
set_option maxRecDepth 20000 in
theorem wz_ref_25 : Jvm.Cond.code yX8_isYard prog_10_method_5_code 1 (some .boolean) ∈ fm_Ts := fm_t5 155 rfl rfl
set_option maxRecDepth 20000 in
theorem wz_ref_26 : Jvm.Cond.static yX8_isYard ∈ fm_Ts := fm_t5 154 rfl rfl
theorem wz_ref_27 : Jvm.Cond.initialized yX8_isYard.cls ∈ fm_Ts := fm_t1 10 rfl rfl
set_option maxRecDepth 20000 in
theorem wz_ref_28 : Jvm.Cond.code yX8_lies prog_10_method_2_code 6 (some .boolean) ∈ fm_Ts := fm_t5 159 rfl rfl
set_option maxRecDepth 20000 in
theorem wz_ref_29 : Jvm.Cond.static yX8_lies ∈ fm_Ts := fm_t5 158 rfl rfl
theorem wz_ref_30 : Jvm.Cond.initialized yX8_lies.cls ∈ fm_Ts := fm_t1 10 rfl rfl
set_option maxRecDepth 20000 in
theorem wz_ref_31 : Jvm.Cond.code yX8_yard prog_10_method_10_code 5 (some .boolean) ∈ fm_Ts := fm_t5 152 rfl rfl
set_option maxRecDepth 20000 in
theorem wz_ref_32 : Jvm.Cond.instanceMethod yX8_yard ∈ fm_Ts := fm_t5 150 rfl rfl
set_option maxRecDepth 20000 in
theorem wz_ref_33 : Jvm.Cond.selects RX8 yX8_yard yX8_yard ∈ fm_Ts := fm_t5 151 rfl rfl
set_option maxRecDepth 20000 in
theorem wz_ref_34 : Jvm.Cond.code yX8_isDigit prog_10_method_9_code 1 (some .boolean) ∈ fm_Ts := fm_t5 170 rfl rfl
set_option maxRecDepth 20000 in
theorem wz_ref_35 : Jvm.Cond.static yX8_isDigit ∈ fm_Ts := fm_t5 169 rfl rfl
theorem wz_ref_36 : Jvm.Cond.initialized yX8_isDigit.cls ∈ fm_Ts := fm_t1 10 rfl rfl
set_option maxRecDepth 20000 in
theorem wz_ref_37 : Jvm.Cond.code yX8_rain prog_10_method_11_code 3 (some .boolean) ∈ fm_Ts := fm_t5 166 rfl rfl
set_option maxRecDepth 20000 in
theorem wz_ref_38 : Jvm.Cond.instanceMethod yX8_rain ∈ fm_Ts := fm_t5 164 rfl rfl
set_option maxRecDepth 20000 in
theorem wz_ref_39 : Jvm.Cond.selects RX8 yX8_rain yX8_rain ∈ fm_Ts := fm_t5 165 rfl rfl
set_option maxRecDepth 20000 in
theorem wz_ref_40 : Jvm.Cond.code yX8_porter prog_10_method_12_code 6 (some .boolean) ∈ fm_Ts := fm_t5 175 rfl rfl
set_option maxRecDepth 20000 in
theorem wz_ref_41 : Jvm.Cond.instanceMethod yX8_porter ∈ fm_Ts := fm_t5 173 rfl rfl
set_option maxRecDepth 20000 in
theorem wz_ref_42 : Jvm.Cond.selects RX8 yX8_porter yX8_porter ∈ fm_Ts := fm_t5 174 rfl rfl
set_option maxRecDepth 20000 in
theorem wz_ref_43 : Jvm.Cond.code yX8_isBeggar prog_10_method_6_code 1 (some .boolean) ∈ fm_Ts := fm_t5 184 rfl rfl
set_option maxRecDepth 20000 in
theorem wz_ref_44 : Jvm.Cond.static yX8_isBeggar ∈ fm_Ts := fm_t5 183 rfl rfl
theorem wz_ref_45 : Jvm.Cond.initialized yX8_isBeggar.cls ∈ fm_Ts := fm_t1 10 rfl rfl
set_option maxRecDepth 20000 in
theorem wz_ref_46 : Jvm.Cond.code yX8_licence prog_10_method_13_code 3 (some .boolean) ∈ fm_Ts := fm_t5 181 rfl rfl
set_option maxRecDepth 20000 in
theorem wz_ref_47 : Jvm.Cond.instanceMethod yX8_licence ∈ fm_Ts := fm_t5 179 rfl rfl
set_option maxRecDepth 20000 in
theorem wz_ref_48 : Jvm.Cond.selects RX8 yX8_licence yX8_licence ∈ fm_Ts := fm_t5 180 rfl rfl
set_option maxRecDepth 20000 in
theorem wz_ref_49 : Jvm.Cond.code yX8_skill prog_10_method_14_code 3 (some .boolean) ∈ fm_Ts := fm_t5 189 rfl rfl
set_option maxRecDepth 20000 in
theorem wz_ref_50 : Jvm.Cond.instanceMethod yX8_skill ∈ fm_Ts := fm_t5 187 rfl rfl
set_option maxRecDepth 20000 in
theorem wz_ref_51 : Jvm.Cond.selects RX8 yX8_skill yX8_skill ∈ fm_Ts := fm_t5 188 rfl rfl
set_option maxRecDepth 20000 in
theorem wz_ref_52 : Jvm.Cond.code yX8_push prog_10_method_15_code 3 none ∈ fm_Ts := fm_t5 197 rfl rfl
set_option maxRecDepth 20000 in
theorem wz_ref_53 : Jvm.Cond.instanceMethod yX8_push ∈ fm_Ts := fm_t5 196 rfl rfl
theorem wz_ref_54 : Jvm.Cond.selects RX8 yX8_push yX8_push ∈ fm_Ts := fm_p2 (q := (yX8_push, 74)) 15 rfl rfl
set_option maxRecDepth 20000 in
theorem wz_ref_55 : Jvm.Cond.code yX8_feed prog_10_method_16_code 6 (some .int) ∈ fm_Ts := fm_t5 193 rfl rfl
set_option maxRecDepth 20000 in
theorem wz_ref_56 : Jvm.Cond.instanceMethod yX8_feed ∈ fm_Ts := fm_t5 191 rfl rfl
set_option maxRecDepth 20000 in
theorem wz_ref_57 : Jvm.Cond.selects RX8 yX8_feed yX8_feed ∈ fm_Ts := fm_t5 192 rfl rfl
theorem wz_ref_58 : Jvm.Cond.code yX8_areHours prog_10_method_62_code 1 (some .boolean) ∈ fm_Ts := fm_t6 62 rfl rfl
theorem wz_ref_59 : Jvm.Cond.static yX8_areHours ∈ fm_Ts := fm_t6 61 rfl rfl
theorem wz_ref_60 : Jvm.Cond.initialized yX8_areHours.cls ∈ fm_Ts := fm_t1 10 rfl rfl
theorem wz_ref_61 : Jvm.Cond.code yX8_isPorter prog_10_method_7_code 2 (some .boolean) ∈ fm_Ts := fm_t6 84 rfl rfl
theorem wz_ref_62 : Jvm.Cond.instanceMethod yX8_isPorter ∈ fm_Ts := fm_t6 83 rfl rfl
theorem wz_ref_63 : Jvm.Cond.selects RX8 yX8_isPorter yX8_isPorter ∈ fm_Ts := fm_p4 (q := (yX8_isPorter, 74)) 7 rfl rfl
theorem wz_ref_64 : Jvm.Cond.code yX8_goesStill prog_10_method_8_code 2 (some .boolean) ∈ fm_Ts := fm_t6 80 rfl rfl
theorem wz_ref_65 : Jvm.Cond.instanceMethod yX8_goesStill ∈ fm_Ts := fm_t6 79 rfl rfl
theorem wz_ref_66 : Jvm.Cond.selects RX8 yX8_goesStill yX8_goesStill ∈ fm_Ts := fm_p4 (q := (yX8_goesStill, 74)) 6 rfl rfl
set_option maxRecDepth 20000 in
theorem wz_ref_67 : Jvm.Cond.code yX8_less prog_10_method_52_code 2 (some .int) ∈ fm_Ts := fm_t6 126 rfl rfl
set_option maxRecDepth 20000 in
theorem wz_ref_68 : Jvm.Cond.static yX8_less ∈ fm_Ts := fm_t6 125 rfl rfl
theorem wz_ref_69 : Jvm.Cond.initialized yX8_less.cls ∈ fm_Ts := fm_t1 10 rfl rfl
theorem wz_ref_70 : Jvm.Cond.code yX8_wouldLose prog_10_method_53_code 2 (some .int) ∈ fm_Ts := fm_t6 88 rfl rfl
theorem wz_ref_71 : Jvm.Cond.instanceMethod yX8_wouldLose ∈ fm_Ts := fm_t6 87 rfl rfl
theorem wz_ref_72 : Jvm.Cond.selects RX8 yX8_wouldLose yX8_wouldLose ∈ fm_Ts := fm_p4 (q := (yX8_wouldLose, 74)) 8 rfl rfl
theorem wz_ref_73 : Jvm.Cond.code yX8_tells prog_10_method_51_code 7 (some .int) ∈ fm_Ts := fm_t6 92 rfl rfl
theorem wz_ref_74 : Jvm.Cond.instanceMethod yX8_tells ∈ fm_Ts := fm_t6 91 rfl rfl
theorem wz_ref_75 : Jvm.Cond.selects RX8 yX8_tells yX8_tells ∈ fm_Ts := fm_p4 (q := (yX8_tells, 74)) 9 rfl rfl
set_option maxRecDepth 20000 in
theorem wz_ref_76 : Jvm.Cond.code yX8_comes prog_10_method_54_code 4 none ∈ fm_Ts := fm_t6 130 rfl rfl
set_option maxRecDepth 20000 in
theorem wz_ref_77 : Jvm.Cond.instanceMethod yX8_comes ∈ fm_Ts := fm_t6 129 rfl rfl
theorem wz_ref_78 : Jvm.Cond.selects RX8 yX8_comes yX8_comes ∈ fm_Ts := fm_p5 (q := (yX8_comes, 74)) 1 rfl rfl
theorem wz_ref_79 : Jvm.Cond.code yX8_loses prog_10_method_55_code 3 none ∈ fm_Ts := fm_t6 76 rfl rfl
theorem wz_ref_80 : Jvm.Cond.instanceMethod yX8_loses ∈ fm_Ts := fm_t6 75 rfl rfl
theorem wz_ref_81 : Jvm.Cond.selects RX8 yX8_loses yX8_loses ∈ fm_Ts := fm_p4 (q := (yX8_loses, 74)) 5 rfl rfl
set_option maxRecDepth 20000 in
theorem wz_ref_82 : Jvm.Cond.code yX8_climbs prog_10_method_56_code 2 none ∈ fm_Ts := fm_t6 135 rfl rfl
set_option maxRecDepth 20000 in
theorem wz_ref_83 : Jvm.Cond.instanceMethod yX8_climbs ∈ fm_Ts := fm_t6 134 rfl rfl
theorem wz_ref_84 : Jvm.Cond.selects RX8 yX8_climbs yX8_climbs ∈ fm_Ts := fm_p5 (q := (yX8_climbs, 74)) 2 rfl rfl
set_option maxRecDepth 20000 in
theorem wz_ref_85 : Jvm.Cond.code yX8_blows prog_10_method_57_code 3 none ∈ fm_Ts := fm_t6 139 rfl rfl
set_option maxRecDepth 20000 in
theorem wz_ref_86 : Jvm.Cond.instanceMethod yX8_blows ∈ fm_Ts := fm_t6 138 rfl rfl
theorem wz_ref_87 : Jvm.Cond.selects RX8 yX8_blows yX8_blows ∈ fm_Ts := fm_p5 (q := (yX8_blows, 74)) 3 rfl rfl
set_option maxRecDepth 20000 in
theorem wz_ref_88 : Jvm.Cond.code yX8_washes prog_10_method_58_code 3 none ∈ fm_Ts := fm_t6 143 rfl rfl
set_option maxRecDepth 20000 in
theorem wz_ref_89 : Jvm.Cond.instanceMethod yX8_washes ∈ fm_Ts := fm_t6 142 rfl rfl
theorem wz_ref_90 : Jvm.Cond.selects RX8 yX8_washes yX8_washes ∈ fm_Ts := fm_p5 (q := (yX8_washes, 74)) 4 rfl rfl
set_option maxRecDepth 20000 in
theorem wz_ref_91 : Jvm.Cond.code yX8_sieves prog_10_method_59_code 3 none ∈ fm_Ts := fm_t6 147 rfl rfl
set_option maxRecDepth 20000 in
theorem wz_ref_92 : Jvm.Cond.instanceMethod yX8_sieves ∈ fm_Ts := fm_t6 146 rfl rfl
theorem wz_ref_93 : Jvm.Cond.selects RX8 yX8_sieves yX8_sieves ∈ fm_Ts := fm_p5 (q := (yX8_sieves, 74)) 5 rfl rfl
theorem wz_ref_94 : Jvm.Cond.code yX8_passes prog_10_method_60_code 2 none ∈ fm_Ts := fm_t6 72 rfl rfl
theorem wz_ref_95 : Jvm.Cond.instanceMethod yX8_passes ∈ fm_Ts := fm_t6 71 rfl rfl
theorem wz_ref_96 : Jvm.Cond.selects RX8 yX8_passes yX8_passes ∈ fm_Ts := fm_p4 (q := (yX8_passes, 74)) 4 rfl rfl
theorem wz_ref_97 : Jvm.Cond.code yX8_goesOn prog_10_method_61_code 3 none ∈ fm_Ts := fm_t6 67 rfl rfl
theorem wz_ref_98 : Jvm.Cond.instanceMethod yX8_goesOn ∈ fm_Ts := fm_t6 66 rfl rfl
theorem wz_ref_99 : Jvm.Cond.selects RX8 yX8_goesOn yX8_goesOn ∈ fm_Ts := fm_p4 (q := (yX8_goesOn, 74)) 3 rfl rfl
theorem wz_ref_100 : Jvm.Cond.code yX8_hours prog_10_method_64_code 2 (some .int) ∈ fm_Ts := fm_t6 59 rfl rfl
theorem wz_ref_101 : Jvm.Cond.instanceMethod yX8_hours ∈ fm_Ts := fm_t6 57 rfl rfl
theorem wz_ref_102 : Jvm.Cond.selects RX8 yX8_hours yX8_hours ∈ fm_Ts := fm_t6 58 rfl rfl
set_option maxRecDepth 20000 in
theorem wz_ref_103 : Jvm.Cond.code yX8_hour prog_10_method_65_code 2 (some .int) ∈ fm_Ts := fm_t6 151 rfl rfl
set_option maxRecDepth 20000 in
theorem wz_ref_104 : Jvm.Cond.instanceMethod yX8_hour ∈ fm_Ts := fm_t6 149 rfl rfl
set_option maxRecDepth 20000 in
theorem wz_ref_105 : Jvm.Cond.selects RX8 yX8_hour yX8_hour ∈ fm_Ts := fm_t6 150 rfl rfl
set_option maxRecDepth 20000 in
theorem wz_ref_106 : Jvm.Cond.code yX8_yardIs prog_10_method_66_code 3 (some .int) ∈ fm_Ts := fm_t6 155 rfl rfl
set_option maxRecDepth 20000 in
theorem wz_ref_107 : Jvm.Cond.instanceMethod yX8_yardIs ∈ fm_Ts := fm_t6 153 rfl rfl
set_option maxRecDepth 20000 in
theorem wz_ref_108 : Jvm.Cond.selects RX8 yX8_yardIs yX8_yardIs ∈ fm_Ts := fm_t6 154 rfl rfl
set_option maxRecDepth 20000 in
theorem wz_ref_109 : Jvm.Cond.code yX8_losesNow prog_10_method_67_code 2 (some .int) ∈ fm_Ts := fm_t6 163 rfl rfl
set_option maxRecDepth 20000 in
theorem wz_ref_110 : Jvm.Cond.instanceMethod yX8_losesNow ∈ fm_Ts := fm_t6 162 rfl rfl
theorem wz_ref_111 : Jvm.Cond.selects RX8 yX8_losesNow yX8_losesNow ∈ fm_Ts := fm_p5 (q := (yX8_losesNow, 74)) 6 rfl rfl
set_option maxRecDepth 20000 in
theorem wz_ref_112 : Jvm.Cond.code yX8_porterIs prog_10_method_68_code 3 (some .int) ∈ fm_Ts := fm_t6 159 rfl rfl
set_option maxRecDepth 20000 in
theorem wz_ref_113 : Jvm.Cond.instanceMethod yX8_porterIs ∈ fm_Ts := fm_t6 157 rfl rfl
set_option maxRecDepth 20000 in
theorem wz_ref_114 : Jvm.Cond.selects RX8 yX8_porterIs yX8_porterIs ∈ fm_Ts := fm_t6 158 rfl rfl
set_option maxRecDepth 20000 in
theorem wz_ref_115 : Jvm.Cond.code yX8_isTried prog_10_method_72_code 2 (some .boolean) ∈ fm_Ts := fm_t6 171 rfl rfl
set_option maxRecDepth 20000 in
theorem wz_ref_116 : Jvm.Cond.instanceMethod yX8_isTried ∈ fm_Ts := fm_t6 170 rfl rfl
theorem wz_ref_117 : Jvm.Cond.selects RX8 yX8_isTried yX8_isTried ∈ fm_Ts := fm_p5 (q := (yX8_isTried, 74)) 7 rfl rfl
set_option maxRecDepth 20000 in
theorem wz_ref_118 : Jvm.Cond.code yX8_setsAside prog_10_method_69_code 3 none ∈ fm_Ts := fm_t6 175 rfl rfl
set_option maxRecDepth 20000 in
theorem wz_ref_119 : Jvm.Cond.instanceMethod yX8_setsAside ∈ fm_Ts := fm_t6 174 rfl rfl
theorem wz_ref_120 : Jvm.Cond.selects RX8 yX8_setsAside yX8_setsAside ∈ fm_Ts := fm_p5 (q := (yX8_setsAside, 74)) 8 rfl rfl
set_option maxRecDepth 20000 in
theorem wz_ref_121 : Jvm.Cond.code yX8_triedNow prog_10_method_71_code 2 (some .int) ∈ fm_Ts := fm_t6 179 rfl rfl
set_option maxRecDepth 20000 in
theorem wz_ref_122 : Jvm.Cond.instanceMethod yX8_triedNow ∈ fm_Ts := fm_t6 178 rfl rfl
theorem wz_ref_123 : Jvm.Cond.selects RX8 yX8_triedNow yX8_triedNow ∈ fm_Ts := fm_p5 (q := (yX8_triedNow, 74)) 9 rfl rfl
set_option maxRecDepth 20000 in
theorem wz_ref_124 : Jvm.Cond.code yX8_putsBack prog_10_method_70_code 3 none ∈ fm_Ts := fm_t6 190 rfl rfl
set_option maxRecDepth 20000 in
theorem wz_ref_125 : Jvm.Cond.instanceMethod yX8_putsBack ∈ fm_Ts := fm_t6 189 rfl rfl
theorem wz_ref_126 : Jvm.Cond.selects RX8 yX8_putsBack yX8_putsBack ∈ fm_Ts := fm_p5 (q := (yX8_putsBack, 74)) 10 rfl rfl
set_option maxRecDepth 20000 in
theorem wz_ref_127 : Jvm.Cond.code yX8_tried prog_10_method_73_code 4 (some .int) ∈ fm_Ts := fm_t6 167 rfl rfl
set_option maxRecDepth 20000 in
theorem wz_ref_128 : Jvm.Cond.instanceMethod yX8_tried ∈ fm_Ts := fm_t6 165 rfl rfl
set_option maxRecDepth 20000 in
theorem wz_ref_129 : Jvm.Cond.selects RX8 yX8_tried yX8_tried ∈ fm_Ts := fm_t6 166 rfl rfl
set_option maxRecDepth 20000 in
theorem wz_ref_130 : Jvm.Cond.code yX8_areFew prog_10_method_63_code 1 (some .boolean) ∈ fm_Ts := fm_t6 197 rfl rfl
set_option maxRecDepth 20000 in
theorem wz_ref_131 : Jvm.Cond.static yX8_areFew ∈ fm_Ts := fm_t6 196 rfl rfl
theorem wz_ref_132 : Jvm.Cond.initialized yX8_areFew.cls ∈ fm_Ts := fm_t1 10 rfl rfl
set_option maxRecDepth 20000 in
theorem wz_ref_133 : Jvm.Cond.code yX8_has prog_10_method_3_code 2 (some .boolean) ∈ fm_Ts := fm_t6 207 rfl rfl
set_option maxRecDepth 20000 in
theorem wz_ref_134 : Jvm.Cond.static yX8_has ∈ fm_Ts := fm_t6 206 rfl rfl
theorem wz_ref_135 : Jvm.Cond.initialized yX8_has.cls ∈ fm_Ts := fm_t1 10 rfl rfl
set_option maxRecDepth 20000 in
theorem wz_ref_136 : Jvm.Cond.code yX8_isAhead prog_10_method_75_code 3 (some .boolean) ∈ fm_Ts := fm_t6 213 rfl rfl
set_option maxRecDepth 20000 in
theorem wz_ref_137 : Jvm.Cond.static yX8_isAhead ∈ fm_Ts := fm_t6 212 rfl rfl
theorem wz_ref_138 : Jvm.Cond.initialized yX8_isAhead.cls ∈ fm_Ts := fm_t1 10 rfl rfl
set_option maxRecDepth 20000 in
theorem wz_ref_139 : Jvm.Cond.code yX8_sizeOf prog_10_method_4_code 3 (some .int) ∈ fm_Ts := fm_t6 210 rfl rfl
set_option maxRecDepth 20000 in
theorem wz_ref_140 : Jvm.Cond.static yX8_sizeOf ∈ fm_Ts := fm_t6 209 rfl rfl
theorem wz_ref_141 : Jvm.Cond.initialized yX8_sizeOf.cls ∈ fm_Ts := fm_t1 10 rfl rfl
set_option maxRecDepth 20000 in
theorem wz_ref_142 : Jvm.Cond.code yX8_sievesBy prog_10_method_74_code 7 none ∈ fm_Ts := fm_t6 204 rfl rfl
set_option maxRecDepth 20000 in
theorem wz_ref_143 : Jvm.Cond.instanceMethod yX8_sievesBy ∈ fm_Ts := fm_t6 203 rfl rfl
theorem wz_ref_144 : Jvm.Cond.selects RX8 yX8_sievesBy yX8_sievesBy ∈ fm_Ts := fm_p5 (q := (yX8_sievesBy, 74)) 11 rfl rfl
set_option maxRecDepth 20000 in
theorem wz_ref_145 : Jvm.Cond.code yX8_sieved prog_10_method_76_code 10 (some .int) ∈ fm_Ts := fm_t6 194 rfl rfl
set_option maxRecDepth 20000 in
theorem wz_ref_146 : Jvm.Cond.instanceMethod yX8_sieved ∈ fm_Ts := fm_t6 192 rfl rfl
set_option maxRecDepth 20000 in
theorem wz_ref_147 : Jvm.Cond.selects RX8 yX8_sieved yX8_sieved ∈ fm_Ts := fm_t6 193 rfl rfl
set_option maxRecDepth 20000 in
theorem wz_ref_148 : Jvm.Cond.code yX8_carpet prog_10_method_79_code 6 (some .int) ∈ fm_Ts := fm_t6 229 rfl rfl
set_option maxRecDepth 20000 in
theorem wz_ref_149 : Jvm.Cond.instanceMethod yX8_carpet ∈ fm_Ts := fm_t6 227 rfl rfl
set_option maxRecDepth 20000 in
theorem wz_ref_150 : Jvm.Cond.selects RX8 yX8_carpet yX8_carpet ∈ fm_Ts := fm_t6 228 rfl rfl
set_option maxRecDepth 20000 in
theorem wz_ref_151 : Jvm.Cond.code yX8_gust prog_10_method_80_code 10 (some .int) ∈ fm_Ts := fm_t6 233 rfl rfl
set_option maxRecDepth 20000 in
theorem wz_ref_152 : Jvm.Cond.instanceMethod yX8_gust ∈ fm_Ts := fm_t6 231 rfl rfl
set_option maxRecDepth 20000 in
theorem wz_ref_153 : Jvm.Cond.selects RX8 yX8_gust yX8_gust ∈ fm_Ts := fm_t6 232 rfl rfl
theorem wz_ref_154 : Jvm.Cond.code yX8_purseBy prog_10_method_81_code 6 (some .int) ∈ fm_Ts := fm_t7 5 rfl rfl
theorem wz_ref_155 : Jvm.Cond.instanceMethod yX8_purseBy ∈ fm_Ts := fm_t7 4 rfl rfl
theorem wz_ref_156 : Jvm.Cond.selects RX8 yX8_purseBy yX8_purseBy ∈ fm_Ts := fm_p5 (q := (yX8_purseBy, 74)) 14 rfl rfl
theorem wz_ref_157 : Jvm.Cond.code yX8_worthOf prog_10_method_82_code 4 (some .int) ∈ fm_Ts := fm_t7 1 rfl rfl
theorem wz_ref_158 : Jvm.Cond.instanceMethod yX8_worthOf ∈ fm_Ts := fm_t7 0 rfl rfl
theorem wz_ref_159 : Jvm.Cond.selects RX8 yX8_worthOf yX8_worthOf ∈ fm_Ts := fm_p5 (q := (yX8_worthOf, 74)) 13 rfl rfl
set_option maxRecDepth 20000 in
theorem wz_ref_160 : Jvm.Cond.code yX8_worth prog_10_method_83_code 4 (some .int) ∈ fm_Ts := fm_t6 237 rfl rfl
set_option maxRecDepth 20000 in
theorem wz_ref_161 : Jvm.Cond.instanceMethod yX8_worth ∈ fm_Ts := fm_t6 235 rfl rfl
set_option maxRecDepth 20000 in
theorem wz_ref_162 : Jvm.Cond.selects RX8 yX8_worth yX8_worth ∈ fm_Ts := fm_t6 236 rfl rfl
theorem wz_ref_163 : Jvm.Cond.code yX8_sold prog_10_method_84_code 9 (some .int) ∈ fm_Ts := fm_t7 9 rfl rfl
theorem wz_ref_164 : Jvm.Cond.instanceMethod yX8_sold ∈ fm_Ts := fm_t7 7 rfl rfl
theorem wz_ref_165 : Jvm.Cond.selects RX8 yX8_sold yX8_sold ∈ fm_Ts := fm_t7 8 rfl rfl
theorem wz_ref_166 : Jvm.Cond.code yX8_byteAt prog_10_method_17_code 2 (some .int) ∈ fm_Ts := fm_t7 21 rfl rfl
theorem wz_ref_167 : Jvm.Cond.instanceMethod yX8_byteAt ∈ fm_Ts := fm_t7 20 rfl rfl
theorem wz_ref_168 : Jvm.Cond.selects RX8 yX8_byteAt yX8_byteAt ∈ fm_Ts := fm_p6 (q := (yX8_byteAt, 74)) 0 rfl rfl
theorem wz_ref_169 : Jvm.Cond.code yX8_isShaken prog_10_method_85_code 5 (some .boolean) ∈ fm_Ts := fm_t7 17 rfl rfl
theorem wz_ref_170 : Jvm.Cond.instanceMethod yX8_isShaken ∈ fm_Ts := fm_t7 16 rfl rfl
theorem wz_ref_171 : Jvm.Cond.selects RX8 yX8_isShaken yX8_isShaken ∈ fm_Ts := fm_p5 (q := (yX8_isShaken, 74)) 15 rfl rfl
theorem wz_ref_172 : Jvm.Cond.code yX8_shook prog_10_method_86_code 9 (some .int) ∈ fm_Ts := fm_t7 13 rfl rfl
theorem wz_ref_173 : Jvm.Cond.instanceMethod yX8_shook ∈ fm_Ts := fm_t7 11 rfl rfl
theorem wz_ref_174 : Jvm.Cond.selects RX8 yX8_shook yX8_shook ∈ fm_Ts := fm_t7 12 rfl rfl
theorem wz_ref_175 : Jvm.Cond.code yX8_ledOf prog_10_method_87_code 6 (some .int) ∈ fm_Ts := fm_t7 29 rfl rfl
theorem wz_ref_176 : Jvm.Cond.instanceMethod yX8_ledOf ∈ fm_Ts := fm_t7 28 rfl rfl
theorem wz_ref_177 : Jvm.Cond.selects RX8 yX8_ledOf yX8_ledOf ∈ fm_Ts := fm_p6 (q := (yX8_ledOf, 74)) 1 rfl rfl
theorem wz_ref_178 : Jvm.Cond.code yX8_led prog_10_method_88_code 3 (some .int) ∈ fm_Ts := fm_t7 25 rfl rfl
theorem wz_ref_179 : Jvm.Cond.instanceMethod yX8_led ∈ fm_Ts := fm_t7 23 rfl rfl
theorem wz_ref_180 : Jvm.Cond.selects RX8 yX8_led yX8_led ∈ fm_Ts := fm_t7 24 rfl rfl
theorem wz_ref_181 : Jvm.Cond.code yX8_share prog_10_method_90_code 7 (some .int) ∈ fm_Ts := fm_t7 33 rfl rfl
theorem wz_ref_182 : Jvm.Cond.instanceMethod yX8_share ∈ fm_Ts := fm_t7 31 rfl rfl
theorem wz_ref_183 : Jvm.Cond.selects RX8 yX8_share yX8_share ∈ fm_Ts := fm_t7 32 rfl rfl
theorem wz_ref_184 : Jvm.Cond.code yX8_divisor prog_10_method_89_code 5 (some .int) ∈ fm_Ts := fm_t7 36 rfl rfl
theorem wz_ref_185 : Jvm.Cond.static yX8_divisor ∈ fm_Ts := fm_t7 35 rfl rfl
theorem wz_ref_186 : Jvm.Cond.initialized yX8_divisor.cls ∈ fm_Ts := fm_t1 10 rfl rfl
theorem wz_ref_187 : Jvm.Cond.code yX8_odds prog_10_method_91_code 9 (some .int) ∈ fm_Ts := fm_t7 40 rfl rfl
theorem wz_ref_188 : Jvm.Cond.instanceMethod yX8_odds ∈ fm_Ts := fm_t7 38 rfl rfl
theorem wz_ref_189 : Jvm.Cond.selects RX8 yX8_odds yX8_odds ∈ fm_Ts := fm_t7 39 rfl rfl
theorem wz_ref_190 : Jvm.Cond.code yX8_seed prog_10_method_92_code 2 (some .boolean) ∈ fm_Ts := fm_t7 44 rfl rfl
theorem wz_ref_191 : Jvm.Cond.instanceMethod yX8_seed ∈ fm_Ts := fm_t7 42 rfl rfl
theorem wz_ref_192 : Jvm.Cond.selects RX8 yX8_seed yX8_seed ∈ fm_Ts := fm_t7 43 rfl rfl
theorem wz_ref_193 : Jvm.Cond.code yX8_keep prog_10_method_93_code 1 (some .int) ∈ fm_Ts := fm_t7 49 rfl rfl
theorem wz_ref_194 : Jvm.Cond.instanceMethod yX8_keep ∈ fm_Ts := fm_t7 47 rfl rfl
theorem wz_ref_195 : Jvm.Cond.selects RX8 yX8_keep yX8_keep ∈ fm_Ts := fm_t7 48 rfl rfl
theorem wz_ref_196 : Jvm.Cond.code yX8_undo prog_10_method_94_code 1 (some .boolean) ∈ fm_Ts := fm_t7 53 rfl rfl
theorem wz_ref_197 : Jvm.Cond.instanceMethod yX8_undo ∈ fm_Ts := fm_t7 51 rfl rfl
theorem wz_ref_198 : Jvm.Cond.selects RX8 yX8_undo yX8_undo ∈ fm_Ts := fm_t7 52 rfl rfl
theorem wz_ref_199 : Jvm.Cond.code yX8_numberAt prog_10_method_95_code 4 (some .int) ∈ fm_Ts := fm_t7 61 rfl rfl
theorem wz_ref_200 : Jvm.Cond.instanceMethod yX8_numberAt ∈ fm_Ts := fm_t7 60 rfl rfl
theorem wz_ref_201 : Jvm.Cond.selects RX8 yX8_numberAt yX8_numberAt ∈ fm_Ts := fm_p6 (q := (yX8_numberAt, 74)) 2 rfl rfl
theorem wz_ref_202 : Jvm.Cond.code yX8_check prog_10_method_96_code 3 (some .int) ∈ fm_Ts := fm_t7 57 rfl rfl
theorem wz_ref_203 : Jvm.Cond.instanceMethod yX8_check ∈ fm_Ts := fm_t7 55 rfl rfl
theorem wz_ref_204 : Jvm.Cond.selects RX8 yX8_check yX8_check ∈ fm_Ts := fm_t7 56 rfl rfl
theorem wz_ref_205 : Jvm.Cond.code yX8_allDust prog_10_method_97_code 3 (some .int) ∈ fm_Ts := fm_t7 71 rfl rfl
theorem wz_ref_206 : Jvm.Cond.instanceMethod yX8_allDust ∈ fm_Ts := fm_t7 70 rfl rfl
theorem wz_ref_207 : Jvm.Cond.selects RX8 yX8_allDust yX8_allDust ∈ fm_Ts := fm_p6 (q := (yX8_allDust, 74)) 3 rfl rfl
theorem wz_ref_208 : Jvm.Cond.code yX8_portersTold prog_10_method_98_code 3 (some .int) ∈ fm_Ts := fm_t7 75 rfl rfl
theorem wz_ref_209 : Jvm.Cond.instanceMethod yX8_portersTold ∈ fm_Ts := fm_t7 74 rfl rfl
theorem wz_ref_210 : Jvm.Cond.selects RX8 yX8_portersTold yX8_portersTold ∈ fm_Ts := fm_p6 (q := (yX8_portersTold, 74)) 4 rfl rfl
theorem wz_ref_211 : Jvm.Cond.code yX8_count prog_10_method_99_code 2 (some .int) ∈ fm_Ts := fm_t7 65 rfl rfl
theorem wz_ref_212 : Jvm.Cond.instanceMethod yX8_count ∈ fm_Ts := fm_t7 63 rfl rfl
theorem wz_ref_213 : Jvm.Cond.selects RX8 yX8_count yX8_count ∈ fm_Ts := fm_t7 64 rfl rfl
set_option maxRecDepth 20000 in
theorem wz_ref_214 : Jvm.Cond.code yX8_goesToNext prog_10_method_77_code 7 (some .boolean) ∈ fm_Ts := fm_t6 225 rfl rfl
set_option maxRecDepth 20000 in
theorem wz_ref_215 : Jvm.Cond.instanceMethod yX8_goesToNext ∈ fm_Ts := fm_t6 224 rfl rfl
theorem wz_ref_216 : Jvm.Cond.selects RX8 yX8_goesToNext yX8_goesToNext ∈ fm_Ts := fm_p5 (q := (yX8_goesToNext, 74)) 12 rfl rfl
theorem wz_ref_217 : Jvm.Cond.code yX8_works prog_10_method_50_code 5 none ∈ fm_Ts := fm_t6 96 rfl rfl
theorem wz_ref_218 : Jvm.Cond.instanceMethod yX8_works ∈ fm_Ts := fm_t6 95 rfl rfl
theorem wz_ref_219 : Jvm.Cond.selects RX8 yX8_works yX8_works ∈ fm_Ts := fm_p4 (q := (yX8_works, 74)) 10 rfl rfl
set_option maxRecDepth 20000 in
theorem wz_ref_220 : Jvm.Cond.code yX8_bowls prog_10_method_78_code 9 (some .int) ∈ fm_Ts := fm_t6 217 rfl rfl
set_option maxRecDepth 20000 in
theorem wz_ref_221 : Jvm.Cond.instanceMethod yX8_bowls ∈ fm_Ts := fm_t6 215 rfl rfl
set_option maxRecDepth 20000 in
theorem wz_ref_222 : Jvm.Cond.selects RX8 yX8_bowls yX8_bowls ∈ fm_Ts := fm_t6 216 rfl rfl
set_option maxRecDepth 20000 in
theorem wz_ref_223 : Jvm.Cond.code yX8_here prog_10_method_18_code 1 (some .int) ∈ fm_Ts := fm_t5 214 rfl rfl
set_option maxRecDepth 20000 in
theorem wz_ref_224 : Jvm.Cond.instanceMethod yX8_here ∈ fm_Ts := fm_t5 213 rfl rfl
theorem wz_ref_225 : Jvm.Cond.selects RX8 yX8_here yX8_here ∈ fm_Ts := fm_p3 (q := (yX8_here, 74)) 2 rfl rfl
set_option maxRecDepth 20000 in
theorem wz_ref_226 : Jvm.Cond.code yX8_wrongs prog_10_method_19_code 3 none ∈ fm_Ts := fm_t5 218 rfl rfl
set_option maxRecDepth 20000 in
theorem wz_ref_227 : Jvm.Cond.instanceMethod yX8_wrongs ∈ fm_Ts := fm_t5 217 rfl rfl
theorem wz_ref_228 : Jvm.Cond.selects RX8 yX8_wrongs yX8_wrongs ∈ fm_Ts := fm_p3 (q := (yX8_wrongs, 74)) 3 rfl rfl
set_option maxRecDepth 20000 in
theorem wz_ref_229 : Jvm.Cond.code yX8_isGood prog_10_method_20_code 1 (some .boolean) ∈ fm_Ts := fm_t5 206 rfl rfl
set_option maxRecDepth 20000 in
theorem wz_ref_230 : Jvm.Cond.instanceMethod yX8_isGood ∈ fm_Ts := fm_t5 205 rfl rfl
theorem wz_ref_231 : Jvm.Cond.selects RX8 yX8_isGood yX8_isGood ∈ fm_Ts := fm_p3 (q := (yX8_isGood, 74)) 0 rfl rfl
theorem wz_ref_232 : Jvm.Cond.code yX8_emit prog_10_method_21_code 3 none ∈ fm_Ts := fm_t6 8 rfl rfl
theorem wz_ref_233 : Jvm.Cond.instanceMethod yX8_emit ∈ fm_Ts := fm_t6 7 rfl rfl
theorem wz_ref_234 : Jvm.Cond.selects RX8 yX8_emit yX8_emit ∈ fm_Ts := fm_p3 (q := (yX8_emit, 74)) 10 rfl rfl
theorem wz_ref_235 : Jvm.Cond.code yX8_top prog_10_method_22_code 1 (some .int) ∈ fm_Ts := fm_t6 32 rfl rfl
theorem wz_ref_236 : Jvm.Cond.instanceMethod yX8_top ∈ fm_Ts := fm_t6 31 rfl rfl
theorem wz_ref_237 : Jvm.Cond.selects RX8 yX8_top yX8_top ∈ fm_Ts := fm_p3 (q := (yX8_top, 74)) 13 rfl rfl
set_option maxRecDepth 20000 in
theorem wz_ref_238 : Jvm.Cond.code yX8_puts prog_10_method_23_code 2 none ∈ fm_Ts := fm_t5 234 rfl rfl
set_option maxRecDepth 20000 in
theorem wz_ref_239 : Jvm.Cond.instanceMethod yX8_puts ∈ fm_Ts := fm_t5 233 rfl rfl
theorem wz_ref_240 : Jvm.Cond.selects RX8 yX8_puts yX8_puts ∈ fm_Ts := fm_p3 (q := (yX8_puts, 74)) 7 rfl rfl
set_option maxRecDepth 20000 in
theorem wz_ref_241 : Jvm.Cond.code yX8_opens prog_10_method_24_code 1 none ∈ fm_Ts := fm_t5 230 rfl rfl
set_option maxRecDepth 20000 in
theorem wz_ref_242 : Jvm.Cond.instanceMethod yX8_opens ∈ fm_Ts := fm_t5 229 rfl rfl
theorem wz_ref_243 : Jvm.Cond.selects RX8 yX8_opens yX8_opens ∈ fm_Ts := fm_p3 (q := (yX8_opens, 74)) 6 rfl rfl
set_option maxRecDepth 20000 in
theorem wz_ref_244 : Jvm.Cond.code yX8_seesDigit prog_10_method_25_code 1 (some .boolean) ∈ fm_Ts := fm_t5 238 rfl rfl
set_option maxRecDepth 20000 in
theorem wz_ref_245 : Jvm.Cond.instanceMethod yX8_seesDigit ∈ fm_Ts := fm_t5 237 rfl rfl
theorem wz_ref_246 : Jvm.Cond.selects RX8 yX8_seesDigit yX8_seesDigit ∈ fm_Ts := fm_p3 (q := (yX8_seesDigit, 74)) 8 rfl rfl
theorem wz_ref_247 : Jvm.Cond.code yX8_reads prog_10_method_26_code 3 (some .int) ∈ fm_Ts := fm_t6 4 rfl rfl
theorem wz_ref_248 : Jvm.Cond.instanceMethod yX8_reads ∈ fm_Ts := fm_t6 3 rfl rfl
theorem wz_ref_249 : Jvm.Cond.selects RX8 yX8_reads yX8_reads ∈ fm_Ts := fm_p3 (q := (yX8_reads, 74)) 9 rfl rfl
theorem wz_ref_250 : Jvm.Cond.code yX8_isTimes prog_10_method_27_code 1 (some .boolean) ∈ fm_Ts := fm_t6 21 rfl rfl
theorem wz_ref_251 : Jvm.Cond.static yX8_isTimes ∈ fm_Ts := fm_t6 20 rfl rfl
theorem wz_ref_252 : Jvm.Cond.initialized yX8_isTimes.cls ∈ fm_Ts := fm_t1 10 rfl rfl
theorem wz_ref_253 : Jvm.Cond.code yX8_isPlus prog_10_method_28_code 1 (some .boolean) ∈ fm_Ts := fm_t6 24 rfl rfl
theorem wz_ref_254 : Jvm.Cond.static yX8_isPlus ∈ fm_Ts := fm_t6 23 rfl rfl
theorem wz_ref_255 : Jvm.Cond.initialized yX8_isPlus.cls ∈ fm_Ts := fm_t1 10 rfl rfl
theorem wz_ref_256 : Jvm.Cond.code yX8_isSign prog_10_method_29_code 1 (some .boolean) ∈ fm_Ts := fm_t6 43 rfl rfl
theorem wz_ref_257 : Jvm.Cond.static yX8_isSign ∈ fm_Ts := fm_t6 42 rfl rfl
theorem wz_ref_258 : Jvm.Cond.initialized yX8_isSign.cls ∈ fm_Ts := fm_t1 10 rfl rfl
theorem wz_ref_259 : Jvm.Cond.code yX8_isValue prog_10_method_31_code 1 (some .boolean) ∈ fm_Ts := fm_t6 11 rfl rfl
theorem wz_ref_260 : Jvm.Cond.static yX8_isValue ∈ fm_Ts := fm_t6 10 rfl rfl
theorem wz_ref_261 : Jvm.Cond.initialized yX8_isValue.cls ∈ fm_Ts := fm_t1 10 rfl rfl
theorem wz_ref_262 : Jvm.Cond.code yX8_sums prog_10_method_32_code 2 none ∈ fm_Ts := fm_t6 28 rfl rfl
theorem wz_ref_263 : Jvm.Cond.instanceMethod yX8_sums ∈ fm_Ts := fm_t6 27 rfl rfl
theorem wz_ref_264 : Jvm.Cond.selects RX8 yX8_sums yX8_sums ∈ fm_Ts := fm_p3 (q := (yX8_sums, 74)) 12 rfl rfl
theorem wz_ref_265 : Jvm.Cond.code yX8_joins prog_10_method_33_code 2 none ∈ fm_Ts := fm_t6 55 rfl rfl
theorem wz_ref_266 : Jvm.Cond.instanceMethod yX8_joins ∈ fm_Ts := fm_t6 54 rfl rfl
theorem wz_ref_267 : Jvm.Cond.selects RX8 yX8_joins yX8_joins ∈ fm_Ts := fm_p4 (q := (yX8_joins, 74)) 2 rfl rfl
theorem wz_ref_268 : Jvm.Cond.code yX8_ends prog_10_method_34_code 1 none ∈ fm_Ts := fm_t6 47 rfl rfl
theorem wz_ref_269 : Jvm.Cond.instanceMethod yX8_ends ∈ fm_Ts := fm_t6 46 rfl rfl
theorem wz_ref_270 : Jvm.Cond.selects RX8 yX8_ends yX8_ends ∈ fm_Ts := fm_p4 (q := (yX8_ends, 74)) 0 rfl rfl
set_option maxRecDepth 20000 in
theorem wz_ref_271 : Jvm.Cond.code yX8_factor prog_10_method_35_code 1 none ∈ fm_Ts := fm_t5 226 rfl rfl
set_option maxRecDepth 20000 in
theorem wz_ref_272 : Jvm.Cond.instanceMethod yX8_factor ∈ fm_Ts := fm_t5 225 rfl rfl
theorem wz_ref_273 : Jvm.Cond.selects RX8 yX8_factor yX8_factor ∈ fm_Ts := fm_p3 (q := (yX8_factor, 74)) 5 rfl rfl
theorem wz_ref_274 : Jvm.Cond.code yX8_stays prog_10_method_36_code 2 (some .boolean) ∈ fm_Ts := fm_t6 18 rfl rfl
theorem wz_ref_275 : Jvm.Cond.instanceMethod yX8_stays ∈ fm_Ts := fm_t6 17 rfl rfl
theorem wz_ref_276 : Jvm.Cond.selects RX8 yX8_stays yX8_stays ∈ fm_Ts := fm_p3 (q := (yX8_stays, 74)) 11 rfl rfl
set_option maxRecDepth 20000 in
theorem wz_ref_277 : Jvm.Cond.code yX8_value prog_10_method_37_code 2 none ∈ fm_Ts := fm_t5 222 rfl rfl
set_option maxRecDepth 20000 in
theorem wz_ref_278 : Jvm.Cond.instanceMethod yX8_value ∈ fm_Ts := fm_t5 221 rfl rfl
theorem wz_ref_279 : Jvm.Cond.selects RX8 yX8_value yX8_value ∈ fm_Ts := fm_p3 (q := (yX8_value, 74)) 4 rfl rfl
theorem wz_ref_280 : Jvm.Cond.code yX8_pieceOfC prog_10_method_38_code 2 none ∈ fm_Ts := fm_t6 40 rfl rfl
theorem wz_ref_281 : Jvm.Cond.instanceMethod yX8_pieceOfC ∈ fm_Ts := fm_t6 39 rfl rfl
theorem wz_ref_282 : Jvm.Cond.selects RX8 yX8_pieceOfC yX8_pieceOfC ∈ fm_Ts := fm_p3 (q := (yX8_pieceOfC, 74)) 15 rfl rfl
theorem wz_ref_283 : Jvm.Cond.code yX8_goesBehind prog_10_method_39_code 2 (some .boolean) ∈ fm_Ts := fm_t6 51 rfl rfl
theorem wz_ref_284 : Jvm.Cond.instanceMethod yX8_goesBehind ∈ fm_Ts := fm_t6 50 rfl rfl
theorem wz_ref_285 : Jvm.Cond.selects RX8 yX8_goesBehind yX8_goesBehind ∈ fm_Ts := fm_p4 (q := (yX8_goesBehind, 74)) 1 rfl rfl
theorem wz_ref_286 : Jvm.Cond.code yX8_condition prog_10_method_40_code 2 none ∈ fm_Ts := fm_t6 36 rfl rfl
theorem wz_ref_287 : Jvm.Cond.instanceMethod yX8_condition ∈ fm_Ts := fm_t6 35 rfl rfl
theorem wz_ref_288 : Jvm.Cond.selects RX8 yX8_condition yX8_condition ∈ fm_Ts := fm_p3 (q := (yX8_condition, 74)) 14 rfl rfl
set_option maxRecDepth 20000 in
theorem wz_ref_289 : Jvm.Cond.code yX8_clause prog_10_method_41_code 2 none ∈ fm_Ts := fm_t5 210 rfl rfl
set_option maxRecDepth 20000 in
theorem wz_ref_290 : Jvm.Cond.instanceMethod yX8_clause ∈ fm_Ts := fm_t5 209 rfl rfl
theorem wz_ref_291 : Jvm.Cond.selects RX8 yX8_clause yX8_clause ∈ fm_Ts := fm_p3 (q := (yX8_clause, 74)) 1 rfl rfl
set_option maxRecDepth 20000 in
theorem wz_ref_292 : Jvm.Cond.code yX8_law prog_10_method_42_code 4 (some .int) ∈ fm_Ts := fm_t5 201 rfl rfl
set_option maxRecDepth 20000 in
theorem wz_ref_293 : Jvm.Cond.instanceMethod yX8_law ∈ fm_Ts := fm_t5 199 rfl rfl
set_option maxRecDepth 20000 in
theorem wz_ref_294 : Jvm.Cond.selects RX8 yX8_law yX8_law ∈ fm_Ts := fm_t5 200 rfl rfl
theorem wz_ref_295 : Jvm.Cond.methodLink RX8 349 yX8_worked ∈ fm_Ts := fm_t6 101 rfl rfl
theorem wz_ref_296 : Jvm.Cond.methodLink RX8 327 yX8_rainNow ∈ fm_Ts := fm_t6 112 rfl rfl
theorem wz_ref_297 : Jvm.Cond.methodLink RX8 336 yX8_portersAt ∈ fm_Ts := fm_t6 120 rfl rfl
theorem wz_ref_298 : Jvm.Cond.methodLink RX8 248 yX8_isOfYard ∈ fm_Ts := fm_t6 12 rfl rfl
theorem wz_ref_299 : Jvm.Cond.methodLink RX8 340 yX8_ofYard ∈ fm_Ts := fm_t6 108 rfl rfl
theorem wz_ref_300 : Jvm.Cond.methodLink RX8 346 yX8_ofPorter ∈ fm_Ts := fm_t6 116 rfl rfl
set_option maxRecDepth 20000 in
theorem wz_ref_301 : Jvm.Cond.methodLink RX8 168 yX8_lies ∈ fm_Ts := fm_t5 157 rfl rfl
set_option maxRecDepth 20000 in
theorem wz_ref_302 : Jvm.Cond.methodLink RX8 182 yX8_isYard ∈ fm_Ts := fm_t5 153 rfl rfl
set_option maxRecDepth 20000 in
theorem wz_ref_303 : Jvm.Cond.methodLink RX8 193 yX8_isDigit ∈ fm_Ts := fm_t5 168 rfl rfl
set_option maxRecDepth 20000 in
theorem wz_ref_304 : Jvm.Cond.methodLink RX8 198 yX8_isBeggar ∈ fm_Ts := fm_t5 182 rfl rfl
set_option maxRecDepth 20000 in
theorem wz_ref_305 : Jvm.Cond.methodLink RX8 204 yX8_push ∈ fm_Ts := fm_t5 194 rfl rfl
theorem wz_ref_306 : Jvm.Cond.methodLink RX8 176 yX8_isPorter ∈ fm_Ts := fm_t6 81 rfl rfl
theorem wz_ref_307 : Jvm.Cond.methodLink RX8 362 yX8_tells ∈ fm_Ts := fm_t6 89 rfl rfl
set_option maxRecDepth 20000 in
theorem wz_ref_308 : Jvm.Cond.methodLink RX8 366 yX8_less ∈ fm_Ts := fm_t6 124 rfl rfl
theorem wz_ref_309 : Jvm.Cond.methodLink RX8 374 yX8_goesStill ∈ fm_Ts := fm_t6 77 rfl rfl
theorem wz_ref_310 : Jvm.Cond.methodLink RX8 377 yX8_wouldLose ∈ fm_Ts := fm_t6 85 rfl rfl
set_option maxRecDepth 20000 in
theorem wz_ref_311 : Jvm.Cond.methodLink RX8 383 yX8_comes ∈ fm_Ts := fm_t6 127 rfl rfl
theorem wz_ref_312 : Jvm.Cond.methodLink RX8 392 yX8_loses ∈ fm_Ts := fm_t6 73 rfl rfl
set_option maxRecDepth 20000 in
theorem wz_ref_313 : Jvm.Cond.methodLink RX8 395 yX8_climbs ∈ fm_Ts := fm_t6 132 rfl rfl
set_option maxRecDepth 20000 in
theorem wz_ref_314 : Jvm.Cond.methodLink RX8 398 yX8_blows ∈ fm_Ts := fm_t6 136 rfl rfl
set_option maxRecDepth 20000 in
theorem wz_ref_315 : Jvm.Cond.methodLink RX8 401 yX8_washes ∈ fm_Ts := fm_t6 140 rfl rfl
set_option maxRecDepth 20000 in
theorem wz_ref_316 : Jvm.Cond.methodLink RX8 404 yX8_sieves ∈ fm_Ts := fm_t6 144 rfl rfl
theorem wz_ref_317 : Jvm.Cond.methodLink RX8 408 yX8_passes ∈ fm_Ts := fm_t6 69 rfl rfl
theorem wz_ref_318 : Jvm.Cond.methodLink RX8 415 yX8_areHours ∈ fm_Ts := fm_t6 60 rfl rfl
theorem wz_ref_319 : Jvm.Cond.methodLink RX8 418 yX8_goesOn ∈ fm_Ts := fm_t6 64 rfl rfl
set_option maxRecDepth 20000 in
theorem wz_ref_320 : Jvm.Cond.methodLink RX8 421 yX8_losesNow ∈ fm_Ts := fm_t6 160 rfl rfl
set_option maxRecDepth 20000 in
theorem wz_ref_321 : Jvm.Cond.methodLink RX8 436 yX8_isTried ∈ fm_Ts := fm_t6 168 rfl rfl
set_option maxRecDepth 20000 in
theorem wz_ref_322 : Jvm.Cond.methodLink RX8 439 yX8_setsAside ∈ fm_Ts := fm_t6 172 rfl rfl
set_option maxRecDepth 20000 in
theorem wz_ref_323 : Jvm.Cond.methodLink RX8 442 yX8_triedNow ∈ fm_Ts := fm_t6 176 rfl rfl
set_option maxRecDepth 20000 in
theorem wz_ref_324 : Jvm.Cond.methodLink RX8 445 yX8_putsBack ∈ fm_Ts := fm_t6 187 rfl rfl
set_option maxRecDepth 20000 in
theorem wz_ref_325 : Jvm.Cond.methodLink RX8 452 yX8_sizeOf ∈ fm_Ts := fm_t6 208 rfl rfl
set_option maxRecDepth 20000 in
theorem wz_ref_326 : Jvm.Cond.methodLink RX8 448 yX8_has ∈ fm_Ts := fm_t6 205 rfl rfl
set_option maxRecDepth 20000 in
theorem wz_ref_327 : Jvm.Cond.methodLink RX8 461 yX8_isAhead ∈ fm_Ts := fm_t6 211 rfl rfl
set_option maxRecDepth 20000 in
theorem wz_ref_328 : Jvm.Cond.methodLink RX8 464 yX8_areFew ∈ fm_Ts := fm_t6 195 rfl rfl
set_option maxRecDepth 20000 in
theorem wz_ref_329 : Jvm.Cond.methodLink RX8 472 yX8_sievesBy ∈ fm_Ts := fm_t6 201 rfl rfl
theorem wz_ref_330 : Jvm.Cond.methodLink RX8 486 yX8_purseBy ∈ fm_Ts := fm_t7 2 rfl rfl
set_option maxRecDepth 20000 in
theorem wz_ref_331 : Jvm.Cond.methodLink RX8 489 yX8_worthOf ∈ fm_Ts := fm_t6 238 rfl rfl
theorem wz_ref_332 : Jvm.Cond.methodLink RX8 492 yX8_byteAt ∈ fm_Ts := fm_t7 18 rfl rfl
theorem wz_ref_333 : Jvm.Cond.methodLink RX8 495 yX8_isShaken ∈ fm_Ts := fm_t7 14 rfl rfl
theorem wz_ref_334 : Jvm.Cond.methodLink RX8 498 yX8_ledOf ∈ fm_Ts := fm_t7 26 rfl rfl
theorem wz_ref_335 : Jvm.Cond.methodLink RX8 501 yX8_divisor ∈ fm_Ts := fm_t7 34 rfl rfl
theorem wz_ref_336 : Jvm.Cond.methodLink RX8 509 yX8_numberAt ∈ fm_Ts := fm_t7 58 rfl rfl
theorem wz_ref_337 : Jvm.Cond.methodLink RX8 516 yX8_allDust ∈ fm_Ts := fm_t7 68 rfl rfl
theorem wz_ref_338 : Jvm.Cond.methodLink RX8 519 yX8_portersTold ∈ fm_Ts := fm_t7 72 rfl rfl
theorem wz_ref_339 : Jvm.Cond.methodLink RX8 353 yX8_does ∈ fm_Ts := fm_t6 97 rfl rfl
theorem wz_ref_340 : Jvm.Cond.methodLink RX8 356 yX8_valueOf ∈ fm_Ts := fm_t6 104 rfl rfl
theorem wz_ref_341 : Jvm.Cond.methodLink RX8 359 yX8_works ∈ fm_Ts := fm_t6 93 rfl rfl
set_option maxRecDepth 20000 in
theorem wz_ref_342 : Jvm.Cond.methodLink RX8 483 yX8_goesToNext ∈ fm_Ts := fm_t6 222 rfl rfl
set_option maxRecDepth 20000 in
theorem wz_ref_343 : Jvm.Cond.methodLink RX8 217 yX8_isGood ∈ fm_Ts := fm_t5 203 rfl rfl
set_option maxRecDepth 20000 in
theorem wz_ref_344 : Jvm.Cond.methodLink RX8 230 yX8_wrongs ∈ fm_Ts := fm_t5 215 rfl rfl
set_option maxRecDepth 20000 in
theorem wz_ref_345 : Jvm.Cond.methodLink RX8 234 yX8_here ∈ fm_Ts := fm_t5 211 rfl rfl
set_option maxRecDepth 20000 in
theorem wz_ref_346 : Jvm.Cond.methodLink RX8 238 yX8_puts ∈ fm_Ts := fm_t5 231 rfl rfl
set_option maxRecDepth 20000 in
theorem wz_ref_347 : Jvm.Cond.methodLink RX8 245 yX8_seesDigit ∈ fm_Ts := fm_t5 235 rfl rfl
theorem wz_ref_348 : Jvm.Cond.methodLink RX8 251 yX8_top ∈ fm_Ts := fm_t6 29 rfl rfl
theorem wz_ref_349 : Jvm.Cond.methodLink RX8 254 yX8_isTimes ∈ fm_Ts := fm_t6 19 rfl rfl
theorem wz_ref_350 : Jvm.Cond.methodLink RX8 257 yX8_isPlus ∈ fm_Ts := fm_t6 22 rfl rfl
theorem wz_ref_351 : Jvm.Cond.methodLink RX8 260 yX8_emit ∈ fm_Ts := fm_t6 5 rfl rfl
set_option maxRecDepth 20000 in
theorem wz_ref_352 : Jvm.Cond.methodLink RX8 263 yX8_opens ∈ fm_Ts := fm_t5 227 rfl rfl
theorem wz_ref_353 : Jvm.Cond.methodLink RX8 266 yX8_reads ∈ fm_Ts := fm_t6 1 rfl rfl
theorem wz_ref_354 : Jvm.Cond.methodLink RX8 269 yX8_isValue ∈ fm_Ts := fm_t6 9 rfl rfl
theorem wz_ref_355 : Jvm.Cond.methodLink RX8 272 yX8_sums ∈ fm_Ts := fm_t6 25 rfl rfl
set_option maxRecDepth 20000 in
theorem wz_ref_356 : Jvm.Cond.methodLink RX8 280 yX8_factor ∈ fm_Ts := fm_t5 223 rfl rfl
theorem wz_ref_357 : Jvm.Cond.methodLink RX8 283 yX8_stays ∈ fm_Ts := fm_t6 15 rfl rfl
set_option maxRecDepth 20000 in
theorem wz_ref_358 : Jvm.Cond.methodLink RX8 286 yX8_value ∈ fm_Ts := fm_t5 219 rfl rfl
theorem wz_ref_359 : Jvm.Cond.methodLink RX8 289 yX8_isSign ∈ fm_Ts := fm_t6 41 rfl rfl
theorem wz_ref_360 : Jvm.Cond.methodLink RX8 292 yX8_ends ∈ fm_Ts := fm_t6 44 rfl rfl
theorem wz_ref_361 : Jvm.Cond.methodLink RX8 295 yX8_joins ∈ fm_Ts := fm_t6 52 rfl rfl
theorem wz_ref_362 : Jvm.Cond.methodLink RX8 301 yX8_pieceOfC ∈ fm_Ts := fm_t6 37 rfl rfl
theorem wz_ref_363 : Jvm.Cond.methodLink RX8 304 yX8_goesBehind ∈ fm_Ts := fm_t6 48 rfl rfl
theorem wz_ref_364 : Jvm.Cond.methodLink RX8 310 yX8_condition ∈ fm_Ts := fm_t6 33 rfl rfl
set_option maxRecDepth 20000 in
theorem wz_ref_365 : Jvm.Cond.methodLink RX8 315 yX8_clause ∈ fm_Ts := fm_t5 207 rfl rfl
theorem wm_X8_worked : Jvm.Cond.static yX8_worked ∈ fm_Ts ∧ Jvm.Cond.initialized yX8_worked.cls ∈ fm_Ts ∧ Jvm.Cond.code yX8_worked prog_10_method_48_code 3 (some .int) ∈ fm_Ts := ⟨wz_ref_1, wz_ref_2, wz_ref_0⟩
theorem wyd_ref_0 : (parseMethodDescriptor "(III)I").map (fun d => d.parameters.length) = some 3 := by decide +kernel
theorem wyc_ref_1 : RX8 ≠ "java/lang/invoke/MethodHandle" ∧ RX8 ≠ "java/lang/invoke/VarHandle" := by decide +kernel
theorem wy_X8_worked : yX8_worked.cls ≠ "java/lang/invoke/MethodHandle" ∧ yX8_worked.cls ≠ "java/lang/invoke/VarHandle" ∧ (parseMethodDescriptor yX8_worked.desc).map (fun d => d.parameters.length) = some 3 := ⟨wyc_ref_1.1, wyc_ref_1.2, wyd_ref_0⟩
theorem wm_X8_does : Jvm.Cond.instanceMethod yX8_does ∈ fm_Ts ∧ Jvm.Cond.selects RX8 yX8_does yX8_does ∈ fm_Ts ∧ Jvm.Cond.initialized RX8 ∈ fm_Ts ∧ Jvm.Cond.code yX8_does prog_10_method_49_code 4 none ∈ fm_Ts := ⟨wz_ref_4, wz_ref_5, wz_ref_6, wz_ref_3⟩
theorem wyd_ref_2 : (parseMethodDescriptor "(II)V").map (fun d => d.parameters.length) = some 2 := by decide +kernel
theorem wy_X8_does : yX8_does.cls = RX8 ∧ yX8_does.cls ≠ "java/lang/invoke/MethodHandle" ∧ yX8_does.cls ≠ "java/lang/invoke/VarHandle" ∧ (parseMethodDescriptor yX8_does.desc).map (fun d => d.parameters.length) = some 2 := ⟨rfl, wyc_ref_1.1, wyc_ref_1.2, wyd_ref_2⟩
theorem wm_X8_isOfYard : Jvm.Cond.static yX8_isOfYard ∈ fm_Ts ∧ Jvm.Cond.initialized yX8_isOfYard.cls ∈ fm_Ts ∧ Jvm.Cond.code yX8_isOfYard prog_10_method_30_code 1 (some .boolean) ∈ fm_Ts := ⟨wz_ref_8, wz_ref_9, wz_ref_7⟩
theorem wyd_ref_3 : (parseMethodDescriptor "(I)Z").map (fun d => d.parameters.length) = some 1 := by decide +kernel
theorem wy_X8_isOfYard : yX8_isOfYard.cls ≠ "java/lang/invoke/MethodHandle" ∧ yX8_isOfYard.cls ≠ "java/lang/invoke/VarHandle" ∧ (parseMethodDescriptor yX8_isOfYard.desc).map (fun d => d.parameters.length) = some 1 := ⟨wyc_ref_1.1, wyc_ref_1.2, wyd_ref_3⟩
theorem wm_X8_rainNow : Jvm.Cond.instanceMethod yX8_rainNow ∈ fm_Ts ∧ Jvm.Cond.selects RX8 yX8_rainNow yX8_rainNow ∈ fm_Ts ∧ Jvm.Cond.initialized RX8 ∈ fm_Ts ∧ Jvm.Cond.code yX8_rainNow prog_10_method_43_code 1 (some .int) ∈ fm_Ts := ⟨wz_ref_11, wz_ref_12, wz_ref_6, wz_ref_10⟩
theorem wyd_ref_4 : (parseMethodDescriptor "()I").map (fun d => d.parameters.length) = some 0 := by decide +kernel
theorem wy_X8_rainNow : yX8_rainNow.cls = RX8 ∧ yX8_rainNow.cls ≠ "java/lang/invoke/MethodHandle" ∧ yX8_rainNow.cls ≠ "java/lang/invoke/VarHandle" ∧ (parseMethodDescriptor yX8_rainNow.desc).map (fun d => d.parameters.length) = some 0 := ⟨rfl, wyc_ref_1.1, wyc_ref_1.2, wyd_ref_4⟩
theorem wm_X8_ofYard : Jvm.Cond.instanceMethod yX8_ofYard ∈ fm_Ts ∧ Jvm.Cond.selects RX8 yX8_ofYard yX8_ofYard ∈ fm_Ts ∧ Jvm.Cond.initialized RX8 ∈ fm_Ts ∧ Jvm.Cond.code yX8_ofYard prog_10_method_45_code 2 (some .int) ∈ fm_Ts := ⟨wz_ref_14, wz_ref_15, wz_ref_6, wz_ref_13⟩
theorem wyd_ref_5 : (parseMethodDescriptor "(I)I").map (fun d => d.parameters.length) = some 1 := by decide +kernel
theorem wy_X8_ofYard : yX8_ofYard.cls = RX8 ∧ yX8_ofYard.cls ≠ "java/lang/invoke/MethodHandle" ∧ yX8_ofYard.cls ≠ "java/lang/invoke/VarHandle" ∧ (parseMethodDescriptor yX8_ofYard.desc).map (fun d => d.parameters.length) = some 1 := ⟨rfl, wyc_ref_1.1, wyc_ref_1.2, wyd_ref_5⟩
theorem wm_X8_portersAt : Jvm.Cond.instanceMethod yX8_portersAt ∈ fm_Ts ∧ Jvm.Cond.selects RX8 yX8_portersAt yX8_portersAt ∈ fm_Ts ∧ Jvm.Cond.initialized RX8 ∈ fm_Ts ∧ Jvm.Cond.code yX8_portersAt prog_10_method_44_code 4 (some .int) ∈ fm_Ts := ⟨wz_ref_17, wz_ref_18, wz_ref_6, wz_ref_16⟩
theorem wy_X8_portersAt : yX8_portersAt.cls = RX8 ∧ yX8_portersAt.cls ≠ "java/lang/invoke/MethodHandle" ∧ yX8_portersAt.cls ≠ "java/lang/invoke/VarHandle" ∧ (parseMethodDescriptor yX8_portersAt.desc).map (fun d => d.parameters.length) = some 1 := ⟨rfl, wyc_ref_1.1, wyc_ref_1.2, wyd_ref_5⟩
theorem wm_X8_ofPorter : Jvm.Cond.instanceMethod yX8_ofPorter ∈ fm_Ts ∧ Jvm.Cond.selects RX8 yX8_ofPorter yX8_ofPorter ∈ fm_Ts ∧ Jvm.Cond.initialized RX8 ∈ fm_Ts ∧ Jvm.Cond.code yX8_ofPorter prog_10_method_46_code 2 (some .int) ∈ fm_Ts := ⟨wz_ref_20, wz_ref_21, wz_ref_6, wz_ref_19⟩
theorem wy_X8_ofPorter : yX8_ofPorter.cls = RX8 ∧ yX8_ofPorter.cls ≠ "java/lang/invoke/MethodHandle" ∧ yX8_ofPorter.cls ≠ "java/lang/invoke/VarHandle" ∧ (parseMethodDescriptor yX8_ofPorter.desc).map (fun d => d.parameters.length) = some 1 := ⟨rfl, wyc_ref_1.1, wyc_ref_1.2, wyd_ref_5⟩
theorem wm_X8_valueOf : Jvm.Cond.instanceMethod yX8_valueOf ∈ fm_Ts ∧ Jvm.Cond.selects RX8 yX8_valueOf yX8_valueOf ∈ fm_Ts ∧ Jvm.Cond.initialized RX8 ∈ fm_Ts ∧ Jvm.Cond.code yX8_valueOf prog_10_method_47_code 2 (some .int) ∈ fm_Ts := ⟨wz_ref_23, wz_ref_24, wz_ref_6, wz_ref_22⟩
theorem wy_X8_valueOf : yX8_valueOf.cls = RX8 ∧ yX8_valueOf.cls ≠ "java/lang/invoke/MethodHandle" ∧ yX8_valueOf.cls ≠ "java/lang/invoke/VarHandle" ∧ (parseMethodDescriptor yX8_valueOf.desc).map (fun d => d.parameters.length) = some 1 := ⟨rfl, wyc_ref_1.1, wyc_ref_1.2, wyd_ref_5⟩
theorem wm_X8_isYard : Jvm.Cond.static yX8_isYard ∈ fm_Ts ∧ Jvm.Cond.initialized yX8_isYard.cls ∈ fm_Ts ∧ Jvm.Cond.code yX8_isYard prog_10_method_5_code 1 (some .boolean) ∈ fm_Ts := ⟨wz_ref_26, wz_ref_27, wz_ref_25⟩
theorem wy_X8_isYard : yX8_isYard.cls ≠ "java/lang/invoke/MethodHandle" ∧ yX8_isYard.cls ≠ "java/lang/invoke/VarHandle" ∧ (parseMethodDescriptor yX8_isYard.desc).map (fun d => d.parameters.length) = some 1 := ⟨wyc_ref_1.1, wyc_ref_1.2, wyd_ref_3⟩
theorem wm_X8_lies : Jvm.Cond.static yX8_lies ∈ fm_Ts ∧ Jvm.Cond.initialized yX8_lies.cls ∈ fm_Ts ∧ Jvm.Cond.code yX8_lies prog_10_method_2_code 6 (some .boolean) ∈ fm_Ts := ⟨wz_ref_29, wz_ref_30, wz_ref_28⟩
theorem wyd_ref_6 : (parseMethodDescriptor "(JJJ)Z").map (fun d => d.parameters.length) = some 3 := by decide +kernel
theorem wy_X8_lies : yX8_lies.cls ≠ "java/lang/invoke/MethodHandle" ∧ yX8_lies.cls ≠ "java/lang/invoke/VarHandle" ∧ (parseMethodDescriptor yX8_lies.desc).map (fun d => d.parameters.length) = some 3 := ⟨wyc_ref_1.1, wyc_ref_1.2, wyd_ref_6⟩
theorem wm_X8_yard : Jvm.Cond.instanceMethod yX8_yard ∈ fm_Ts ∧ Jvm.Cond.selects RX8 yX8_yard yX8_yard ∈ fm_Ts ∧ Jvm.Cond.initialized RX8 ∈ fm_Ts ∧ Jvm.Cond.code yX8_yard prog_10_method_10_code 5 (some .boolean) ∈ fm_Ts := ⟨wz_ref_32, wz_ref_33, wz_ref_6, wz_ref_31⟩
theorem wyd_ref_7 : (parseMethodDescriptor "(IIIZ)Z").map (fun d => d.parameters.length) = some 4 := by decide +kernel
theorem wy_X8_yard : yX8_yard.cls = RX8 ∧ yX8_yard.cls ≠ "java/lang/invoke/MethodHandle" ∧ yX8_yard.cls ≠ "java/lang/invoke/VarHandle" ∧ (parseMethodDescriptor yX8_yard.desc).map (fun d => d.parameters.length) = some 4 := ⟨rfl, wyc_ref_1.1, wyc_ref_1.2, wyd_ref_7⟩
theorem wm_X8_isDigit : Jvm.Cond.static yX8_isDigit ∈ fm_Ts ∧ Jvm.Cond.initialized yX8_isDigit.cls ∈ fm_Ts ∧ Jvm.Cond.code yX8_isDigit prog_10_method_9_code 1 (some .boolean) ∈ fm_Ts := ⟨wz_ref_35, wz_ref_36, wz_ref_34⟩
theorem wy_X8_isDigit : yX8_isDigit.cls ≠ "java/lang/invoke/MethodHandle" ∧ yX8_isDigit.cls ≠ "java/lang/invoke/VarHandle" ∧ (parseMethodDescriptor yX8_isDigit.desc).map (fun d => d.parameters.length) = some 1 := ⟨wyc_ref_1.1, wyc_ref_1.2, wyd_ref_3⟩
theorem wm_X8_rain : Jvm.Cond.instanceMethod yX8_rain ∈ fm_Ts ∧ Jvm.Cond.selects RX8 yX8_rain yX8_rain ∈ fm_Ts ∧ Jvm.Cond.initialized RX8 ∈ fm_Ts ∧ Jvm.Cond.code yX8_rain prog_10_method_11_code 3 (some .boolean) ∈ fm_Ts := ⟨wz_ref_38, wz_ref_39, wz_ref_6, wz_ref_37⟩
theorem wyd_ref_8 : (parseMethodDescriptor "(II)Z").map (fun d => d.parameters.length) = some 2 := by decide +kernel
theorem wy_X8_rain : yX8_rain.cls = RX8 ∧ yX8_rain.cls ≠ "java/lang/invoke/MethodHandle" ∧ yX8_rain.cls ≠ "java/lang/invoke/VarHandle" ∧ (parseMethodDescriptor yX8_rain.desc).map (fun d => d.parameters.length) = some 2 := ⟨rfl, wyc_ref_1.1, wyc_ref_1.2, wyd_ref_8⟩
theorem wm_X8_porter : Jvm.Cond.instanceMethod yX8_porter ∈ fm_Ts ∧ Jvm.Cond.selects RX8 yX8_porter yX8_porter ∈ fm_Ts ∧ Jvm.Cond.initialized RX8 ∈ fm_Ts ∧ Jvm.Cond.code yX8_porter prog_10_method_12_code 6 (some .boolean) ∈ fm_Ts := ⟨wz_ref_41, wz_ref_42, wz_ref_6, wz_ref_40⟩
theorem wyd_ref_9 : (parseMethodDescriptor "(IIIII)Z").map (fun d => d.parameters.length) = some 5 := by decide +kernel
theorem wy_X8_porter : yX8_porter.cls = RX8 ∧ yX8_porter.cls ≠ "java/lang/invoke/MethodHandle" ∧ yX8_porter.cls ≠ "java/lang/invoke/VarHandle" ∧ (parseMethodDescriptor yX8_porter.desc).map (fun d => d.parameters.length) = some 5 := ⟨rfl, wyc_ref_1.1, wyc_ref_1.2, wyd_ref_9⟩
theorem wm_X8_isBeggar : Jvm.Cond.static yX8_isBeggar ∈ fm_Ts ∧ Jvm.Cond.initialized yX8_isBeggar.cls ∈ fm_Ts ∧ Jvm.Cond.code yX8_isBeggar prog_10_method_6_code 1 (some .boolean) ∈ fm_Ts := ⟨wz_ref_44, wz_ref_45, wz_ref_43⟩
theorem wy_X8_isBeggar : yX8_isBeggar.cls ≠ "java/lang/invoke/MethodHandle" ∧ yX8_isBeggar.cls ≠ "java/lang/invoke/VarHandle" ∧ (parseMethodDescriptor yX8_isBeggar.desc).map (fun d => d.parameters.length) = some 1 := ⟨wyc_ref_1.1, wyc_ref_1.2, wyd_ref_3⟩
theorem wm_X8_licence : Jvm.Cond.instanceMethod yX8_licence ∈ fm_Ts ∧ Jvm.Cond.selects RX8 yX8_licence yX8_licence ∈ fm_Ts ∧ Jvm.Cond.initialized RX8 ∈ fm_Ts ∧ Jvm.Cond.code yX8_licence prog_10_method_13_code 3 (some .boolean) ∈ fm_Ts := ⟨wz_ref_47, wz_ref_48, wz_ref_6, wz_ref_46⟩
theorem wy_X8_licence : yX8_licence.cls = RX8 ∧ yX8_licence.cls ≠ "java/lang/invoke/MethodHandle" ∧ yX8_licence.cls ≠ "java/lang/invoke/VarHandle" ∧ (parseMethodDescriptor yX8_licence.desc).map (fun d => d.parameters.length) = some 2 := ⟨rfl, wyc_ref_1.1, wyc_ref_1.2, wyd_ref_8⟩
theorem wm_X8_skill : Jvm.Cond.instanceMethod yX8_skill ∈ fm_Ts ∧ Jvm.Cond.selects RX8 yX8_skill yX8_skill ∈ fm_Ts ∧ Jvm.Cond.initialized RX8 ∈ fm_Ts ∧ Jvm.Cond.code yX8_skill prog_10_method_14_code 3 (some .boolean) ∈ fm_Ts := ⟨wz_ref_50, wz_ref_51, wz_ref_6, wz_ref_49⟩
theorem wy_X8_skill : yX8_skill.cls = RX8 ∧ yX8_skill.cls ≠ "java/lang/invoke/MethodHandle" ∧ yX8_skill.cls ≠ "java/lang/invoke/VarHandle" ∧ (parseMethodDescriptor yX8_skill.desc).map (fun d => d.parameters.length) = some 2 := ⟨rfl, wyc_ref_1.1, wyc_ref_1.2, wyd_ref_8⟩
theorem wm_X8_push : Jvm.Cond.instanceMethod yX8_push ∈ fm_Ts ∧ Jvm.Cond.selects RX8 yX8_push yX8_push ∈ fm_Ts ∧ Jvm.Cond.initialized RX8 ∈ fm_Ts ∧ Jvm.Cond.code yX8_push prog_10_method_15_code 3 none ∈ fm_Ts := ⟨wz_ref_53, wz_ref_54, wz_ref_6, wz_ref_52⟩
theorem wyd_ref_10 : (parseMethodDescriptor "(I)V").map (fun d => d.parameters.length) = some 1 := by decide +kernel
theorem wy_X8_push : yX8_push.cls = RX8 ∧ yX8_push.cls ≠ "java/lang/invoke/MethodHandle" ∧ yX8_push.cls ≠ "java/lang/invoke/VarHandle" ∧ (parseMethodDescriptor yX8_push.desc).map (fun d => d.parameters.length) = some 1 := ⟨rfl, wyc_ref_1.1, wyc_ref_1.2, wyd_ref_10⟩
theorem wm_X8_feed : Jvm.Cond.instanceMethod yX8_feed ∈ fm_Ts ∧ Jvm.Cond.selects RX8 yX8_feed yX8_feed ∈ fm_Ts ∧ Jvm.Cond.initialized RX8 ∈ fm_Ts ∧ Jvm.Cond.code yX8_feed prog_10_method_16_code 6 (some .int) ∈ fm_Ts := ⟨wz_ref_56, wz_ref_57, wz_ref_6, wz_ref_55⟩
theorem wyd_ref_11 : (parseMethodDescriptor "(IIIII)I").map (fun d => d.parameters.length) = some 5 := by decide +kernel
theorem wy_X8_feed : yX8_feed.cls = RX8 ∧ yX8_feed.cls ≠ "java/lang/invoke/MethodHandle" ∧ yX8_feed.cls ≠ "java/lang/invoke/VarHandle" ∧ (parseMethodDescriptor yX8_feed.desc).map (fun d => d.parameters.length) = some 5 := ⟨rfl, wyc_ref_1.1, wyc_ref_1.2, wyd_ref_11⟩
theorem wm_X8_areHours : Jvm.Cond.static yX8_areHours ∈ fm_Ts ∧ Jvm.Cond.initialized yX8_areHours.cls ∈ fm_Ts ∧ Jvm.Cond.code yX8_areHours prog_10_method_62_code 1 (some .boolean) ∈ fm_Ts := ⟨wz_ref_59, wz_ref_60, wz_ref_58⟩
theorem wy_X8_areHours : yX8_areHours.cls ≠ "java/lang/invoke/MethodHandle" ∧ yX8_areHours.cls ≠ "java/lang/invoke/VarHandle" ∧ (parseMethodDescriptor yX8_areHours.desc).map (fun d => d.parameters.length) = some 1 := ⟨wyc_ref_1.1, wyc_ref_1.2, wyd_ref_3⟩
theorem wm_X8_isPorter : Jvm.Cond.instanceMethod yX8_isPorter ∈ fm_Ts ∧ Jvm.Cond.selects RX8 yX8_isPorter yX8_isPorter ∈ fm_Ts ∧ Jvm.Cond.initialized RX8 ∈ fm_Ts ∧ Jvm.Cond.code yX8_isPorter prog_10_method_7_code 2 (some .boolean) ∈ fm_Ts := ⟨wz_ref_62, wz_ref_63, wz_ref_6, wz_ref_61⟩
theorem wy_X8_isPorter : yX8_isPorter.cls = RX8 ∧ yX8_isPorter.cls ≠ "java/lang/invoke/MethodHandle" ∧ yX8_isPorter.cls ≠ "java/lang/invoke/VarHandle" ∧ (parseMethodDescriptor yX8_isPorter.desc).map (fun d => d.parameters.length) = some 1 := ⟨rfl, wyc_ref_1.1, wyc_ref_1.2, wyd_ref_3⟩
theorem wm_X8_goesStill : Jvm.Cond.instanceMethod yX8_goesStill ∈ fm_Ts ∧ Jvm.Cond.selects RX8 yX8_goesStill yX8_goesStill ∈ fm_Ts ∧ Jvm.Cond.initialized RX8 ∈ fm_Ts ∧ Jvm.Cond.code yX8_goesStill prog_10_method_8_code 2 (some .boolean) ∈ fm_Ts := ⟨wz_ref_65, wz_ref_66, wz_ref_6, wz_ref_64⟩
theorem wy_X8_goesStill : yX8_goesStill.cls = RX8 ∧ yX8_goesStill.cls ≠ "java/lang/invoke/MethodHandle" ∧ yX8_goesStill.cls ≠ "java/lang/invoke/VarHandle" ∧ (parseMethodDescriptor yX8_goesStill.desc).map (fun d => d.parameters.length) = some 1 := ⟨rfl, wyc_ref_1.1, wyc_ref_1.2, wyd_ref_3⟩
theorem wm_X8_less : Jvm.Cond.static yX8_less ∈ fm_Ts ∧ Jvm.Cond.initialized yX8_less.cls ∈ fm_Ts ∧ Jvm.Cond.code yX8_less prog_10_method_52_code 2 (some .int) ∈ fm_Ts := ⟨wz_ref_68, wz_ref_69, wz_ref_67⟩
theorem wyd_ref_12 : (parseMethodDescriptor "(II)I").map (fun d => d.parameters.length) = some 2 := by decide +kernel
theorem wy_X8_less : yX8_less.cls ≠ "java/lang/invoke/MethodHandle" ∧ yX8_less.cls ≠ "java/lang/invoke/VarHandle" ∧ (parseMethodDescriptor yX8_less.desc).map (fun d => d.parameters.length) = some 2 := ⟨wyc_ref_1.1, wyc_ref_1.2, wyd_ref_12⟩
theorem wm_X8_wouldLose : Jvm.Cond.instanceMethod yX8_wouldLose ∈ fm_Ts ∧ Jvm.Cond.selects RX8 yX8_wouldLose yX8_wouldLose ∈ fm_Ts ∧ Jvm.Cond.initialized RX8 ∈ fm_Ts ∧ Jvm.Cond.code yX8_wouldLose prog_10_method_53_code 2 (some .int) ∈ fm_Ts := ⟨wz_ref_71, wz_ref_72, wz_ref_6, wz_ref_70⟩
theorem wy_X8_wouldLose : yX8_wouldLose.cls = RX8 ∧ yX8_wouldLose.cls ≠ "java/lang/invoke/MethodHandle" ∧ yX8_wouldLose.cls ≠ "java/lang/invoke/VarHandle" ∧ (parseMethodDescriptor yX8_wouldLose.desc).map (fun d => d.parameters.length) = some 1 := ⟨rfl, wyc_ref_1.1, wyc_ref_1.2, wyd_ref_5⟩
theorem wm_X8_tells : Jvm.Cond.instanceMethod yX8_tells ∈ fm_Ts ∧ Jvm.Cond.selects RX8 yX8_tells yX8_tells ∈ fm_Ts ∧ Jvm.Cond.initialized RX8 ∈ fm_Ts ∧ Jvm.Cond.code yX8_tells prog_10_method_51_code 7 (some .int) ∈ fm_Ts := ⟨wz_ref_74, wz_ref_75, wz_ref_6, wz_ref_73⟩
theorem wyd_ref_13 : (parseMethodDescriptor "(IIII)I").map (fun d => d.parameters.length) = some 4 := by decide +kernel
theorem wy_X8_tells : yX8_tells.cls = RX8 ∧ yX8_tells.cls ≠ "java/lang/invoke/MethodHandle" ∧ yX8_tells.cls ≠ "java/lang/invoke/VarHandle" ∧ (parseMethodDescriptor yX8_tells.desc).map (fun d => d.parameters.length) = some 4 := ⟨rfl, wyc_ref_1.1, wyc_ref_1.2, wyd_ref_13⟩
theorem wm_X8_comes : Jvm.Cond.instanceMethod yX8_comes ∈ fm_Ts ∧ Jvm.Cond.selects RX8 yX8_comes yX8_comes ∈ fm_Ts ∧ Jvm.Cond.initialized RX8 ∈ fm_Ts ∧ Jvm.Cond.code yX8_comes prog_10_method_54_code 4 none ∈ fm_Ts := ⟨wz_ref_77, wz_ref_78, wz_ref_6, wz_ref_76⟩
theorem wy_X8_comes : yX8_comes.cls = RX8 ∧ yX8_comes.cls ≠ "java/lang/invoke/MethodHandle" ∧ yX8_comes.cls ≠ "java/lang/invoke/VarHandle" ∧ (parseMethodDescriptor yX8_comes.desc).map (fun d => d.parameters.length) = some 2 := ⟨rfl, wyc_ref_1.1, wyc_ref_1.2, wyd_ref_2⟩
theorem wm_X8_loses : Jvm.Cond.instanceMethod yX8_loses ∈ fm_Ts ∧ Jvm.Cond.selects RX8 yX8_loses yX8_loses ∈ fm_Ts ∧ Jvm.Cond.initialized RX8 ∈ fm_Ts ∧ Jvm.Cond.code yX8_loses prog_10_method_55_code 3 none ∈ fm_Ts := ⟨wz_ref_80, wz_ref_81, wz_ref_6, wz_ref_79⟩
theorem wyd_ref_14 : (parseMethodDescriptor "()V").map (fun d => d.parameters.length) = some 0 := by decide +kernel
theorem wy_X8_loses : yX8_loses.cls = RX8 ∧ yX8_loses.cls ≠ "java/lang/invoke/MethodHandle" ∧ yX8_loses.cls ≠ "java/lang/invoke/VarHandle" ∧ (parseMethodDescriptor yX8_loses.desc).map (fun d => d.parameters.length) = some 0 := ⟨rfl, wyc_ref_1.1, wyc_ref_1.2, wyd_ref_14⟩
theorem wm_X8_climbs : Jvm.Cond.instanceMethod yX8_climbs ∈ fm_Ts ∧ Jvm.Cond.selects RX8 yX8_climbs yX8_climbs ∈ fm_Ts ∧ Jvm.Cond.initialized RX8 ∈ fm_Ts ∧ Jvm.Cond.code yX8_climbs prog_10_method_56_code 2 none ∈ fm_Ts := ⟨wz_ref_83, wz_ref_84, wz_ref_6, wz_ref_82⟩
theorem wy_X8_climbs : yX8_climbs.cls = RX8 ∧ yX8_climbs.cls ≠ "java/lang/invoke/MethodHandle" ∧ yX8_climbs.cls ≠ "java/lang/invoke/VarHandle" ∧ (parseMethodDescriptor yX8_climbs.desc).map (fun d => d.parameters.length) = some 0 := ⟨rfl, wyc_ref_1.1, wyc_ref_1.2, wyd_ref_14⟩
theorem wm_X8_blows : Jvm.Cond.instanceMethod yX8_blows ∈ fm_Ts ∧ Jvm.Cond.selects RX8 yX8_blows yX8_blows ∈ fm_Ts ∧ Jvm.Cond.initialized RX8 ∈ fm_Ts ∧ Jvm.Cond.code yX8_blows prog_10_method_57_code 3 none ∈ fm_Ts := ⟨wz_ref_86, wz_ref_87, wz_ref_6, wz_ref_85⟩
theorem wy_X8_blows : yX8_blows.cls = RX8 ∧ yX8_blows.cls ≠ "java/lang/invoke/MethodHandle" ∧ yX8_blows.cls ≠ "java/lang/invoke/VarHandle" ∧ (parseMethodDescriptor yX8_blows.desc).map (fun d => d.parameters.length) = some 0 := ⟨rfl, wyc_ref_1.1, wyc_ref_1.2, wyd_ref_14⟩
theorem wm_X8_washes : Jvm.Cond.instanceMethod yX8_washes ∈ fm_Ts ∧ Jvm.Cond.selects RX8 yX8_washes yX8_washes ∈ fm_Ts ∧ Jvm.Cond.initialized RX8 ∈ fm_Ts ∧ Jvm.Cond.code yX8_washes prog_10_method_58_code 3 none ∈ fm_Ts := ⟨wz_ref_89, wz_ref_90, wz_ref_6, wz_ref_88⟩
theorem wy_X8_washes : yX8_washes.cls = RX8 ∧ yX8_washes.cls ≠ "java/lang/invoke/MethodHandle" ∧ yX8_washes.cls ≠ "java/lang/invoke/VarHandle" ∧ (parseMethodDescriptor yX8_washes.desc).map (fun d => d.parameters.length) = some 0 := ⟨rfl, wyc_ref_1.1, wyc_ref_1.2, wyd_ref_14⟩
theorem wm_X8_sieves : Jvm.Cond.instanceMethod yX8_sieves ∈ fm_Ts ∧ Jvm.Cond.selects RX8 yX8_sieves yX8_sieves ∈ fm_Ts ∧ Jvm.Cond.initialized RX8 ∈ fm_Ts ∧ Jvm.Cond.code yX8_sieves prog_10_method_59_code 3 none ∈ fm_Ts := ⟨wz_ref_92, wz_ref_93, wz_ref_6, wz_ref_91⟩
theorem wy_X8_sieves : yX8_sieves.cls = RX8 ∧ yX8_sieves.cls ≠ "java/lang/invoke/MethodHandle" ∧ yX8_sieves.cls ≠ "java/lang/invoke/VarHandle" ∧ (parseMethodDescriptor yX8_sieves.desc).map (fun d => d.parameters.length) = some 0 := ⟨rfl, wyc_ref_1.1, wyc_ref_1.2, wyd_ref_14⟩
theorem wm_X8_passes : Jvm.Cond.instanceMethod yX8_passes ∈ fm_Ts ∧ Jvm.Cond.selects RX8 yX8_passes yX8_passes ∈ fm_Ts ∧ Jvm.Cond.initialized RX8 ∈ fm_Ts ∧ Jvm.Cond.code yX8_passes prog_10_method_60_code 2 none ∈ fm_Ts := ⟨wz_ref_95, wz_ref_96, wz_ref_6, wz_ref_94⟩
theorem wy_X8_passes : yX8_passes.cls = RX8 ∧ yX8_passes.cls ≠ "java/lang/invoke/MethodHandle" ∧ yX8_passes.cls ≠ "java/lang/invoke/VarHandle" ∧ (parseMethodDescriptor yX8_passes.desc).map (fun d => d.parameters.length) = some 1 := ⟨rfl, wyc_ref_1.1, wyc_ref_1.2, wyd_ref_10⟩
theorem wm_X8_goesOn : Jvm.Cond.instanceMethod yX8_goesOn ∈ fm_Ts ∧ Jvm.Cond.selects RX8 yX8_goesOn yX8_goesOn ∈ fm_Ts ∧ Jvm.Cond.initialized RX8 ∈ fm_Ts ∧ Jvm.Cond.code yX8_goesOn prog_10_method_61_code 3 none ∈ fm_Ts := ⟨wz_ref_98, wz_ref_99, wz_ref_6, wz_ref_97⟩
theorem wy_X8_goesOn : yX8_goesOn.cls = RX8 ∧ yX8_goesOn.cls ≠ "java/lang/invoke/MethodHandle" ∧ yX8_goesOn.cls ≠ "java/lang/invoke/VarHandle" ∧ (parseMethodDescriptor yX8_goesOn.desc).map (fun d => d.parameters.length) = some 1 := ⟨rfl, wyc_ref_1.1, wyc_ref_1.2, wyd_ref_10⟩
theorem wm_X8_hours : Jvm.Cond.instanceMethod yX8_hours ∈ fm_Ts ∧ Jvm.Cond.selects RX8 yX8_hours yX8_hours ∈ fm_Ts ∧ Jvm.Cond.initialized RX8 ∈ fm_Ts ∧ Jvm.Cond.code yX8_hours prog_10_method_64_code 2 (some .int) ∈ fm_Ts := ⟨wz_ref_101, wz_ref_102, wz_ref_6, wz_ref_100⟩
theorem wy_X8_hours : yX8_hours.cls = RX8 ∧ yX8_hours.cls ≠ "java/lang/invoke/MethodHandle" ∧ yX8_hours.cls ≠ "java/lang/invoke/VarHandle" ∧ (parseMethodDescriptor yX8_hours.desc).map (fun d => d.parameters.length) = some 1 := ⟨rfl, wyc_ref_1.1, wyc_ref_1.2, wyd_ref_5⟩
theorem wm_X8_hour : Jvm.Cond.instanceMethod yX8_hour ∈ fm_Ts ∧ Jvm.Cond.selects RX8 yX8_hour yX8_hour ∈ fm_Ts ∧ Jvm.Cond.initialized RX8 ∈ fm_Ts ∧ Jvm.Cond.code yX8_hour prog_10_method_65_code 2 (some .int) ∈ fm_Ts := ⟨wz_ref_104, wz_ref_105, wz_ref_6, wz_ref_103⟩
theorem wy_X8_hour : yX8_hour.cls = RX8 ∧ yX8_hour.cls ≠ "java/lang/invoke/MethodHandle" ∧ yX8_hour.cls ≠ "java/lang/invoke/VarHandle" ∧ (parseMethodDescriptor yX8_hour.desc).map (fun d => d.parameters.length) = some 1 := ⟨rfl, wyc_ref_1.1, wyc_ref_1.2, wyd_ref_5⟩
theorem wm_X8_yardIs : Jvm.Cond.instanceMethod yX8_yardIs ∈ fm_Ts ∧ Jvm.Cond.selects RX8 yX8_yardIs yX8_yardIs ∈ fm_Ts ∧ Jvm.Cond.initialized RX8 ∈ fm_Ts ∧ Jvm.Cond.code yX8_yardIs prog_10_method_66_code 3 (some .int) ∈ fm_Ts := ⟨wz_ref_107, wz_ref_108, wz_ref_6, wz_ref_106⟩
theorem wy_X8_yardIs : yX8_yardIs.cls = RX8 ∧ yX8_yardIs.cls ≠ "java/lang/invoke/MethodHandle" ∧ yX8_yardIs.cls ≠ "java/lang/invoke/VarHandle" ∧ (parseMethodDescriptor yX8_yardIs.desc).map (fun d => d.parameters.length) = some 2 := ⟨rfl, wyc_ref_1.1, wyc_ref_1.2, wyd_ref_12⟩
theorem wm_X8_losesNow : Jvm.Cond.instanceMethod yX8_losesNow ∈ fm_Ts ∧ Jvm.Cond.selects RX8 yX8_losesNow yX8_losesNow ∈ fm_Ts ∧ Jvm.Cond.initialized RX8 ∈ fm_Ts ∧ Jvm.Cond.code yX8_losesNow prog_10_method_67_code 2 (some .int) ∈ fm_Ts := ⟨wz_ref_110, wz_ref_111, wz_ref_6, wz_ref_109⟩
theorem wy_X8_losesNow : yX8_losesNow.cls = RX8 ∧ yX8_losesNow.cls ≠ "java/lang/invoke/MethodHandle" ∧ yX8_losesNow.cls ≠ "java/lang/invoke/VarHandle" ∧ (parseMethodDescriptor yX8_losesNow.desc).map (fun d => d.parameters.length) = some 1 := ⟨rfl, wyc_ref_1.1, wyc_ref_1.2, wyd_ref_5⟩
theorem wm_X8_porterIs : Jvm.Cond.instanceMethod yX8_porterIs ∈ fm_Ts ∧ Jvm.Cond.selects RX8 yX8_porterIs yX8_porterIs ∈ fm_Ts ∧ Jvm.Cond.initialized RX8 ∈ fm_Ts ∧ Jvm.Cond.code yX8_porterIs prog_10_method_68_code 3 (some .int) ∈ fm_Ts := ⟨wz_ref_113, wz_ref_114, wz_ref_6, wz_ref_112⟩
theorem wy_X8_porterIs : yX8_porterIs.cls = RX8 ∧ yX8_porterIs.cls ≠ "java/lang/invoke/MethodHandle" ∧ yX8_porterIs.cls ≠ "java/lang/invoke/VarHandle" ∧ (parseMethodDescriptor yX8_porterIs.desc).map (fun d => d.parameters.length) = some 2 := ⟨rfl, wyc_ref_1.1, wyc_ref_1.2, wyd_ref_12⟩
theorem wm_X8_isTried : Jvm.Cond.instanceMethod yX8_isTried ∈ fm_Ts ∧ Jvm.Cond.selects RX8 yX8_isTried yX8_isTried ∈ fm_Ts ∧ Jvm.Cond.initialized RX8 ∈ fm_Ts ∧ Jvm.Cond.code yX8_isTried prog_10_method_72_code 2 (some .boolean) ∈ fm_Ts := ⟨wz_ref_116, wz_ref_117, wz_ref_6, wz_ref_115⟩
theorem wy_X8_isTried : yX8_isTried.cls = RX8 ∧ yX8_isTried.cls ≠ "java/lang/invoke/MethodHandle" ∧ yX8_isTried.cls ≠ "java/lang/invoke/VarHandle" ∧ (parseMethodDescriptor yX8_isTried.desc).map (fun d => d.parameters.length) = some 1 := ⟨rfl, wyc_ref_1.1, wyc_ref_1.2, wyd_ref_3⟩
theorem wm_X8_setsAside : Jvm.Cond.instanceMethod yX8_setsAside ∈ fm_Ts ∧ Jvm.Cond.selects RX8 yX8_setsAside yX8_setsAside ∈ fm_Ts ∧ Jvm.Cond.initialized RX8 ∈ fm_Ts ∧ Jvm.Cond.code yX8_setsAside prog_10_method_69_code 3 none ∈ fm_Ts := ⟨wz_ref_119, wz_ref_120, wz_ref_6, wz_ref_118⟩
theorem wy_X8_setsAside : yX8_setsAside.cls = RX8 ∧ yX8_setsAside.cls ≠ "java/lang/invoke/MethodHandle" ∧ yX8_setsAside.cls ≠ "java/lang/invoke/VarHandle" ∧ (parseMethodDescriptor yX8_setsAside.desc).map (fun d => d.parameters.length) = some 1 := ⟨rfl, wyc_ref_1.1, wyc_ref_1.2, wyd_ref_10⟩
theorem wm_X8_triedNow : Jvm.Cond.instanceMethod yX8_triedNow ∈ fm_Ts ∧ Jvm.Cond.selects RX8 yX8_triedNow yX8_triedNow ∈ fm_Ts ∧ Jvm.Cond.initialized RX8 ∈ fm_Ts ∧ Jvm.Cond.code yX8_triedNow prog_10_method_71_code 2 (some .int) ∈ fm_Ts := ⟨wz_ref_122, wz_ref_123, wz_ref_6, wz_ref_121⟩
theorem wy_X8_triedNow : yX8_triedNow.cls = RX8 ∧ yX8_triedNow.cls ≠ "java/lang/invoke/MethodHandle" ∧ yX8_triedNow.cls ≠ "java/lang/invoke/VarHandle" ∧ (parseMethodDescriptor yX8_triedNow.desc).map (fun d => d.parameters.length) = some 1 := ⟨rfl, wyc_ref_1.1, wyc_ref_1.2, wyd_ref_5⟩
theorem wm_X8_putsBack : Jvm.Cond.instanceMethod yX8_putsBack ∈ fm_Ts ∧ Jvm.Cond.selects RX8 yX8_putsBack yX8_putsBack ∈ fm_Ts ∧ Jvm.Cond.initialized RX8 ∈ fm_Ts ∧ Jvm.Cond.code yX8_putsBack prog_10_method_70_code 3 none ∈ fm_Ts := ⟨wz_ref_125, wz_ref_126, wz_ref_6, wz_ref_124⟩
theorem wy_X8_putsBack : yX8_putsBack.cls = RX8 ∧ yX8_putsBack.cls ≠ "java/lang/invoke/MethodHandle" ∧ yX8_putsBack.cls ≠ "java/lang/invoke/VarHandle" ∧ (parseMethodDescriptor yX8_putsBack.desc).map (fun d => d.parameters.length) = some 1 := ⟨rfl, wyc_ref_1.1, wyc_ref_1.2, wyd_ref_10⟩
theorem wm_X8_tried : Jvm.Cond.instanceMethod yX8_tried ∈ fm_Ts ∧ Jvm.Cond.selects RX8 yX8_tried yX8_tried ∈ fm_Ts ∧ Jvm.Cond.initialized RX8 ∈ fm_Ts ∧ Jvm.Cond.code yX8_tried prog_10_method_73_code 4 (some .int) ∈ fm_Ts := ⟨wz_ref_128, wz_ref_129, wz_ref_6, wz_ref_127⟩
theorem wy_X8_tried : yX8_tried.cls = RX8 ∧ yX8_tried.cls ≠ "java/lang/invoke/MethodHandle" ∧ yX8_tried.cls ≠ "java/lang/invoke/VarHandle" ∧ (parseMethodDescriptor yX8_tried.desc).map (fun d => d.parameters.length) = some 2 := ⟨rfl, wyc_ref_1.1, wyc_ref_1.2, wyd_ref_12⟩
theorem wm_X8_areFew : Jvm.Cond.static yX8_areFew ∈ fm_Ts ∧ Jvm.Cond.initialized yX8_areFew.cls ∈ fm_Ts ∧ Jvm.Cond.code yX8_areFew prog_10_method_63_code 1 (some .boolean) ∈ fm_Ts := ⟨wz_ref_131, wz_ref_132, wz_ref_130⟩
theorem wy_X8_areFew : yX8_areFew.cls ≠ "java/lang/invoke/MethodHandle" ∧ yX8_areFew.cls ≠ "java/lang/invoke/VarHandle" ∧ (parseMethodDescriptor yX8_areFew.desc).map (fun d => d.parameters.length) = some 1 := ⟨wyc_ref_1.1, wyc_ref_1.2, wyd_ref_3⟩
theorem wm_X8_has : Jvm.Cond.static yX8_has ∈ fm_Ts ∧ Jvm.Cond.initialized yX8_has.cls ∈ fm_Ts ∧ Jvm.Cond.code yX8_has prog_10_method_3_code 2 (some .boolean) ∈ fm_Ts := ⟨wz_ref_134, wz_ref_135, wz_ref_133⟩
theorem wy_X8_has : yX8_has.cls ≠ "java/lang/invoke/MethodHandle" ∧ yX8_has.cls ≠ "java/lang/invoke/VarHandle" ∧ (parseMethodDescriptor yX8_has.desc).map (fun d => d.parameters.length) = some 2 := ⟨wyc_ref_1.1, wyc_ref_1.2, wyd_ref_8⟩
theorem wm_X8_isAhead : Jvm.Cond.static yX8_isAhead ∈ fm_Ts ∧ Jvm.Cond.initialized yX8_isAhead.cls ∈ fm_Ts ∧ Jvm.Cond.code yX8_isAhead prog_10_method_75_code 3 (some .boolean) ∈ fm_Ts := ⟨wz_ref_137, wz_ref_138, wz_ref_136⟩
theorem wy_X8_isAhead : yX8_isAhead.cls ≠ "java/lang/invoke/MethodHandle" ∧ yX8_isAhead.cls ≠ "java/lang/invoke/VarHandle" ∧ (parseMethodDescriptor yX8_isAhead.desc).map (fun d => d.parameters.length) = some 2 := ⟨wyc_ref_1.1, wyc_ref_1.2, wyd_ref_8⟩
theorem wm_X8_sizeOf : Jvm.Cond.static yX8_sizeOf ∈ fm_Ts ∧ Jvm.Cond.initialized yX8_sizeOf.cls ∈ fm_Ts ∧ Jvm.Cond.code yX8_sizeOf prog_10_method_4_code 3 (some .int) ∈ fm_Ts := ⟨wz_ref_140, wz_ref_141, wz_ref_139⟩
theorem wy_X8_sizeOf : yX8_sizeOf.cls ≠ "java/lang/invoke/MethodHandle" ∧ yX8_sizeOf.cls ≠ "java/lang/invoke/VarHandle" ∧ (parseMethodDescriptor yX8_sizeOf.desc).map (fun d => d.parameters.length) = some 1 := ⟨wyc_ref_1.1, wyc_ref_1.2, wyd_ref_5⟩
theorem wm_X8_sievesBy : Jvm.Cond.instanceMethod yX8_sievesBy ∈ fm_Ts ∧ Jvm.Cond.selects RX8 yX8_sievesBy yX8_sievesBy ∈ fm_Ts ∧ Jvm.Cond.initialized RX8 ∈ fm_Ts ∧ Jvm.Cond.code yX8_sievesBy prog_10_method_74_code 7 none ∈ fm_Ts := ⟨wz_ref_143, wz_ref_144, wz_ref_6, wz_ref_142⟩
theorem wyd_ref_15 : (parseMethodDescriptor "(IIII)V").map (fun d => d.parameters.length) = some 4 := by decide +kernel
theorem wy_X8_sievesBy : yX8_sievesBy.cls = RX8 ∧ yX8_sievesBy.cls ≠ "java/lang/invoke/MethodHandle" ∧ yX8_sievesBy.cls ≠ "java/lang/invoke/VarHandle" ∧ (parseMethodDescriptor yX8_sievesBy.desc).map (fun d => d.parameters.length) = some 4 := ⟨rfl, wyc_ref_1.1, wyc_ref_1.2, wyd_ref_15⟩
theorem wm_X8_sieved : Jvm.Cond.instanceMethod yX8_sieved ∈ fm_Ts ∧ Jvm.Cond.selects RX8 yX8_sieved yX8_sieved ∈ fm_Ts ∧ Jvm.Cond.initialized RX8 ∈ fm_Ts ∧ Jvm.Cond.code yX8_sieved prog_10_method_76_code 10 (some .int) ∈ fm_Ts := ⟨wz_ref_146, wz_ref_147, wz_ref_6, wz_ref_145⟩
theorem wy_X8_sieved : yX8_sieved.cls = RX8 ∧ yX8_sieved.cls ≠ "java/lang/invoke/MethodHandle" ∧ yX8_sieved.cls ≠ "java/lang/invoke/VarHandle" ∧ (parseMethodDescriptor yX8_sieved.desc).map (fun d => d.parameters.length) = some 5 := ⟨rfl, wyc_ref_1.1, wyc_ref_1.2, wyd_ref_11⟩
theorem wm_X8_carpet : Jvm.Cond.instanceMethod yX8_carpet ∈ fm_Ts ∧ Jvm.Cond.selects RX8 yX8_carpet yX8_carpet ∈ fm_Ts ∧ Jvm.Cond.initialized RX8 ∈ fm_Ts ∧ Jvm.Cond.code yX8_carpet prog_10_method_79_code 6 (some .int) ∈ fm_Ts := ⟨wz_ref_149, wz_ref_150, wz_ref_6, wz_ref_148⟩
theorem wy_X8_carpet : yX8_carpet.cls = RX8 ∧ yX8_carpet.cls ≠ "java/lang/invoke/MethodHandle" ∧ yX8_carpet.cls ≠ "java/lang/invoke/VarHandle" ∧ (parseMethodDescriptor yX8_carpet.desc).map (fun d => d.parameters.length) = some 2 := ⟨rfl, wyc_ref_1.1, wyc_ref_1.2, wyd_ref_12⟩
theorem wm_X8_gust : Jvm.Cond.instanceMethod yX8_gust ∈ fm_Ts ∧ Jvm.Cond.selects RX8 yX8_gust yX8_gust ∈ fm_Ts ∧ Jvm.Cond.initialized RX8 ∈ fm_Ts ∧ Jvm.Cond.code yX8_gust prog_10_method_80_code 10 (some .int) ∈ fm_Ts := ⟨wz_ref_152, wz_ref_153, wz_ref_6, wz_ref_151⟩
theorem wy_X8_gust : yX8_gust.cls = RX8 ∧ yX8_gust.cls ≠ "java/lang/invoke/MethodHandle" ∧ yX8_gust.cls ≠ "java/lang/invoke/VarHandle" ∧ (parseMethodDescriptor yX8_gust.desc).map (fun d => d.parameters.length) = some 4 := ⟨rfl, wyc_ref_1.1, wyc_ref_1.2, wyd_ref_13⟩
theorem wm_X8_purseBy : Jvm.Cond.instanceMethod yX8_purseBy ∈ fm_Ts ∧ Jvm.Cond.selects RX8 yX8_purseBy yX8_purseBy ∈ fm_Ts ∧ Jvm.Cond.initialized RX8 ∈ fm_Ts ∧ Jvm.Cond.code yX8_purseBy prog_10_method_81_code 6 (some .int) ∈ fm_Ts := ⟨wz_ref_155, wz_ref_156, wz_ref_6, wz_ref_154⟩
theorem wy_X8_purseBy : yX8_purseBy.cls = RX8 ∧ yX8_purseBy.cls ≠ "java/lang/invoke/MethodHandle" ∧ yX8_purseBy.cls ≠ "java/lang/invoke/VarHandle" ∧ (parseMethodDescriptor yX8_purseBy.desc).map (fun d => d.parameters.length) = some 4 := ⟨rfl, wyc_ref_1.1, wyc_ref_1.2, wyd_ref_13⟩
theorem wm_X8_worthOf : Jvm.Cond.instanceMethod yX8_worthOf ∈ fm_Ts ∧ Jvm.Cond.selects RX8 yX8_worthOf yX8_worthOf ∈ fm_Ts ∧ Jvm.Cond.initialized RX8 ∈ fm_Ts ∧ Jvm.Cond.code yX8_worthOf prog_10_method_82_code 4 (some .int) ∈ fm_Ts := ⟨wz_ref_158, wz_ref_159, wz_ref_6, wz_ref_157⟩
theorem wy_X8_worthOf : yX8_worthOf.cls = RX8 ∧ yX8_worthOf.cls ≠ "java/lang/invoke/MethodHandle" ∧ yX8_worthOf.cls ≠ "java/lang/invoke/VarHandle" ∧ (parseMethodDescriptor yX8_worthOf.desc).map (fun d => d.parameters.length) = some 3 := ⟨rfl, wyc_ref_1.1, wyc_ref_1.2, wyd_ref_0⟩
theorem wm_X8_worth : Jvm.Cond.instanceMethod yX8_worth ∈ fm_Ts ∧ Jvm.Cond.selects RX8 yX8_worth yX8_worth ∈ fm_Ts ∧ Jvm.Cond.initialized RX8 ∈ fm_Ts ∧ Jvm.Cond.code yX8_worth prog_10_method_83_code 4 (some .int) ∈ fm_Ts := ⟨wz_ref_161, wz_ref_162, wz_ref_6, wz_ref_160⟩
theorem wy_X8_worth : yX8_worth.cls = RX8 ∧ yX8_worth.cls ≠ "java/lang/invoke/MethodHandle" ∧ yX8_worth.cls ≠ "java/lang/invoke/VarHandle" ∧ (parseMethodDescriptor yX8_worth.desc).map (fun d => d.parameters.length) = some 3 := ⟨rfl, wyc_ref_1.1, wyc_ref_1.2, wyd_ref_0⟩
theorem wm_X8_sold : Jvm.Cond.instanceMethod yX8_sold ∈ fm_Ts ∧ Jvm.Cond.selects RX8 yX8_sold yX8_sold ∈ fm_Ts ∧ Jvm.Cond.initialized RX8 ∈ fm_Ts ∧ Jvm.Cond.code yX8_sold prog_10_method_84_code 9 (some .int) ∈ fm_Ts := ⟨wz_ref_164, wz_ref_165, wz_ref_6, wz_ref_163⟩
theorem wy_X8_sold : yX8_sold.cls = RX8 ∧ yX8_sold.cls ≠ "java/lang/invoke/MethodHandle" ∧ yX8_sold.cls ≠ "java/lang/invoke/VarHandle" ∧ (parseMethodDescriptor yX8_sold.desc).map (fun d => d.parameters.length) = some 3 := ⟨rfl, wyc_ref_1.1, wyc_ref_1.2, wyd_ref_0⟩
theorem wm_X8_byteAt : Jvm.Cond.instanceMethod yX8_byteAt ∈ fm_Ts ∧ Jvm.Cond.selects RX8 yX8_byteAt yX8_byteAt ∈ fm_Ts ∧ Jvm.Cond.initialized RX8 ∈ fm_Ts ∧ Jvm.Cond.code yX8_byteAt prog_10_method_17_code 2 (some .int) ∈ fm_Ts := ⟨wz_ref_167, wz_ref_168, wz_ref_6, wz_ref_166⟩
theorem wy_X8_byteAt : yX8_byteAt.cls = RX8 ∧ yX8_byteAt.cls ≠ "java/lang/invoke/MethodHandle" ∧ yX8_byteAt.cls ≠ "java/lang/invoke/VarHandle" ∧ (parseMethodDescriptor yX8_byteAt.desc).map (fun d => d.parameters.length) = some 1 := ⟨rfl, wyc_ref_1.1, wyc_ref_1.2, wyd_ref_5⟩
theorem wm_X8_isShaken : Jvm.Cond.instanceMethod yX8_isShaken ∈ fm_Ts ∧ Jvm.Cond.selects RX8 yX8_isShaken yX8_isShaken ∈ fm_Ts ∧ Jvm.Cond.initialized RX8 ∈ fm_Ts ∧ Jvm.Cond.code yX8_isShaken prog_10_method_85_code 5 (some .boolean) ∈ fm_Ts := ⟨wz_ref_170, wz_ref_171, wz_ref_6, wz_ref_169⟩
theorem wy_X8_isShaken : yX8_isShaken.cls = RX8 ∧ yX8_isShaken.cls ≠ "java/lang/invoke/MethodHandle" ∧ yX8_isShaken.cls ≠ "java/lang/invoke/VarHandle" ∧ (parseMethodDescriptor yX8_isShaken.desc).map (fun d => d.parameters.length) = some 2 := ⟨rfl, wyc_ref_1.1, wyc_ref_1.2, wyd_ref_8⟩
theorem wm_X8_shook : Jvm.Cond.instanceMethod yX8_shook ∈ fm_Ts ∧ Jvm.Cond.selects RX8 yX8_shook yX8_shook ∈ fm_Ts ∧ Jvm.Cond.initialized RX8 ∈ fm_Ts ∧ Jvm.Cond.code yX8_shook prog_10_method_86_code 9 (some .int) ∈ fm_Ts := ⟨wz_ref_173, wz_ref_174, wz_ref_6, wz_ref_172⟩
theorem wy_X8_shook : yX8_shook.cls = RX8 ∧ yX8_shook.cls ≠ "java/lang/invoke/MethodHandle" ∧ yX8_shook.cls ≠ "java/lang/invoke/VarHandle" ∧ (parseMethodDescriptor yX8_shook.desc).map (fun d => d.parameters.length) = some 3 := ⟨rfl, wyc_ref_1.1, wyc_ref_1.2, wyd_ref_0⟩
theorem wm_X8_ledOf : Jvm.Cond.instanceMethod yX8_ledOf ∈ fm_Ts ∧ Jvm.Cond.selects RX8 yX8_ledOf yX8_ledOf ∈ fm_Ts ∧ Jvm.Cond.initialized RX8 ∈ fm_Ts ∧ Jvm.Cond.code yX8_ledOf prog_10_method_87_code 6 (some .int) ∈ fm_Ts := ⟨wz_ref_176, wz_ref_177, wz_ref_6, wz_ref_175⟩
theorem wy_X8_ledOf : yX8_ledOf.cls = RX8 ∧ yX8_ledOf.cls ≠ "java/lang/invoke/MethodHandle" ∧ yX8_ledOf.cls ≠ "java/lang/invoke/VarHandle" ∧ (parseMethodDescriptor yX8_ledOf.desc).map (fun d => d.parameters.length) = some 2 := ⟨rfl, wyc_ref_1.1, wyc_ref_1.2, wyd_ref_12⟩
theorem wm_X8_led : Jvm.Cond.instanceMethod yX8_led ∈ fm_Ts ∧ Jvm.Cond.selects RX8 yX8_led yX8_led ∈ fm_Ts ∧ Jvm.Cond.initialized RX8 ∈ fm_Ts ∧ Jvm.Cond.code yX8_led prog_10_method_88_code 3 (some .int) ∈ fm_Ts := ⟨wz_ref_179, wz_ref_180, wz_ref_6, wz_ref_178⟩
theorem wy_X8_led : yX8_led.cls = RX8 ∧ yX8_led.cls ≠ "java/lang/invoke/MethodHandle" ∧ yX8_led.cls ≠ "java/lang/invoke/VarHandle" ∧ (parseMethodDescriptor yX8_led.desc).map (fun d => d.parameters.length) = some 2 := ⟨rfl, wyc_ref_1.1, wyc_ref_1.2, wyd_ref_12⟩
theorem wm_X8_share : Jvm.Cond.instanceMethod yX8_share ∈ fm_Ts ∧ Jvm.Cond.selects RX8 yX8_share yX8_share ∈ fm_Ts ∧ Jvm.Cond.initialized RX8 ∈ fm_Ts ∧ Jvm.Cond.code yX8_share prog_10_method_90_code 7 (some .int) ∈ fm_Ts := ⟨wz_ref_182, wz_ref_183, wz_ref_6, wz_ref_181⟩
theorem wy_X8_share : yX8_share.cls = RX8 ∧ yX8_share.cls ≠ "java/lang/invoke/MethodHandle" ∧ yX8_share.cls ≠ "java/lang/invoke/VarHandle" ∧ (parseMethodDescriptor yX8_share.desc).map (fun d => d.parameters.length) = some 3 := ⟨rfl, wyc_ref_1.1, wyc_ref_1.2, wyd_ref_0⟩
theorem wm_X8_divisor : Jvm.Cond.static yX8_divisor ∈ fm_Ts ∧ Jvm.Cond.initialized yX8_divisor.cls ∈ fm_Ts ∧ Jvm.Cond.code yX8_divisor prog_10_method_89_code 5 (some .int) ∈ fm_Ts := ⟨wz_ref_185, wz_ref_186, wz_ref_184⟩
theorem wy_X8_divisor : yX8_divisor.cls ≠ "java/lang/invoke/MethodHandle" ∧ yX8_divisor.cls ≠ "java/lang/invoke/VarHandle" ∧ (parseMethodDescriptor yX8_divisor.desc).map (fun d => d.parameters.length) = some 2 := ⟨wyc_ref_1.1, wyc_ref_1.2, wyd_ref_12⟩
theorem wm_X8_odds : Jvm.Cond.instanceMethod yX8_odds ∈ fm_Ts ∧ Jvm.Cond.selects RX8 yX8_odds yX8_odds ∈ fm_Ts ∧ Jvm.Cond.initialized RX8 ∈ fm_Ts ∧ Jvm.Cond.code yX8_odds prog_10_method_91_code 9 (some .int) ∈ fm_Ts := ⟨wz_ref_188, wz_ref_189, wz_ref_6, wz_ref_187⟩
theorem wy_X8_odds : yX8_odds.cls = RX8 ∧ yX8_odds.cls ≠ "java/lang/invoke/MethodHandle" ∧ yX8_odds.cls ≠ "java/lang/invoke/VarHandle" ∧ (parseMethodDescriptor yX8_odds.desc).map (fun d => d.parameters.length) = some 3 := ⟨rfl, wyc_ref_1.1, wyc_ref_1.2, wyd_ref_0⟩
theorem wm_X8_seed : Jvm.Cond.instanceMethod yX8_seed ∈ fm_Ts ∧ Jvm.Cond.selects RX8 yX8_seed yX8_seed ∈ fm_Ts ∧ Jvm.Cond.initialized RX8 ∈ fm_Ts ∧ Jvm.Cond.code yX8_seed prog_10_method_92_code 2 (some .boolean) ∈ fm_Ts := ⟨wz_ref_191, wz_ref_192, wz_ref_6, wz_ref_190⟩
theorem wy_X8_seed : yX8_seed.cls = RX8 ∧ yX8_seed.cls ≠ "java/lang/invoke/MethodHandle" ∧ yX8_seed.cls ≠ "java/lang/invoke/VarHandle" ∧ (parseMethodDescriptor yX8_seed.desc).map (fun d => d.parameters.length) = some 1 := ⟨rfl, wyc_ref_1.1, wyc_ref_1.2, wyd_ref_3⟩
theorem wm_X8_keep : Jvm.Cond.instanceMethod yX8_keep ∈ fm_Ts ∧ Jvm.Cond.selects RX8 yX8_keep yX8_keep ∈ fm_Ts ∧ Jvm.Cond.initialized RX8 ∈ fm_Ts ∧ Jvm.Cond.code yX8_keep prog_10_method_93_code 1 (some .int) ∈ fm_Ts := ⟨wz_ref_194, wz_ref_195, wz_ref_6, wz_ref_193⟩
theorem wy_X8_keep : yX8_keep.cls = RX8 ∧ yX8_keep.cls ≠ "java/lang/invoke/MethodHandle" ∧ yX8_keep.cls ≠ "java/lang/invoke/VarHandle" ∧ (parseMethodDescriptor yX8_keep.desc).map (fun d => d.parameters.length) = some 0 := ⟨rfl, wyc_ref_1.1, wyc_ref_1.2, wyd_ref_4⟩
theorem wm_X8_undo : Jvm.Cond.instanceMethod yX8_undo ∈ fm_Ts ∧ Jvm.Cond.selects RX8 yX8_undo yX8_undo ∈ fm_Ts ∧ Jvm.Cond.initialized RX8 ∈ fm_Ts ∧ Jvm.Cond.code yX8_undo prog_10_method_94_code 1 (some .boolean) ∈ fm_Ts := ⟨wz_ref_197, wz_ref_198, wz_ref_6, wz_ref_196⟩
theorem wyd_ref_16 : (parseMethodDescriptor "()Z").map (fun d => d.parameters.length) = some 0 := by decide +kernel
theorem wy_X8_undo : yX8_undo.cls = RX8 ∧ yX8_undo.cls ≠ "java/lang/invoke/MethodHandle" ∧ yX8_undo.cls ≠ "java/lang/invoke/VarHandle" ∧ (parseMethodDescriptor yX8_undo.desc).map (fun d => d.parameters.length) = some 0 := ⟨rfl, wyc_ref_1.1, wyc_ref_1.2, wyd_ref_16⟩
theorem wm_X8_numberAt : Jvm.Cond.instanceMethod yX8_numberAt ∈ fm_Ts ∧ Jvm.Cond.selects RX8 yX8_numberAt yX8_numberAt ∈ fm_Ts ∧ Jvm.Cond.initialized RX8 ∈ fm_Ts ∧ Jvm.Cond.code yX8_numberAt prog_10_method_95_code 4 (some .int) ∈ fm_Ts := ⟨wz_ref_200, wz_ref_201, wz_ref_6, wz_ref_199⟩
theorem wy_X8_numberAt : yX8_numberAt.cls = RX8 ∧ yX8_numberAt.cls ≠ "java/lang/invoke/MethodHandle" ∧ yX8_numberAt.cls ≠ "java/lang/invoke/VarHandle" ∧ (parseMethodDescriptor yX8_numberAt.desc).map (fun d => d.parameters.length) = some 1 := ⟨rfl, wyc_ref_1.1, wyc_ref_1.2, wyd_ref_5⟩
theorem wm_X8_check : Jvm.Cond.instanceMethod yX8_check ∈ fm_Ts ∧ Jvm.Cond.selects RX8 yX8_check yX8_check ∈ fm_Ts ∧ Jvm.Cond.initialized RX8 ∈ fm_Ts ∧ Jvm.Cond.code yX8_check prog_10_method_96_code 3 (some .int) ∈ fm_Ts := ⟨wz_ref_203, wz_ref_204, wz_ref_6, wz_ref_202⟩
theorem wy_X8_check : yX8_check.cls = RX8 ∧ yX8_check.cls ≠ "java/lang/invoke/MethodHandle" ∧ yX8_check.cls ≠ "java/lang/invoke/VarHandle" ∧ (parseMethodDescriptor yX8_check.desc).map (fun d => d.parameters.length) = some 1 := ⟨rfl, wyc_ref_1.1, wyc_ref_1.2, wyd_ref_5⟩
theorem wm_X8_allDust : Jvm.Cond.instanceMethod yX8_allDust ∈ fm_Ts ∧ Jvm.Cond.selects RX8 yX8_allDust yX8_allDust ∈ fm_Ts ∧ Jvm.Cond.initialized RX8 ∈ fm_Ts ∧ Jvm.Cond.code yX8_allDust prog_10_method_97_code 3 (some .int) ∈ fm_Ts := ⟨wz_ref_206, wz_ref_207, wz_ref_6, wz_ref_205⟩
theorem wy_X8_allDust : yX8_allDust.cls = RX8 ∧ yX8_allDust.cls ≠ "java/lang/invoke/MethodHandle" ∧ yX8_allDust.cls ≠ "java/lang/invoke/VarHandle" ∧ (parseMethodDescriptor yX8_allDust.desc).map (fun d => d.parameters.length) = some 0 := ⟨rfl, wyc_ref_1.1, wyc_ref_1.2, wyd_ref_4⟩
theorem wm_X8_portersTold : Jvm.Cond.instanceMethod yX8_portersTold ∈ fm_Ts ∧ Jvm.Cond.selects RX8 yX8_portersTold yX8_portersTold ∈ fm_Ts ∧ Jvm.Cond.initialized RX8 ∈ fm_Ts ∧ Jvm.Cond.code yX8_portersTold prog_10_method_98_code 3 (some .int) ∈ fm_Ts := ⟨wz_ref_209, wz_ref_210, wz_ref_6, wz_ref_208⟩
theorem wy_X8_portersTold : yX8_portersTold.cls = RX8 ∧ yX8_portersTold.cls ≠ "java/lang/invoke/MethodHandle" ∧ yX8_portersTold.cls ≠ "java/lang/invoke/VarHandle" ∧ (parseMethodDescriptor yX8_portersTold.desc).map (fun d => d.parameters.length) = some 0 := ⟨rfl, wyc_ref_1.1, wyc_ref_1.2, wyd_ref_4⟩
theorem wm_X8_count : Jvm.Cond.instanceMethod yX8_count ∈ fm_Ts ∧ Jvm.Cond.selects RX8 yX8_count yX8_count ∈ fm_Ts ∧ Jvm.Cond.initialized RX8 ∈ fm_Ts ∧ Jvm.Cond.code yX8_count prog_10_method_99_code 2 (some .int) ∈ fm_Ts := ⟨wz_ref_212, wz_ref_213, wz_ref_6, wz_ref_211⟩
theorem wy_X8_count : yX8_count.cls = RX8 ∧ yX8_count.cls ≠ "java/lang/invoke/MethodHandle" ∧ yX8_count.cls ≠ "java/lang/invoke/VarHandle" ∧ (parseMethodDescriptor yX8_count.desc).map (fun d => d.parameters.length) = some 1 := ⟨rfl, wyc_ref_1.1, wyc_ref_1.2, wyd_ref_5⟩
theorem wm_X8_goesToNext : Jvm.Cond.instanceMethod yX8_goesToNext ∈ fm_Ts ∧ Jvm.Cond.selects RX8 yX8_goesToNext yX8_goesToNext ∈ fm_Ts ∧ Jvm.Cond.initialized RX8 ∈ fm_Ts ∧ Jvm.Cond.code yX8_goesToNext prog_10_method_77_code 7 (some .boolean) ∈ fm_Ts := ⟨wz_ref_215, wz_ref_216, wz_ref_6, wz_ref_214⟩
theorem wy_X8_goesToNext : yX8_goesToNext.cls = RX8 ∧ yX8_goesToNext.cls ≠ "java/lang/invoke/MethodHandle" ∧ yX8_goesToNext.cls ≠ "java/lang/invoke/VarHandle" ∧ (parseMethodDescriptor yX8_goesToNext.desc).map (fun d => d.parameters.length) = some 1 := ⟨rfl, wyc_ref_1.1, wyc_ref_1.2, wyd_ref_3⟩
theorem wm_X8_works : Jvm.Cond.instanceMethod yX8_works ∈ fm_Ts ∧ Jvm.Cond.selects RX8 yX8_works yX8_works ∈ fm_Ts ∧ Jvm.Cond.initialized RX8 ∈ fm_Ts ∧ Jvm.Cond.code yX8_works prog_10_method_50_code 5 none ∈ fm_Ts := ⟨wz_ref_218, wz_ref_219, wz_ref_6, wz_ref_217⟩
theorem wy_X8_works : yX8_works.cls = RX8 ∧ yX8_works.cls ≠ "java/lang/invoke/MethodHandle" ∧ yX8_works.cls ≠ "java/lang/invoke/VarHandle" ∧ (parseMethodDescriptor yX8_works.desc).map (fun d => d.parameters.length) = some 2 := ⟨rfl, wyc_ref_1.1, wyc_ref_1.2, wyd_ref_2⟩
theorem wm_X8_bowls : Jvm.Cond.instanceMethod yX8_bowls ∈ fm_Ts ∧ Jvm.Cond.selects RX8 yX8_bowls yX8_bowls ∈ fm_Ts ∧ Jvm.Cond.initialized RX8 ∈ fm_Ts ∧ Jvm.Cond.code yX8_bowls prog_10_method_78_code 9 (some .int) ∈ fm_Ts := ⟨wz_ref_221, wz_ref_222, wz_ref_6, wz_ref_220⟩
theorem wy_X8_bowls : yX8_bowls.cls = RX8 ∧ yX8_bowls.cls ≠ "java/lang/invoke/MethodHandle" ∧ yX8_bowls.cls ≠ "java/lang/invoke/VarHandle" ∧ (parseMethodDescriptor yX8_bowls.desc).map (fun d => d.parameters.length) = some 3 := ⟨rfl, wyc_ref_1.1, wyc_ref_1.2, wyd_ref_0⟩
theorem wm_X8_here : Jvm.Cond.instanceMethod yX8_here ∈ fm_Ts ∧ Jvm.Cond.selects RX8 yX8_here yX8_here ∈ fm_Ts ∧ Jvm.Cond.initialized RX8 ∈ fm_Ts ∧ Jvm.Cond.code yX8_here prog_10_method_18_code 1 (some .int) ∈ fm_Ts := ⟨wz_ref_224, wz_ref_225, wz_ref_6, wz_ref_223⟩
theorem wy_X8_here : yX8_here.cls = RX8 ∧ yX8_here.cls ≠ "java/lang/invoke/MethodHandle" ∧ yX8_here.cls ≠ "java/lang/invoke/VarHandle" ∧ (parseMethodDescriptor yX8_here.desc).map (fun d => d.parameters.length) = some 0 := ⟨rfl, wyc_ref_1.1, wyc_ref_1.2, wyd_ref_4⟩
theorem wm_X8_wrongs : Jvm.Cond.instanceMethod yX8_wrongs ∈ fm_Ts ∧ Jvm.Cond.selects RX8 yX8_wrongs yX8_wrongs ∈ fm_Ts ∧ Jvm.Cond.initialized RX8 ∈ fm_Ts ∧ Jvm.Cond.code yX8_wrongs prog_10_method_19_code 3 none ∈ fm_Ts := ⟨wz_ref_227, wz_ref_228, wz_ref_6, wz_ref_226⟩
theorem wy_X8_wrongs : yX8_wrongs.cls = RX8 ∧ yX8_wrongs.cls ≠ "java/lang/invoke/MethodHandle" ∧ yX8_wrongs.cls ≠ "java/lang/invoke/VarHandle" ∧ (parseMethodDescriptor yX8_wrongs.desc).map (fun d => d.parameters.length) = some 2 := ⟨rfl, wyc_ref_1.1, wyc_ref_1.2, wyd_ref_2⟩
theorem wm_X8_isGood : Jvm.Cond.instanceMethod yX8_isGood ∈ fm_Ts ∧ Jvm.Cond.selects RX8 yX8_isGood yX8_isGood ∈ fm_Ts ∧ Jvm.Cond.initialized RX8 ∈ fm_Ts ∧ Jvm.Cond.code yX8_isGood prog_10_method_20_code 1 (some .boolean) ∈ fm_Ts := ⟨wz_ref_230, wz_ref_231, wz_ref_6, wz_ref_229⟩
theorem wy_X8_isGood : yX8_isGood.cls = RX8 ∧ yX8_isGood.cls ≠ "java/lang/invoke/MethodHandle" ∧ yX8_isGood.cls ≠ "java/lang/invoke/VarHandle" ∧ (parseMethodDescriptor yX8_isGood.desc).map (fun d => d.parameters.length) = some 0 := ⟨rfl, wyc_ref_1.1, wyc_ref_1.2, wyd_ref_16⟩
theorem wm_X8_emit : Jvm.Cond.instanceMethod yX8_emit ∈ fm_Ts ∧ Jvm.Cond.selects RX8 yX8_emit yX8_emit ∈ fm_Ts ∧ Jvm.Cond.initialized RX8 ∈ fm_Ts ∧ Jvm.Cond.code yX8_emit prog_10_method_21_code 3 none ∈ fm_Ts := ⟨wz_ref_233, wz_ref_234, wz_ref_6, wz_ref_232⟩
theorem wy_X8_emit : yX8_emit.cls = RX8 ∧ yX8_emit.cls ≠ "java/lang/invoke/MethodHandle" ∧ yX8_emit.cls ≠ "java/lang/invoke/VarHandle" ∧ (parseMethodDescriptor yX8_emit.desc).map (fun d => d.parameters.length) = some 2 := ⟨rfl, wyc_ref_1.1, wyc_ref_1.2, wyd_ref_2⟩
theorem wm_X8_top : Jvm.Cond.instanceMethod yX8_top ∈ fm_Ts ∧ Jvm.Cond.selects RX8 yX8_top yX8_top ∈ fm_Ts ∧ Jvm.Cond.initialized RX8 ∈ fm_Ts ∧ Jvm.Cond.code yX8_top prog_10_method_22_code 1 (some .int) ∈ fm_Ts := ⟨wz_ref_236, wz_ref_237, wz_ref_6, wz_ref_235⟩
theorem wy_X8_top : yX8_top.cls = RX8 ∧ yX8_top.cls ≠ "java/lang/invoke/MethodHandle" ∧ yX8_top.cls ≠ "java/lang/invoke/VarHandle" ∧ (parseMethodDescriptor yX8_top.desc).map (fun d => d.parameters.length) = some 0 := ⟨rfl, wyc_ref_1.1, wyc_ref_1.2, wyd_ref_4⟩
theorem wm_X8_puts : Jvm.Cond.instanceMethod yX8_puts ∈ fm_Ts ∧ Jvm.Cond.selects RX8 yX8_puts yX8_puts ∈ fm_Ts ∧ Jvm.Cond.initialized RX8 ∈ fm_Ts ∧ Jvm.Cond.code yX8_puts prog_10_method_23_code 2 none ∈ fm_Ts := ⟨wz_ref_239, wz_ref_240, wz_ref_6, wz_ref_238⟩
theorem wy_X8_puts : yX8_puts.cls = RX8 ∧ yX8_puts.cls ≠ "java/lang/invoke/MethodHandle" ∧ yX8_puts.cls ≠ "java/lang/invoke/VarHandle" ∧ (parseMethodDescriptor yX8_puts.desc).map (fun d => d.parameters.length) = some 1 := ⟨rfl, wyc_ref_1.1, wyc_ref_1.2, wyd_ref_10⟩
theorem wm_X8_opens : Jvm.Cond.instanceMethod yX8_opens ∈ fm_Ts ∧ Jvm.Cond.selects RX8 yX8_opens yX8_opens ∈ fm_Ts ∧ Jvm.Cond.initialized RX8 ∈ fm_Ts ∧ Jvm.Cond.code yX8_opens prog_10_method_24_code 1 none ∈ fm_Ts := ⟨wz_ref_242, wz_ref_243, wz_ref_6, wz_ref_241⟩
theorem wy_X8_opens : yX8_opens.cls = RX8 ∧ yX8_opens.cls ≠ "java/lang/invoke/MethodHandle" ∧ yX8_opens.cls ≠ "java/lang/invoke/VarHandle" ∧ (parseMethodDescriptor yX8_opens.desc).map (fun d => d.parameters.length) = some 0 := ⟨rfl, wyc_ref_1.1, wyc_ref_1.2, wyd_ref_14⟩
theorem wm_X8_seesDigit : Jvm.Cond.instanceMethod yX8_seesDigit ∈ fm_Ts ∧ Jvm.Cond.selects RX8 yX8_seesDigit yX8_seesDigit ∈ fm_Ts ∧ Jvm.Cond.initialized RX8 ∈ fm_Ts ∧ Jvm.Cond.code yX8_seesDigit prog_10_method_25_code 1 (some .boolean) ∈ fm_Ts := ⟨wz_ref_245, wz_ref_246, wz_ref_6, wz_ref_244⟩
theorem wy_X8_seesDigit : yX8_seesDigit.cls = RX8 ∧ yX8_seesDigit.cls ≠ "java/lang/invoke/MethodHandle" ∧ yX8_seesDigit.cls ≠ "java/lang/invoke/VarHandle" ∧ (parseMethodDescriptor yX8_seesDigit.desc).map (fun d => d.parameters.length) = some 0 := ⟨rfl, wyc_ref_1.1, wyc_ref_1.2, wyd_ref_16⟩
theorem wm_X8_reads : Jvm.Cond.instanceMethod yX8_reads ∈ fm_Ts ∧ Jvm.Cond.selects RX8 yX8_reads yX8_reads ∈ fm_Ts ∧ Jvm.Cond.initialized RX8 ∈ fm_Ts ∧ Jvm.Cond.code yX8_reads prog_10_method_26_code 3 (some .int) ∈ fm_Ts := ⟨wz_ref_248, wz_ref_249, wz_ref_6, wz_ref_247⟩
theorem wy_X8_reads : yX8_reads.cls = RX8 ∧ yX8_reads.cls ≠ "java/lang/invoke/MethodHandle" ∧ yX8_reads.cls ≠ "java/lang/invoke/VarHandle" ∧ (parseMethodDescriptor yX8_reads.desc).map (fun d => d.parameters.length) = some 0 := ⟨rfl, wyc_ref_1.1, wyc_ref_1.2, wyd_ref_4⟩
theorem wm_X8_isTimes : Jvm.Cond.static yX8_isTimes ∈ fm_Ts ∧ Jvm.Cond.initialized yX8_isTimes.cls ∈ fm_Ts ∧ Jvm.Cond.code yX8_isTimes prog_10_method_27_code 1 (some .boolean) ∈ fm_Ts := ⟨wz_ref_251, wz_ref_252, wz_ref_250⟩
theorem wy_X8_isTimes : yX8_isTimes.cls ≠ "java/lang/invoke/MethodHandle" ∧ yX8_isTimes.cls ≠ "java/lang/invoke/VarHandle" ∧ (parseMethodDescriptor yX8_isTimes.desc).map (fun d => d.parameters.length) = some 1 := ⟨wyc_ref_1.1, wyc_ref_1.2, wyd_ref_3⟩
theorem wm_X8_isPlus : Jvm.Cond.static yX8_isPlus ∈ fm_Ts ∧ Jvm.Cond.initialized yX8_isPlus.cls ∈ fm_Ts ∧ Jvm.Cond.code yX8_isPlus prog_10_method_28_code 1 (some .boolean) ∈ fm_Ts := ⟨wz_ref_254, wz_ref_255, wz_ref_253⟩
theorem wy_X8_isPlus : yX8_isPlus.cls ≠ "java/lang/invoke/MethodHandle" ∧ yX8_isPlus.cls ≠ "java/lang/invoke/VarHandle" ∧ (parseMethodDescriptor yX8_isPlus.desc).map (fun d => d.parameters.length) = some 1 := ⟨wyc_ref_1.1, wyc_ref_1.2, wyd_ref_3⟩
theorem wm_X8_isSign : Jvm.Cond.static yX8_isSign ∈ fm_Ts ∧ Jvm.Cond.initialized yX8_isSign.cls ∈ fm_Ts ∧ Jvm.Cond.code yX8_isSign prog_10_method_29_code 1 (some .boolean) ∈ fm_Ts := ⟨wz_ref_257, wz_ref_258, wz_ref_256⟩
theorem wy_X8_isSign : yX8_isSign.cls ≠ "java/lang/invoke/MethodHandle" ∧ yX8_isSign.cls ≠ "java/lang/invoke/VarHandle" ∧ (parseMethodDescriptor yX8_isSign.desc).map (fun d => d.parameters.length) = some 1 := ⟨wyc_ref_1.1, wyc_ref_1.2, wyd_ref_3⟩
theorem wm_X8_isValue : Jvm.Cond.static yX8_isValue ∈ fm_Ts ∧ Jvm.Cond.initialized yX8_isValue.cls ∈ fm_Ts ∧ Jvm.Cond.code yX8_isValue prog_10_method_31_code 1 (some .boolean) ∈ fm_Ts := ⟨wz_ref_260, wz_ref_261, wz_ref_259⟩
theorem wy_X8_isValue : yX8_isValue.cls ≠ "java/lang/invoke/MethodHandle" ∧ yX8_isValue.cls ≠ "java/lang/invoke/VarHandle" ∧ (parseMethodDescriptor yX8_isValue.desc).map (fun d => d.parameters.length) = some 1 := ⟨wyc_ref_1.1, wyc_ref_1.2, wyd_ref_3⟩
theorem wm_X8_sums : Jvm.Cond.instanceMethod yX8_sums ∈ fm_Ts ∧ Jvm.Cond.selects RX8 yX8_sums yX8_sums ∈ fm_Ts ∧ Jvm.Cond.initialized RX8 ∈ fm_Ts ∧ Jvm.Cond.code yX8_sums prog_10_method_32_code 2 none ∈ fm_Ts := ⟨wz_ref_263, wz_ref_264, wz_ref_6, wz_ref_262⟩
theorem wyd_ref_17 : (parseMethodDescriptor "(Z)V").map (fun d => d.parameters.length) = some 1 := by decide +kernel
theorem wy_X8_sums : yX8_sums.cls = RX8 ∧ yX8_sums.cls ≠ "java/lang/invoke/MethodHandle" ∧ yX8_sums.cls ≠ "java/lang/invoke/VarHandle" ∧ (parseMethodDescriptor yX8_sums.desc).map (fun d => d.parameters.length) = some 1 := ⟨rfl, wyc_ref_1.1, wyc_ref_1.2, wyd_ref_17⟩
theorem wm_X8_joins : Jvm.Cond.instanceMethod yX8_joins ∈ fm_Ts ∧ Jvm.Cond.selects RX8 yX8_joins yX8_joins ∈ fm_Ts ∧ Jvm.Cond.initialized RX8 ∈ fm_Ts ∧ Jvm.Cond.code yX8_joins prog_10_method_33_code 2 none ∈ fm_Ts := ⟨wz_ref_266, wz_ref_267, wz_ref_6, wz_ref_265⟩
theorem wy_X8_joins : yX8_joins.cls = RX8 ∧ yX8_joins.cls ≠ "java/lang/invoke/MethodHandle" ∧ yX8_joins.cls ≠ "java/lang/invoke/VarHandle" ∧ (parseMethodDescriptor yX8_joins.desc).map (fun d => d.parameters.length) = some 1 := ⟨rfl, wyc_ref_1.1, wyc_ref_1.2, wyd_ref_17⟩
theorem wm_X8_ends : Jvm.Cond.instanceMethod yX8_ends ∈ fm_Ts ∧ Jvm.Cond.selects RX8 yX8_ends yX8_ends ∈ fm_Ts ∧ Jvm.Cond.initialized RX8 ∈ fm_Ts ∧ Jvm.Cond.code yX8_ends prog_10_method_34_code 1 none ∈ fm_Ts := ⟨wz_ref_269, wz_ref_270, wz_ref_6, wz_ref_268⟩
theorem wy_X8_ends : yX8_ends.cls = RX8 ∧ yX8_ends.cls ≠ "java/lang/invoke/MethodHandle" ∧ yX8_ends.cls ≠ "java/lang/invoke/VarHandle" ∧ (parseMethodDescriptor yX8_ends.desc).map (fun d => d.parameters.length) = some 0 := ⟨rfl, wyc_ref_1.1, wyc_ref_1.2, wyd_ref_14⟩
theorem wm_X8_factor : Jvm.Cond.instanceMethod yX8_factor ∈ fm_Ts ∧ Jvm.Cond.selects RX8 yX8_factor yX8_factor ∈ fm_Ts ∧ Jvm.Cond.initialized RX8 ∈ fm_Ts ∧ Jvm.Cond.code yX8_factor prog_10_method_35_code 1 none ∈ fm_Ts := ⟨wz_ref_272, wz_ref_273, wz_ref_6, wz_ref_271⟩
theorem wy_X8_factor : yX8_factor.cls = RX8 ∧ yX8_factor.cls ≠ "java/lang/invoke/MethodHandle" ∧ yX8_factor.cls ≠ "java/lang/invoke/VarHandle" ∧ (parseMethodDescriptor yX8_factor.desc).map (fun d => d.parameters.length) = some 0 := ⟨rfl, wyc_ref_1.1, wyc_ref_1.2, wyd_ref_14⟩
theorem wm_X8_stays : Jvm.Cond.instanceMethod yX8_stays ∈ fm_Ts ∧ Jvm.Cond.selects RX8 yX8_stays yX8_stays ∈ fm_Ts ∧ Jvm.Cond.initialized RX8 ∈ fm_Ts ∧ Jvm.Cond.code yX8_stays prog_10_method_36_code 2 (some .boolean) ∈ fm_Ts := ⟨wz_ref_275, wz_ref_276, wz_ref_6, wz_ref_274⟩
theorem wy_X8_stays : yX8_stays.cls = RX8 ∧ yX8_stays.cls ≠ "java/lang/invoke/MethodHandle" ∧ yX8_stays.cls ≠ "java/lang/invoke/VarHandle" ∧ (parseMethodDescriptor yX8_stays.desc).map (fun d => d.parameters.length) = some 0 := ⟨rfl, wyc_ref_1.1, wyc_ref_1.2, wyd_ref_16⟩
theorem wm_X8_value : Jvm.Cond.instanceMethod yX8_value ∈ fm_Ts ∧ Jvm.Cond.selects RX8 yX8_value yX8_value ∈ fm_Ts ∧ Jvm.Cond.initialized RX8 ∈ fm_Ts ∧ Jvm.Cond.code yX8_value prog_10_method_37_code 2 none ∈ fm_Ts := ⟨wz_ref_278, wz_ref_279, wz_ref_6, wz_ref_277⟩
theorem wy_X8_value : yX8_value.cls = RX8 ∧ yX8_value.cls ≠ "java/lang/invoke/MethodHandle" ∧ yX8_value.cls ≠ "java/lang/invoke/VarHandle" ∧ (parseMethodDescriptor yX8_value.desc).map (fun d => d.parameters.length) = some 0 := ⟨rfl, wyc_ref_1.1, wyc_ref_1.2, wyd_ref_14⟩
theorem wm_X8_pieceOfC : Jvm.Cond.instanceMethod yX8_pieceOfC ∈ fm_Ts ∧ Jvm.Cond.selects RX8 yX8_pieceOfC yX8_pieceOfC ∈ fm_Ts ∧ Jvm.Cond.initialized RX8 ∈ fm_Ts ∧ Jvm.Cond.code yX8_pieceOfC prog_10_method_38_code 2 none ∈ fm_Ts := ⟨wz_ref_281, wz_ref_282, wz_ref_6, wz_ref_280⟩
theorem wy_X8_pieceOfC : yX8_pieceOfC.cls = RX8 ∧ yX8_pieceOfC.cls ≠ "java/lang/invoke/MethodHandle" ∧ yX8_pieceOfC.cls ≠ "java/lang/invoke/VarHandle" ∧ (parseMethodDescriptor yX8_pieceOfC.desc).map (fun d => d.parameters.length) = some 0 := ⟨rfl, wyc_ref_1.1, wyc_ref_1.2, wyd_ref_14⟩
theorem wm_X8_goesBehind : Jvm.Cond.instanceMethod yX8_goesBehind ∈ fm_Ts ∧ Jvm.Cond.selects RX8 yX8_goesBehind yX8_goesBehind ∈ fm_Ts ∧ Jvm.Cond.initialized RX8 ∈ fm_Ts ∧ Jvm.Cond.code yX8_goesBehind prog_10_method_39_code 2 (some .boolean) ∈ fm_Ts := ⟨wz_ref_284, wz_ref_285, wz_ref_6, wz_ref_283⟩
theorem wy_X8_goesBehind : yX8_goesBehind.cls = RX8 ∧ yX8_goesBehind.cls ≠ "java/lang/invoke/MethodHandle" ∧ yX8_goesBehind.cls ≠ "java/lang/invoke/VarHandle" ∧ (parseMethodDescriptor yX8_goesBehind.desc).map (fun d => d.parameters.length) = some 0 := ⟨rfl, wyc_ref_1.1, wyc_ref_1.2, wyd_ref_16⟩
theorem wm_X8_condition : Jvm.Cond.instanceMethod yX8_condition ∈ fm_Ts ∧ Jvm.Cond.selects RX8 yX8_condition yX8_condition ∈ fm_Ts ∧ Jvm.Cond.initialized RX8 ∈ fm_Ts ∧ Jvm.Cond.code yX8_condition prog_10_method_40_code 2 none ∈ fm_Ts := ⟨wz_ref_287, wz_ref_288, wz_ref_6, wz_ref_286⟩
theorem wy_X8_condition : yX8_condition.cls = RX8 ∧ yX8_condition.cls ≠ "java/lang/invoke/MethodHandle" ∧ yX8_condition.cls ≠ "java/lang/invoke/VarHandle" ∧ (parseMethodDescriptor yX8_condition.desc).map (fun d => d.parameters.length) = some 0 := ⟨rfl, wyc_ref_1.1, wyc_ref_1.2, wyd_ref_14⟩
theorem wm_X8_clause : Jvm.Cond.instanceMethod yX8_clause ∈ fm_Ts ∧ Jvm.Cond.selects RX8 yX8_clause yX8_clause ∈ fm_Ts ∧ Jvm.Cond.initialized RX8 ∈ fm_Ts ∧ Jvm.Cond.code yX8_clause prog_10_method_41_code 2 none ∈ fm_Ts := ⟨wz_ref_290, wz_ref_291, wz_ref_6, wz_ref_289⟩
theorem wy_X8_clause : yX8_clause.cls = RX8 ∧ yX8_clause.cls ≠ "java/lang/invoke/MethodHandle" ∧ yX8_clause.cls ≠ "java/lang/invoke/VarHandle" ∧ (parseMethodDescriptor yX8_clause.desc).map (fun d => d.parameters.length) = some 0 := ⟨rfl, wyc_ref_1.1, wyc_ref_1.2, wyd_ref_14⟩
theorem wm_X8_law : Jvm.Cond.instanceMethod yX8_law ∈ fm_Ts ∧ Jvm.Cond.selects RX8 yX8_law yX8_law ∈ fm_Ts ∧ Jvm.Cond.initialized RX8 ∈ fm_Ts ∧ Jvm.Cond.code yX8_law prog_10_method_42_code 4 (some .int) ∈ fm_Ts := ⟨wz_ref_293, wz_ref_294, wz_ref_6, wz_ref_292⟩
theorem wy_X8_law : yX8_law.cls = RX8 ∧ yX8_law.cls ≠ "java/lang/invoke/MethodHandle" ∧ yX8_law.cls ≠ "java/lang/invoke/VarHandle" ∧ (parseMethodDescriptor yX8_law.desc).map (fun d => d.parameters.length) = some 1 := ⟨rfl, wyc_ref_1.1, wyc_ref_1.2, wyd_ref_5⟩
theorem wl_X8_349 : Jvm.Cond.methodLink RX8 349 yX8_worked ∈ fm_Ts := wz_ref_295
theorem wl_X8_327 : Jvm.Cond.methodLink RX8 327 yX8_rainNow ∈ fm_Ts := wz_ref_296
theorem wl_X8_336 : Jvm.Cond.methodLink RX8 336 yX8_portersAt ∈ fm_Ts := wz_ref_297
theorem wl_X8_248 : Jvm.Cond.methodLink RX8 248 yX8_isOfYard ∈ fm_Ts := wz_ref_298
theorem wl_X8_340 : Jvm.Cond.methodLink RX8 340 yX8_ofYard ∈ fm_Ts := wz_ref_299
theorem wl_X8_346 : Jvm.Cond.methodLink RX8 346 yX8_ofPorter ∈ fm_Ts := wz_ref_300
theorem wl_X8_168 : Jvm.Cond.methodLink RX8 168 yX8_lies ∈ fm_Ts := wz_ref_301
theorem wl_X8_182 : Jvm.Cond.methodLink RX8 182 yX8_isYard ∈ fm_Ts := wz_ref_302
theorem wl_X8_193 : Jvm.Cond.methodLink RX8 193 yX8_isDigit ∈ fm_Ts := wz_ref_303
theorem wl_X8_198 : Jvm.Cond.methodLink RX8 198 yX8_isBeggar ∈ fm_Ts := wz_ref_304
theorem wl_X8_204 : Jvm.Cond.methodLink RX8 204 yX8_push ∈ fm_Ts := wz_ref_305
theorem wl_X8_176 : Jvm.Cond.methodLink RX8 176 yX8_isPorter ∈ fm_Ts := wz_ref_306
theorem wl_X8_362 : Jvm.Cond.methodLink RX8 362 yX8_tells ∈ fm_Ts := wz_ref_307
theorem wl_X8_366 : Jvm.Cond.methodLink RX8 366 yX8_less ∈ fm_Ts := wz_ref_308
theorem wl_X8_374 : Jvm.Cond.methodLink RX8 374 yX8_goesStill ∈ fm_Ts := wz_ref_309
theorem wl_X8_377 : Jvm.Cond.methodLink RX8 377 yX8_wouldLose ∈ fm_Ts := wz_ref_310
theorem wl_X8_383 : Jvm.Cond.methodLink RX8 383 yX8_comes ∈ fm_Ts := wz_ref_311
theorem wl_X8_392 : Jvm.Cond.methodLink RX8 392 yX8_loses ∈ fm_Ts := wz_ref_312
theorem wl_X8_395 : Jvm.Cond.methodLink RX8 395 yX8_climbs ∈ fm_Ts := wz_ref_313
theorem wl_X8_398 : Jvm.Cond.methodLink RX8 398 yX8_blows ∈ fm_Ts := wz_ref_314
theorem wl_X8_401 : Jvm.Cond.methodLink RX8 401 yX8_washes ∈ fm_Ts := wz_ref_315
theorem wl_X8_404 : Jvm.Cond.methodLink RX8 404 yX8_sieves ∈ fm_Ts := wz_ref_316
theorem wl_X8_408 : Jvm.Cond.methodLink RX8 408 yX8_passes ∈ fm_Ts := wz_ref_317
theorem wl_X8_415 : Jvm.Cond.methodLink RX8 415 yX8_areHours ∈ fm_Ts := wz_ref_318
theorem wl_X8_418 : Jvm.Cond.methodLink RX8 418 yX8_goesOn ∈ fm_Ts := wz_ref_319
theorem wl_X8_421 : Jvm.Cond.methodLink RX8 421 yX8_losesNow ∈ fm_Ts := wz_ref_320
theorem wl_X8_436 : Jvm.Cond.methodLink RX8 436 yX8_isTried ∈ fm_Ts := wz_ref_321
theorem wl_X8_439 : Jvm.Cond.methodLink RX8 439 yX8_setsAside ∈ fm_Ts := wz_ref_322
theorem wl_X8_442 : Jvm.Cond.methodLink RX8 442 yX8_triedNow ∈ fm_Ts := wz_ref_323
theorem wl_X8_445 : Jvm.Cond.methodLink RX8 445 yX8_putsBack ∈ fm_Ts := wz_ref_324
theorem wl_X8_452 : Jvm.Cond.methodLink RX8 452 yX8_sizeOf ∈ fm_Ts := wz_ref_325
theorem wl_X8_448 : Jvm.Cond.methodLink RX8 448 yX8_has ∈ fm_Ts := wz_ref_326
theorem wl_X8_461 : Jvm.Cond.methodLink RX8 461 yX8_isAhead ∈ fm_Ts := wz_ref_327
theorem wl_X8_464 : Jvm.Cond.methodLink RX8 464 yX8_areFew ∈ fm_Ts := wz_ref_328
theorem wl_X8_472 : Jvm.Cond.methodLink RX8 472 yX8_sievesBy ∈ fm_Ts := wz_ref_329
theorem wl_X8_486 : Jvm.Cond.methodLink RX8 486 yX8_purseBy ∈ fm_Ts := wz_ref_330
theorem wl_X8_489 : Jvm.Cond.methodLink RX8 489 yX8_worthOf ∈ fm_Ts := wz_ref_331
theorem wl_X8_492 : Jvm.Cond.methodLink RX8 492 yX8_byteAt ∈ fm_Ts := wz_ref_332
theorem wl_X8_495 : Jvm.Cond.methodLink RX8 495 yX8_isShaken ∈ fm_Ts := wz_ref_333
theorem wl_X8_498 : Jvm.Cond.methodLink RX8 498 yX8_ledOf ∈ fm_Ts := wz_ref_334
theorem wl_X8_501 : Jvm.Cond.methodLink RX8 501 yX8_divisor ∈ fm_Ts := wz_ref_335
theorem wl_X8_509 : Jvm.Cond.methodLink RX8 509 yX8_numberAt ∈ fm_Ts := wz_ref_336
theorem wl_X8_516 : Jvm.Cond.methodLink RX8 516 yX8_allDust ∈ fm_Ts := wz_ref_337
theorem wl_X8_519 : Jvm.Cond.methodLink RX8 519 yX8_portersTold ∈ fm_Ts := wz_ref_338
theorem wl_X8_353 : Jvm.Cond.methodLink RX8 353 yX8_does ∈ fm_Ts := wz_ref_339
theorem wl_X8_356 : Jvm.Cond.methodLink RX8 356 yX8_valueOf ∈ fm_Ts := wz_ref_340
theorem wl_X8_359 : Jvm.Cond.methodLink RX8 359 yX8_works ∈ fm_Ts := wz_ref_341
theorem wl_X8_483 : Jvm.Cond.methodLink RX8 483 yX8_goesToNext ∈ fm_Ts := wz_ref_342
theorem wl_X8_217 : Jvm.Cond.methodLink RX8 217 yX8_isGood ∈ fm_Ts := wz_ref_343
theorem wl_X8_230 : Jvm.Cond.methodLink RX8 230 yX8_wrongs ∈ fm_Ts := wz_ref_344
theorem wl_X8_234 : Jvm.Cond.methodLink RX8 234 yX8_here ∈ fm_Ts := wz_ref_345
theorem wl_X8_238 : Jvm.Cond.methodLink RX8 238 yX8_puts ∈ fm_Ts := wz_ref_346
theorem wl_X8_245 : Jvm.Cond.methodLink RX8 245 yX8_seesDigit ∈ fm_Ts := wz_ref_347
theorem wl_X8_251 : Jvm.Cond.methodLink RX8 251 yX8_top ∈ fm_Ts := wz_ref_348
theorem wl_X8_254 : Jvm.Cond.methodLink RX8 254 yX8_isTimes ∈ fm_Ts := wz_ref_349
theorem wl_X8_257 : Jvm.Cond.methodLink RX8 257 yX8_isPlus ∈ fm_Ts := wz_ref_350
theorem wl_X8_260 : Jvm.Cond.methodLink RX8 260 yX8_emit ∈ fm_Ts := wz_ref_351
theorem wl_X8_263 : Jvm.Cond.methodLink RX8 263 yX8_opens ∈ fm_Ts := wz_ref_352
theorem wl_X8_266 : Jvm.Cond.methodLink RX8 266 yX8_reads ∈ fm_Ts := wz_ref_353
theorem wl_X8_269 : Jvm.Cond.methodLink RX8 269 yX8_isValue ∈ fm_Ts := wz_ref_354
theorem wl_X8_272 : Jvm.Cond.methodLink RX8 272 yX8_sums ∈ fm_Ts := wz_ref_355
theorem wl_X8_280 : Jvm.Cond.methodLink RX8 280 yX8_factor ∈ fm_Ts := wz_ref_356
theorem wl_X8_283 : Jvm.Cond.methodLink RX8 283 yX8_stays ∈ fm_Ts := wz_ref_357
theorem wl_X8_286 : Jvm.Cond.methodLink RX8 286 yX8_value ∈ fm_Ts := wz_ref_358
theorem wl_X8_289 : Jvm.Cond.methodLink RX8 289 yX8_isSign ∈ fm_Ts := wz_ref_359
theorem wl_X8_292 : Jvm.Cond.methodLink RX8 292 yX8_ends ∈ fm_Ts := wz_ref_360
theorem wl_X8_295 : Jvm.Cond.methodLink RX8 295 yX8_joins ∈ fm_Ts := wz_ref_361
theorem wl_X8_301 : Jvm.Cond.methodLink RX8 301 yX8_pieceOfC ∈ fm_Ts := wz_ref_362
theorem wl_X8_304 : Jvm.Cond.methodLink RX8 304 yX8_goesBehind ∈ fm_Ts := wz_ref_363
theorem wl_X8_310 : Jvm.Cond.methodLink RX8 310 yX8_condition ∈ fm_Ts := wz_ref_364
theorem wl_X8_315 : Jvm.Cond.methodLink RX8 315 yX8_clause ∈ fm_Ts := wz_ref_365
def ce_X8_lies_0 : List (Nat × Instr × Nat) := [(0, .lload_n 0, 1), (1, .lload_n 2, 1), (2, .lcmp, 1), (3, .ifCond .lt 14, 3), (6, .lload_n 0, 1), (7, .lload 4, 2), (9, .lcmp, 1), (10, .ifCond .gt 7, 3), (13, .iconst 1, 1), (14, .goto 4, 3), (17, .iconst 0, 1), (18, .ireturn, 1)]
theorem de_X8_lies_0 : ∀ q ∈ ce_X8_lies_0, decode prog_10_method_2_code q.1 = .ok (q.2.1, q.2.2) := by decide +kernel
theorem d_X8_lies_0 : decode prog_10_method_2_code 0 = .ok (.lload_n 0, 1) := de_X8_lies_0 (0, .lload_n 0, 1) (List.mem_of_getElem? (i := 0) rfl)
theorem d_X8_lies_1 : decode prog_10_method_2_code 1 = .ok (.lload_n 2, 1) := de_X8_lies_0 (1, .lload_n 2, 1) (List.mem_of_getElem? (i := 1) rfl)
theorem d_X8_lies_2 : decode prog_10_method_2_code 2 = .ok (.lcmp, 1) := de_X8_lies_0 (2, .lcmp, 1) (List.mem_of_getElem? (i := 2) rfl)
theorem d_X8_lies_3 : decode prog_10_method_2_code 3 = .ok (.ifCond .lt 14, 3) := de_X8_lies_0 (3, .ifCond .lt 14, 3) (List.mem_of_getElem? (i := 3) rfl)
theorem d_X8_lies_6 : decode prog_10_method_2_code 6 = .ok (.lload_n 0, 1) := de_X8_lies_0 (6, .lload_n 0, 1) (List.mem_of_getElem? (i := 4) rfl)
theorem d_X8_lies_7 : decode prog_10_method_2_code 7 = .ok (.lload 4, 2) := de_X8_lies_0 (7, .lload 4, 2) (List.mem_of_getElem? (i := 5) rfl)
theorem d_X8_lies_9 : decode prog_10_method_2_code 9 = .ok (.lcmp, 1) := de_X8_lies_0 (9, .lcmp, 1) (List.mem_of_getElem? (i := 6) rfl)
theorem d_X8_lies_10 : decode prog_10_method_2_code 10 = .ok (.ifCond .gt 7, 3) := de_X8_lies_0 (10, .ifCond .gt 7, 3) (List.mem_of_getElem? (i := 7) rfl)
theorem d_X8_lies_13 : decode prog_10_method_2_code 13 = .ok (.iconst 1, 1) := de_X8_lies_0 (13, .iconst 1, 1) (List.mem_of_getElem? (i := 8) rfl)
theorem d_X8_lies_14 : decode prog_10_method_2_code 14 = .ok (.goto 4, 3) := de_X8_lies_0 (14, .goto 4, 3) (List.mem_of_getElem? (i := 9) rfl)
theorem d_X8_lies_17 : decode prog_10_method_2_code 17 = .ok (.iconst 0, 1) := de_X8_lies_0 (17, .iconst 0, 1) (List.mem_of_getElem? (i := 10) rfl)
theorem d_X8_lies_18 : decode prog_10_method_2_code 18 = .ok (.ireturn, 1) := de_X8_lies_0 (18, .ireturn, 1) (List.mem_of_getElem? (i := 11) rfl)
def ce_X8_sizeOf_0 : List (Nat × Instr × Nat) := [(0, .iconst 0, 1), (1, .istore_n 1, 1), (2, .iload_n 0, 1), (3, .istore_n 2, 1), (4, .iload_n 2, 1), (5, .ifCond .eq 15, 3), (8, .iinc 1 1, 3), (11, .iload_n 2, 1), (12, .iload_n 2, 1), (13, .iconst 1, 1), (14, .isub, 1), (15, .iand, 1), (16, .istore_n 2, 1), (17, .goto (-13), 3), (20, .iload_n 1, 1), (21, .ireturn, 1)]
theorem de_X8_sizeOf_0 : ∀ q ∈ ce_X8_sizeOf_0, decode prog_10_method_4_code q.1 = .ok (q.2.1, q.2.2) := by decide +kernel
theorem d_X8_sizeOf_0 : decode prog_10_method_4_code 0 = .ok (.iconst 0, 1) := de_X8_sizeOf_0 (0, .iconst 0, 1) (List.mem_of_getElem? (i := 0) rfl)
theorem d_X8_sizeOf_1 : decode prog_10_method_4_code 1 = .ok (.istore_n 1, 1) := de_X8_sizeOf_0 (1, .istore_n 1, 1) (List.mem_of_getElem? (i := 1) rfl)
theorem d_X8_sizeOf_2 : decode prog_10_method_4_code 2 = .ok (.iload_n 0, 1) := de_X8_sizeOf_0 (2, .iload_n 0, 1) (List.mem_of_getElem? (i := 2) rfl)
theorem d_X8_sizeOf_3 : decode prog_10_method_4_code 3 = .ok (.istore_n 2, 1) := de_X8_sizeOf_0 (3, .istore_n 2, 1) (List.mem_of_getElem? (i := 3) rfl)
theorem d_X8_sizeOf_4 : decode prog_10_method_4_code 4 = .ok (.iload_n 2, 1) := de_X8_sizeOf_0 (4, .iload_n 2, 1) (List.mem_of_getElem? (i := 4) rfl)
theorem d_X8_sizeOf_5 : decode prog_10_method_4_code 5 = .ok (.ifCond .eq 15, 3) := de_X8_sizeOf_0 (5, .ifCond .eq 15, 3) (List.mem_of_getElem? (i := 5) rfl)
theorem d_X8_sizeOf_8 : decode prog_10_method_4_code 8 = .ok (.iinc 1 1, 3) := de_X8_sizeOf_0 (8, .iinc 1 1, 3) (List.mem_of_getElem? (i := 6) rfl)
theorem d_X8_sizeOf_11 : decode prog_10_method_4_code 11 = .ok (.iload_n 2, 1) := de_X8_sizeOf_0 (11, .iload_n 2, 1) (List.mem_of_getElem? (i := 7) rfl)
theorem d_X8_sizeOf_12 : decode prog_10_method_4_code 12 = .ok (.iload_n 2, 1) := de_X8_sizeOf_0 (12, .iload_n 2, 1) (List.mem_of_getElem? (i := 8) rfl)
theorem d_X8_sizeOf_13 : decode prog_10_method_4_code 13 = .ok (.iconst 1, 1) := de_X8_sizeOf_0 (13, .iconst 1, 1) (List.mem_of_getElem? (i := 9) rfl)
theorem d_X8_sizeOf_14 : decode prog_10_method_4_code 14 = .ok (.isub, 1) := de_X8_sizeOf_0 (14, .isub, 1) (List.mem_of_getElem? (i := 10) rfl)
theorem d_X8_sizeOf_15 : decode prog_10_method_4_code 15 = .ok (.iand, 1) := de_X8_sizeOf_0 (15, .iand, 1) (List.mem_of_getElem? (i := 11) rfl)
theorem d_X8_sizeOf_16 : decode prog_10_method_4_code 16 = .ok (.istore_n 2, 1) := de_X8_sizeOf_0 (16, .istore_n 2, 1) (List.mem_of_getElem? (i := 12) rfl)
theorem d_X8_sizeOf_17 : decode prog_10_method_4_code 17 = .ok (.goto (-13), 3) := de_X8_sizeOf_0 (17, .goto (-13), 3) (List.mem_of_getElem? (i := 13) rfl)
theorem d_X8_sizeOf_20 : decode prog_10_method_4_code 20 = .ok (.iload_n 1, 1) := de_X8_sizeOf_0 (20, .iload_n 1, 1) (List.mem_of_getElem? (i := 14) rfl)
theorem d_X8_sizeOf_21 : decode prog_10_method_4_code 21 = .ok (.ireturn, 1) := de_X8_sizeOf_0 (21, .ireturn, 1) (List.mem_of_getElem? (i := 15) rfl)
def ce_X8_divisor_0 : List (Nat × Instr × Nat) := [(0, .iload_n 0, 1), (1, .istore_n 2, 1), (2, .iload_n 1, 1), (3, .istore_n 3, 1), (4, .iload_n 3, 1), (5, .ifCond .eq 16, 3), (8, .iload_n 2, 1), (9, .iload_n 3, 1), (10, .irem, 1), (11, .istore 4, 2), (13, .iload_n 3, 1), (14, .istore_n 2, 1), (15, .iload 4, 2), (17, .istore_n 3, 1), (18, .goto (-14), 3), (21, .iload_n 2, 1)]
theorem de_X8_divisor_0 : ∀ q ∈ ce_X8_divisor_0, decode prog_10_method_89_code q.1 = .ok (q.2.1, q.2.2) := by decide +kernel
theorem d_X8_divisor_0 : decode prog_10_method_89_code 0 = .ok (.iload_n 0, 1) := de_X8_divisor_0 (0, .iload_n 0, 1) (List.mem_of_getElem? (i := 0) rfl)
theorem d_X8_divisor_1 : decode prog_10_method_89_code 1 = .ok (.istore_n 2, 1) := de_X8_divisor_0 (1, .istore_n 2, 1) (List.mem_of_getElem? (i := 1) rfl)
theorem d_X8_divisor_2 : decode prog_10_method_89_code 2 = .ok (.iload_n 1, 1) := de_X8_divisor_0 (2, .iload_n 1, 1) (List.mem_of_getElem? (i := 2) rfl)
theorem d_X8_divisor_3 : decode prog_10_method_89_code 3 = .ok (.istore_n 3, 1) := de_X8_divisor_0 (3, .istore_n 3, 1) (List.mem_of_getElem? (i := 3) rfl)
theorem d_X8_divisor_4 : decode prog_10_method_89_code 4 = .ok (.iload_n 3, 1) := de_X8_divisor_0 (4, .iload_n 3, 1) (List.mem_of_getElem? (i := 4) rfl)
theorem d_X8_divisor_5 : decode prog_10_method_89_code 5 = .ok (.ifCond .eq 16, 3) := de_X8_divisor_0 (5, .ifCond .eq 16, 3) (List.mem_of_getElem? (i := 5) rfl)
theorem d_X8_divisor_8 : decode prog_10_method_89_code 8 = .ok (.iload_n 2, 1) := de_X8_divisor_0 (8, .iload_n 2, 1) (List.mem_of_getElem? (i := 6) rfl)
theorem d_X8_divisor_9 : decode prog_10_method_89_code 9 = .ok (.iload_n 3, 1) := de_X8_divisor_0 (9, .iload_n 3, 1) (List.mem_of_getElem? (i := 7) rfl)
theorem d_X8_divisor_10 : decode prog_10_method_89_code 10 = .ok (.irem, 1) := de_X8_divisor_0 (10, .irem, 1) (List.mem_of_getElem? (i := 8) rfl)
theorem d_X8_divisor_11 : decode prog_10_method_89_code 11 = .ok (.istore 4, 2) := de_X8_divisor_0 (11, .istore 4, 2) (List.mem_of_getElem? (i := 9) rfl)
theorem d_X8_divisor_13 : decode prog_10_method_89_code 13 = .ok (.iload_n 3, 1) := de_X8_divisor_0 (13, .iload_n 3, 1) (List.mem_of_getElem? (i := 10) rfl)
theorem d_X8_divisor_14 : decode prog_10_method_89_code 14 = .ok (.istore_n 2, 1) := de_X8_divisor_0 (14, .istore_n 2, 1) (List.mem_of_getElem? (i := 11) rfl)
theorem d_X8_divisor_15 : decode prog_10_method_89_code 15 = .ok (.iload 4, 2) := de_X8_divisor_0 (15, .iload 4, 2) (List.mem_of_getElem? (i := 12) rfl)
theorem d_X8_divisor_17 : decode prog_10_method_89_code 17 = .ok (.istore_n 3, 1) := de_X8_divisor_0 (17, .istore_n 3, 1) (List.mem_of_getElem? (i := 13) rfl)
theorem d_X8_divisor_18 : decode prog_10_method_89_code 18 = .ok (.goto (-14), 3) := de_X8_divisor_0 (18, .goto (-14), 3) (List.mem_of_getElem? (i := 14) rfl)
theorem d_X8_divisor_21 : decode prog_10_method_89_code 21 = .ok (.iload_n 2, 1) := de_X8_divisor_0 (21, .iload_n 2, 1) (List.mem_of_getElem? (i := 15) rfl)
def ce_X8_divisor_16 : List (Nat × Instr × Nat) := [(22, .ireturn, 1)]
theorem de_X8_divisor_16 : ∀ q ∈ ce_X8_divisor_16, decode prog_10_method_89_code q.1 = .ok (q.2.1, q.2.2) := by decide +kernel
theorem d_X8_divisor_22 : decode prog_10_method_89_code 22 = .ok (.ireturn, 1) := de_X8_divisor_16 (22, .ireturn, 1) (List.mem_of_getElem? (i := 0) rfl)
def ce_X8_goesToNext_0 : List (Nat × Instr × Nat) := [(0, .iload_n 1, 1), (1, .iconst 2, 1), (2, .isub, 1), (3, .istore_n 2, 1), (4, .iload_n 2, 1), (5, .ifCond .lt 26, 3), (8, .aload_n 0, 1), (9, .getfield 154, 3), (12, .iload_n 2, 1), (13, .iaload, 1), (14, .aload_n 0, 1), (15, .getfield 154, 3), (18, .iload_n 2, 1), (19, .iconst 1, 1), (20, .iadd, 1), (21, .iaload, 1)]
theorem de_X8_goesToNext_0 : ∀ q ∈ ce_X8_goesToNext_0, decode prog_10_method_77_code q.1 = .ok (q.2.1, q.2.2) := by decide +kernel
theorem d_X8_goesToNext_0 : decode prog_10_method_77_code 0 = .ok (.iload_n 1, 1) := de_X8_goesToNext_0 (0, .iload_n 1, 1) (List.mem_of_getElem? (i := 0) rfl)
theorem d_X8_goesToNext_1 : decode prog_10_method_77_code 1 = .ok (.iconst 2, 1) := de_X8_goesToNext_0 (1, .iconst 2, 1) (List.mem_of_getElem? (i := 1) rfl)
theorem d_X8_goesToNext_2 : decode prog_10_method_77_code 2 = .ok (.isub, 1) := de_X8_goesToNext_0 (2, .isub, 1) (List.mem_of_getElem? (i := 2) rfl)
theorem d_X8_goesToNext_3 : decode prog_10_method_77_code 3 = .ok (.istore_n 2, 1) := de_X8_goesToNext_0 (3, .istore_n 2, 1) (List.mem_of_getElem? (i := 3) rfl)
theorem d_X8_goesToNext_4 : decode prog_10_method_77_code 4 = .ok (.iload_n 2, 1) := de_X8_goesToNext_0 (4, .iload_n 2, 1) (List.mem_of_getElem? (i := 4) rfl)
theorem d_X8_goesToNext_5 : decode prog_10_method_77_code 5 = .ok (.ifCond .lt 26, 3) := de_X8_goesToNext_0 (5, .ifCond .lt 26, 3) (List.mem_of_getElem? (i := 5) rfl)
theorem d_X8_goesToNext_8 : decode prog_10_method_77_code 8 = .ok (.aload_n 0, 1) := de_X8_goesToNext_0 (8, .aload_n 0, 1) (List.mem_of_getElem? (i := 6) rfl)
theorem d_X8_goesToNext_9 : decode prog_10_method_77_code 9 = .ok (.getfield 154, 3) := de_X8_goesToNext_0 (9, .getfield 154, 3) (List.mem_of_getElem? (i := 7) rfl)
theorem d_X8_goesToNext_12 : decode prog_10_method_77_code 12 = .ok (.iload_n 2, 1) := de_X8_goesToNext_0 (12, .iload_n 2, 1) (List.mem_of_getElem? (i := 8) rfl)
theorem d_X8_goesToNext_13 : decode prog_10_method_77_code 13 = .ok (.iaload, 1) := de_X8_goesToNext_0 (13, .iaload, 1) (List.mem_of_getElem? (i := 9) rfl)
theorem d_X8_goesToNext_14 : decode prog_10_method_77_code 14 = .ok (.aload_n 0, 1) := de_X8_goesToNext_0 (14, .aload_n 0, 1) (List.mem_of_getElem? (i := 10) rfl)
theorem d_X8_goesToNext_15 : decode prog_10_method_77_code 15 = .ok (.getfield 154, 3) := de_X8_goesToNext_0 (15, .getfield 154, 3) (List.mem_of_getElem? (i := 11) rfl)
theorem d_X8_goesToNext_18 : decode prog_10_method_77_code 18 = .ok (.iload_n 2, 1) := de_X8_goesToNext_0 (18, .iload_n 2, 1) (List.mem_of_getElem? (i := 12) rfl)
theorem d_X8_goesToNext_19 : decode prog_10_method_77_code 19 = .ok (.iconst 1, 1) := de_X8_goesToNext_0 (19, .iconst 1, 1) (List.mem_of_getElem? (i := 13) rfl)
theorem d_X8_goesToNext_20 : decode prog_10_method_77_code 20 = .ok (.iadd, 1) := de_X8_goesToNext_0 (20, .iadd, 1) (List.mem_of_getElem? (i := 14) rfl)
theorem d_X8_goesToNext_21 : decode prog_10_method_77_code 21 = .ok (.iaload, 1) := de_X8_goesToNext_0 (21, .iaload, 1) (List.mem_of_getElem? (i := 15) rfl)
def ce_X8_goesToNext_16 : List (Nat × Instr × Nat) := [(22, .if_icmp .le 9, 3), (25, .iinc 2 (-1), 3), (28, .goto (-24), 3), (31, .iload_n 2, 1), (32, .ifCond .ge 5, 3), (35, .iconst 0, 1), (36, .ireturn, 1), (37, .iload_n 1, 1), (38, .iconst 1, 1), (39, .isub, 1), (40, .istore_n 3, 1), (41, .aload_n 0, 1), (42, .getfield 154, 3), (45, .iload_n 3, 1), (46, .iaload, 1), (47, .aload_n 0, 1)]
theorem de_X8_goesToNext_16 : ∀ q ∈ ce_X8_goesToNext_16, decode prog_10_method_77_code q.1 = .ok (q.2.1, q.2.2) := by decide +kernel
theorem d_X8_goesToNext_22 : decode prog_10_method_77_code 22 = .ok (.if_icmp .le 9, 3) := de_X8_goesToNext_16 (22, .if_icmp .le 9, 3) (List.mem_of_getElem? (i := 0) rfl)
theorem d_X8_goesToNext_25 : decode prog_10_method_77_code 25 = .ok (.iinc 2 (-1), 3) := de_X8_goesToNext_16 (25, .iinc 2 (-1), 3) (List.mem_of_getElem? (i := 1) rfl)
theorem d_X8_goesToNext_28 : decode prog_10_method_77_code 28 = .ok (.goto (-24), 3) := de_X8_goesToNext_16 (28, .goto (-24), 3) (List.mem_of_getElem? (i := 2) rfl)
theorem d_X8_goesToNext_31 : decode prog_10_method_77_code 31 = .ok (.iload_n 2, 1) := de_X8_goesToNext_16 (31, .iload_n 2, 1) (List.mem_of_getElem? (i := 3) rfl)
theorem d_X8_goesToNext_32 : decode prog_10_method_77_code 32 = .ok (.ifCond .ge 5, 3) := de_X8_goesToNext_16 (32, .ifCond .ge 5, 3) (List.mem_of_getElem? (i := 4) rfl)
theorem d_X8_goesToNext_35 : decode prog_10_method_77_code 35 = .ok (.iconst 0, 1) := de_X8_goesToNext_16 (35, .iconst 0, 1) (List.mem_of_getElem? (i := 5) rfl)
theorem d_X8_goesToNext_36 : decode prog_10_method_77_code 36 = .ok (.ireturn, 1) := de_X8_goesToNext_16 (36, .ireturn, 1) (List.mem_of_getElem? (i := 6) rfl)
theorem d_X8_goesToNext_37 : decode prog_10_method_77_code 37 = .ok (.iload_n 1, 1) := de_X8_goesToNext_16 (37, .iload_n 1, 1) (List.mem_of_getElem? (i := 7) rfl)
theorem d_X8_goesToNext_38 : decode prog_10_method_77_code 38 = .ok (.iconst 1, 1) := de_X8_goesToNext_16 (38, .iconst 1, 1) (List.mem_of_getElem? (i := 8) rfl)
theorem d_X8_goesToNext_39 : decode prog_10_method_77_code 39 = .ok (.isub, 1) := de_X8_goesToNext_16 (39, .isub, 1) (List.mem_of_getElem? (i := 9) rfl)
theorem d_X8_goesToNext_40 : decode prog_10_method_77_code 40 = .ok (.istore_n 3, 1) := de_X8_goesToNext_16 (40, .istore_n 3, 1) (List.mem_of_getElem? (i := 10) rfl)
theorem d_X8_goesToNext_41 : decode prog_10_method_77_code 41 = .ok (.aload_n 0, 1) := de_X8_goesToNext_16 (41, .aload_n 0, 1) (List.mem_of_getElem? (i := 11) rfl)
theorem d_X8_goesToNext_42 : decode prog_10_method_77_code 42 = .ok (.getfield 154, 3) := de_X8_goesToNext_16 (42, .getfield 154, 3) (List.mem_of_getElem? (i := 12) rfl)
theorem d_X8_goesToNext_45 : decode prog_10_method_77_code 45 = .ok (.iload_n 3, 1) := de_X8_goesToNext_16 (45, .iload_n 3, 1) (List.mem_of_getElem? (i := 13) rfl)
theorem d_X8_goesToNext_46 : decode prog_10_method_77_code 46 = .ok (.iaload, 1) := de_X8_goesToNext_16 (46, .iaload, 1) (List.mem_of_getElem? (i := 14) rfl)
theorem d_X8_goesToNext_47 : decode prog_10_method_77_code 47 = .ok (.aload_n 0, 1) := de_X8_goesToNext_16 (47, .aload_n 0, 1) (List.mem_of_getElem? (i := 15) rfl)
def ce_X8_goesToNext_32 : List (Nat × Instr × Nat) := [(48, .getfield 154, 3), (51, .iload_n 2, 1), (52, .iaload, 1), (53, .if_icmp .ge 9, 3), (56, .iinc 3 (-1), 3), (59, .goto (-18), 3), (62, .aload_n 0, 1), (63, .getfield 154, 3), (66, .iload_n 2, 1), (67, .iaload, 1), (68, .istore 4, 2), (70, .aload_n 0, 1), (71, .getfield 154, 3), (74, .iload_n 2, 1), (75, .aload_n 0, 1), (76, .getfield 154, 3)]
theorem de_X8_goesToNext_32 : ∀ q ∈ ce_X8_goesToNext_32, decode prog_10_method_77_code q.1 = .ok (q.2.1, q.2.2) := by decide +kernel
theorem d_X8_goesToNext_48 : decode prog_10_method_77_code 48 = .ok (.getfield 154, 3) := de_X8_goesToNext_32 (48, .getfield 154, 3) (List.mem_of_getElem? (i := 0) rfl)
theorem d_X8_goesToNext_51 : decode prog_10_method_77_code 51 = .ok (.iload_n 2, 1) := de_X8_goesToNext_32 (51, .iload_n 2, 1) (List.mem_of_getElem? (i := 1) rfl)
theorem d_X8_goesToNext_52 : decode prog_10_method_77_code 52 = .ok (.iaload, 1) := de_X8_goesToNext_32 (52, .iaload, 1) (List.mem_of_getElem? (i := 2) rfl)
theorem d_X8_goesToNext_53 : decode prog_10_method_77_code 53 = .ok (.if_icmp .ge 9, 3) := de_X8_goesToNext_32 (53, .if_icmp .ge 9, 3) (List.mem_of_getElem? (i := 3) rfl)
theorem d_X8_goesToNext_56 : decode prog_10_method_77_code 56 = .ok (.iinc 3 (-1), 3) := de_X8_goesToNext_32 (56, .iinc 3 (-1), 3) (List.mem_of_getElem? (i := 4) rfl)
theorem d_X8_goesToNext_59 : decode prog_10_method_77_code 59 = .ok (.goto (-18), 3) := de_X8_goesToNext_32 (59, .goto (-18), 3) (List.mem_of_getElem? (i := 5) rfl)
theorem d_X8_goesToNext_62 : decode prog_10_method_77_code 62 = .ok (.aload_n 0, 1) := de_X8_goesToNext_32 (62, .aload_n 0, 1) (List.mem_of_getElem? (i := 6) rfl)
theorem d_X8_goesToNext_63 : decode prog_10_method_77_code 63 = .ok (.getfield 154, 3) := de_X8_goesToNext_32 (63, .getfield 154, 3) (List.mem_of_getElem? (i := 7) rfl)
theorem d_X8_goesToNext_66 : decode prog_10_method_77_code 66 = .ok (.iload_n 2, 1) := de_X8_goesToNext_32 (66, .iload_n 2, 1) (List.mem_of_getElem? (i := 8) rfl)
theorem d_X8_goesToNext_67 : decode prog_10_method_77_code 67 = .ok (.iaload, 1) := de_X8_goesToNext_32 (67, .iaload, 1) (List.mem_of_getElem? (i := 9) rfl)
theorem d_X8_goesToNext_68 : decode prog_10_method_77_code 68 = .ok (.istore 4, 2) := de_X8_goesToNext_32 (68, .istore 4, 2) (List.mem_of_getElem? (i := 10) rfl)
theorem d_X8_goesToNext_70 : decode prog_10_method_77_code 70 = .ok (.aload_n 0, 1) := de_X8_goesToNext_32 (70, .aload_n 0, 1) (List.mem_of_getElem? (i := 11) rfl)
theorem d_X8_goesToNext_71 : decode prog_10_method_77_code 71 = .ok (.getfield 154, 3) := de_X8_goesToNext_32 (71, .getfield 154, 3) (List.mem_of_getElem? (i := 12) rfl)
theorem d_X8_goesToNext_74 : decode prog_10_method_77_code 74 = .ok (.iload_n 2, 1) := de_X8_goesToNext_32 (74, .iload_n 2, 1) (List.mem_of_getElem? (i := 13) rfl)
theorem d_X8_goesToNext_75 : decode prog_10_method_77_code 75 = .ok (.aload_n 0, 1) := de_X8_goesToNext_32 (75, .aload_n 0, 1) (List.mem_of_getElem? (i := 14) rfl)
theorem d_X8_goesToNext_76 : decode prog_10_method_77_code 76 = .ok (.getfield 154, 3) := de_X8_goesToNext_32 (76, .getfield 154, 3) (List.mem_of_getElem? (i := 15) rfl)
def ce_X8_goesToNext_48 : List (Nat × Instr × Nat) := [(79, .iload_n 3, 1), (80, .iaload, 1), (81, .iastore, 1), (82, .aload_n 0, 1), (83, .getfield 154, 3), (86, .iload_n 3, 1), (87, .iload 4, 2), (89, .iastore, 1), (90, .iload_n 2, 1), (91, .iconst 1, 1), (92, .iadd, 1), (93, .istore 5, 2), (95, .iload_n 1, 1), (96, .iconst 1, 1), (97, .isub, 1), (98, .istore 6, 2)]
theorem de_X8_goesToNext_48 : ∀ q ∈ ce_X8_goesToNext_48, decode prog_10_method_77_code q.1 = .ok (q.2.1, q.2.2) := by decide +kernel
theorem d_X8_goesToNext_79 : decode prog_10_method_77_code 79 = .ok (.iload_n 3, 1) := de_X8_goesToNext_48 (79, .iload_n 3, 1) (List.mem_of_getElem? (i := 0) rfl)
theorem d_X8_goesToNext_80 : decode prog_10_method_77_code 80 = .ok (.iaload, 1) := de_X8_goesToNext_48 (80, .iaload, 1) (List.mem_of_getElem? (i := 1) rfl)
theorem d_X8_goesToNext_81 : decode prog_10_method_77_code 81 = .ok (.iastore, 1) := de_X8_goesToNext_48 (81, .iastore, 1) (List.mem_of_getElem? (i := 2) rfl)
theorem d_X8_goesToNext_82 : decode prog_10_method_77_code 82 = .ok (.aload_n 0, 1) := de_X8_goesToNext_48 (82, .aload_n 0, 1) (List.mem_of_getElem? (i := 3) rfl)
theorem d_X8_goesToNext_83 : decode prog_10_method_77_code 83 = .ok (.getfield 154, 3) := de_X8_goesToNext_48 (83, .getfield 154, 3) (List.mem_of_getElem? (i := 4) rfl)
theorem d_X8_goesToNext_86 : decode prog_10_method_77_code 86 = .ok (.iload_n 3, 1) := de_X8_goesToNext_48 (86, .iload_n 3, 1) (List.mem_of_getElem? (i := 5) rfl)
theorem d_X8_goesToNext_87 : decode prog_10_method_77_code 87 = .ok (.iload 4, 2) := de_X8_goesToNext_48 (87, .iload 4, 2) (List.mem_of_getElem? (i := 6) rfl)
theorem d_X8_goesToNext_89 : decode prog_10_method_77_code 89 = .ok (.iastore, 1) := de_X8_goesToNext_48 (89, .iastore, 1) (List.mem_of_getElem? (i := 7) rfl)
theorem d_X8_goesToNext_90 : decode prog_10_method_77_code 90 = .ok (.iload_n 2, 1) := de_X8_goesToNext_48 (90, .iload_n 2, 1) (List.mem_of_getElem? (i := 8) rfl)
theorem d_X8_goesToNext_91 : decode prog_10_method_77_code 91 = .ok (.iconst 1, 1) := de_X8_goesToNext_48 (91, .iconst 1, 1) (List.mem_of_getElem? (i := 9) rfl)
theorem d_X8_goesToNext_92 : decode prog_10_method_77_code 92 = .ok (.iadd, 1) := de_X8_goesToNext_48 (92, .iadd, 1) (List.mem_of_getElem? (i := 10) rfl)
theorem d_X8_goesToNext_93 : decode prog_10_method_77_code 93 = .ok (.istore 5, 2) := de_X8_goesToNext_48 (93, .istore 5, 2) (List.mem_of_getElem? (i := 11) rfl)
theorem d_X8_goesToNext_95 : decode prog_10_method_77_code 95 = .ok (.iload_n 1, 1) := de_X8_goesToNext_48 (95, .iload_n 1, 1) (List.mem_of_getElem? (i := 12) rfl)
theorem d_X8_goesToNext_96 : decode prog_10_method_77_code 96 = .ok (.iconst 1, 1) := de_X8_goesToNext_48 (96, .iconst 1, 1) (List.mem_of_getElem? (i := 13) rfl)
theorem d_X8_goesToNext_97 : decode prog_10_method_77_code 97 = .ok (.isub, 1) := de_X8_goesToNext_48 (97, .isub, 1) (List.mem_of_getElem? (i := 14) rfl)
theorem d_X8_goesToNext_98 : decode prog_10_method_77_code 98 = .ok (.istore 6, 2) := de_X8_goesToNext_48 (98, .istore 6, 2) (List.mem_of_getElem? (i := 15) rfl)
def ce_X8_goesToNext_64 : List (Nat × Instr × Nat) := [(100, .iload 5, 2), (102, .iload 6, 2), (104, .if_icmp .ge 44, 3), (107, .aload_n 0, 1), (108, .getfield 154, 3), (111, .iload 5, 2), (113, .iaload, 1), (114, .istore 4, 2), (116, .aload_n 0, 1), (117, .getfield 154, 3), (120, .iload 5, 2), (122, .aload_n 0, 1), (123, .getfield 154, 3), (126, .iload 6, 2), (128, .iaload, 1), (129, .iastore, 1)]
theorem de_X8_goesToNext_64 : ∀ q ∈ ce_X8_goesToNext_64, decode prog_10_method_77_code q.1 = .ok (q.2.1, q.2.2) := by decide +kernel
theorem d_X8_goesToNext_100 : decode prog_10_method_77_code 100 = .ok (.iload 5, 2) := de_X8_goesToNext_64 (100, .iload 5, 2) (List.mem_of_getElem? (i := 0) rfl)
theorem d_X8_goesToNext_102 : decode prog_10_method_77_code 102 = .ok (.iload 6, 2) := de_X8_goesToNext_64 (102, .iload 6, 2) (List.mem_of_getElem? (i := 1) rfl)
theorem d_X8_goesToNext_104 : decode prog_10_method_77_code 104 = .ok (.if_icmp .ge 44, 3) := de_X8_goesToNext_64 (104, .if_icmp .ge 44, 3) (List.mem_of_getElem? (i := 2) rfl)
theorem d_X8_goesToNext_107 : decode prog_10_method_77_code 107 = .ok (.aload_n 0, 1) := de_X8_goesToNext_64 (107, .aload_n 0, 1) (List.mem_of_getElem? (i := 3) rfl)
theorem d_X8_goesToNext_108 : decode prog_10_method_77_code 108 = .ok (.getfield 154, 3) := de_X8_goesToNext_64 (108, .getfield 154, 3) (List.mem_of_getElem? (i := 4) rfl)
theorem d_X8_goesToNext_111 : decode prog_10_method_77_code 111 = .ok (.iload 5, 2) := de_X8_goesToNext_64 (111, .iload 5, 2) (List.mem_of_getElem? (i := 5) rfl)
theorem d_X8_goesToNext_113 : decode prog_10_method_77_code 113 = .ok (.iaload, 1) := de_X8_goesToNext_64 (113, .iaload, 1) (List.mem_of_getElem? (i := 6) rfl)
theorem d_X8_goesToNext_114 : decode prog_10_method_77_code 114 = .ok (.istore 4, 2) := de_X8_goesToNext_64 (114, .istore 4, 2) (List.mem_of_getElem? (i := 7) rfl)
theorem d_X8_goesToNext_116 : decode prog_10_method_77_code 116 = .ok (.aload_n 0, 1) := de_X8_goesToNext_64 (116, .aload_n 0, 1) (List.mem_of_getElem? (i := 8) rfl)
theorem d_X8_goesToNext_117 : decode prog_10_method_77_code 117 = .ok (.getfield 154, 3) := de_X8_goesToNext_64 (117, .getfield 154, 3) (List.mem_of_getElem? (i := 9) rfl)
theorem d_X8_goesToNext_120 : decode prog_10_method_77_code 120 = .ok (.iload 5, 2) := de_X8_goesToNext_64 (120, .iload 5, 2) (List.mem_of_getElem? (i := 10) rfl)
theorem d_X8_goesToNext_122 : decode prog_10_method_77_code 122 = .ok (.aload_n 0, 1) := de_X8_goesToNext_64 (122, .aload_n 0, 1) (List.mem_of_getElem? (i := 11) rfl)
theorem d_X8_goesToNext_123 : decode prog_10_method_77_code 123 = .ok (.getfield 154, 3) := de_X8_goesToNext_64 (123, .getfield 154, 3) (List.mem_of_getElem? (i := 12) rfl)
theorem d_X8_goesToNext_126 : decode prog_10_method_77_code 126 = .ok (.iload 6, 2) := de_X8_goesToNext_64 (126, .iload 6, 2) (List.mem_of_getElem? (i := 13) rfl)
theorem d_X8_goesToNext_128 : decode prog_10_method_77_code 128 = .ok (.iaload, 1) := de_X8_goesToNext_64 (128, .iaload, 1) (List.mem_of_getElem? (i := 14) rfl)
theorem d_X8_goesToNext_129 : decode prog_10_method_77_code 129 = .ok (.iastore, 1) := de_X8_goesToNext_64 (129, .iastore, 1) (List.mem_of_getElem? (i := 15) rfl)
def ce_X8_goesToNext_80 : List (Nat × Instr × Nat) := [(130, .aload_n 0, 1), (131, .getfield 154, 3), (134, .iload 6, 2), (136, .iload 4, 2), (138, .iastore, 1), (139, .iinc 5 1, 3), (142, .iinc 6 (-1), 3), (145, .goto (-45), 3), (148, .iconst 1, 1), (149, .ireturn, 1)]
theorem de_X8_goesToNext_80 : ∀ q ∈ ce_X8_goesToNext_80, decode prog_10_method_77_code q.1 = .ok (q.2.1, q.2.2) := by decide +kernel
theorem d_X8_goesToNext_130 : decode prog_10_method_77_code 130 = .ok (.aload_n 0, 1) := de_X8_goesToNext_80 (130, .aload_n 0, 1) (List.mem_of_getElem? (i := 0) rfl)
theorem d_X8_goesToNext_131 : decode prog_10_method_77_code 131 = .ok (.getfield 154, 3) := de_X8_goesToNext_80 (131, .getfield 154, 3) (List.mem_of_getElem? (i := 1) rfl)
theorem d_X8_goesToNext_134 : decode prog_10_method_77_code 134 = .ok (.iload 6, 2) := de_X8_goesToNext_80 (134, .iload 6, 2) (List.mem_of_getElem? (i := 2) rfl)
theorem d_X8_goesToNext_136 : decode prog_10_method_77_code 136 = .ok (.iload 4, 2) := de_X8_goesToNext_80 (136, .iload 4, 2) (List.mem_of_getElem? (i := 3) rfl)
theorem d_X8_goesToNext_138 : decode prog_10_method_77_code 138 = .ok (.iastore, 1) := de_X8_goesToNext_80 (138, .iastore, 1) (List.mem_of_getElem? (i := 4) rfl)
theorem d_X8_goesToNext_139 : decode prog_10_method_77_code 139 = .ok (.iinc 5 1, 3) := de_X8_goesToNext_80 (139, .iinc 5 1, 3) (List.mem_of_getElem? (i := 5) rfl)
theorem d_X8_goesToNext_142 : decode prog_10_method_77_code 142 = .ok (.iinc 6 (-1), 3) := de_X8_goesToNext_80 (142, .iinc 6 (-1), 3) (List.mem_of_getElem? (i := 6) rfl)
theorem d_X8_goesToNext_145 : decode prog_10_method_77_code 145 = .ok (.goto (-45), 3) := de_X8_goesToNext_80 (145, .goto (-45), 3) (List.mem_of_getElem? (i := 7) rfl)
theorem d_X8_goesToNext_148 : decode prog_10_method_77_code 148 = .ok (.iconst 1, 1) := de_X8_goesToNext_80 (148, .iconst 1, 1) (List.mem_of_getElem? (i := 8) rfl)
theorem d_X8_goesToNext_149 : decode prog_10_method_77_code 149 = .ok (.ireturn, 1) := de_X8_goesToNext_80 (149, .ireturn, 1) (List.mem_of_getElem? (i := 9) rfl)
def ce_X8_works_0 : List (Nat × Instr × Nat) := [(0, .iconst 0, 1), (1, .istore_n 3, 1), (2, .iload_n 1, 1), (3, .istore 4, 2), (5, .iload 4, 2), (7, .iload_n 2, 1), (8, .if_icmp .ge 119, 3), (11, .aload_n 0, 1), (12, .getfield 70, 3), (15, .iload 4, 2), (17, .iaload, 1), (18, .iconst 2, 1), (19, .if_icmp .le 23, 3), (22, .iinc 3 (-1), 3), (25, .aload_n 0, 1), (26, .aload_n 0, 1)]
theorem de_X8_works_0 : ∀ q ∈ ce_X8_works_0, decode prog_10_method_50_code q.1 = .ok (q.2.1, q.2.2) := by decide +kernel
theorem d_X8_works_0 : decode prog_10_method_50_code 0 = .ok (.iconst 0, 1) := de_X8_works_0 (0, .iconst 0, 1) (List.mem_of_getElem? (i := 0) rfl)
theorem d_X8_works_1 : decode prog_10_method_50_code 1 = .ok (.istore_n 3, 1) := de_X8_works_0 (1, .istore_n 3, 1) (List.mem_of_getElem? (i := 1) rfl)
theorem d_X8_works_2 : decode prog_10_method_50_code 2 = .ok (.iload_n 1, 1) := de_X8_works_0 (2, .iload_n 1, 1) (List.mem_of_getElem? (i := 2) rfl)
theorem d_X8_works_3 : decode prog_10_method_50_code 3 = .ok (.istore 4, 2) := de_X8_works_0 (3, .istore 4, 2) (List.mem_of_getElem? (i := 3) rfl)
theorem d_X8_works_5 : decode prog_10_method_50_code 5 = .ok (.iload 4, 2) := de_X8_works_0 (5, .iload 4, 2) (List.mem_of_getElem? (i := 4) rfl)
theorem d_X8_works_7 : decode prog_10_method_50_code 7 = .ok (.iload_n 2, 1) := de_X8_works_0 (7, .iload_n 2, 1) (List.mem_of_getElem? (i := 5) rfl)
theorem d_X8_works_8 : decode prog_10_method_50_code 8 = .ok (.if_icmp .ge 119, 3) := de_X8_works_0 (8, .if_icmp .ge 119, 3) (List.mem_of_getElem? (i := 6) rfl)
theorem d_X8_works_11 : decode prog_10_method_50_code 11 = .ok (.aload_n 0, 1) := de_X8_works_0 (11, .aload_n 0, 1) (List.mem_of_getElem? (i := 7) rfl)
theorem d_X8_works_12 : decode prog_10_method_50_code 12 = .ok (.getfield 70, 3) := de_X8_works_0 (12, .getfield 70, 3) (List.mem_of_getElem? (i := 8) rfl)
theorem d_X8_works_15 : decode prog_10_method_50_code 15 = .ok (.iload 4, 2) := de_X8_works_0 (15, .iload 4, 2) (List.mem_of_getElem? (i := 9) rfl)
theorem d_X8_works_17 : decode prog_10_method_50_code 17 = .ok (.iaload, 1) := de_X8_works_0 (17, .iaload, 1) (List.mem_of_getElem? (i := 10) rfl)
theorem d_X8_works_18 : decode prog_10_method_50_code 18 = .ok (.iconst 2, 1) := de_X8_works_0 (18, .iconst 2, 1) (List.mem_of_getElem? (i := 11) rfl)
theorem d_X8_works_19 : decode prog_10_method_50_code 19 = .ok (.if_icmp .le 23, 3) := de_X8_works_0 (19, .if_icmp .le 23, 3) (List.mem_of_getElem? (i := 12) rfl)
theorem d_X8_works_22 : decode prog_10_method_50_code 22 = .ok (.iinc 3 (-1), 3) := de_X8_works_0 (22, .iinc 3 (-1), 3) (List.mem_of_getElem? (i := 13) rfl)
theorem d_X8_works_25 : decode prog_10_method_50_code 25 = .ok (.aload_n 0, 1) := de_X8_works_0 (25, .aload_n 0, 1) (List.mem_of_getElem? (i := 14) rfl)
theorem d_X8_works_26 : decode prog_10_method_50_code 26 = .ok (.aload_n 0, 1) := de_X8_works_0 (26, .aload_n 0, 1) (List.mem_of_getElem? (i := 15) rfl)
def ce_X8_works_16 : List (Nat × Instr × Nat) := [(27, .getfield 70, 3), (30, .iload 4, 2), (32, .iaload, 1), (33, .iload_n 3, 1), (34, .iconst 1, 1), (35, .isub, 1), (36, .invokevirtual 353, 3), (39, .goto 82, 3), (42, .aload_n 0, 1), (43, .getfield 70, 3), (46, .iload 4, 2), (48, .iaload, 1), (49, .iconst 2, 1), (50, .if_icmp .ne 24, 3), (53, .aload_n 0, 1), (54, .getfield 97, 3)]
theorem de_X8_works_16 : ∀ q ∈ ce_X8_works_16, decode prog_10_method_50_code q.1 = .ok (q.2.1, q.2.2) := by decide +kernel
theorem d_X8_works_27 : decode prog_10_method_50_code 27 = .ok (.getfield 70, 3) := de_X8_works_16 (27, .getfield 70, 3) (List.mem_of_getElem? (i := 0) rfl)
theorem d_X8_works_30 : decode prog_10_method_50_code 30 = .ok (.iload 4, 2) := de_X8_works_16 (30, .iload 4, 2) (List.mem_of_getElem? (i := 1) rfl)
theorem d_X8_works_32 : decode prog_10_method_50_code 32 = .ok (.iaload, 1) := de_X8_works_16 (32, .iaload, 1) (List.mem_of_getElem? (i := 2) rfl)
theorem d_X8_works_33 : decode prog_10_method_50_code 33 = .ok (.iload_n 3, 1) := de_X8_works_16 (33, .iload_n 3, 1) (List.mem_of_getElem? (i := 3) rfl)
theorem d_X8_works_34 : decode prog_10_method_50_code 34 = .ok (.iconst 1, 1) := de_X8_works_16 (34, .iconst 1, 1) (List.mem_of_getElem? (i := 4) rfl)
theorem d_X8_works_35 : decode prog_10_method_50_code 35 = .ok (.isub, 1) := de_X8_works_16 (35, .isub, 1) (List.mem_of_getElem? (i := 5) rfl)
theorem d_X8_works_36 : decode prog_10_method_50_code 36 = .ok (.invokevirtual 353, 3) := de_X8_works_16 (36, .invokevirtual 353, 3) (List.mem_of_getElem? (i := 6) rfl)
theorem d_X8_works_39 : decode prog_10_method_50_code 39 = .ok (.goto 82, 3) := de_X8_works_16 (39, .goto 82, 3) (List.mem_of_getElem? (i := 7) rfl)
theorem d_X8_works_42 : decode prog_10_method_50_code 42 = .ok (.aload_n 0, 1) := de_X8_works_16 (42, .aload_n 0, 1) (List.mem_of_getElem? (i := 8) rfl)
theorem d_X8_works_43 : decode prog_10_method_50_code 43 = .ok (.getfield 70, 3) := de_X8_works_16 (43, .getfield 70, 3) (List.mem_of_getElem? (i := 9) rfl)
theorem d_X8_works_46 : decode prog_10_method_50_code 46 = .ok (.iload 4, 2) := de_X8_works_16 (46, .iload 4, 2) (List.mem_of_getElem? (i := 10) rfl)
theorem d_X8_works_48 : decode prog_10_method_50_code 48 = .ok (.iaload, 1) := de_X8_works_16 (48, .iaload, 1) (List.mem_of_getElem? (i := 11) rfl)
theorem d_X8_works_49 : decode prog_10_method_50_code 49 = .ok (.iconst 2, 1) := de_X8_works_16 (49, .iconst 2, 1) (List.mem_of_getElem? (i := 12) rfl)
theorem d_X8_works_50 : decode prog_10_method_50_code 50 = .ok (.if_icmp .ne 24, 3) := de_X8_works_16 (50, .if_icmp .ne 24, 3) (List.mem_of_getElem? (i := 13) rfl)
theorem d_X8_works_53 : decode prog_10_method_50_code 53 = .ok (.aload_n 0, 1) := de_X8_works_16 (53, .aload_n 0, 1) (List.mem_of_getElem? (i := 14) rfl)
theorem d_X8_works_54 : decode prog_10_method_50_code 54 = .ok (.getfield 97, 3) := de_X8_works_16 (54, .getfield 97, 3) (List.mem_of_getElem? (i := 15) rfl)
def ce_X8_works_32 : List (Nat × Instr × Nat) := [(57, .iload_n 3, 1), (58, .iconst 1, 1), (59, .isub, 1), (60, .iconst 1, 1), (61, .aload_n 0, 1), (62, .getfield 97, 3), (65, .iload_n 3, 1), (66, .iconst 1, 1), (67, .isub, 1), (68, .iaload, 1), (69, .isub, 1), (70, .iastore, 1), (71, .goto 50, 3), (74, .aload_n 0, 1), (75, .getfield 100, 3), (78, .iload_n 3, 1)]
theorem de_X8_works_32 : ∀ q ∈ ce_X8_works_32, decode prog_10_method_50_code q.1 = .ok (q.2.1, q.2.2) := by decide +kernel
theorem d_X8_works_57 : decode prog_10_method_50_code 57 = .ok (.iload_n 3, 1) := de_X8_works_32 (57, .iload_n 3, 1) (List.mem_of_getElem? (i := 0) rfl)
theorem d_X8_works_58 : decode prog_10_method_50_code 58 = .ok (.iconst 1, 1) := de_X8_works_32 (58, .iconst 1, 1) (List.mem_of_getElem? (i := 1) rfl)
theorem d_X8_works_59 : decode prog_10_method_50_code 59 = .ok (.isub, 1) := de_X8_works_32 (59, .isub, 1) (List.mem_of_getElem? (i := 2) rfl)
theorem d_X8_works_60 : decode prog_10_method_50_code 60 = .ok (.iconst 1, 1) := de_X8_works_32 (60, .iconst 1, 1) (List.mem_of_getElem? (i := 3) rfl)
theorem d_X8_works_61 : decode prog_10_method_50_code 61 = .ok (.aload_n 0, 1) := de_X8_works_32 (61, .aload_n 0, 1) (List.mem_of_getElem? (i := 4) rfl)
theorem d_X8_works_62 : decode prog_10_method_50_code 62 = .ok (.getfield 97, 3) := de_X8_works_32 (62, .getfield 97, 3) (List.mem_of_getElem? (i := 5) rfl)
theorem d_X8_works_65 : decode prog_10_method_50_code 65 = .ok (.iload_n 3, 1) := de_X8_works_32 (65, .iload_n 3, 1) (List.mem_of_getElem? (i := 6) rfl)
theorem d_X8_works_66 : decode prog_10_method_50_code 66 = .ok (.iconst 1, 1) := de_X8_works_32 (66, .iconst 1, 1) (List.mem_of_getElem? (i := 7) rfl)
theorem d_X8_works_67 : decode prog_10_method_50_code 67 = .ok (.isub, 1) := de_X8_works_32 (67, .isub, 1) (List.mem_of_getElem? (i := 8) rfl)
theorem d_X8_works_68 : decode prog_10_method_50_code 68 = .ok (.iaload, 1) := de_X8_works_32 (68, .iaload, 1) (List.mem_of_getElem? (i := 9) rfl)
theorem d_X8_works_69 : decode prog_10_method_50_code 69 = .ok (.isub, 1) := de_X8_works_32 (69, .isub, 1) (List.mem_of_getElem? (i := 10) rfl)
theorem d_X8_works_70 : decode prog_10_method_50_code 70 = .ok (.iastore, 1) := de_X8_works_32 (70, .iastore, 1) (List.mem_of_getElem? (i := 11) rfl)
theorem d_X8_works_71 : decode prog_10_method_50_code 71 = .ok (.goto 50, 3) := de_X8_works_32 (71, .goto 50, 3) (List.mem_of_getElem? (i := 12) rfl)
theorem d_X8_works_74 : decode prog_10_method_50_code 74 = .ok (.aload_n 0, 1) := de_X8_works_32 (74, .aload_n 0, 1) (List.mem_of_getElem? (i := 13) rfl)
theorem d_X8_works_75 : decode prog_10_method_50_code 75 = .ok (.getfield 100, 3) := de_X8_works_32 (75, .getfield 100, 3) (List.mem_of_getElem? (i := 14) rfl)
theorem d_X8_works_78 : decode prog_10_method_50_code 78 = .ok (.iload_n 3, 1) := de_X8_works_32 (78, .iload_n 3, 1) (List.mem_of_getElem? (i := 15) rfl)
def ce_X8_works_48 : List (Nat × Instr × Nat) := [(79, .iconst 0, 1), (80, .bastore, 1), (81, .aload_n 0, 1), (82, .getfield 97, 3), (85, .iload_n 3, 1), (86, .aload_n 0, 1), (87, .getfield 70, 3), (90, .iload 4, 2), (92, .iaload, 1), (93, .ifCond .ne 13, 3), (96, .aload_n 0, 1), (97, .getfield 73, 3), (100, .iload 4, 2), (102, .iaload, 1), (103, .goto 14, 3), (106, .aload_n 0, 1)]
theorem de_X8_works_48 : ∀ q ∈ ce_X8_works_48, decode prog_10_method_50_code q.1 = .ok (q.2.1, q.2.2) := by decide +kernel
theorem d_X8_works_79 : decode prog_10_method_50_code 79 = .ok (.iconst 0, 1) := de_X8_works_48 (79, .iconst 0, 1) (List.mem_of_getElem? (i := 0) rfl)
theorem d_X8_works_80 : decode prog_10_method_50_code 80 = .ok (.bastore, 1) := de_X8_works_48 (80, .bastore, 1) (List.mem_of_getElem? (i := 1) rfl)
theorem d_X8_works_81 : decode prog_10_method_50_code 81 = .ok (.aload_n 0, 1) := de_X8_works_48 (81, .aload_n 0, 1) (List.mem_of_getElem? (i := 2) rfl)
theorem d_X8_works_82 : decode prog_10_method_50_code 82 = .ok (.getfield 97, 3) := de_X8_works_48 (82, .getfield 97, 3) (List.mem_of_getElem? (i := 3) rfl)
theorem d_X8_works_85 : decode prog_10_method_50_code 85 = .ok (.iload_n 3, 1) := de_X8_works_48 (85, .iload_n 3, 1) (List.mem_of_getElem? (i := 4) rfl)
theorem d_X8_works_86 : decode prog_10_method_50_code 86 = .ok (.aload_n 0, 1) := de_X8_works_48 (86, .aload_n 0, 1) (List.mem_of_getElem? (i := 5) rfl)
theorem d_X8_works_87 : decode prog_10_method_50_code 87 = .ok (.getfield 70, 3) := de_X8_works_48 (87, .getfield 70, 3) (List.mem_of_getElem? (i := 6) rfl)
theorem d_X8_works_90 : decode prog_10_method_50_code 90 = .ok (.iload 4, 2) := de_X8_works_48 (90, .iload 4, 2) (List.mem_of_getElem? (i := 7) rfl)
theorem d_X8_works_92 : decode prog_10_method_50_code 92 = .ok (.iaload, 1) := de_X8_works_48 (92, .iaload, 1) (List.mem_of_getElem? (i := 8) rfl)
theorem d_X8_works_93 : decode prog_10_method_50_code 93 = .ok (.ifCond .ne 13, 3) := de_X8_works_48 (93, .ifCond .ne 13, 3) (List.mem_of_getElem? (i := 9) rfl)
theorem d_X8_works_96 : decode prog_10_method_50_code 96 = .ok (.aload_n 0, 1) := de_X8_works_48 (96, .aload_n 0, 1) (List.mem_of_getElem? (i := 10) rfl)
theorem d_X8_works_97 : decode prog_10_method_50_code 97 = .ok (.getfield 73, 3) := de_X8_works_48 (97, .getfield 73, 3) (List.mem_of_getElem? (i := 11) rfl)
theorem d_X8_works_100 : decode prog_10_method_50_code 100 = .ok (.iload 4, 2) := de_X8_works_48 (100, .iload 4, 2) (List.mem_of_getElem? (i := 12) rfl)
theorem d_X8_works_102 : decode prog_10_method_50_code 102 = .ok (.iaload, 1) := de_X8_works_48 (102, .iaload, 1) (List.mem_of_getElem? (i := 13) rfl)
theorem d_X8_works_103 : decode prog_10_method_50_code 103 = .ok (.goto 14, 3) := de_X8_works_48 (103, .goto 14, 3) (List.mem_of_getElem? (i := 14) rfl)
theorem d_X8_works_106 : decode prog_10_method_50_code 106 = .ok (.aload_n 0, 1) := de_X8_works_48 (106, .aload_n 0, 1) (List.mem_of_getElem? (i := 15) rfl)
def ce_X8_works_64 : List (Nat × Instr × Nat) := [(107, .aload_n 0, 1), (108, .getfield 73, 3), (111, .iload 4, 2), (113, .iaload, 1), (114, .invokevirtual 356, 3), (117, .iastore, 1), (118, .iinc 3 1, 3), (121, .iinc 4 1, 3), (124, .goto (-119), 3), (127, .return_, 1)]
theorem de_X8_works_64 : ∀ q ∈ ce_X8_works_64, decode prog_10_method_50_code q.1 = .ok (q.2.1, q.2.2) := by decide +kernel
theorem d_X8_works_107 : decode prog_10_method_50_code 107 = .ok (.aload_n 0, 1) := de_X8_works_64 (107, .aload_n 0, 1) (List.mem_of_getElem? (i := 0) rfl)
theorem d_X8_works_108 : decode prog_10_method_50_code 108 = .ok (.getfield 73, 3) := de_X8_works_64 (108, .getfield 73, 3) (List.mem_of_getElem? (i := 1) rfl)
theorem d_X8_works_111 : decode prog_10_method_50_code 111 = .ok (.iload 4, 2) := de_X8_works_64 (111, .iload 4, 2) (List.mem_of_getElem? (i := 2) rfl)
theorem d_X8_works_113 : decode prog_10_method_50_code 113 = .ok (.iaload, 1) := de_X8_works_64 (113, .iaload, 1) (List.mem_of_getElem? (i := 3) rfl)
theorem d_X8_works_114 : decode prog_10_method_50_code 114 = .ok (.invokevirtual 356, 3) := de_X8_works_64 (114, .invokevirtual 356, 3) (List.mem_of_getElem? (i := 4) rfl)
theorem d_X8_works_117 : decode prog_10_method_50_code 117 = .ok (.iastore, 1) := de_X8_works_64 (117, .iastore, 1) (List.mem_of_getElem? (i := 5) rfl)
theorem d_X8_works_118 : decode prog_10_method_50_code 118 = .ok (.iinc 3 1, 3) := de_X8_works_64 (118, .iinc 3 1, 3) (List.mem_of_getElem? (i := 6) rfl)
theorem d_X8_works_121 : decode prog_10_method_50_code 121 = .ok (.iinc 4 1, 3) := de_X8_works_64 (121, .iinc 4 1, 3) (List.mem_of_getElem? (i := 7) rfl)
theorem d_X8_works_124 : decode prog_10_method_50_code 124 = .ok (.goto (-119), 3) := de_X8_works_64 (124, .goto (-119), 3) (List.mem_of_getElem? (i := 8) rfl)
theorem d_X8_works_127 : decode prog_10_method_50_code 127 = .ok (.return_, 1) := de_X8_works_64 (127, .return_, 1) (List.mem_of_getElem? (i := 9) rfl)
def ce_X8_tells_0 : List (Nat × Instr × Nat) := [(0, .aload_n 0, 1), (1, .iload_n 2, 1), (2, .putfield 324, 3), (5, .aload_n 0, 1), (6, .iload_n 3, 1), (7, .putfield 330, 3), (10, .aload_n 0, 1), (11, .iload 4, 2), (13, .putfield 343, 3), (16, .iconst 0, 1), (17, .istore 5, 2), (19, .iload 5, 2), (21, .aload_n 0, 1), (22, .getfield 318, 3), (25, .if_icmp .ge 126, 3), (28, .aload_n 0, 1)]
theorem de_X8_tells_0 : ∀ q ∈ ce_X8_tells_0, decode prog_10_method_51_code q.1 = .ok (q.2.1, q.2.2) := by decide +kernel
theorem d_X8_tells_0 : decode prog_10_method_51_code 0 = .ok (.aload_n 0, 1) := de_X8_tells_0 (0, .aload_n 0, 1) (List.mem_of_getElem? (i := 0) rfl)
theorem d_X8_tells_1 : decode prog_10_method_51_code 1 = .ok (.iload_n 2, 1) := de_X8_tells_0 (1, .iload_n 2, 1) (List.mem_of_getElem? (i := 1) rfl)
theorem d_X8_tells_2 : decode prog_10_method_51_code 2 = .ok (.putfield 324, 3) := de_X8_tells_0 (2, .putfield 324, 3) (List.mem_of_getElem? (i := 2) rfl)
theorem d_X8_tells_5 : decode prog_10_method_51_code 5 = .ok (.aload_n 0, 1) := de_X8_tells_0 (5, .aload_n 0, 1) (List.mem_of_getElem? (i := 3) rfl)
theorem d_X8_tells_6 : decode prog_10_method_51_code 6 = .ok (.iload_n 3, 1) := de_X8_tells_0 (6, .iload_n 3, 1) (List.mem_of_getElem? (i := 4) rfl)
theorem d_X8_tells_7 : decode prog_10_method_51_code 7 = .ok (.putfield 330, 3) := de_X8_tells_0 (7, .putfield 330, 3) (List.mem_of_getElem? (i := 5) rfl)
theorem d_X8_tells_10 : decode prog_10_method_51_code 10 = .ok (.aload_n 0, 1) := de_X8_tells_0 (10, .aload_n 0, 1) (List.mem_of_getElem? (i := 6) rfl)
theorem d_X8_tells_11 : decode prog_10_method_51_code 11 = .ok (.iload 4, 2) := de_X8_tells_0 (11, .iload 4, 2) (List.mem_of_getElem? (i := 7) rfl)
theorem d_X8_tells_13 : decode prog_10_method_51_code 13 = .ok (.putfield 343, 3) := de_X8_tells_0 (13, .putfield 343, 3) (List.mem_of_getElem? (i := 8) rfl)
theorem d_X8_tells_16 : decode prog_10_method_51_code 16 = .ok (.iconst 0, 1) := de_X8_tells_0 (16, .iconst 0, 1) (List.mem_of_getElem? (i := 9) rfl)
theorem d_X8_tells_17 : decode prog_10_method_51_code 17 = .ok (.istore 5, 2) := de_X8_tells_0 (17, .istore 5, 2) (List.mem_of_getElem? (i := 10) rfl)
theorem d_X8_tells_19 : decode prog_10_method_51_code 19 = .ok (.iload 5, 2) := de_X8_tells_0 (19, .iload 5, 2) (List.mem_of_getElem? (i := 11) rfl)
theorem d_X8_tells_21 : decode prog_10_method_51_code 21 = .ok (.aload_n 0, 1) := de_X8_tells_0 (21, .aload_n 0, 1) (List.mem_of_getElem? (i := 12) rfl)
theorem d_X8_tells_22 : decode prog_10_method_51_code 22 = .ok (.getfield 318, 3) := de_X8_tells_0 (22, .getfield 318, 3) (List.mem_of_getElem? (i := 13) rfl)
theorem d_X8_tells_25 : decode prog_10_method_51_code 25 = .ok (.if_icmp .ge 126, 3) := de_X8_tells_0 (25, .if_icmp .ge 126, 3) (List.mem_of_getElem? (i := 14) rfl)
theorem d_X8_tells_28 : decode prog_10_method_51_code 28 = .ok (.aload_n 0, 1) := de_X8_tells_0 (28, .aload_n 0, 1) (List.mem_of_getElem? (i := 15) rfl)
def ce_X8_tells_16 : List (Nat × Instr × Nat) := [(29, .getfield 58, 3), (32, .iload 5, 2), (34, .iaload, 1), (35, .iload_n 1, 1), (36, .if_icmp .eq 6, 3), (39, .goto 106, 3), (42, .aload_n 0, 1), (43, .aload_n 0, 1), (44, .getfield 64, 3), (47, .iload 5, 2), (49, .iaload, 1), (50, .aload_n 0, 1), (51, .getfield 67, 3), (54, .iload 5, 2), (56, .iaload, 1), (57, .invokevirtual 359, 3)]
theorem de_X8_tells_16 : ∀ q ∈ ce_X8_tells_16, decode prog_10_method_51_code q.1 = .ok (q.2.1, q.2.2) := by decide +kernel
theorem d_X8_tells_29 : decode prog_10_method_51_code 29 = .ok (.getfield 58, 3) := de_X8_tells_16 (29, .getfield 58, 3) (List.mem_of_getElem? (i := 0) rfl)
theorem d_X8_tells_32 : decode prog_10_method_51_code 32 = .ok (.iload 5, 2) := de_X8_tells_16 (32, .iload 5, 2) (List.mem_of_getElem? (i := 1) rfl)
theorem d_X8_tells_34 : decode prog_10_method_51_code 34 = .ok (.iaload, 1) := de_X8_tells_16 (34, .iaload, 1) (List.mem_of_getElem? (i := 2) rfl)
theorem d_X8_tells_35 : decode prog_10_method_51_code 35 = .ok (.iload_n 1, 1) := de_X8_tells_16 (35, .iload_n 1, 1) (List.mem_of_getElem? (i := 3) rfl)
theorem d_X8_tells_36 : decode prog_10_method_51_code 36 = .ok (.if_icmp .eq 6, 3) := de_X8_tells_16 (36, .if_icmp .eq 6, 3) (List.mem_of_getElem? (i := 4) rfl)
theorem d_X8_tells_39 : decode prog_10_method_51_code 39 = .ok (.goto 106, 3) := de_X8_tells_16 (39, .goto 106, 3) (List.mem_of_getElem? (i := 5) rfl)
theorem d_X8_tells_42 : decode prog_10_method_51_code 42 = .ok (.aload_n 0, 1) := de_X8_tells_16 (42, .aload_n 0, 1) (List.mem_of_getElem? (i := 6) rfl)
theorem d_X8_tells_43 : decode prog_10_method_51_code 43 = .ok (.aload_n 0, 1) := de_X8_tells_16 (43, .aload_n 0, 1) (List.mem_of_getElem? (i := 7) rfl)
theorem d_X8_tells_44 : decode prog_10_method_51_code 44 = .ok (.getfield 64, 3) := de_X8_tells_16 (44, .getfield 64, 3) (List.mem_of_getElem? (i := 8) rfl)
theorem d_X8_tells_47 : decode prog_10_method_51_code 47 = .ok (.iload 5, 2) := de_X8_tells_16 (47, .iload 5, 2) (List.mem_of_getElem? (i := 9) rfl)
theorem d_X8_tells_49 : decode prog_10_method_51_code 49 = .ok (.iaload, 1) := de_X8_tells_16 (49, .iaload, 1) (List.mem_of_getElem? (i := 10) rfl)
theorem d_X8_tells_50 : decode prog_10_method_51_code 50 = .ok (.aload_n 0, 1) := de_X8_tells_16 (50, .aload_n 0, 1) (List.mem_of_getElem? (i := 11) rfl)
theorem d_X8_tells_51 : decode prog_10_method_51_code 51 = .ok (.getfield 67, 3) := de_X8_tells_16 (51, .getfield 67, 3) (List.mem_of_getElem? (i := 12) rfl)
theorem d_X8_tells_54 : decode prog_10_method_51_code 54 = .ok (.iload 5, 2) := de_X8_tells_16 (54, .iload 5, 2) (List.mem_of_getElem? (i := 13) rfl)
theorem d_X8_tells_56 : decode prog_10_method_51_code 56 = .ok (.iaload, 1) := de_X8_tells_16 (56, .iaload, 1) (List.mem_of_getElem? (i := 14) rfl)
theorem d_X8_tells_57 : decode prog_10_method_51_code 57 = .ok (.invokevirtual 359, 3) := de_X8_tells_16 (57, .invokevirtual 359, 3) (List.mem_of_getElem? (i := 15) rfl)
def ce_X8_tells_32 : List (Nat × Instr × Nat) := [(60, .aload_n 0, 1), (61, .getfield 100, 3), (64, .iconst 0, 1), (65, .baload, 1), (66, .ifCond .ne 79, 3), (69, .aload_n 0, 1), (70, .getfield 97, 3), (73, .iconst 0, 1), (74, .iaload, 1), (75, .iconst 1, 1), (76, .if_icmp .eq 6, 3), (79, .goto 66, 3), (82, .aload_n 0, 1), (83, .aload_n 0, 1), (84, .getfield 61, 3), (87, .iload 5, 2)]
theorem de_X8_tells_32 : ∀ q ∈ ce_X8_tells_32, decode prog_10_method_51_code q.1 = .ok (q.2.1, q.2.2) := by decide +kernel
theorem d_X8_tells_60 : decode prog_10_method_51_code 60 = .ok (.aload_n 0, 1) := de_X8_tells_32 (60, .aload_n 0, 1) (List.mem_of_getElem? (i := 0) rfl)
theorem d_X8_tells_61 : decode prog_10_method_51_code 61 = .ok (.getfield 100, 3) := de_X8_tells_32 (61, .getfield 100, 3) (List.mem_of_getElem? (i := 1) rfl)
theorem d_X8_tells_64 : decode prog_10_method_51_code 64 = .ok (.iconst 0, 1) := de_X8_tells_32 (64, .iconst 0, 1) (List.mem_of_getElem? (i := 2) rfl)
theorem d_X8_tells_65 : decode prog_10_method_51_code 65 = .ok (.baload, 1) := de_X8_tells_32 (65, .baload, 1) (List.mem_of_getElem? (i := 3) rfl)
theorem d_X8_tells_66 : decode prog_10_method_51_code 66 = .ok (.ifCond .ne 79, 3) := de_X8_tells_32 (66, .ifCond .ne 79, 3) (List.mem_of_getElem? (i := 4) rfl)
theorem d_X8_tells_69 : decode prog_10_method_51_code 69 = .ok (.aload_n 0, 1) := de_X8_tells_32 (69, .aload_n 0, 1) (List.mem_of_getElem? (i := 5) rfl)
theorem d_X8_tells_70 : decode prog_10_method_51_code 70 = .ok (.getfield 97, 3) := de_X8_tells_32 (70, .getfield 97, 3) (List.mem_of_getElem? (i := 6) rfl)
theorem d_X8_tells_73 : decode prog_10_method_51_code 73 = .ok (.iconst 0, 1) := de_X8_tells_32 (73, .iconst 0, 1) (List.mem_of_getElem? (i := 7) rfl)
theorem d_X8_tells_74 : decode prog_10_method_51_code 74 = .ok (.iaload, 1) := de_X8_tells_32 (74, .iaload, 1) (List.mem_of_getElem? (i := 8) rfl)
theorem d_X8_tells_75 : decode prog_10_method_51_code 75 = .ok (.iconst 1, 1) := de_X8_tells_32 (75, .iconst 1, 1) (List.mem_of_getElem? (i := 9) rfl)
theorem d_X8_tells_76 : decode prog_10_method_51_code 76 = .ok (.if_icmp .eq 6, 3) := de_X8_tells_32 (76, .if_icmp .eq 6, 3) (List.mem_of_getElem? (i := 10) rfl)
theorem d_X8_tells_79 : decode prog_10_method_51_code 79 = .ok (.goto 66, 3) := de_X8_tells_32 (79, .goto 66, 3) (List.mem_of_getElem? (i := 11) rfl)
theorem d_X8_tells_82 : decode prog_10_method_51_code 82 = .ok (.aload_n 0, 1) := de_X8_tells_32 (82, .aload_n 0, 1) (List.mem_of_getElem? (i := 12) rfl)
theorem d_X8_tells_83 : decode prog_10_method_51_code 83 = .ok (.aload_n 0, 1) := de_X8_tells_32 (83, .aload_n 0, 1) (List.mem_of_getElem? (i := 13) rfl)
theorem d_X8_tells_84 : decode prog_10_method_51_code 84 = .ok (.getfield 61, 3) := de_X8_tells_32 (84, .getfield 61, 3) (List.mem_of_getElem? (i := 14) rfl)
theorem d_X8_tells_87 : decode prog_10_method_51_code 87 = .ok (.iload 5, 2) := de_X8_tells_32 (87, .iload 5, 2) (List.mem_of_getElem? (i := 15) rfl)
def ce_X8_tells_48 : List (Nat × Instr × Nat) := [(89, .iaload, 1), (90, .aload_n 0, 1), (91, .getfield 64, 3), (94, .iload 5, 2), (96, .iaload, 1), (97, .invokevirtual 359, 3), (100, .aload_n 0, 1), (101, .getfield 100, 3), (104, .iconst 0, 1), (105, .baload, 1), (106, .ifCond .eq 7, 3), (109, .iconst 0, 1), (110, .goto 9, 3), (113, .aload_n 0, 1), (114, .getfield 97, 3), (117, .iconst 0, 1)]
theorem de_X8_tells_48 : ∀ q ∈ ce_X8_tells_48, decode prog_10_method_51_code q.1 = .ok (q.2.1, q.2.2) := by decide +kernel
theorem d_X8_tells_89 : decode prog_10_method_51_code 89 = .ok (.iaload, 1) := de_X8_tells_48 (89, .iaload, 1) (List.mem_of_getElem? (i := 0) rfl)
theorem d_X8_tells_90 : decode prog_10_method_51_code 90 = .ok (.aload_n 0, 1) := de_X8_tells_48 (90, .aload_n 0, 1) (List.mem_of_getElem? (i := 1) rfl)
theorem d_X8_tells_91 : decode prog_10_method_51_code 91 = .ok (.getfield 64, 3) := de_X8_tells_48 (91, .getfield 64, 3) (List.mem_of_getElem? (i := 2) rfl)
theorem d_X8_tells_94 : decode prog_10_method_51_code 94 = .ok (.iload 5, 2) := de_X8_tells_48 (94, .iload 5, 2) (List.mem_of_getElem? (i := 3) rfl)
theorem d_X8_tells_96 : decode prog_10_method_51_code 96 = .ok (.iaload, 1) := de_X8_tells_48 (96, .iaload, 1) (List.mem_of_getElem? (i := 4) rfl)
theorem d_X8_tells_97 : decode prog_10_method_51_code 97 = .ok (.invokevirtual 359, 3) := de_X8_tells_48 (97, .invokevirtual 359, 3) (List.mem_of_getElem? (i := 5) rfl)
theorem d_X8_tells_100 : decode prog_10_method_51_code 100 = .ok (.aload_n 0, 1) := de_X8_tells_48 (100, .aload_n 0, 1) (List.mem_of_getElem? (i := 6) rfl)
theorem d_X8_tells_101 : decode prog_10_method_51_code 101 = .ok (.getfield 100, 3) := de_X8_tells_48 (101, .getfield 100, 3) (List.mem_of_getElem? (i := 7) rfl)
theorem d_X8_tells_104 : decode prog_10_method_51_code 104 = .ok (.iconst 0, 1) := de_X8_tells_48 (104, .iconst 0, 1) (List.mem_of_getElem? (i := 8) rfl)
theorem d_X8_tells_105 : decode prog_10_method_51_code 105 = .ok (.baload, 1) := de_X8_tells_48 (105, .baload, 1) (List.mem_of_getElem? (i := 9) rfl)
theorem d_X8_tells_106 : decode prog_10_method_51_code 106 = .ok (.ifCond .eq 7, 3) := de_X8_tells_48 (106, .ifCond .eq 7, 3) (List.mem_of_getElem? (i := 10) rfl)
theorem d_X8_tells_109 : decode prog_10_method_51_code 109 = .ok (.iconst 0, 1) := de_X8_tells_48 (109, .iconst 0, 1) (List.mem_of_getElem? (i := 11) rfl)
theorem d_X8_tells_110 : decode prog_10_method_51_code 110 = .ok (.goto 9, 3) := de_X8_tells_48 (110, .goto 9, 3) (List.mem_of_getElem? (i := 12) rfl)
theorem d_X8_tells_113 : decode prog_10_method_51_code 113 = .ok (.aload_n 0, 1) := de_X8_tells_48 (113, .aload_n 0, 1) (List.mem_of_getElem? (i := 13) rfl)
theorem d_X8_tells_114 : decode prog_10_method_51_code 114 = .ok (.getfield 97, 3) := de_X8_tells_48 (114, .getfield 97, 3) (List.mem_of_getElem? (i := 14) rfl)
theorem d_X8_tells_117 : decode prog_10_method_51_code 117 = .ok (.iconst 0, 1) := de_X8_tells_48 (117, .iconst 0, 1) (List.mem_of_getElem? (i := 15) rfl)
def ce_X8_tells_64 : List (Nat × Instr × Nat) := [(118, .iaload, 1), (119, .istore 6, 2), (121, .iload 6, 2), (123, .ifCond .ge 7, 3), (126, .iconst 0, 1), (127, .goto 17, 3), (130, .iload 6, 2), (132, .bipush 99, 2), (134, .if_icmp .le 8, 3), (137, .bipush 99, 2), (139, .goto 5, 3), (142, .iload 6, 2), (144, .ireturn, 1), (145, .iinc 5 1, 3), (148, .goto (-129), 3), (151, .iconst 0, 1)]
theorem de_X8_tells_64 : ∀ q ∈ ce_X8_tells_64, decode prog_10_method_51_code q.1 = .ok (q.2.1, q.2.2) := by decide +kernel
theorem d_X8_tells_118 : decode prog_10_method_51_code 118 = .ok (.iaload, 1) := de_X8_tells_64 (118, .iaload, 1) (List.mem_of_getElem? (i := 0) rfl)
theorem d_X8_tells_119 : decode prog_10_method_51_code 119 = .ok (.istore 6, 2) := de_X8_tells_64 (119, .istore 6, 2) (List.mem_of_getElem? (i := 1) rfl)
theorem d_X8_tells_121 : decode prog_10_method_51_code 121 = .ok (.iload 6, 2) := de_X8_tells_64 (121, .iload 6, 2) (List.mem_of_getElem? (i := 2) rfl)
theorem d_X8_tells_123 : decode prog_10_method_51_code 123 = .ok (.ifCond .ge 7, 3) := de_X8_tells_64 (123, .ifCond .ge 7, 3) (List.mem_of_getElem? (i := 3) rfl)
theorem d_X8_tells_126 : decode prog_10_method_51_code 126 = .ok (.iconst 0, 1) := de_X8_tells_64 (126, .iconst 0, 1) (List.mem_of_getElem? (i := 4) rfl)
theorem d_X8_tells_127 : decode prog_10_method_51_code 127 = .ok (.goto 17, 3) := de_X8_tells_64 (127, .goto 17, 3) (List.mem_of_getElem? (i := 5) rfl)
theorem d_X8_tells_130 : decode prog_10_method_51_code 130 = .ok (.iload 6, 2) := de_X8_tells_64 (130, .iload 6, 2) (List.mem_of_getElem? (i := 6) rfl)
theorem d_X8_tells_132 : decode prog_10_method_51_code 132 = .ok (.bipush 99, 2) := de_X8_tells_64 (132, .bipush 99, 2) (List.mem_of_getElem? (i := 7) rfl)
theorem d_X8_tells_134 : decode prog_10_method_51_code 134 = .ok (.if_icmp .le 8, 3) := de_X8_tells_64 (134, .if_icmp .le 8, 3) (List.mem_of_getElem? (i := 8) rfl)
theorem d_X8_tells_137 : decode prog_10_method_51_code 137 = .ok (.bipush 99, 2) := de_X8_tells_64 (137, .bipush 99, 2) (List.mem_of_getElem? (i := 9) rfl)
theorem d_X8_tells_139 : decode prog_10_method_51_code 139 = .ok (.goto 5, 3) := de_X8_tells_64 (139, .goto 5, 3) (List.mem_of_getElem? (i := 10) rfl)
theorem d_X8_tells_142 : decode prog_10_method_51_code 142 = .ok (.iload 6, 2) := de_X8_tells_64 (142, .iload 6, 2) (List.mem_of_getElem? (i := 11) rfl)
theorem d_X8_tells_144 : decode prog_10_method_51_code 144 = .ok (.ireturn, 1) := de_X8_tells_64 (144, .ireturn, 1) (List.mem_of_getElem? (i := 12) rfl)
theorem d_X8_tells_145 : decode prog_10_method_51_code 145 = .ok (.iinc 5 1, 3) := de_X8_tells_64 (145, .iinc 5 1, 3) (List.mem_of_getElem? (i := 13) rfl)
theorem d_X8_tells_148 : decode prog_10_method_51_code 148 = .ok (.goto (-129), 3) := de_X8_tells_64 (148, .goto (-129), 3) (List.mem_of_getElem? (i := 14) rfl)
theorem d_X8_tells_151 : decode prog_10_method_51_code 151 = .ok (.iconst 0, 1) := de_X8_tells_64 (151, .iconst 0, 1) (List.mem_of_getElem? (i := 15) rfl)
def ce_X8_tells_80 : List (Nat × Instr × Nat) := [(152, .ireturn, 1)]
theorem de_X8_tells_80 : ∀ q ∈ ce_X8_tells_80, decode prog_10_method_51_code q.1 = .ok (q.2.1, q.2.2) := by decide +kernel
theorem d_X8_tells_152 : decode prog_10_method_51_code 152 = .ok (.ireturn, 1) := de_X8_tells_80 (152, .ireturn, 1) (List.mem_of_getElem? (i := 0) rfl)
def ce_X8_bowls_0 : List (Nat × Instr × Nat) := [(0, .iload_n 1, 1), (1, .i2l, 1), (2, .lconst 0, 1), (3, .ldc2_w 476, 3), (6, .invokestatic 168, 3), (9, .ifCond .eq 41, 3), (12, .iload_n 1, 1), (13, .invokestatic 452, 3), (16, .i2l, 1), (17, .ldc2_w 478, 3), (20, .ldc2_w 480, 3), (23, .invokestatic 168, 3), (26, .ifCond .eq 24, 3), (29, .iload_n 2, 1), (30, .invokestatic 464, 3), (33, .ifCond .eq 17, 3)]
theorem de_X8_bowls_0 : ∀ q ∈ ce_X8_bowls_0, decode prog_10_method_78_code q.1 = .ok (q.2.1, q.2.2) := by decide +kernel
theorem d_X8_bowls_0 : decode prog_10_method_78_code 0 = .ok (.iload_n 1, 1) := de_X8_bowls_0 (0, .iload_n 1, 1) (List.mem_of_getElem? (i := 0) rfl)
theorem d_X8_bowls_1 : decode prog_10_method_78_code 1 = .ok (.i2l, 1) := de_X8_bowls_0 (1, .i2l, 1) (List.mem_of_getElem? (i := 1) rfl)
theorem d_X8_bowls_2 : decode prog_10_method_78_code 2 = .ok (.lconst 0, 1) := de_X8_bowls_0 (2, .lconst 0, 1) (List.mem_of_getElem? (i := 2) rfl)
theorem d_X8_bowls_3 : decode prog_10_method_78_code 3 = .ok (.ldc2_w 476, 3) := de_X8_bowls_0 (3, .ldc2_w 476, 3) (List.mem_of_getElem? (i := 3) rfl)
theorem d_X8_bowls_6 : decode prog_10_method_78_code 6 = .ok (.invokestatic 168, 3) := de_X8_bowls_0 (6, .invokestatic 168, 3) (List.mem_of_getElem? (i := 4) rfl)
theorem d_X8_bowls_9 : decode prog_10_method_78_code 9 = .ok (.ifCond .eq 41, 3) := de_X8_bowls_0 (9, .ifCond .eq 41, 3) (List.mem_of_getElem? (i := 5) rfl)
theorem d_X8_bowls_12 : decode prog_10_method_78_code 12 = .ok (.iload_n 1, 1) := de_X8_bowls_0 (12, .iload_n 1, 1) (List.mem_of_getElem? (i := 6) rfl)
theorem d_X8_bowls_13 : decode prog_10_method_78_code 13 = .ok (.invokestatic 452, 3) := de_X8_bowls_0 (13, .invokestatic 452, 3) (List.mem_of_getElem? (i := 7) rfl)
theorem d_X8_bowls_16 : decode prog_10_method_78_code 16 = .ok (.i2l, 1) := de_X8_bowls_0 (16, .i2l, 1) (List.mem_of_getElem? (i := 8) rfl)
theorem d_X8_bowls_17 : decode prog_10_method_78_code 17 = .ok (.ldc2_w 478, 3) := de_X8_bowls_0 (17, .ldc2_w 478, 3) (List.mem_of_getElem? (i := 9) rfl)
theorem d_X8_bowls_20 : decode prog_10_method_78_code 20 = .ok (.ldc2_w 480, 3) := de_X8_bowls_0 (20, .ldc2_w 480, 3) (List.mem_of_getElem? (i := 10) rfl)
theorem d_X8_bowls_23 : decode prog_10_method_78_code 23 = .ok (.invokestatic 168, 3) := de_X8_bowls_0 (23, .invokestatic 168, 3) (List.mem_of_getElem? (i := 11) rfl)
theorem d_X8_bowls_26 : decode prog_10_method_78_code 26 = .ok (.ifCond .eq 24, 3) := de_X8_bowls_0 (26, .ifCond .eq 24, 3) (List.mem_of_getElem? (i := 12) rfl)
theorem d_X8_bowls_29 : decode prog_10_method_78_code 29 = .ok (.iload_n 2, 1) := de_X8_bowls_0 (29, .iload_n 2, 1) (List.mem_of_getElem? (i := 13) rfl)
theorem d_X8_bowls_30 : decode prog_10_method_78_code 30 = .ok (.invokestatic 464, 3) := de_X8_bowls_0 (30, .invokestatic 464, 3) (List.mem_of_getElem? (i := 14) rfl)
theorem d_X8_bowls_33 : decode prog_10_method_78_code 33 = .ok (.ifCond .eq 17, 3) := de_X8_bowls_0 (33, .ifCond .eq 17, 3) (List.mem_of_getElem? (i := 15) rfl)
def ce_X8_bowls_16 : List (Nat × Instr × Nat) := [(36, .iload_n 3, 1), (37, .i2l, 1), (38, .ldc2_w 469, 3), (41, .ldc2_w 180, 3), (44, .invokestatic 168, 3), (47, .ifCond .ne 5, 3), (50, .iconst (-1), 1), (51, .ireturn, 1), (52, .iconst 0, 1), (53, .istore 4, 2), (55, .iconst (-1), 1), (56, .istore 5, 2), (58, .iconst 0, 1), (59, .istore 6, 2), (61, .iload 6, 2), (63, .bipush 9, 2)]
theorem de_X8_bowls_16 : ∀ q ∈ ce_X8_bowls_16, decode prog_10_method_78_code q.1 = .ok (q.2.1, q.2.2) := by decide +kernel
theorem d_X8_bowls_36 : decode prog_10_method_78_code 36 = .ok (.iload_n 3, 1) := de_X8_bowls_16 (36, .iload_n 3, 1) (List.mem_of_getElem? (i := 0) rfl)
theorem d_X8_bowls_37 : decode prog_10_method_78_code 37 = .ok (.i2l, 1) := de_X8_bowls_16 (37, .i2l, 1) (List.mem_of_getElem? (i := 1) rfl)
theorem d_X8_bowls_38 : decode prog_10_method_78_code 38 = .ok (.ldc2_w 469, 3) := de_X8_bowls_16 (38, .ldc2_w 469, 3) (List.mem_of_getElem? (i := 2) rfl)
theorem d_X8_bowls_41 : decode prog_10_method_78_code 41 = .ok (.ldc2_w 180, 3) := de_X8_bowls_16 (41, .ldc2_w 180, 3) (List.mem_of_getElem? (i := 3) rfl)
theorem d_X8_bowls_44 : decode prog_10_method_78_code 44 = .ok (.invokestatic 168, 3) := de_X8_bowls_16 (44, .invokestatic 168, 3) (List.mem_of_getElem? (i := 4) rfl)
theorem d_X8_bowls_47 : decode prog_10_method_78_code 47 = .ok (.ifCond .ne 5, 3) := de_X8_bowls_16 (47, .ifCond .ne 5, 3) (List.mem_of_getElem? (i := 5) rfl)
theorem d_X8_bowls_50 : decode prog_10_method_78_code 50 = .ok (.iconst (-1), 1) := de_X8_bowls_16 (50, .iconst (-1), 1) (List.mem_of_getElem? (i := 6) rfl)
theorem d_X8_bowls_51 : decode prog_10_method_78_code 51 = .ok (.ireturn, 1) := de_X8_bowls_16 (51, .ireturn, 1) (List.mem_of_getElem? (i := 7) rfl)
theorem d_X8_bowls_52 : decode prog_10_method_78_code 52 = .ok (.iconst 0, 1) := de_X8_bowls_16 (52, .iconst 0, 1) (List.mem_of_getElem? (i := 8) rfl)
theorem d_X8_bowls_53 : decode prog_10_method_78_code 53 = .ok (.istore 4, 2) := de_X8_bowls_16 (53, .istore 4, 2) (List.mem_of_getElem? (i := 9) rfl)
theorem d_X8_bowls_55 : decode prog_10_method_78_code 55 = .ok (.iconst (-1), 1) := de_X8_bowls_16 (55, .iconst (-1), 1) (List.mem_of_getElem? (i := 10) rfl)
theorem d_X8_bowls_56 : decode prog_10_method_78_code 56 = .ok (.istore 5, 2) := de_X8_bowls_16 (56, .istore 5, 2) (List.mem_of_getElem? (i := 11) rfl)
theorem d_X8_bowls_58 : decode prog_10_method_78_code 58 = .ok (.iconst 0, 1) := de_X8_bowls_16 (58, .iconst 0, 1) (List.mem_of_getElem? (i := 12) rfl)
theorem d_X8_bowls_59 : decode prog_10_method_78_code 59 = .ok (.istore 6, 2) := de_X8_bowls_16 (59, .istore 6, 2) (List.mem_of_getElem? (i := 13) rfl)
theorem d_X8_bowls_61 : decode prog_10_method_78_code 61 = .ok (.iload 6, 2) := de_X8_bowls_16 (61, .iload 6, 2) (List.mem_of_getElem? (i := 14) rfl)
theorem d_X8_bowls_63 : decode prog_10_method_78_code 63 = .ok (.bipush 9, 2) := de_X8_bowls_16 (63, .bipush 9, 2) (List.mem_of_getElem? (i := 15) rfl)
def ce_X8_bowls_32 : List (Nat × Instr × Nat) := [(65, .if_icmp .ge 83, 3), (68, .iload_n 1, 1), (69, .iload 6, 2), (71, .invokestatic 448, 3), (74, .ifCond .ne 6, 3), (77, .goto 65, 3), (80, .aload_n 0, 1), (81, .iload 6, 2), (83, .invokevirtual 374, 3), (86, .ifCond .ne 6, 3), (89, .bipush (-2), 2), (91, .ireturn, 1), (92, .iload 6, 2), (94, .iload_n 3, 1), (95, .if_icmp .ne 8, 3), (98, .iload 4, 2)]
theorem de_X8_bowls_32 : ∀ q ∈ ce_X8_bowls_32, decode prog_10_method_78_code q.1 = .ok (q.2.1, q.2.2) := by decide +kernel
theorem d_X8_bowls_65 : decode prog_10_method_78_code 65 = .ok (.if_icmp .ge 83, 3) := de_X8_bowls_32 (65, .if_icmp .ge 83, 3) (List.mem_of_getElem? (i := 0) rfl)
theorem d_X8_bowls_68 : decode prog_10_method_78_code 68 = .ok (.iload_n 1, 1) := de_X8_bowls_32 (68, .iload_n 1, 1) (List.mem_of_getElem? (i := 1) rfl)
theorem d_X8_bowls_69 : decode prog_10_method_78_code 69 = .ok (.iload 6, 2) := de_X8_bowls_32 (69, .iload 6, 2) (List.mem_of_getElem? (i := 2) rfl)
theorem d_X8_bowls_71 : decode prog_10_method_78_code 71 = .ok (.invokestatic 448, 3) := de_X8_bowls_32 (71, .invokestatic 448, 3) (List.mem_of_getElem? (i := 3) rfl)
theorem d_X8_bowls_74 : decode prog_10_method_78_code 74 = .ok (.ifCond .ne 6, 3) := de_X8_bowls_32 (74, .ifCond .ne 6, 3) (List.mem_of_getElem? (i := 4) rfl)
theorem d_X8_bowls_77 : decode prog_10_method_78_code 77 = .ok (.goto 65, 3) := de_X8_bowls_32 (77, .goto 65, 3) (List.mem_of_getElem? (i := 5) rfl)
theorem d_X8_bowls_80 : decode prog_10_method_78_code 80 = .ok (.aload_n 0, 1) := de_X8_bowls_32 (80, .aload_n 0, 1) (List.mem_of_getElem? (i := 6) rfl)
theorem d_X8_bowls_81 : decode prog_10_method_78_code 81 = .ok (.iload 6, 2) := de_X8_bowls_32 (81, .iload 6, 2) (List.mem_of_getElem? (i := 7) rfl)
theorem d_X8_bowls_83 : decode prog_10_method_78_code 83 = .ok (.invokevirtual 374, 3) := de_X8_bowls_32 (83, .invokevirtual 374, 3) (List.mem_of_getElem? (i := 8) rfl)
theorem d_X8_bowls_86 : decode prog_10_method_78_code 86 = .ok (.ifCond .ne 6, 3) := de_X8_bowls_32 (86, .ifCond .ne 6, 3) (List.mem_of_getElem? (i := 9) rfl)
theorem d_X8_bowls_89 : decode prog_10_method_78_code 89 = .ok (.bipush (-2), 2) := de_X8_bowls_32 (89, .bipush (-2), 2) (List.mem_of_getElem? (i := 10) rfl)
theorem d_X8_bowls_91 : decode prog_10_method_78_code 91 = .ok (.ireturn, 1) := de_X8_bowls_32 (91, .ireturn, 1) (List.mem_of_getElem? (i := 11) rfl)
theorem d_X8_bowls_92 : decode prog_10_method_78_code 92 = .ok (.iload 6, 2) := de_X8_bowls_32 (92, .iload 6, 2) (List.mem_of_getElem? (i := 12) rfl)
theorem d_X8_bowls_94 : decode prog_10_method_78_code 94 = .ok (.iload_n 3, 1) := de_X8_bowls_32 (94, .iload_n 3, 1) (List.mem_of_getElem? (i := 13) rfl)
theorem d_X8_bowls_95 : decode prog_10_method_78_code 95 = .ok (.if_icmp .ne 8, 3) := de_X8_bowls_32 (95, .if_icmp .ne 8, 3) (List.mem_of_getElem? (i := 14) rfl)
theorem d_X8_bowls_98 : decode prog_10_method_78_code 98 = .ok (.iload 4, 2) := de_X8_bowls_32 (98, .iload 4, 2) (List.mem_of_getElem? (i := 15) rfl)
def ce_X8_bowls_48 : List (Nat × Instr × Nat) := [(100, .goto 5, 3), (103, .iload 5, 2), (105, .istore 5, 2), (107, .aload_n 0, 1), (108, .getfield 151, 3), (111, .iload 4, 2), (113, .iload 6, 2), (115, .iastore, 1), (116, .aload_n 0, 1), (117, .getfield 154, 3), (120, .iload 4, 2), (122, .iload 4, 2), (124, .iastore, 1), (125, .aload_n 0, 1), (126, .getfield 160, 3), (129, .iload 4, 2)]
theorem de_X8_bowls_48 : ∀ q ∈ ce_X8_bowls_48, decode prog_10_method_78_code q.1 = .ok (q.2.1, q.2.2) := by decide +kernel
theorem d_X8_bowls_100 : decode prog_10_method_78_code 100 = .ok (.goto 5, 3) := de_X8_bowls_48 (100, .goto 5, 3) (List.mem_of_getElem? (i := 0) rfl)
theorem d_X8_bowls_103 : decode prog_10_method_78_code 103 = .ok (.iload 5, 2) := de_X8_bowls_48 (103, .iload 5, 2) (List.mem_of_getElem? (i := 1) rfl)
theorem d_X8_bowls_105 : decode prog_10_method_78_code 105 = .ok (.istore 5, 2) := de_X8_bowls_48 (105, .istore 5, 2) (List.mem_of_getElem? (i := 2) rfl)
theorem d_X8_bowls_107 : decode prog_10_method_78_code 107 = .ok (.aload_n 0, 1) := de_X8_bowls_48 (107, .aload_n 0, 1) (List.mem_of_getElem? (i := 3) rfl)
theorem d_X8_bowls_108 : decode prog_10_method_78_code 108 = .ok (.getfield 151, 3) := de_X8_bowls_48 (108, .getfield 151, 3) (List.mem_of_getElem? (i := 4) rfl)
theorem d_X8_bowls_111 : decode prog_10_method_78_code 111 = .ok (.iload 4, 2) := de_X8_bowls_48 (111, .iload 4, 2) (List.mem_of_getElem? (i := 5) rfl)
theorem d_X8_bowls_113 : decode prog_10_method_78_code 113 = .ok (.iload 6, 2) := de_X8_bowls_48 (113, .iload 6, 2) (List.mem_of_getElem? (i := 6) rfl)
theorem d_X8_bowls_115 : decode prog_10_method_78_code 115 = .ok (.iastore, 1) := de_X8_bowls_48 (115, .iastore, 1) (List.mem_of_getElem? (i := 7) rfl)
theorem d_X8_bowls_116 : decode prog_10_method_78_code 116 = .ok (.aload_n 0, 1) := de_X8_bowls_48 (116, .aload_n 0, 1) (List.mem_of_getElem? (i := 8) rfl)
theorem d_X8_bowls_117 : decode prog_10_method_78_code 117 = .ok (.getfield 154, 3) := de_X8_bowls_48 (117, .getfield 154, 3) (List.mem_of_getElem? (i := 9) rfl)
theorem d_X8_bowls_120 : decode prog_10_method_78_code 120 = .ok (.iload 4, 2) := de_X8_bowls_48 (120, .iload 4, 2) (List.mem_of_getElem? (i := 10) rfl)
theorem d_X8_bowls_122 : decode prog_10_method_78_code 122 = .ok (.iload 4, 2) := de_X8_bowls_48 (122, .iload 4, 2) (List.mem_of_getElem? (i := 11) rfl)
theorem d_X8_bowls_124 : decode prog_10_method_78_code 124 = .ok (.iastore, 1) := de_X8_bowls_48 (124, .iastore, 1) (List.mem_of_getElem? (i := 12) rfl)
theorem d_X8_bowls_125 : decode prog_10_method_78_code 125 = .ok (.aload_n 0, 1) := de_X8_bowls_48 (125, .aload_n 0, 1) (List.mem_of_getElem? (i := 13) rfl)
theorem d_X8_bowls_126 : decode prog_10_method_78_code 126 = .ok (.getfield 160, 3) := de_X8_bowls_48 (126, .getfield 160, 3) (List.mem_of_getElem? (i := 14) rfl)
theorem d_X8_bowls_129 : decode prog_10_method_78_code 129 = .ok (.iload 4, 2) := de_X8_bowls_48 (129, .iload 4, 2) (List.mem_of_getElem? (i := 15) rfl)
def ce_X8_bowls_64 : List (Nat × Instr × Nat) := [(131, .aload_n 0, 1), (132, .getfield 43, 3), (135, .iload 6, 2), (137, .iaload, 1), (138, .iastore, 1), (139, .iinc 4 1, 3), (142, .iinc 6 1, 3), (145, .goto (-84), 3), (148, .iload_n 3, 1), (149, .ifCond .lt 17, 3), (152, .iload_n 3, 1), (153, .bipush 9, 2), (155, .if_icmp .ge 11, 3), (158, .iload 5, 2), (160, .iconst (-1), 1), (161, .if_icmp .ne 5, 3)]
theorem de_X8_bowls_64 : ∀ q ∈ ce_X8_bowls_64, decode prog_10_method_78_code q.1 = .ok (q.2.1, q.2.2) := by decide +kernel
theorem d_X8_bowls_131 : decode prog_10_method_78_code 131 = .ok (.aload_n 0, 1) := de_X8_bowls_64 (131, .aload_n 0, 1) (List.mem_of_getElem? (i := 0) rfl)
theorem d_X8_bowls_132 : decode prog_10_method_78_code 132 = .ok (.getfield 43, 3) := de_X8_bowls_64 (132, .getfield 43, 3) (List.mem_of_getElem? (i := 1) rfl)
theorem d_X8_bowls_135 : decode prog_10_method_78_code 135 = .ok (.iload 6, 2) := de_X8_bowls_64 (135, .iload 6, 2) (List.mem_of_getElem? (i := 2) rfl)
theorem d_X8_bowls_137 : decode prog_10_method_78_code 137 = .ok (.iaload, 1) := de_X8_bowls_64 (137, .iaload, 1) (List.mem_of_getElem? (i := 3) rfl)
theorem d_X8_bowls_138 : decode prog_10_method_78_code 138 = .ok (.iastore, 1) := de_X8_bowls_64 (138, .iastore, 1) (List.mem_of_getElem? (i := 4) rfl)
theorem d_X8_bowls_139 : decode prog_10_method_78_code 139 = .ok (.iinc 4 1, 3) := de_X8_bowls_64 (139, .iinc 4 1, 3) (List.mem_of_getElem? (i := 5) rfl)
theorem d_X8_bowls_142 : decode prog_10_method_78_code 142 = .ok (.iinc 6 1, 3) := de_X8_bowls_64 (142, .iinc 6 1, 3) (List.mem_of_getElem? (i := 6) rfl)
theorem d_X8_bowls_145 : decode prog_10_method_78_code 145 = .ok (.goto (-84), 3) := de_X8_bowls_64 (145, .goto (-84), 3) (List.mem_of_getElem? (i := 7) rfl)
theorem d_X8_bowls_148 : decode prog_10_method_78_code 148 = .ok (.iload_n 3, 1) := de_X8_bowls_64 (148, .iload_n 3, 1) (List.mem_of_getElem? (i := 8) rfl)
theorem d_X8_bowls_149 : decode prog_10_method_78_code 149 = .ok (.ifCond .lt 17, 3) := de_X8_bowls_64 (149, .ifCond .lt 17, 3) (List.mem_of_getElem? (i := 9) rfl)
theorem d_X8_bowls_152 : decode prog_10_method_78_code 152 = .ok (.iload_n 3, 1) := de_X8_bowls_64 (152, .iload_n 3, 1) (List.mem_of_getElem? (i := 10) rfl)
theorem d_X8_bowls_153 : decode prog_10_method_78_code 153 = .ok (.bipush 9, 2) := de_X8_bowls_64 (153, .bipush 9, 2) (List.mem_of_getElem? (i := 11) rfl)
theorem d_X8_bowls_155 : decode prog_10_method_78_code 155 = .ok (.if_icmp .ge 11, 3) := de_X8_bowls_64 (155, .if_icmp .ge 11, 3) (List.mem_of_getElem? (i := 12) rfl)
theorem d_X8_bowls_158 : decode prog_10_method_78_code 158 = .ok (.iload 5, 2) := de_X8_bowls_64 (158, .iload 5, 2) (List.mem_of_getElem? (i := 13) rfl)
theorem d_X8_bowls_160 : decode prog_10_method_78_code 160 = .ok (.iconst (-1), 1) := de_X8_bowls_64 (160, .iconst (-1), 1) (List.mem_of_getElem? (i := 14) rfl)
theorem d_X8_bowls_161 : decode prog_10_method_78_code 161 = .ok (.if_icmp .ne 5, 3) := de_X8_bowls_64 (161, .if_icmp .ne 5, 3) (List.mem_of_getElem? (i := 15) rfl)
def ce_X8_bowls_80 : List (Nat × Instr × Nat) := [(164, .iconst (-1), 1), (165, .ireturn, 1), (166, .ldc_w 482, 3), (169, .istore 6, 2), (171, .iconst 1, 1), (172, .istore 7, 2), (174, .iload 7, 2), (176, .ifCond .eq 114, 3), (179, .aload_n 0, 1), (180, .iconst 0, 1), (181, .invokevirtual 439, 3), (184, .iconst 0, 1), (185, .istore 8, 2), (187, .iload 8, 2), (189, .iload 4, 2), (191, .if_icmp .ge 33, 3)]
theorem de_X8_bowls_80 : ∀ q ∈ ce_X8_bowls_80, decode prog_10_method_78_code q.1 = .ok (q.2.1, q.2.2) := by decide +kernel
theorem d_X8_bowls_164 : decode prog_10_method_78_code 164 = .ok (.iconst (-1), 1) := de_X8_bowls_80 (164, .iconst (-1), 1) (List.mem_of_getElem? (i := 0) rfl)
theorem d_X8_bowls_165 : decode prog_10_method_78_code 165 = .ok (.ireturn, 1) := de_X8_bowls_80 (165, .ireturn, 1) (List.mem_of_getElem? (i := 1) rfl)
theorem d_X8_bowls_166 : decode prog_10_method_78_code 166 = .ok (.ldc_w 482, 3) := de_X8_bowls_80 (166, .ldc_w 482, 3) (List.mem_of_getElem? (i := 2) rfl)
theorem d_X8_bowls_169 : decode prog_10_method_78_code 169 = .ok (.istore 6, 2) := de_X8_bowls_80 (169, .istore 6, 2) (List.mem_of_getElem? (i := 3) rfl)
theorem d_X8_bowls_171 : decode prog_10_method_78_code 171 = .ok (.iconst 1, 1) := de_X8_bowls_80 (171, .iconst 1, 1) (List.mem_of_getElem? (i := 4) rfl)
theorem d_X8_bowls_172 : decode prog_10_method_78_code 172 = .ok (.istore 7, 2) := de_X8_bowls_80 (172, .istore 7, 2) (List.mem_of_getElem? (i := 5) rfl)
theorem d_X8_bowls_174 : decode prog_10_method_78_code 174 = .ok (.iload 7, 2) := de_X8_bowls_80 (174, .iload 7, 2) (List.mem_of_getElem? (i := 6) rfl)
theorem d_X8_bowls_176 : decode prog_10_method_78_code 176 = .ok (.ifCond .eq 114, 3) := de_X8_bowls_80 (176, .ifCond .eq 114, 3) (List.mem_of_getElem? (i := 7) rfl)
theorem d_X8_bowls_179 : decode prog_10_method_78_code 179 = .ok (.aload_n 0, 1) := de_X8_bowls_80 (179, .aload_n 0, 1) (List.mem_of_getElem? (i := 8) rfl)
theorem d_X8_bowls_180 : decode prog_10_method_78_code 180 = .ok (.iconst 0, 1) := de_X8_bowls_80 (180, .iconst 0, 1) (List.mem_of_getElem? (i := 9) rfl)
theorem d_X8_bowls_181 : decode prog_10_method_78_code 181 = .ok (.invokevirtual 439, 3) := de_X8_bowls_80 (181, .invokevirtual 439, 3) (List.mem_of_getElem? (i := 10) rfl)
theorem d_X8_bowls_184 : decode prog_10_method_78_code 184 = .ok (.iconst 0, 1) := de_X8_bowls_80 (184, .iconst 0, 1) (List.mem_of_getElem? (i := 11) rfl)
theorem d_X8_bowls_185 : decode prog_10_method_78_code 185 = .ok (.istore 8, 2) := de_X8_bowls_80 (185, .istore 8, 2) (List.mem_of_getElem? (i := 12) rfl)
theorem d_X8_bowls_187 : decode prog_10_method_78_code 187 = .ok (.iload 8, 2) := de_X8_bowls_80 (187, .iload 8, 2) (List.mem_of_getElem? (i := 13) rfl)
theorem d_X8_bowls_189 : decode prog_10_method_78_code 189 = .ok (.iload 4, 2) := de_X8_bowls_80 (189, .iload 4, 2) (List.mem_of_getElem? (i := 14) rfl)
theorem d_X8_bowls_191 : decode prog_10_method_78_code 191 = .ok (.if_icmp .ge 33, 3) := de_X8_bowls_80 (191, .if_icmp .ge 33, 3) (List.mem_of_getElem? (i := 15) rfl)
def ce_X8_bowls_96 : List (Nat × Instr × Nat) := [(194, .aload_n 0, 1), (195, .getfield 43, 3), (198, .aload_n 0, 1), (199, .getfield 151, 3), (202, .iload 8, 2), (204, .iaload, 1), (205, .aload_n 0, 1), (206, .getfield 160, 3), (209, .aload_n 0, 1), (210, .getfield 154, 3), (213, .iload 8, 2), (215, .iaload, 1), (216, .iaload, 1), (217, .iastore, 1), (218, .iinc 8 1, 3), (221, .goto (-34), 3)]
theorem de_X8_bowls_96 : ∀ q ∈ ce_X8_bowls_96, decode prog_10_method_78_code q.1 = .ok (q.2.1, q.2.2) := by decide +kernel
theorem d_X8_bowls_194 : decode prog_10_method_78_code 194 = .ok (.aload_n 0, 1) := de_X8_bowls_96 (194, .aload_n 0, 1) (List.mem_of_getElem? (i := 0) rfl)
theorem d_X8_bowls_195 : decode prog_10_method_78_code 195 = .ok (.getfield 43, 3) := de_X8_bowls_96 (195, .getfield 43, 3) (List.mem_of_getElem? (i := 1) rfl)
theorem d_X8_bowls_198 : decode prog_10_method_78_code 198 = .ok (.aload_n 0, 1) := de_X8_bowls_96 (198, .aload_n 0, 1) (List.mem_of_getElem? (i := 2) rfl)
theorem d_X8_bowls_199 : decode prog_10_method_78_code 199 = .ok (.getfield 151, 3) := de_X8_bowls_96 (199, .getfield 151, 3) (List.mem_of_getElem? (i := 3) rfl)
theorem d_X8_bowls_202 : decode prog_10_method_78_code 202 = .ok (.iload 8, 2) := de_X8_bowls_96 (202, .iload 8, 2) (List.mem_of_getElem? (i := 4) rfl)
theorem d_X8_bowls_204 : decode prog_10_method_78_code 204 = .ok (.iaload, 1) := de_X8_bowls_96 (204, .iaload, 1) (List.mem_of_getElem? (i := 5) rfl)
theorem d_X8_bowls_205 : decode prog_10_method_78_code 205 = .ok (.aload_n 0, 1) := de_X8_bowls_96 (205, .aload_n 0, 1) (List.mem_of_getElem? (i := 6) rfl)
theorem d_X8_bowls_206 : decode prog_10_method_78_code 206 = .ok (.getfield 160, 3) := de_X8_bowls_96 (206, .getfield 160, 3) (List.mem_of_getElem? (i := 7) rfl)
theorem d_X8_bowls_209 : decode prog_10_method_78_code 209 = .ok (.aload_n 0, 1) := de_X8_bowls_96 (209, .aload_n 0, 1) (List.mem_of_getElem? (i := 8) rfl)
theorem d_X8_bowls_210 : decode prog_10_method_78_code 210 = .ok (.getfield 154, 3) := de_X8_bowls_96 (210, .getfield 154, 3) (List.mem_of_getElem? (i := 9) rfl)
theorem d_X8_bowls_213 : decode prog_10_method_78_code 213 = .ok (.iload 8, 2) := de_X8_bowls_96 (213, .iload 8, 2) (List.mem_of_getElem? (i := 10) rfl)
theorem d_X8_bowls_215 : decode prog_10_method_78_code 215 = .ok (.iaload, 1) := de_X8_bowls_96 (215, .iaload, 1) (List.mem_of_getElem? (i := 11) rfl)
theorem d_X8_bowls_216 : decode prog_10_method_78_code 216 = .ok (.iaload, 1) := de_X8_bowls_96 (216, .iaload, 1) (List.mem_of_getElem? (i := 12) rfl)
theorem d_X8_bowls_217 : decode prog_10_method_78_code 217 = .ok (.iastore, 1) := de_X8_bowls_96 (217, .iastore, 1) (List.mem_of_getElem? (i := 13) rfl)
theorem d_X8_bowls_218 : decode prog_10_method_78_code 218 = .ok (.iinc 8 1, 3) := de_X8_bowls_96 (218, .iinc 8 1, 3) (List.mem_of_getElem? (i := 14) rfl)
theorem d_X8_bowls_221 : decode prog_10_method_78_code 221 = .ok (.goto (-34), 3) := de_X8_bowls_96 (221, .goto (-34), 3) (List.mem_of_getElem? (i := 15) rfl)
def ce_X8_bowls_112 : List (Nat × Instr × Nat) := [(224, .aload_n 0, 1), (225, .iload_n 2, 1), (226, .invokevirtual 418, 3), (229, .aload_n 0, 1), (230, .iconst 0, 1), (231, .invokevirtual 445, 3), (234, .aload_n 0, 1), (235, .getfield 380, 3), (238, .iload 6, 2), (240, .if_icmp .ge 39, 3), (243, .aload_n 0, 1), (244, .getfield 380, 3), (247, .istore 6, 2), (249, .iconst 0, 1), (250, .istore 8, 2), (252, .iload 8, 2)]
theorem de_X8_bowls_112 : ∀ q ∈ ce_X8_bowls_112, decode prog_10_method_78_code q.1 = .ok (q.2.1, q.2.2) := by decide +kernel
theorem d_X8_bowls_224 : decode prog_10_method_78_code 224 = .ok (.aload_n 0, 1) := de_X8_bowls_112 (224, .aload_n 0, 1) (List.mem_of_getElem? (i := 0) rfl)
theorem d_X8_bowls_225 : decode prog_10_method_78_code 225 = .ok (.iload_n 2, 1) := de_X8_bowls_112 (225, .iload_n 2, 1) (List.mem_of_getElem? (i := 1) rfl)
theorem d_X8_bowls_226 : decode prog_10_method_78_code 226 = .ok (.invokevirtual 418, 3) := de_X8_bowls_112 (226, .invokevirtual 418, 3) (List.mem_of_getElem? (i := 2) rfl)
theorem d_X8_bowls_229 : decode prog_10_method_78_code 229 = .ok (.aload_n 0, 1) := de_X8_bowls_112 (229, .aload_n 0, 1) (List.mem_of_getElem? (i := 3) rfl)
theorem d_X8_bowls_230 : decode prog_10_method_78_code 230 = .ok (.iconst 0, 1) := de_X8_bowls_112 (230, .iconst 0, 1) (List.mem_of_getElem? (i := 4) rfl)
theorem d_X8_bowls_231 : decode prog_10_method_78_code 231 = .ok (.invokevirtual 445, 3) := de_X8_bowls_112 (231, .invokevirtual 445, 3) (List.mem_of_getElem? (i := 5) rfl)
theorem d_X8_bowls_234 : decode prog_10_method_78_code 234 = .ok (.aload_n 0, 1) := de_X8_bowls_112 (234, .aload_n 0, 1) (List.mem_of_getElem? (i := 6) rfl)
theorem d_X8_bowls_235 : decode prog_10_method_78_code 235 = .ok (.getfield 380, 3) := de_X8_bowls_112 (235, .getfield 380, 3) (List.mem_of_getElem? (i := 7) rfl)
theorem d_X8_bowls_238 : decode prog_10_method_78_code 238 = .ok (.iload 6, 2) := de_X8_bowls_112 (238, .iload 6, 2) (List.mem_of_getElem? (i := 8) rfl)
theorem d_X8_bowls_240 : decode prog_10_method_78_code 240 = .ok (.if_icmp .ge 39, 3) := de_X8_bowls_112 (240, .if_icmp .ge 39, 3) (List.mem_of_getElem? (i := 9) rfl)
theorem d_X8_bowls_243 : decode prog_10_method_78_code 243 = .ok (.aload_n 0, 1) := de_X8_bowls_112 (243, .aload_n 0, 1) (List.mem_of_getElem? (i := 10) rfl)
theorem d_X8_bowls_244 : decode prog_10_method_78_code 244 = .ok (.getfield 380, 3) := de_X8_bowls_112 (244, .getfield 380, 3) (List.mem_of_getElem? (i := 11) rfl)
theorem d_X8_bowls_247 : decode prog_10_method_78_code 247 = .ok (.istore 6, 2) := de_X8_bowls_112 (247, .istore 6, 2) (List.mem_of_getElem? (i := 12) rfl)
theorem d_X8_bowls_249 : decode prog_10_method_78_code 249 = .ok (.iconst 0, 1) := de_X8_bowls_112 (249, .iconst 0, 1) (List.mem_of_getElem? (i := 13) rfl)
theorem d_X8_bowls_250 : decode prog_10_method_78_code 250 = .ok (.istore 8, 2) := de_X8_bowls_112 (250, .istore 8, 2) (List.mem_of_getElem? (i := 14) rfl)
theorem d_X8_bowls_252 : decode prog_10_method_78_code 252 = .ok (.iload 8, 2) := de_X8_bowls_112 (252, .iload 8, 2) (List.mem_of_getElem? (i := 15) rfl)
def ce_X8_bowls_128 : List (Nat × Instr × Nat) := [(254, .iload 4, 2), (256, .if_icmp .ge 23, 3), (259, .aload_n 0, 1), (260, .getfield 157, 3), (263, .iload 8, 2), (265, .aload_n 0, 1), (266, .getfield 154, 3), (269, .iload 8, 2), (271, .iaload, 1), (272, .iastore, 1), (273, .iinc 8 1, 3), (276, .goto (-24), 3), (279, .aload_n 0, 1), (280, .iload 4, 2), (282, .invokevirtual 483, 3), (285, .istore 7, 2)]
theorem de_X8_bowls_128 : ∀ q ∈ ce_X8_bowls_128, decode prog_10_method_78_code q.1 = .ok (q.2.1, q.2.2) := by decide +kernel
theorem d_X8_bowls_254 : decode prog_10_method_78_code 254 = .ok (.iload 4, 2) := de_X8_bowls_128 (254, .iload 4, 2) (List.mem_of_getElem? (i := 0) rfl)
theorem d_X8_bowls_256 : decode prog_10_method_78_code 256 = .ok (.if_icmp .ge 23, 3) := de_X8_bowls_128 (256, .if_icmp .ge 23, 3) (List.mem_of_getElem? (i := 1) rfl)
theorem d_X8_bowls_259 : decode prog_10_method_78_code 259 = .ok (.aload_n 0, 1) := de_X8_bowls_128 (259, .aload_n 0, 1) (List.mem_of_getElem? (i := 2) rfl)
theorem d_X8_bowls_260 : decode prog_10_method_78_code 260 = .ok (.getfield 157, 3) := de_X8_bowls_128 (260, .getfield 157, 3) (List.mem_of_getElem? (i := 3) rfl)
theorem d_X8_bowls_263 : decode prog_10_method_78_code 263 = .ok (.iload 8, 2) := de_X8_bowls_128 (263, .iload 8, 2) (List.mem_of_getElem? (i := 4) rfl)
theorem d_X8_bowls_265 : decode prog_10_method_78_code 265 = .ok (.aload_n 0, 1) := de_X8_bowls_128 (265, .aload_n 0, 1) (List.mem_of_getElem? (i := 5) rfl)
theorem d_X8_bowls_266 : decode prog_10_method_78_code 266 = .ok (.getfield 154, 3) := de_X8_bowls_128 (266, .getfield 154, 3) (List.mem_of_getElem? (i := 6) rfl)
theorem d_X8_bowls_269 : decode prog_10_method_78_code 269 = .ok (.iload 8, 2) := de_X8_bowls_128 (269, .iload 8, 2) (List.mem_of_getElem? (i := 7) rfl)
theorem d_X8_bowls_271 : decode prog_10_method_78_code 271 = .ok (.iaload, 1) := de_X8_bowls_128 (271, .iaload, 1) (List.mem_of_getElem? (i := 8) rfl)
theorem d_X8_bowls_272 : decode prog_10_method_78_code 272 = .ok (.iastore, 1) := de_X8_bowls_128 (272, .iastore, 1) (List.mem_of_getElem? (i := 9) rfl)
theorem d_X8_bowls_273 : decode prog_10_method_78_code 273 = .ok (.iinc 8 1, 3) := de_X8_bowls_128 (273, .iinc 8 1, 3) (List.mem_of_getElem? (i := 10) rfl)
theorem d_X8_bowls_276 : decode prog_10_method_78_code 276 = .ok (.goto (-24), 3) := de_X8_bowls_128 (276, .goto (-24), 3) (List.mem_of_getElem? (i := 11) rfl)
theorem d_X8_bowls_279 : decode prog_10_method_78_code 279 = .ok (.aload_n 0, 1) := de_X8_bowls_128 (279, .aload_n 0, 1) (List.mem_of_getElem? (i := 12) rfl)
theorem d_X8_bowls_280 : decode prog_10_method_78_code 280 = .ok (.iload 4, 2) := de_X8_bowls_128 (280, .iload 4, 2) (List.mem_of_getElem? (i := 13) rfl)
theorem d_X8_bowls_282 : decode prog_10_method_78_code 282 = .ok (.invokevirtual 483, 3) := de_X8_bowls_128 (282, .invokevirtual 483, 3) (List.mem_of_getElem? (i := 14) rfl)
theorem d_X8_bowls_285 : decode prog_10_method_78_code 285 = .ok (.istore 7, 2) := de_X8_bowls_128 (285, .istore 7, 2) (List.mem_of_getElem? (i := 15) rfl)
def ce_X8_bowls_144 : List (Nat × Instr × Nat) := [(287, .goto (-113), 3), (290, .iconst 0, 1), (291, .istore 8, 2), (293, .iload 8, 2), (295, .iload 4, 2), (297, .if_icmp .ge 39, 3), (300, .iload_n 3, 1), (301, .bipush 9, 2), (303, .if_icmp .ne 33, 3), (306, .aload_n 0, 1), (307, .getfield 43, 3), (310, .aload_n 0, 1), (311, .getfield 151, 3), (314, .iload 8, 2), (316, .iaload, 1), (317, .aload_n 0, 1)]
theorem de_X8_bowls_144 : ∀ q ∈ ce_X8_bowls_144, decode prog_10_method_78_code q.1 = .ok (q.2.1, q.2.2) := by decide +kernel
theorem d_X8_bowls_287 : decode prog_10_method_78_code 287 = .ok (.goto (-113), 3) := de_X8_bowls_144 (287, .goto (-113), 3) (List.mem_of_getElem? (i := 0) rfl)
theorem d_X8_bowls_290 : decode prog_10_method_78_code 290 = .ok (.iconst 0, 1) := de_X8_bowls_144 (290, .iconst 0, 1) (List.mem_of_getElem? (i := 1) rfl)
theorem d_X8_bowls_291 : decode prog_10_method_78_code 291 = .ok (.istore 8, 2) := de_X8_bowls_144 (291, .istore 8, 2) (List.mem_of_getElem? (i := 2) rfl)
theorem d_X8_bowls_293 : decode prog_10_method_78_code 293 = .ok (.iload 8, 2) := de_X8_bowls_144 (293, .iload 8, 2) (List.mem_of_getElem? (i := 3) rfl)
theorem d_X8_bowls_295 : decode prog_10_method_78_code 295 = .ok (.iload 4, 2) := de_X8_bowls_144 (295, .iload 4, 2) (List.mem_of_getElem? (i := 4) rfl)
theorem d_X8_bowls_297 : decode prog_10_method_78_code 297 = .ok (.if_icmp .ge 39, 3) := de_X8_bowls_144 (297, .if_icmp .ge 39, 3) (List.mem_of_getElem? (i := 5) rfl)
theorem d_X8_bowls_300 : decode prog_10_method_78_code 300 = .ok (.iload_n 3, 1) := de_X8_bowls_144 (300, .iload_n 3, 1) (List.mem_of_getElem? (i := 6) rfl)
theorem d_X8_bowls_301 : decode prog_10_method_78_code 301 = .ok (.bipush 9, 2) := de_X8_bowls_144 (301, .bipush 9, 2) (List.mem_of_getElem? (i := 7) rfl)
theorem d_X8_bowls_303 : decode prog_10_method_78_code 303 = .ok (.if_icmp .ne 33, 3) := de_X8_bowls_144 (303, .if_icmp .ne 33, 3) (List.mem_of_getElem? (i := 8) rfl)
theorem d_X8_bowls_306 : decode prog_10_method_78_code 306 = .ok (.aload_n 0, 1) := de_X8_bowls_144 (306, .aload_n 0, 1) (List.mem_of_getElem? (i := 9) rfl)
theorem d_X8_bowls_307 : decode prog_10_method_78_code 307 = .ok (.getfield 43, 3) := de_X8_bowls_144 (307, .getfield 43, 3) (List.mem_of_getElem? (i := 10) rfl)
theorem d_X8_bowls_310 : decode prog_10_method_78_code 310 = .ok (.aload_n 0, 1) := de_X8_bowls_144 (310, .aload_n 0, 1) (List.mem_of_getElem? (i := 11) rfl)
theorem d_X8_bowls_311 : decode prog_10_method_78_code 311 = .ok (.getfield 151, 3) := de_X8_bowls_144 (311, .getfield 151, 3) (List.mem_of_getElem? (i := 12) rfl)
theorem d_X8_bowls_314 : decode prog_10_method_78_code 314 = .ok (.iload 8, 2) := de_X8_bowls_144 (314, .iload 8, 2) (List.mem_of_getElem? (i := 13) rfl)
theorem d_X8_bowls_316 : decode prog_10_method_78_code 316 = .ok (.iaload, 1) := de_X8_bowls_144 (316, .iaload, 1) (List.mem_of_getElem? (i := 14) rfl)
theorem d_X8_bowls_317 : decode prog_10_method_78_code 317 = .ok (.aload_n 0, 1) := de_X8_bowls_144 (317, .aload_n 0, 1) (List.mem_of_getElem? (i := 15) rfl)
def ce_X8_bowls_160 : List (Nat × Instr × Nat) := [(318, .getfield 160, 3), (321, .aload_n 0, 1), (322, .getfield 157, 3), (325, .iload 8, 2), (327, .iaload, 1), (328, .iaload, 1), (329, .iastore, 1), (330, .iinc 8 1, 3), (333, .goto (-40), 3), (336, .iload_n 3, 1), (337, .iconst (-1), 1), (338, .if_icmp .eq 9, 3), (341, .iload_n 3, 1), (342, .bipush 9, 2), (344, .if_icmp .ne 8, 3), (347, .iload 6, 2)]
theorem de_X8_bowls_160 : ∀ q ∈ ce_X8_bowls_160, decode prog_10_method_78_code q.1 = .ok (q.2.1, q.2.2) := by decide +kernel
theorem d_X8_bowls_318 : decode prog_10_method_78_code 318 = .ok (.getfield 160, 3) := de_X8_bowls_160 (318, .getfield 160, 3) (List.mem_of_getElem? (i := 0) rfl)
theorem d_X8_bowls_321 : decode prog_10_method_78_code 321 = .ok (.aload_n 0, 1) := de_X8_bowls_160 (321, .aload_n 0, 1) (List.mem_of_getElem? (i := 1) rfl)
theorem d_X8_bowls_322 : decode prog_10_method_78_code 322 = .ok (.getfield 157, 3) := de_X8_bowls_160 (322, .getfield 157, 3) (List.mem_of_getElem? (i := 2) rfl)
theorem d_X8_bowls_325 : decode prog_10_method_78_code 325 = .ok (.iload 8, 2) := de_X8_bowls_160 (325, .iload 8, 2) (List.mem_of_getElem? (i := 3) rfl)
theorem d_X8_bowls_327 : decode prog_10_method_78_code 327 = .ok (.iaload, 1) := de_X8_bowls_160 (327, .iaload, 1) (List.mem_of_getElem? (i := 4) rfl)
theorem d_X8_bowls_328 : decode prog_10_method_78_code 328 = .ok (.iaload, 1) := de_X8_bowls_160 (328, .iaload, 1) (List.mem_of_getElem? (i := 5) rfl)
theorem d_X8_bowls_329 : decode prog_10_method_78_code 329 = .ok (.iastore, 1) := de_X8_bowls_160 (329, .iastore, 1) (List.mem_of_getElem? (i := 6) rfl)
theorem d_X8_bowls_330 : decode prog_10_method_78_code 330 = .ok (.iinc 8 1, 3) := de_X8_bowls_160 (330, .iinc 8 1, 3) (List.mem_of_getElem? (i := 7) rfl)
theorem d_X8_bowls_333 : decode prog_10_method_78_code 333 = .ok (.goto (-40), 3) := de_X8_bowls_160 (333, .goto (-40), 3) (List.mem_of_getElem? (i := 8) rfl)
theorem d_X8_bowls_336 : decode prog_10_method_78_code 336 = .ok (.iload_n 3, 1) := de_X8_bowls_160 (336, .iload_n 3, 1) (List.mem_of_getElem? (i := 9) rfl)
theorem d_X8_bowls_337 : decode prog_10_method_78_code 337 = .ok (.iconst (-1), 1) := de_X8_bowls_160 (337, .iconst (-1), 1) (List.mem_of_getElem? (i := 10) rfl)
theorem d_X8_bowls_338 : decode prog_10_method_78_code 338 = .ok (.if_icmp .eq 9, 3) := de_X8_bowls_160 (338, .if_icmp .eq 9, 3) (List.mem_of_getElem? (i := 11) rfl)
theorem d_X8_bowls_341 : decode prog_10_method_78_code 341 = .ok (.iload_n 3, 1) := de_X8_bowls_160 (341, .iload_n 3, 1) (List.mem_of_getElem? (i := 12) rfl)
theorem d_X8_bowls_342 : decode prog_10_method_78_code 342 = .ok (.bipush 9, 2) := de_X8_bowls_160 (342, .bipush 9, 2) (List.mem_of_getElem? (i := 13) rfl)
theorem d_X8_bowls_344 : decode prog_10_method_78_code 344 = .ok (.if_icmp .ne 8, 3) := de_X8_bowls_160 (344, .if_icmp .ne 8, 3) (List.mem_of_getElem? (i := 14) rfl)
theorem d_X8_bowls_347 : decode prog_10_method_78_code 347 = .ok (.iload 6, 2) := de_X8_bowls_160 (347, .iload 6, 2) (List.mem_of_getElem? (i := 15) rfl)
def ce_X8_bowls_176 : List (Nat × Instr × Nat) := [(349, .goto 15, 3), (352, .aload_n 0, 1), (353, .getfield 151, 3), (356, .aload_n 0, 1), (357, .getfield 157, 3), (360, .iload 5, 2), (362, .iaload, 1), (363, .iaload, 1), (364, .ireturn, 1)]
theorem de_X8_bowls_176 : ∀ q ∈ ce_X8_bowls_176, decode prog_10_method_78_code q.1 = .ok (q.2.1, q.2.2) := by decide +kernel
theorem d_X8_bowls_349 : decode prog_10_method_78_code 349 = .ok (.goto 15, 3) := de_X8_bowls_176 (349, .goto 15, 3) (List.mem_of_getElem? (i := 0) rfl)
theorem d_X8_bowls_352 : decode prog_10_method_78_code 352 = .ok (.aload_n 0, 1) := de_X8_bowls_176 (352, .aload_n 0, 1) (List.mem_of_getElem? (i := 1) rfl)
theorem d_X8_bowls_353 : decode prog_10_method_78_code 353 = .ok (.getfield 151, 3) := de_X8_bowls_176 (353, .getfield 151, 3) (List.mem_of_getElem? (i := 2) rfl)
theorem d_X8_bowls_356 : decode prog_10_method_78_code 356 = .ok (.aload_n 0, 1) := de_X8_bowls_176 (356, .aload_n 0, 1) (List.mem_of_getElem? (i := 3) rfl)
theorem d_X8_bowls_357 : decode prog_10_method_78_code 357 = .ok (.getfield 157, 3) := de_X8_bowls_176 (357, .getfield 157, 3) (List.mem_of_getElem? (i := 4) rfl)
theorem d_X8_bowls_360 : decode prog_10_method_78_code 360 = .ok (.iload 5, 2) := de_X8_bowls_176 (360, .iload 5, 2) (List.mem_of_getElem? (i := 5) rfl)
theorem d_X8_bowls_362 : decode prog_10_method_78_code 362 = .ok (.iaload, 1) := de_X8_bowls_176 (362, .iaload, 1) (List.mem_of_getElem? (i := 6) rfl)
theorem d_X8_bowls_363 : decode prog_10_method_78_code 363 = .ok (.iaload, 1) := de_X8_bowls_176 (363, .iaload, 1) (List.mem_of_getElem? (i := 7) rfl)
theorem d_X8_bowls_364 : decode prog_10_method_78_code 364 = .ok (.ireturn, 1) := de_X8_bowls_176 (364, .ireturn, 1) (List.mem_of_getElem? (i := 8) rfl)
def ce_X8_here_0 : List (Nat × Instr × Nat) := [(0, .aload_n 0, 1), (1, .getfield 208, 3), (4, .aload_n 0, 1), (5, .getfield 211, 3), (8, .if_icmp .ge 19, 3), (11, .aload_n 0, 1), (12, .getfield 7, 3), (15, .aload_n 0, 1), (16, .getfield 208, 3), (19, .baload, 1), (20, .sipush 255, 3), (23, .iand, 1), (24, .goto 4, 3), (27, .iconst 0, 1), (28, .ireturn, 1)]
theorem de_X8_here_0 : ∀ q ∈ ce_X8_here_0, decode prog_10_method_18_code q.1 = .ok (q.2.1, q.2.2) := by decide +kernel
theorem d_X8_here_0 : decode prog_10_method_18_code 0 = .ok (.aload_n 0, 1) := de_X8_here_0 (0, .aload_n 0, 1) (List.mem_of_getElem? (i := 0) rfl)
theorem d_X8_here_1 : decode prog_10_method_18_code 1 = .ok (.getfield 208, 3) := de_X8_here_0 (1, .getfield 208, 3) (List.mem_of_getElem? (i := 1) rfl)
theorem d_X8_here_4 : decode prog_10_method_18_code 4 = .ok (.aload_n 0, 1) := de_X8_here_0 (4, .aload_n 0, 1) (List.mem_of_getElem? (i := 2) rfl)
theorem d_X8_here_5 : decode prog_10_method_18_code 5 = .ok (.getfield 211, 3) := de_X8_here_0 (5, .getfield 211, 3) (List.mem_of_getElem? (i := 3) rfl)
theorem d_X8_here_8 : decode prog_10_method_18_code 8 = .ok (.if_icmp .ge 19, 3) := de_X8_here_0 (8, .if_icmp .ge 19, 3) (List.mem_of_getElem? (i := 4) rfl)
theorem d_X8_here_11 : decode prog_10_method_18_code 11 = .ok (.aload_n 0, 1) := de_X8_here_0 (11, .aload_n 0, 1) (List.mem_of_getElem? (i := 5) rfl)
theorem d_X8_here_12 : decode prog_10_method_18_code 12 = .ok (.getfield 7, 3) := de_X8_here_0 (12, .getfield 7, 3) (List.mem_of_getElem? (i := 6) rfl)
theorem d_X8_here_15 : decode prog_10_method_18_code 15 = .ok (.aload_n 0, 1) := de_X8_here_0 (15, .aload_n 0, 1) (List.mem_of_getElem? (i := 7) rfl)
theorem d_X8_here_16 : decode prog_10_method_18_code 16 = .ok (.getfield 208, 3) := de_X8_here_0 (16, .getfield 208, 3) (List.mem_of_getElem? (i := 8) rfl)
theorem d_X8_here_19 : decode prog_10_method_18_code 19 = .ok (.baload, 1) := de_X8_here_0 (19, .baload, 1) (List.mem_of_getElem? (i := 9) rfl)
theorem d_X8_here_20 : decode prog_10_method_18_code 20 = .ok (.sipush 255, 3) := de_X8_here_0 (20, .sipush 255, 3) (List.mem_of_getElem? (i := 10) rfl)
theorem d_X8_here_23 : decode prog_10_method_18_code 23 = .ok (.iand, 1) := de_X8_here_0 (23, .iand, 1) (List.mem_of_getElem? (i := 11) rfl)
theorem d_X8_here_24 : decode prog_10_method_18_code 24 = .ok (.goto 4, 3) := de_X8_here_0 (24, .goto 4, 3) (List.mem_of_getElem? (i := 12) rfl)
theorem d_X8_here_27 : decode prog_10_method_18_code 27 = .ok (.iconst 0, 1) := de_X8_here_0 (27, .iconst 0, 1) (List.mem_of_getElem? (i := 13) rfl)
theorem d_X8_here_28 : decode prog_10_method_18_code 28 = .ok (.ireturn, 1) := de_X8_here_0 (28, .ireturn, 1) (List.mem_of_getElem? (i := 14) rfl)
def ce_X8_wrongs_0 : List (Nat × Instr × Nat) := [(0, .aload_n 0, 1), (1, .aload_n 0, 1), (2, .getfield 214, 3), (5, .ifCond .ge 10, 3), (8, .aload_n 0, 1), (9, .getfield 214, 3), (12, .goto 10, 3), (15, .sipush (-1000), 3), (18, .iload_n 1, 1), (19, .imul, 1), (20, .iload_n 2, 1), (21, .isub, 1), (22, .putfield 214, 3), (25, .return_, 1)]
theorem de_X8_wrongs_0 : ∀ q ∈ ce_X8_wrongs_0, decode prog_10_method_19_code q.1 = .ok (q.2.1, q.2.2) := by decide +kernel
theorem d_X8_wrongs_0 : decode prog_10_method_19_code 0 = .ok (.aload_n 0, 1) := de_X8_wrongs_0 (0, .aload_n 0, 1) (List.mem_of_getElem? (i := 0) rfl)
theorem d_X8_wrongs_1 : decode prog_10_method_19_code 1 = .ok (.aload_n 0, 1) := de_X8_wrongs_0 (1, .aload_n 0, 1) (List.mem_of_getElem? (i := 1) rfl)
theorem d_X8_wrongs_2 : decode prog_10_method_19_code 2 = .ok (.getfield 214, 3) := de_X8_wrongs_0 (2, .getfield 214, 3) (List.mem_of_getElem? (i := 2) rfl)
theorem d_X8_wrongs_5 : decode prog_10_method_19_code 5 = .ok (.ifCond .ge 10, 3) := de_X8_wrongs_0 (5, .ifCond .ge 10, 3) (List.mem_of_getElem? (i := 3) rfl)
theorem d_X8_wrongs_8 : decode prog_10_method_19_code 8 = .ok (.aload_n 0, 1) := de_X8_wrongs_0 (8, .aload_n 0, 1) (List.mem_of_getElem? (i := 4) rfl)
theorem d_X8_wrongs_9 : decode prog_10_method_19_code 9 = .ok (.getfield 214, 3) := de_X8_wrongs_0 (9, .getfield 214, 3) (List.mem_of_getElem? (i := 5) rfl)
theorem d_X8_wrongs_12 : decode prog_10_method_19_code 12 = .ok (.goto 10, 3) := de_X8_wrongs_0 (12, .goto 10, 3) (List.mem_of_getElem? (i := 6) rfl)
theorem d_X8_wrongs_15 : decode prog_10_method_19_code 15 = .ok (.sipush (-1000), 3) := de_X8_wrongs_0 (15, .sipush (-1000), 3) (List.mem_of_getElem? (i := 7) rfl)
theorem d_X8_wrongs_18 : decode prog_10_method_19_code 18 = .ok (.iload_n 1, 1) := de_X8_wrongs_0 (18, .iload_n 1, 1) (List.mem_of_getElem? (i := 8) rfl)
theorem d_X8_wrongs_19 : decode prog_10_method_19_code 19 = .ok (.imul, 1) := de_X8_wrongs_0 (19, .imul, 1) (List.mem_of_getElem? (i := 9) rfl)
theorem d_X8_wrongs_20 : decode prog_10_method_19_code 20 = .ok (.iload_n 2, 1) := de_X8_wrongs_0 (20, .iload_n 2, 1) (List.mem_of_getElem? (i := 10) rfl)
theorem d_X8_wrongs_21 : decode prog_10_method_19_code 21 = .ok (.isub, 1) := de_X8_wrongs_0 (21, .isub, 1) (List.mem_of_getElem? (i := 11) rfl)
theorem d_X8_wrongs_22 : decode prog_10_method_19_code 22 = .ok (.putfield 214, 3) := de_X8_wrongs_0 (22, .putfield 214, 3) (List.mem_of_getElem? (i := 12) rfl)
theorem d_X8_wrongs_25 : decode prog_10_method_19_code 25 = .ok (.return_, 1) := de_X8_wrongs_0 (25, .return_, 1) (List.mem_of_getElem? (i := 13) rfl)
def ce_X8_isGood_0 : List (Nat × Instr × Nat) := [(0, .aload_n 0, 1), (1, .getfield 214, 3), (4, .ifCond .ne 7, 3), (7, .iconst 1, 1), (8, .goto 4, 3), (11, .iconst 0, 1), (12, .ireturn, 1)]
theorem de_X8_isGood_0 : ∀ q ∈ ce_X8_isGood_0, decode prog_10_method_20_code q.1 = .ok (q.2.1, q.2.2) := by decide +kernel
theorem d_X8_isGood_0 : decode prog_10_method_20_code 0 = .ok (.aload_n 0, 1) := de_X8_isGood_0 (0, .aload_n 0, 1) (List.mem_of_getElem? (i := 0) rfl)
theorem d_X8_isGood_1 : decode prog_10_method_20_code 1 = .ok (.getfield 214, 3) := de_X8_isGood_0 (1, .getfield 214, 3) (List.mem_of_getElem? (i := 1) rfl)
theorem d_X8_isGood_4 : decode prog_10_method_20_code 4 = .ok (.ifCond .ne 7, 3) := de_X8_isGood_0 (4, .ifCond .ne 7, 3) (List.mem_of_getElem? (i := 2) rfl)
theorem d_X8_isGood_7 : decode prog_10_method_20_code 7 = .ok (.iconst 1, 1) := de_X8_isGood_0 (7, .iconst 1, 1) (List.mem_of_getElem? (i := 3) rfl)
theorem d_X8_isGood_8 : decode prog_10_method_20_code 8 = .ok (.goto 4, 3) := de_X8_isGood_0 (8, .goto 4, 3) (List.mem_of_getElem? (i := 4) rfl)
theorem d_X8_isGood_11 : decode prog_10_method_20_code 11 = .ok (.iconst 0, 1) := de_X8_isGood_0 (11, .iconst 0, 1) (List.mem_of_getElem? (i := 5) rfl)
theorem d_X8_isGood_12 : decode prog_10_method_20_code 12 = .ok (.ireturn, 1) := de_X8_isGood_0 (12, .ireturn, 1) (List.mem_of_getElem? (i := 6) rfl)
def ce_X8_emit_0 : List (Nat × Instr × Nat) := [(0, .aload_n 0, 1), (1, .invokevirtual 217, 3), (4, .ifCond .ne 4, 3), (7, .return_, 1), (8, .aload_n 0, 1), (9, .getfield 88, 3), (12, .aload_n 0, 1), (13, .getfield 221, 3), (16, .iload_n 1, 1), (17, .iastore, 1), (18, .aload_n 0, 1), (19, .getfield 91, 3), (22, .aload_n 0, 1), (23, .getfield 221, 3), (26, .iload_n 2, 1), (27, .iastore, 1)]
theorem de_X8_emit_0 : ∀ q ∈ ce_X8_emit_0, decode prog_10_method_21_code q.1 = .ok (q.2.1, q.2.2) := by decide +kernel
theorem d_X8_emit_0 : decode prog_10_method_21_code 0 = .ok (.aload_n 0, 1) := de_X8_emit_0 (0, .aload_n 0, 1) (List.mem_of_getElem? (i := 0) rfl)
theorem d_X8_emit_1 : decode prog_10_method_21_code 1 = .ok (.invokevirtual 217, 3) := de_X8_emit_0 (1, .invokevirtual 217, 3) (List.mem_of_getElem? (i := 1) rfl)
theorem d_X8_emit_4 : decode prog_10_method_21_code 4 = .ok (.ifCond .ne 4, 3) := de_X8_emit_0 (4, .ifCond .ne 4, 3) (List.mem_of_getElem? (i := 2) rfl)
theorem d_X8_emit_7 : decode prog_10_method_21_code 7 = .ok (.return_, 1) := de_X8_emit_0 (7, .return_, 1) (List.mem_of_getElem? (i := 3) rfl)
theorem d_X8_emit_8 : decode prog_10_method_21_code 8 = .ok (.aload_n 0, 1) := de_X8_emit_0 (8, .aload_n 0, 1) (List.mem_of_getElem? (i := 4) rfl)
theorem d_X8_emit_9 : decode prog_10_method_21_code 9 = .ok (.getfield 88, 3) := de_X8_emit_0 (9, .getfield 88, 3) (List.mem_of_getElem? (i := 5) rfl)
theorem d_X8_emit_12 : decode prog_10_method_21_code 12 = .ok (.aload_n 0, 1) := de_X8_emit_0 (12, .aload_n 0, 1) (List.mem_of_getElem? (i := 6) rfl)
theorem d_X8_emit_13 : decode prog_10_method_21_code 13 = .ok (.getfield 221, 3) := de_X8_emit_0 (13, .getfield 221, 3) (List.mem_of_getElem? (i := 7) rfl)
theorem d_X8_emit_16 : decode prog_10_method_21_code 16 = .ok (.iload_n 1, 1) := de_X8_emit_0 (16, .iload_n 1, 1) (List.mem_of_getElem? (i := 8) rfl)
theorem d_X8_emit_17 : decode prog_10_method_21_code 17 = .ok (.iastore, 1) := de_X8_emit_0 (17, .iastore, 1) (List.mem_of_getElem? (i := 9) rfl)
theorem d_X8_emit_18 : decode prog_10_method_21_code 18 = .ok (.aload_n 0, 1) := de_X8_emit_0 (18, .aload_n 0, 1) (List.mem_of_getElem? (i := 10) rfl)
theorem d_X8_emit_19 : decode prog_10_method_21_code 19 = .ok (.getfield 91, 3) := de_X8_emit_0 (19, .getfield 91, 3) (List.mem_of_getElem? (i := 11) rfl)
theorem d_X8_emit_22 : decode prog_10_method_21_code 22 = .ok (.aload_n 0, 1) := de_X8_emit_0 (22, .aload_n 0, 1) (List.mem_of_getElem? (i := 12) rfl)
theorem d_X8_emit_23 : decode prog_10_method_21_code 23 = .ok (.getfield 221, 3) := de_X8_emit_0 (23, .getfield 221, 3) (List.mem_of_getElem? (i := 13) rfl)
theorem d_X8_emit_26 : decode prog_10_method_21_code 26 = .ok (.iload_n 2, 1) := de_X8_emit_0 (26, .iload_n 2, 1) (List.mem_of_getElem? (i := 14) rfl)
theorem d_X8_emit_27 : decode prog_10_method_21_code 27 = .ok (.iastore, 1) := de_X8_emit_0 (27, .iastore, 1) (List.mem_of_getElem? (i := 15) rfl)
def ce_X8_emit_16 : List (Nat × Instr × Nat) := [(28, .aload_n 0, 1), (29, .dup, 1), (30, .getfield 221, 3), (33, .iconst 1, 1), (34, .iadd, 1), (35, .putfield 221, 3), (38, .return_, 1)]
theorem de_X8_emit_16 : ∀ q ∈ ce_X8_emit_16, decode prog_10_method_21_code q.1 = .ok (q.2.1, q.2.2) := by decide +kernel
theorem d_X8_emit_28 : decode prog_10_method_21_code 28 = .ok (.aload_n 0, 1) := de_X8_emit_16 (28, .aload_n 0, 1) (List.mem_of_getElem? (i := 0) rfl)
theorem d_X8_emit_29 : decode prog_10_method_21_code 29 = .ok (.dup, 1) := de_X8_emit_16 (29, .dup, 1) (List.mem_of_getElem? (i := 1) rfl)
theorem d_X8_emit_30 : decode prog_10_method_21_code 30 = .ok (.getfield 221, 3) := de_X8_emit_16 (30, .getfield 221, 3) (List.mem_of_getElem? (i := 2) rfl)
theorem d_X8_emit_33 : decode prog_10_method_21_code 33 = .ok (.iconst 1, 1) := de_X8_emit_16 (33, .iconst 1, 1) (List.mem_of_getElem? (i := 3) rfl)
theorem d_X8_emit_34 : decode prog_10_method_21_code 34 = .ok (.iadd, 1) := de_X8_emit_16 (34, .iadd, 1) (List.mem_of_getElem? (i := 4) rfl)
theorem d_X8_emit_35 : decode prog_10_method_21_code 35 = .ok (.putfield 221, 3) := de_X8_emit_16 (35, .putfield 221, 3) (List.mem_of_getElem? (i := 5) rfl)
theorem d_X8_emit_38 : decode prog_10_method_21_code 38 = .ok (.return_, 1) := de_X8_emit_16 (38, .return_, 1) (List.mem_of_getElem? (i := 6) rfl)
def ce_X8_top_0 : List (Nat × Instr × Nat) := [(0, .aload_n 0, 1), (1, .getfield 224, 3), (4, .ifCond .le 17, 3), (7, .aload_n 0, 1), (8, .getfield 94, 3), (11, .aload_n 0, 1), (12, .getfield 224, 3), (15, .iconst 1, 1), (16, .isub, 1), (17, .iaload, 1), (18, .goto 4, 3), (21, .iconst 0, 1), (22, .ireturn, 1)]
theorem de_X8_top_0 : ∀ q ∈ ce_X8_top_0, decode prog_10_method_22_code q.1 = .ok (q.2.1, q.2.2) := by decide +kernel
theorem d_X8_top_0 : decode prog_10_method_22_code 0 = .ok (.aload_n 0, 1) := de_X8_top_0 (0, .aload_n 0, 1) (List.mem_of_getElem? (i := 0) rfl)
theorem d_X8_top_1 : decode prog_10_method_22_code 1 = .ok (.getfield 224, 3) := de_X8_top_0 (1, .getfield 224, 3) (List.mem_of_getElem? (i := 1) rfl)
theorem d_X8_top_4 : decode prog_10_method_22_code 4 = .ok (.ifCond .le 17, 3) := de_X8_top_0 (4, .ifCond .le 17, 3) (List.mem_of_getElem? (i := 2) rfl)
theorem d_X8_top_7 : decode prog_10_method_22_code 7 = .ok (.aload_n 0, 1) := de_X8_top_0 (7, .aload_n 0, 1) (List.mem_of_getElem? (i := 3) rfl)
theorem d_X8_top_8 : decode prog_10_method_22_code 8 = .ok (.getfield 94, 3) := de_X8_top_0 (8, .getfield 94, 3) (List.mem_of_getElem? (i := 4) rfl)
theorem d_X8_top_11 : decode prog_10_method_22_code 11 = .ok (.aload_n 0, 1) := de_X8_top_0 (11, .aload_n 0, 1) (List.mem_of_getElem? (i := 5) rfl)
theorem d_X8_top_12 : decode prog_10_method_22_code 12 = .ok (.getfield 224, 3) := de_X8_top_0 (12, .getfield 224, 3) (List.mem_of_getElem? (i := 6) rfl)
theorem d_X8_top_15 : decode prog_10_method_22_code 15 = .ok (.iconst 1, 1) := de_X8_top_0 (15, .iconst 1, 1) (List.mem_of_getElem? (i := 7) rfl)
theorem d_X8_top_16 : decode prog_10_method_22_code 16 = .ok (.isub, 1) := de_X8_top_0 (16, .isub, 1) (List.mem_of_getElem? (i := 8) rfl)
theorem d_X8_top_17 : decode prog_10_method_22_code 17 = .ok (.iaload, 1) := de_X8_top_0 (17, .iaload, 1) (List.mem_of_getElem? (i := 9) rfl)
theorem d_X8_top_18 : decode prog_10_method_22_code 18 = .ok (.goto 4, 3) := de_X8_top_0 (18, .goto 4, 3) (List.mem_of_getElem? (i := 10) rfl)
theorem d_X8_top_21 : decode prog_10_method_22_code 21 = .ok (.iconst 0, 1) := de_X8_top_0 (21, .iconst 0, 1) (List.mem_of_getElem? (i := 11) rfl)
theorem d_X8_top_22 : decode prog_10_method_22_code 22 = .ok (.ireturn, 1) := de_X8_top_0 (22, .ireturn, 1) (List.mem_of_getElem? (i := 12) rfl)
def ce_X8_puts_0 : List (Nat × Instr × Nat) := [(0, .aload_n 0, 1), (1, .getfield 94, 3), (4, .aload_n 0, 1), (5, .getfield 224, 3), (8, .iload_n 1, 1), (9, .iastore, 1), (10, .aload_n 0, 1), (11, .dup, 1), (12, .getfield 224, 3), (15, .iconst 1, 1), (16, .iadd, 1), (17, .putfield 224, 3), (20, .aload_n 0, 1), (21, .dup, 1), (22, .getfield 208, 3), (25, .iconst 1, 1)]
theorem de_X8_puts_0 : ∀ q ∈ ce_X8_puts_0, decode prog_10_method_23_code q.1 = .ok (q.2.1, q.2.2) := by decide +kernel
theorem d_X8_puts_0 : decode prog_10_method_23_code 0 = .ok (.aload_n 0, 1) := de_X8_puts_0 (0, .aload_n 0, 1) (List.mem_of_getElem? (i := 0) rfl)
theorem d_X8_puts_1 : decode prog_10_method_23_code 1 = .ok (.getfield 94, 3) := de_X8_puts_0 (1, .getfield 94, 3) (List.mem_of_getElem? (i := 1) rfl)
theorem d_X8_puts_4 : decode prog_10_method_23_code 4 = .ok (.aload_n 0, 1) := de_X8_puts_0 (4, .aload_n 0, 1) (List.mem_of_getElem? (i := 2) rfl)
theorem d_X8_puts_5 : decode prog_10_method_23_code 5 = .ok (.getfield 224, 3) := de_X8_puts_0 (5, .getfield 224, 3) (List.mem_of_getElem? (i := 3) rfl)
theorem d_X8_puts_8 : decode prog_10_method_23_code 8 = .ok (.iload_n 1, 1) := de_X8_puts_0 (8, .iload_n 1, 1) (List.mem_of_getElem? (i := 4) rfl)
theorem d_X8_puts_9 : decode prog_10_method_23_code 9 = .ok (.iastore, 1) := de_X8_puts_0 (9, .iastore, 1) (List.mem_of_getElem? (i := 5) rfl)
theorem d_X8_puts_10 : decode prog_10_method_23_code 10 = .ok (.aload_n 0, 1) := de_X8_puts_0 (10, .aload_n 0, 1) (List.mem_of_getElem? (i := 6) rfl)
theorem d_X8_puts_11 : decode prog_10_method_23_code 11 = .ok (.dup, 1) := de_X8_puts_0 (11, .dup, 1) (List.mem_of_getElem? (i := 7) rfl)
theorem d_X8_puts_12 : decode prog_10_method_23_code 12 = .ok (.getfield 224, 3) := de_X8_puts_0 (12, .getfield 224, 3) (List.mem_of_getElem? (i := 8) rfl)
theorem d_X8_puts_15 : decode prog_10_method_23_code 15 = .ok (.iconst 1, 1) := de_X8_puts_0 (15, .iconst 1, 1) (List.mem_of_getElem? (i := 9) rfl)
theorem d_X8_puts_16 : decode prog_10_method_23_code 16 = .ok (.iadd, 1) := de_X8_puts_0 (16, .iadd, 1) (List.mem_of_getElem? (i := 10) rfl)
theorem d_X8_puts_17 : decode prog_10_method_23_code 17 = .ok (.putfield 224, 3) := de_X8_puts_0 (17, .putfield 224, 3) (List.mem_of_getElem? (i := 11) rfl)
theorem d_X8_puts_20 : decode prog_10_method_23_code 20 = .ok (.aload_n 0, 1) := de_X8_puts_0 (20, .aload_n 0, 1) (List.mem_of_getElem? (i := 12) rfl)
theorem d_X8_puts_21 : decode prog_10_method_23_code 21 = .ok (.dup, 1) := de_X8_puts_0 (21, .dup, 1) (List.mem_of_getElem? (i := 13) rfl)
theorem d_X8_puts_22 : decode prog_10_method_23_code 22 = .ok (.getfield 208, 3) := de_X8_puts_0 (22, .getfield 208, 3) (List.mem_of_getElem? (i := 14) rfl)
theorem d_X8_puts_25 : decode prog_10_method_23_code 25 = .ok (.iconst 1, 1) := de_X8_puts_0 (25, .iconst 1, 1) (List.mem_of_getElem? (i := 15) rfl)
def ce_X8_puts_16 : List (Nat × Instr × Nat) := [(26, .iadd, 1), (27, .putfield 208, 3), (30, .return_, 1)]
theorem de_X8_puts_16 : ∀ q ∈ ce_X8_puts_16, decode prog_10_method_23_code q.1 = .ok (q.2.1, q.2.2) := by decide +kernel
theorem d_X8_puts_26 : decode prog_10_method_23_code 26 = .ok (.iadd, 1) := de_X8_puts_16 (26, .iadd, 1) (List.mem_of_getElem? (i := 0) rfl)
theorem d_X8_puts_27 : decode prog_10_method_23_code 27 = .ok (.putfield 208, 3) := de_X8_puts_16 (27, .putfield 208, 3) (List.mem_of_getElem? (i := 1) rfl)
theorem d_X8_puts_30 : decode prog_10_method_23_code 30 = .ok (.return_, 1) := de_X8_puts_16 (30, .return_, 1) (List.mem_of_getElem? (i := 2) rfl)
def ce_X8_opens_0 : List (Nat × Instr × Nat) := [(0, .aload_n 0, 1), (1, .getfield 227, 3), (4, .bipush 6, 2), (6, .if_icmp .ne 12, 3), (9, .aload_n 0, 1), (10, .iconst 5, 1), (11, .aload_n 0, 1), (12, .getfield 208, 3), (15, .invokevirtual 230, 3), (18, .aload_n 0, 1), (19, .dup, 1), (20, .getfield 227, 3), (23, .iconst 1, 1), (24, .iadd, 1), (25, .putfield 227, 3), (28, .aload_n 0, 1)]
theorem de_X8_opens_0 : ∀ q ∈ ce_X8_opens_0, decode prog_10_method_24_code q.1 = .ok (q.2.1, q.2.2) := by decide +kernel
theorem d_X8_opens_0 : decode prog_10_method_24_code 0 = .ok (.aload_n 0, 1) := de_X8_opens_0 (0, .aload_n 0, 1) (List.mem_of_getElem? (i := 0) rfl)
theorem d_X8_opens_1 : decode prog_10_method_24_code 1 = .ok (.getfield 227, 3) := de_X8_opens_0 (1, .getfield 227, 3) (List.mem_of_getElem? (i := 1) rfl)
theorem d_X8_opens_4 : decode prog_10_method_24_code 4 = .ok (.bipush 6, 2) := de_X8_opens_0 (4, .bipush 6, 2) (List.mem_of_getElem? (i := 2) rfl)
theorem d_X8_opens_6 : decode prog_10_method_24_code 6 = .ok (.if_icmp .ne 12, 3) := de_X8_opens_0 (6, .if_icmp .ne 12, 3) (List.mem_of_getElem? (i := 3) rfl)
theorem d_X8_opens_9 : decode prog_10_method_24_code 9 = .ok (.aload_n 0, 1) := de_X8_opens_0 (9, .aload_n 0, 1) (List.mem_of_getElem? (i := 4) rfl)
theorem d_X8_opens_10 : decode prog_10_method_24_code 10 = .ok (.iconst 5, 1) := de_X8_opens_0 (10, .iconst 5, 1) (List.mem_of_getElem? (i := 5) rfl)
theorem d_X8_opens_11 : decode prog_10_method_24_code 11 = .ok (.aload_n 0, 1) := de_X8_opens_0 (11, .aload_n 0, 1) (List.mem_of_getElem? (i := 6) rfl)
theorem d_X8_opens_12 : decode prog_10_method_24_code 12 = .ok (.getfield 208, 3) := de_X8_opens_0 (12, .getfield 208, 3) (List.mem_of_getElem? (i := 7) rfl)
theorem d_X8_opens_15 : decode prog_10_method_24_code 15 = .ok (.invokevirtual 230, 3) := de_X8_opens_0 (15, .invokevirtual 230, 3) (List.mem_of_getElem? (i := 8) rfl)
theorem d_X8_opens_18 : decode prog_10_method_24_code 18 = .ok (.aload_n 0, 1) := de_X8_opens_0 (18, .aload_n 0, 1) (List.mem_of_getElem? (i := 9) rfl)
theorem d_X8_opens_19 : decode prog_10_method_24_code 19 = .ok (.dup, 1) := de_X8_opens_0 (19, .dup, 1) (List.mem_of_getElem? (i := 10) rfl)
theorem d_X8_opens_20 : decode prog_10_method_24_code 20 = .ok (.getfield 227, 3) := de_X8_opens_0 (20, .getfield 227, 3) (List.mem_of_getElem? (i := 11) rfl)
theorem d_X8_opens_23 : decode prog_10_method_24_code 23 = .ok (.iconst 1, 1) := de_X8_opens_0 (23, .iconst 1, 1) (List.mem_of_getElem? (i := 12) rfl)
theorem d_X8_opens_24 : decode prog_10_method_24_code 24 = .ok (.iadd, 1) := de_X8_opens_0 (24, .iadd, 1) (List.mem_of_getElem? (i := 13) rfl)
theorem d_X8_opens_25 : decode prog_10_method_24_code 25 = .ok (.putfield 227, 3) := de_X8_opens_0 (25, .putfield 227, 3) (List.mem_of_getElem? (i := 14) rfl)
theorem d_X8_opens_28 : decode prog_10_method_24_code 28 = .ok (.aload_n 0, 1) := de_X8_opens_0 (28, .aload_n 0, 1) (List.mem_of_getElem? (i := 15) rfl)
def ce_X8_opens_16 : List (Nat × Instr × Nat) := [(29, .aload_n 0, 1), (30, .invokevirtual 234, 3), (33, .invokevirtual 238, 3), (36, .return_, 1)]
theorem de_X8_opens_16 : ∀ q ∈ ce_X8_opens_16, decode prog_10_method_24_code q.1 = .ok (q.2.1, q.2.2) := by decide +kernel
theorem d_X8_opens_29 : decode prog_10_method_24_code 29 = .ok (.aload_n 0, 1) := de_X8_opens_16 (29, .aload_n 0, 1) (List.mem_of_getElem? (i := 0) rfl)
theorem d_X8_opens_30 : decode prog_10_method_24_code 30 = .ok (.invokevirtual 234, 3) := de_X8_opens_16 (30, .invokevirtual 234, 3) (List.mem_of_getElem? (i := 1) rfl)
theorem d_X8_opens_33 : decode prog_10_method_24_code 33 = .ok (.invokevirtual 238, 3) := de_X8_opens_16 (33, .invokevirtual 238, 3) (List.mem_of_getElem? (i := 2) rfl)
theorem d_X8_opens_36 : decode prog_10_method_24_code 36 = .ok (.return_, 1) := de_X8_opens_16 (36, .return_, 1) (List.mem_of_getElem? (i := 3) rfl)
def ce_X8_seesDigit_0 : List (Nat × Instr × Nat) := [(0, .aload_n 0, 1), (1, .invokevirtual 234, 3), (4, .i2l, 1), (5, .ldc2_w 241, 3), (8, .ldc2_w 243, 3), (11, .invokestatic 168, 3), (14, .ireturn, 1)]
theorem de_X8_seesDigit_0 : ∀ q ∈ ce_X8_seesDigit_0, decode prog_10_method_25_code q.1 = .ok (q.2.1, q.2.2) := by decide +kernel
theorem d_X8_seesDigit_0 : decode prog_10_method_25_code 0 = .ok (.aload_n 0, 1) := de_X8_seesDigit_0 (0, .aload_n 0, 1) (List.mem_of_getElem? (i := 0) rfl)
theorem d_X8_seesDigit_1 : decode prog_10_method_25_code 1 = .ok (.invokevirtual 234, 3) := de_X8_seesDigit_0 (1, .invokevirtual 234, 3) (List.mem_of_getElem? (i := 1) rfl)
theorem d_X8_seesDigit_4 : decode prog_10_method_25_code 4 = .ok (.i2l, 1) := de_X8_seesDigit_0 (4, .i2l, 1) (List.mem_of_getElem? (i := 2) rfl)
theorem d_X8_seesDigit_5 : decode prog_10_method_25_code 5 = .ok (.ldc2_w 241, 3) := de_X8_seesDigit_0 (5, .ldc2_w 241, 3) (List.mem_of_getElem? (i := 3) rfl)
theorem d_X8_seesDigit_8 : decode prog_10_method_25_code 8 = .ok (.ldc2_w 243, 3) := de_X8_seesDigit_0 (8, .ldc2_w 243, 3) (List.mem_of_getElem? (i := 4) rfl)
theorem d_X8_seesDigit_11 : decode prog_10_method_25_code 11 = .ok (.invokestatic 168, 3) := de_X8_seesDigit_0 (11, .invokestatic 168, 3) (List.mem_of_getElem? (i := 5) rfl)
theorem d_X8_seesDigit_14 : decode prog_10_method_25_code 14 = .ok (.ireturn, 1) := de_X8_seesDigit_0 (14, .ireturn, 1) (List.mem_of_getElem? (i := 6) rfl)
def ce_X8_reads_0 : List (Nat × Instr × Nat) := [(0, .aload_n 0, 1), (1, .getfield 208, 3), (4, .istore_n 1, 1), (5, .iconst 0, 1), (6, .istore_n 2, 1), (7, .aload_n 0, 1), (8, .invokevirtual 217, 3), (11, .ifCond .eq 55, 3), (14, .aload_n 0, 1), (15, .invokevirtual 245, 3), (18, .ifCond .eq 48, 3), (21, .aload_n 0, 1), (22, .getfield 208, 3), (25, .iload_n 1, 1), (26, .iconst 5, 1), (27, .iadd, 1)]
theorem de_X8_reads_0 : ∀ q ∈ ce_X8_reads_0, decode prog_10_method_26_code q.1 = .ok (q.2.1, q.2.2) := by decide +kernel
theorem d_X8_reads_0 : decode prog_10_method_26_code 0 = .ok (.aload_n 0, 1) := de_X8_reads_0 (0, .aload_n 0, 1) (List.mem_of_getElem? (i := 0) rfl)
theorem d_X8_reads_1 : decode prog_10_method_26_code 1 = .ok (.getfield 208, 3) := de_X8_reads_0 (1, .getfield 208, 3) (List.mem_of_getElem? (i := 1) rfl)
theorem d_X8_reads_4 : decode prog_10_method_26_code 4 = .ok (.istore_n 1, 1) := de_X8_reads_0 (4, .istore_n 1, 1) (List.mem_of_getElem? (i := 2) rfl)
theorem d_X8_reads_5 : decode prog_10_method_26_code 5 = .ok (.iconst 0, 1) := de_X8_reads_0 (5, .iconst 0, 1) (List.mem_of_getElem? (i := 3) rfl)
theorem d_X8_reads_6 : decode prog_10_method_26_code 6 = .ok (.istore_n 2, 1) := de_X8_reads_0 (6, .istore_n 2, 1) (List.mem_of_getElem? (i := 4) rfl)
theorem d_X8_reads_7 : decode prog_10_method_26_code 7 = .ok (.aload_n 0, 1) := de_X8_reads_0 (7, .aload_n 0, 1) (List.mem_of_getElem? (i := 5) rfl)
theorem d_X8_reads_8 : decode prog_10_method_26_code 8 = .ok (.invokevirtual 217, 3) := de_X8_reads_0 (8, .invokevirtual 217, 3) (List.mem_of_getElem? (i := 6) rfl)
theorem d_X8_reads_11 : decode prog_10_method_26_code 11 = .ok (.ifCond .eq 55, 3) := de_X8_reads_0 (11, .ifCond .eq 55, 3) (List.mem_of_getElem? (i := 7) rfl)
theorem d_X8_reads_14 : decode prog_10_method_26_code 14 = .ok (.aload_n 0, 1) := de_X8_reads_0 (14, .aload_n 0, 1) (List.mem_of_getElem? (i := 8) rfl)
theorem d_X8_reads_15 : decode prog_10_method_26_code 15 = .ok (.invokevirtual 245, 3) := de_X8_reads_0 (15, .invokevirtual 245, 3) (List.mem_of_getElem? (i := 9) rfl)
theorem d_X8_reads_18 : decode prog_10_method_26_code 18 = .ok (.ifCond .eq 48, 3) := de_X8_reads_0 (18, .ifCond .eq 48, 3) (List.mem_of_getElem? (i := 10) rfl)
theorem d_X8_reads_21 : decode prog_10_method_26_code 21 = .ok (.aload_n 0, 1) := de_X8_reads_0 (21, .aload_n 0, 1) (List.mem_of_getElem? (i := 11) rfl)
theorem d_X8_reads_22 : decode prog_10_method_26_code 22 = .ok (.getfield 208, 3) := de_X8_reads_0 (22, .getfield 208, 3) (List.mem_of_getElem? (i := 12) rfl)
theorem d_X8_reads_25 : decode prog_10_method_26_code 25 = .ok (.iload_n 1, 1) := de_X8_reads_0 (25, .iload_n 1, 1) (List.mem_of_getElem? (i := 13) rfl)
theorem d_X8_reads_26 : decode prog_10_method_26_code 26 = .ok (.iconst 5, 1) := de_X8_reads_0 (26, .iconst 5, 1) (List.mem_of_getElem? (i := 14) rfl)
theorem d_X8_reads_27 : decode prog_10_method_26_code 27 = .ok (.iadd, 1) := de_X8_reads_0 (27, .iadd, 1) (List.mem_of_getElem? (i := 15) rfl)
def ce_X8_reads_16 : List (Nat × Instr × Nat) := [(28, .if_icmp .ne 12, 3), (31, .aload_n 0, 1), (32, .iconst 2, 1), (33, .aload_n 0, 1), (34, .getfield 208, 3), (37, .invokevirtual 230, 3), (40, .bipush 10, 2), (42, .iload_n 2, 1), (43, .imul, 1), (44, .aload_n 0, 1), (45, .invokevirtual 234, 3), (48, .iadd, 1), (49, .bipush 48, 2), (51, .isub, 1), (52, .istore_n 2, 1), (53, .aload_n 0, 1)]
theorem de_X8_reads_16 : ∀ q ∈ ce_X8_reads_16, decode prog_10_method_26_code q.1 = .ok (q.2.1, q.2.2) := by decide +kernel
theorem d_X8_reads_28 : decode prog_10_method_26_code 28 = .ok (.if_icmp .ne 12, 3) := de_X8_reads_16 (28, .if_icmp .ne 12, 3) (List.mem_of_getElem? (i := 0) rfl)
theorem d_X8_reads_31 : decode prog_10_method_26_code 31 = .ok (.aload_n 0, 1) := de_X8_reads_16 (31, .aload_n 0, 1) (List.mem_of_getElem? (i := 1) rfl)
theorem d_X8_reads_32 : decode prog_10_method_26_code 32 = .ok (.iconst 2, 1) := de_X8_reads_16 (32, .iconst 2, 1) (List.mem_of_getElem? (i := 2) rfl)
theorem d_X8_reads_33 : decode prog_10_method_26_code 33 = .ok (.aload_n 0, 1) := de_X8_reads_16 (33, .aload_n 0, 1) (List.mem_of_getElem? (i := 3) rfl)
theorem d_X8_reads_34 : decode prog_10_method_26_code 34 = .ok (.getfield 208, 3) := de_X8_reads_16 (34, .getfield 208, 3) (List.mem_of_getElem? (i := 4) rfl)
theorem d_X8_reads_37 : decode prog_10_method_26_code 37 = .ok (.invokevirtual 230, 3) := de_X8_reads_16 (37, .invokevirtual 230, 3) (List.mem_of_getElem? (i := 5) rfl)
theorem d_X8_reads_40 : decode prog_10_method_26_code 40 = .ok (.bipush 10, 2) := de_X8_reads_16 (40, .bipush 10, 2) (List.mem_of_getElem? (i := 6) rfl)
theorem d_X8_reads_42 : decode prog_10_method_26_code 42 = .ok (.iload_n 2, 1) := de_X8_reads_16 (42, .iload_n 2, 1) (List.mem_of_getElem? (i := 7) rfl)
theorem d_X8_reads_43 : decode prog_10_method_26_code 43 = .ok (.imul, 1) := de_X8_reads_16 (43, .imul, 1) (List.mem_of_getElem? (i := 8) rfl)
theorem d_X8_reads_44 : decode prog_10_method_26_code 44 = .ok (.aload_n 0, 1) := de_X8_reads_16 (44, .aload_n 0, 1) (List.mem_of_getElem? (i := 9) rfl)
theorem d_X8_reads_45 : decode prog_10_method_26_code 45 = .ok (.invokevirtual 234, 3) := de_X8_reads_16 (45, .invokevirtual 234, 3) (List.mem_of_getElem? (i := 10) rfl)
theorem d_X8_reads_48 : decode prog_10_method_26_code 48 = .ok (.iadd, 1) := de_X8_reads_16 (48, .iadd, 1) (List.mem_of_getElem? (i := 11) rfl)
theorem d_X8_reads_49 : decode prog_10_method_26_code 49 = .ok (.bipush 48, 2) := de_X8_reads_16 (49, .bipush 48, 2) (List.mem_of_getElem? (i := 12) rfl)
theorem d_X8_reads_51 : decode prog_10_method_26_code 51 = .ok (.isub, 1) := de_X8_reads_16 (51, .isub, 1) (List.mem_of_getElem? (i := 13) rfl)
theorem d_X8_reads_52 : decode prog_10_method_26_code 52 = .ok (.istore_n 2, 1) := de_X8_reads_16 (52, .istore_n 2, 1) (List.mem_of_getElem? (i := 14) rfl)
theorem d_X8_reads_53 : decode prog_10_method_26_code 53 = .ok (.aload_n 0, 1) := de_X8_reads_16 (53, .aload_n 0, 1) (List.mem_of_getElem? (i := 15) rfl)
def ce_X8_reads_32 : List (Nat × Instr × Nat) := [(54, .dup, 1), (55, .getfield 208, 3), (58, .iconst 1, 1), (59, .iadd, 1), (60, .putfield 208, 3), (63, .goto (-56), 3), (66, .iload_n 2, 1), (67, .ireturn, 1)]
theorem de_X8_reads_32 : ∀ q ∈ ce_X8_reads_32, decode prog_10_method_26_code q.1 = .ok (q.2.1, q.2.2) := by decide +kernel
theorem d_X8_reads_54 : decode prog_10_method_26_code 54 = .ok (.dup, 1) := de_X8_reads_32 (54, .dup, 1) (List.mem_of_getElem? (i := 0) rfl)
theorem d_X8_reads_55 : decode prog_10_method_26_code 55 = .ok (.getfield 208, 3) := de_X8_reads_32 (55, .getfield 208, 3) (List.mem_of_getElem? (i := 1) rfl)
theorem d_X8_reads_58 : decode prog_10_method_26_code 58 = .ok (.iconst 1, 1) := de_X8_reads_32 (58, .iconst 1, 1) (List.mem_of_getElem? (i := 2) rfl)
theorem d_X8_reads_59 : decode prog_10_method_26_code 59 = .ok (.iadd, 1) := de_X8_reads_32 (59, .iadd, 1) (List.mem_of_getElem? (i := 3) rfl)
theorem d_X8_reads_60 : decode prog_10_method_26_code 60 = .ok (.putfield 208, 3) := de_X8_reads_32 (60, .putfield 208, 3) (List.mem_of_getElem? (i := 4) rfl)
theorem d_X8_reads_63 : decode prog_10_method_26_code 63 = .ok (.goto (-56), 3) := de_X8_reads_32 (63, .goto (-56), 3) (List.mem_of_getElem? (i := 5) rfl)
theorem d_X8_reads_66 : decode prog_10_method_26_code 66 = .ok (.iload_n 2, 1) := de_X8_reads_32 (66, .iload_n 2, 1) (List.mem_of_getElem? (i := 6) rfl)
theorem d_X8_reads_67 : decode prog_10_method_26_code 67 = .ok (.ireturn, 1) := de_X8_reads_32 (67, .ireturn, 1) (List.mem_of_getElem? (i := 7) rfl)
def ce_X8_isTimes_0 : List (Nat × Instr × Nat) := [(0, .iload_n 0, 1), (1, .bipush 42, 2), (3, .if_icmp .eq 15, 3), (6, .iload_n 0, 1), (7, .bipush 47, 2), (9, .if_icmp .eq 9, 3), (12, .iload_n 0, 1), (13, .bipush 37, 2), (15, .if_icmp .ne 7, 3), (18, .iconst 1, 1), (19, .goto 4, 3), (22, .iconst 0, 1), (23, .ireturn, 1)]
theorem de_X8_isTimes_0 : ∀ q ∈ ce_X8_isTimes_0, decode prog_10_method_27_code q.1 = .ok (q.2.1, q.2.2) := by decide +kernel
theorem d_X8_isTimes_0 : decode prog_10_method_27_code 0 = .ok (.iload_n 0, 1) := de_X8_isTimes_0 (0, .iload_n 0, 1) (List.mem_of_getElem? (i := 0) rfl)
theorem d_X8_isTimes_1 : decode prog_10_method_27_code 1 = .ok (.bipush 42, 2) := de_X8_isTimes_0 (1, .bipush 42, 2) (List.mem_of_getElem? (i := 1) rfl)
theorem d_X8_isTimes_3 : decode prog_10_method_27_code 3 = .ok (.if_icmp .eq 15, 3) := de_X8_isTimes_0 (3, .if_icmp .eq 15, 3) (List.mem_of_getElem? (i := 2) rfl)
theorem d_X8_isTimes_6 : decode prog_10_method_27_code 6 = .ok (.iload_n 0, 1) := de_X8_isTimes_0 (6, .iload_n 0, 1) (List.mem_of_getElem? (i := 3) rfl)
theorem d_X8_isTimes_7 : decode prog_10_method_27_code 7 = .ok (.bipush 47, 2) := de_X8_isTimes_0 (7, .bipush 47, 2) (List.mem_of_getElem? (i := 4) rfl)
theorem d_X8_isTimes_9 : decode prog_10_method_27_code 9 = .ok (.if_icmp .eq 9, 3) := de_X8_isTimes_0 (9, .if_icmp .eq 9, 3) (List.mem_of_getElem? (i := 5) rfl)
theorem d_X8_isTimes_12 : decode prog_10_method_27_code 12 = .ok (.iload_n 0, 1) := de_X8_isTimes_0 (12, .iload_n 0, 1) (List.mem_of_getElem? (i := 6) rfl)
theorem d_X8_isTimes_13 : decode prog_10_method_27_code 13 = .ok (.bipush 37, 2) := de_X8_isTimes_0 (13, .bipush 37, 2) (List.mem_of_getElem? (i := 7) rfl)
theorem d_X8_isTimes_15 : decode prog_10_method_27_code 15 = .ok (.if_icmp .ne 7, 3) := de_X8_isTimes_0 (15, .if_icmp .ne 7, 3) (List.mem_of_getElem? (i := 8) rfl)
theorem d_X8_isTimes_18 : decode prog_10_method_27_code 18 = .ok (.iconst 1, 1) := de_X8_isTimes_0 (18, .iconst 1, 1) (List.mem_of_getElem? (i := 9) rfl)
theorem d_X8_isTimes_19 : decode prog_10_method_27_code 19 = .ok (.goto 4, 3) := de_X8_isTimes_0 (19, .goto 4, 3) (List.mem_of_getElem? (i := 10) rfl)
theorem d_X8_isTimes_22 : decode prog_10_method_27_code 22 = .ok (.iconst 0, 1) := de_X8_isTimes_0 (22, .iconst 0, 1) (List.mem_of_getElem? (i := 11) rfl)
theorem d_X8_isTimes_23 : decode prog_10_method_27_code 23 = .ok (.ireturn, 1) := de_X8_isTimes_0 (23, .ireturn, 1) (List.mem_of_getElem? (i := 12) rfl)
def ce_X8_isPlus_0 : List (Nat × Instr × Nat) := [(0, .iload_n 0, 1), (1, .bipush 43, 2), (3, .if_icmp .eq 9, 3), (6, .iload_n 0, 1), (7, .bipush 45, 2), (9, .if_icmp .ne 7, 3), (12, .iconst 1, 1), (13, .goto 4, 3), (16, .iconst 0, 1), (17, .ireturn, 1)]
theorem de_X8_isPlus_0 : ∀ q ∈ ce_X8_isPlus_0, decode prog_10_method_28_code q.1 = .ok (q.2.1, q.2.2) := by decide +kernel
theorem d_X8_isPlus_0 : decode prog_10_method_28_code 0 = .ok (.iload_n 0, 1) := de_X8_isPlus_0 (0, .iload_n 0, 1) (List.mem_of_getElem? (i := 0) rfl)
theorem d_X8_isPlus_1 : decode prog_10_method_28_code 1 = .ok (.bipush 43, 2) := de_X8_isPlus_0 (1, .bipush 43, 2) (List.mem_of_getElem? (i := 1) rfl)
theorem d_X8_isPlus_3 : decode prog_10_method_28_code 3 = .ok (.if_icmp .eq 9, 3) := de_X8_isPlus_0 (3, .if_icmp .eq 9, 3) (List.mem_of_getElem? (i := 2) rfl)
theorem d_X8_isPlus_6 : decode prog_10_method_28_code 6 = .ok (.iload_n 0, 1) := de_X8_isPlus_0 (6, .iload_n 0, 1) (List.mem_of_getElem? (i := 3) rfl)
theorem d_X8_isPlus_7 : decode prog_10_method_28_code 7 = .ok (.bipush 45, 2) := de_X8_isPlus_0 (7, .bipush 45, 2) (List.mem_of_getElem? (i := 4) rfl)
theorem d_X8_isPlus_9 : decode prog_10_method_28_code 9 = .ok (.if_icmp .ne 7, 3) := de_X8_isPlus_0 (9, .if_icmp .ne 7, 3) (List.mem_of_getElem? (i := 5) rfl)
theorem d_X8_isPlus_12 : decode prog_10_method_28_code 12 = .ok (.iconst 1, 1) := de_X8_isPlus_0 (12, .iconst 1, 1) (List.mem_of_getElem? (i := 6) rfl)
theorem d_X8_isPlus_13 : decode prog_10_method_28_code 13 = .ok (.goto 4, 3) := de_X8_isPlus_0 (13, .goto 4, 3) (List.mem_of_getElem? (i := 7) rfl)
theorem d_X8_isPlus_16 : decode prog_10_method_28_code 16 = .ok (.iconst 0, 1) := de_X8_isPlus_0 (16, .iconst 0, 1) (List.mem_of_getElem? (i := 8) rfl)
theorem d_X8_isPlus_17 : decode prog_10_method_28_code 17 = .ok (.ireturn, 1) := de_X8_isPlus_0 (17, .ireturn, 1) (List.mem_of_getElem? (i := 9) rfl)
def ce_X8_isSign_0 : List (Nat × Instr × Nat) := [(0, .iload_n 0, 1), (1, .bipush 60, 2), (3, .if_icmp .eq 15, 3), (6, .iload_n 0, 1), (7, .bipush 62, 2), (9, .if_icmp .eq 9, 3), (12, .iload_n 0, 1), (13, .bipush 61, 2), (15, .if_icmp .ne 7, 3), (18, .iconst 1, 1), (19, .goto 4, 3), (22, .iconst 0, 1), (23, .ireturn, 1)]
theorem de_X8_isSign_0 : ∀ q ∈ ce_X8_isSign_0, decode prog_10_method_29_code q.1 = .ok (q.2.1, q.2.2) := by decide +kernel
theorem d_X8_isSign_0 : decode prog_10_method_29_code 0 = .ok (.iload_n 0, 1) := de_X8_isSign_0 (0, .iload_n 0, 1) (List.mem_of_getElem? (i := 0) rfl)
theorem d_X8_isSign_1 : decode prog_10_method_29_code 1 = .ok (.bipush 60, 2) := de_X8_isSign_0 (1, .bipush 60, 2) (List.mem_of_getElem? (i := 1) rfl)
theorem d_X8_isSign_3 : decode prog_10_method_29_code 3 = .ok (.if_icmp .eq 15, 3) := de_X8_isSign_0 (3, .if_icmp .eq 15, 3) (List.mem_of_getElem? (i := 2) rfl)
theorem d_X8_isSign_6 : decode prog_10_method_29_code 6 = .ok (.iload_n 0, 1) := de_X8_isSign_0 (6, .iload_n 0, 1) (List.mem_of_getElem? (i := 3) rfl)
theorem d_X8_isSign_7 : decode prog_10_method_29_code 7 = .ok (.bipush 62, 2) := de_X8_isSign_0 (7, .bipush 62, 2) (List.mem_of_getElem? (i := 4) rfl)
theorem d_X8_isSign_9 : decode prog_10_method_29_code 9 = .ok (.if_icmp .eq 9, 3) := de_X8_isSign_0 (9, .if_icmp .eq 9, 3) (List.mem_of_getElem? (i := 5) rfl)
theorem d_X8_isSign_12 : decode prog_10_method_29_code 12 = .ok (.iload_n 0, 1) := de_X8_isSign_0 (12, .iload_n 0, 1) (List.mem_of_getElem? (i := 6) rfl)
theorem d_X8_isSign_13 : decode prog_10_method_29_code 13 = .ok (.bipush 61, 2) := de_X8_isSign_0 (13, .bipush 61, 2) (List.mem_of_getElem? (i := 7) rfl)
theorem d_X8_isSign_15 : decode prog_10_method_29_code 15 = .ok (.if_icmp .ne 7, 3) := de_X8_isSign_0 (15, .if_icmp .ne 7, 3) (List.mem_of_getElem? (i := 8) rfl)
theorem d_X8_isSign_18 : decode prog_10_method_29_code 18 = .ok (.iconst 1, 1) := de_X8_isSign_0 (18, .iconst 1, 1) (List.mem_of_getElem? (i := 9) rfl)
theorem d_X8_isSign_19 : decode prog_10_method_29_code 19 = .ok (.goto 4, 3) := de_X8_isSign_0 (19, .goto 4, 3) (List.mem_of_getElem? (i := 10) rfl)
theorem d_X8_isSign_22 : decode prog_10_method_29_code 22 = .ok (.iconst 0, 1) := de_X8_isSign_0 (22, .iconst 0, 1) (List.mem_of_getElem? (i := 11) rfl)
theorem d_X8_isSign_23 : decode prog_10_method_29_code 23 = .ok (.ireturn, 1) := de_X8_isSign_0 (23, .ireturn, 1) (List.mem_of_getElem? (i := 12) rfl)
def ce_X8_isOfYard_0 : List (Nat × Instr × Nat) := [(0, .iload_n 0, 1), (1, .bipush 121, 2), (3, .if_icmp .eq 33, 3), (6, .iload_n 0, 1), (7, .bipush 100, 2), (9, .if_icmp .eq 27, 3), (12, .iload_n 0, 1), (13, .bipush 119, 2), (15, .if_icmp .eq 21, 3), (18, .iload_n 0, 1), (19, .bipush 99, 2), (21, .if_icmp .eq 15, 3), (24, .iload_n 0, 1), (25, .bipush 114, 2), (27, .if_icmp .eq 9, 3), (30, .iload_n 0, 1)]
theorem de_X8_isOfYard_0 : ∀ q ∈ ce_X8_isOfYard_0, decode prog_10_method_30_code q.1 = .ok (q.2.1, q.2.2) := by decide +kernel
theorem d_X8_isOfYard_0 : decode prog_10_method_30_code 0 = .ok (.iload_n 0, 1) := de_X8_isOfYard_0 (0, .iload_n 0, 1) (List.mem_of_getElem? (i := 0) rfl)
theorem d_X8_isOfYard_1 : decode prog_10_method_30_code 1 = .ok (.bipush 121, 2) := de_X8_isOfYard_0 (1, .bipush 121, 2) (List.mem_of_getElem? (i := 1) rfl)
theorem d_X8_isOfYard_3 : decode prog_10_method_30_code 3 = .ok (.if_icmp .eq 33, 3) := de_X8_isOfYard_0 (3, .if_icmp .eq 33, 3) (List.mem_of_getElem? (i := 2) rfl)
theorem d_X8_isOfYard_6 : decode prog_10_method_30_code 6 = .ok (.iload_n 0, 1) := de_X8_isOfYard_0 (6, .iload_n 0, 1) (List.mem_of_getElem? (i := 3) rfl)
theorem d_X8_isOfYard_7 : decode prog_10_method_30_code 7 = .ok (.bipush 100, 2) := de_X8_isOfYard_0 (7, .bipush 100, 2) (List.mem_of_getElem? (i := 4) rfl)
theorem d_X8_isOfYard_9 : decode prog_10_method_30_code 9 = .ok (.if_icmp .eq 27, 3) := de_X8_isOfYard_0 (9, .if_icmp .eq 27, 3) (List.mem_of_getElem? (i := 5) rfl)
theorem d_X8_isOfYard_12 : decode prog_10_method_30_code 12 = .ok (.iload_n 0, 1) := de_X8_isOfYard_0 (12, .iload_n 0, 1) (List.mem_of_getElem? (i := 6) rfl)
theorem d_X8_isOfYard_13 : decode prog_10_method_30_code 13 = .ok (.bipush 119, 2) := de_X8_isOfYard_0 (13, .bipush 119, 2) (List.mem_of_getElem? (i := 7) rfl)
theorem d_X8_isOfYard_15 : decode prog_10_method_30_code 15 = .ok (.if_icmp .eq 21, 3) := de_X8_isOfYard_0 (15, .if_icmp .eq 21, 3) (List.mem_of_getElem? (i := 8) rfl)
theorem d_X8_isOfYard_18 : decode prog_10_method_30_code 18 = .ok (.iload_n 0, 1) := de_X8_isOfYard_0 (18, .iload_n 0, 1) (List.mem_of_getElem? (i := 9) rfl)
theorem d_X8_isOfYard_19 : decode prog_10_method_30_code 19 = .ok (.bipush 99, 2) := de_X8_isOfYard_0 (19, .bipush 99, 2) (List.mem_of_getElem? (i := 10) rfl)
theorem d_X8_isOfYard_21 : decode prog_10_method_30_code 21 = .ok (.if_icmp .eq 15, 3) := de_X8_isOfYard_0 (21, .if_icmp .eq 15, 3) (List.mem_of_getElem? (i := 11) rfl)
theorem d_X8_isOfYard_24 : decode prog_10_method_30_code 24 = .ok (.iload_n 0, 1) := de_X8_isOfYard_0 (24, .iload_n 0, 1) (List.mem_of_getElem? (i := 12) rfl)
theorem d_X8_isOfYard_25 : decode prog_10_method_30_code 25 = .ok (.bipush 114, 2) := de_X8_isOfYard_0 (25, .bipush 114, 2) (List.mem_of_getElem? (i := 13) rfl)
theorem d_X8_isOfYard_27 : decode prog_10_method_30_code 27 = .ok (.if_icmp .eq 9, 3) := de_X8_isOfYard_0 (27, .if_icmp .eq 9, 3) (List.mem_of_getElem? (i := 14) rfl)
theorem d_X8_isOfYard_30 : decode prog_10_method_30_code 30 = .ok (.iload_n 0, 1) := de_X8_isOfYard_0 (30, .iload_n 0, 1) (List.mem_of_getElem? (i := 15) rfl)
def ce_X8_isOfYard_16 : List (Nat × Instr × Nat) := [(31, .bipush 116, 2), (33, .if_icmp .ne 7, 3), (36, .iconst 1, 1), (37, .goto 4, 3), (40, .iconst 0, 1), (41, .ireturn, 1)]
theorem de_X8_isOfYard_16 : ∀ q ∈ ce_X8_isOfYard_16, decode prog_10_method_30_code q.1 = .ok (q.2.1, q.2.2) := by decide +kernel
theorem d_X8_isOfYard_31 : decode prog_10_method_30_code 31 = .ok (.bipush 116, 2) := de_X8_isOfYard_16 (31, .bipush 116, 2) (List.mem_of_getElem? (i := 0) rfl)
theorem d_X8_isOfYard_33 : decode prog_10_method_30_code 33 = .ok (.if_icmp .ne 7, 3) := de_X8_isOfYard_16 (33, .if_icmp .ne 7, 3) (List.mem_of_getElem? (i := 1) rfl)
theorem d_X8_isOfYard_36 : decode prog_10_method_30_code 36 = .ok (.iconst 1, 1) := de_X8_isOfYard_16 (36, .iconst 1, 1) (List.mem_of_getElem? (i := 2) rfl)
theorem d_X8_isOfYard_37 : decode prog_10_method_30_code 37 = .ok (.goto 4, 3) := de_X8_isOfYard_16 (37, .goto 4, 3) (List.mem_of_getElem? (i := 3) rfl)
theorem d_X8_isOfYard_40 : decode prog_10_method_30_code 40 = .ok (.iconst 0, 1) := de_X8_isOfYard_16 (40, .iconst 0, 1) (List.mem_of_getElem? (i := 4) rfl)
theorem d_X8_isOfYard_41 : decode prog_10_method_30_code 41 = .ok (.ireturn, 1) := de_X8_isOfYard_16 (41, .ireturn, 1) (List.mem_of_getElem? (i := 5) rfl)
def ce_X8_isValue_0 : List (Nat × Instr × Nat) := [(0, .iload_n 0, 1), (1, .invokestatic 248, 3), (4, .ifCond .ne 45, 3), (7, .iload_n 0, 1), (8, .bipush 112, 2), (10, .if_icmp .eq 39, 3), (13, .iload_n 0, 1), (14, .bipush 103, 2), (16, .if_icmp .eq 33, 3), (19, .iload_n 0, 1), (20, .bipush 105, 2), (22, .if_icmp .eq 27, 3), (25, .iload_n 0, 1), (26, .bipush 122, 2), (28, .if_icmp .eq 21, 3), (31, .iload_n 0, 1)]
theorem de_X8_isValue_0 : ∀ q ∈ ce_X8_isValue_0, decode prog_10_method_31_code q.1 = .ok (q.2.1, q.2.2) := by decide +kernel
theorem d_X8_isValue_0 : decode prog_10_method_31_code 0 = .ok (.iload_n 0, 1) := de_X8_isValue_0 (0, .iload_n 0, 1) (List.mem_of_getElem? (i := 0) rfl)
theorem d_X8_isValue_1 : decode prog_10_method_31_code 1 = .ok (.invokestatic 248, 3) := de_X8_isValue_0 (1, .invokestatic 248, 3) (List.mem_of_getElem? (i := 1) rfl)
theorem d_X8_isValue_4 : decode prog_10_method_31_code 4 = .ok (.ifCond .ne 45, 3) := de_X8_isValue_0 (4, .ifCond .ne 45, 3) (List.mem_of_getElem? (i := 2) rfl)
theorem d_X8_isValue_7 : decode prog_10_method_31_code 7 = .ok (.iload_n 0, 1) := de_X8_isValue_0 (7, .iload_n 0, 1) (List.mem_of_getElem? (i := 3) rfl)
theorem d_X8_isValue_8 : decode prog_10_method_31_code 8 = .ok (.bipush 112, 2) := de_X8_isValue_0 (8, .bipush 112, 2) (List.mem_of_getElem? (i := 4) rfl)
theorem d_X8_isValue_10 : decode prog_10_method_31_code 10 = .ok (.if_icmp .eq 39, 3) := de_X8_isValue_0 (10, .if_icmp .eq 39, 3) (List.mem_of_getElem? (i := 5) rfl)
theorem d_X8_isValue_13 : decode prog_10_method_31_code 13 = .ok (.iload_n 0, 1) := de_X8_isValue_0 (13, .iload_n 0, 1) (List.mem_of_getElem? (i := 6) rfl)
theorem d_X8_isValue_14 : decode prog_10_method_31_code 14 = .ok (.bipush 103, 2) := de_X8_isValue_0 (14, .bipush 103, 2) (List.mem_of_getElem? (i := 7) rfl)
theorem d_X8_isValue_16 : decode prog_10_method_31_code 16 = .ok (.if_icmp .eq 33, 3) := de_X8_isValue_0 (16, .if_icmp .eq 33, 3) (List.mem_of_getElem? (i := 8) rfl)
theorem d_X8_isValue_19 : decode prog_10_method_31_code 19 = .ok (.iload_n 0, 1) := de_X8_isValue_0 (19, .iload_n 0, 1) (List.mem_of_getElem? (i := 9) rfl)
theorem d_X8_isValue_20 : decode prog_10_method_31_code 20 = .ok (.bipush 105, 2) := de_X8_isValue_0 (20, .bipush 105, 2) (List.mem_of_getElem? (i := 10) rfl)
theorem d_X8_isValue_22 : decode prog_10_method_31_code 22 = .ok (.if_icmp .eq 27, 3) := de_X8_isValue_0 (22, .if_icmp .eq 27, 3) (List.mem_of_getElem? (i := 11) rfl)
theorem d_X8_isValue_25 : decode prog_10_method_31_code 25 = .ok (.iload_n 0, 1) := de_X8_isValue_0 (25, .iload_n 0, 1) (List.mem_of_getElem? (i := 12) rfl)
theorem d_X8_isValue_26 : decode prog_10_method_31_code 26 = .ok (.bipush 122, 2) := de_X8_isValue_0 (26, .bipush 122, 2) (List.mem_of_getElem? (i := 13) rfl)
theorem d_X8_isValue_28 : decode prog_10_method_31_code 28 = .ok (.if_icmp .eq 21, 3) := de_X8_isValue_0 (28, .if_icmp .eq 21, 3) (List.mem_of_getElem? (i := 14) rfl)
theorem d_X8_isValue_31 : decode prog_10_method_31_code 31 = .ok (.iload_n 0, 1) := de_X8_isValue_0 (31, .iload_n 0, 1) (List.mem_of_getElem? (i := 15) rfl)
def ce_X8_isValue_16 : List (Nat × Instr × Nat) := [(32, .bipush 110, 2), (34, .if_icmp .eq 15, 3), (37, .iload_n 0, 1), (38, .bipush 98, 2), (40, .if_icmp .eq 9, 3), (43, .iload_n 0, 1), (44, .bipush 113, 2), (46, .if_icmp .ne 7, 3), (49, .iconst 1, 1), (50, .goto 4, 3), (53, .iconst 0, 1), (54, .ireturn, 1)]
theorem de_X8_isValue_16 : ∀ q ∈ ce_X8_isValue_16, decode prog_10_method_31_code q.1 = .ok (q.2.1, q.2.2) := by decide +kernel
theorem d_X8_isValue_32 : decode prog_10_method_31_code 32 = .ok (.bipush 110, 2) := de_X8_isValue_16 (32, .bipush 110, 2) (List.mem_of_getElem? (i := 0) rfl)
theorem d_X8_isValue_34 : decode prog_10_method_31_code 34 = .ok (.if_icmp .eq 15, 3) := de_X8_isValue_16 (34, .if_icmp .eq 15, 3) (List.mem_of_getElem? (i := 1) rfl)
theorem d_X8_isValue_37 : decode prog_10_method_31_code 37 = .ok (.iload_n 0, 1) := de_X8_isValue_16 (37, .iload_n 0, 1) (List.mem_of_getElem? (i := 2) rfl)
theorem d_X8_isValue_38 : decode prog_10_method_31_code 38 = .ok (.bipush 98, 2) := de_X8_isValue_16 (38, .bipush 98, 2) (List.mem_of_getElem? (i := 3) rfl)
theorem d_X8_isValue_40 : decode prog_10_method_31_code 40 = .ok (.if_icmp .eq 9, 3) := de_X8_isValue_16 (40, .if_icmp .eq 9, 3) (List.mem_of_getElem? (i := 4) rfl)
theorem d_X8_isValue_43 : decode prog_10_method_31_code 43 = .ok (.iload_n 0, 1) := de_X8_isValue_16 (43, .iload_n 0, 1) (List.mem_of_getElem? (i := 5) rfl)
theorem d_X8_isValue_44 : decode prog_10_method_31_code 44 = .ok (.bipush 113, 2) := de_X8_isValue_16 (44, .bipush 113, 2) (List.mem_of_getElem? (i := 6) rfl)
theorem d_X8_isValue_46 : decode prog_10_method_31_code 46 = .ok (.if_icmp .ne 7, 3) := de_X8_isValue_16 (46, .if_icmp .ne 7, 3) (List.mem_of_getElem? (i := 7) rfl)
theorem d_X8_isValue_49 : decode prog_10_method_31_code 49 = .ok (.iconst 1, 1) := de_X8_isValue_16 (49, .iconst 1, 1) (List.mem_of_getElem? (i := 8) rfl)
theorem d_X8_isValue_50 : decode prog_10_method_31_code 50 = .ok (.goto 4, 3) := de_X8_isValue_16 (50, .goto 4, 3) (List.mem_of_getElem? (i := 9) rfl)
theorem d_X8_isValue_53 : decode prog_10_method_31_code 53 = .ok (.iconst 0, 1) := de_X8_isValue_16 (53, .iconst 0, 1) (List.mem_of_getElem? (i := 10) rfl)
theorem d_X8_isValue_54 : decode prog_10_method_31_code 54 = .ok (.ireturn, 1) := de_X8_isValue_16 (54, .ireturn, 1) (List.mem_of_getElem? (i := 11) rfl)
def ce_X8_sums_0 : List (Nat × Instr × Nat) := [(0, .aload_n 0, 1), (1, .invokevirtual 251, 3), (4, .invokestatic 254, 3), (7, .ifCond .ne 17, 3), (10, .iload_n 1, 1), (11, .ifCond .eq 35, 3), (14, .aload_n 0, 1), (15, .invokevirtual 251, 3), (18, .invokestatic 257, 3), (21, .ifCond .eq 25, 3), (24, .aload_n 0, 1), (25, .aload_n 0, 1), (26, .invokevirtual 251, 3), (29, .iconst 0, 1), (30, .invokevirtual 260, 3), (33, .aload_n 0, 1)]
theorem de_X8_sums_0 : ∀ q ∈ ce_X8_sums_0, decode prog_10_method_32_code q.1 = .ok (q.2.1, q.2.2) := by decide +kernel
theorem d_X8_sums_0 : decode prog_10_method_32_code 0 = .ok (.aload_n 0, 1) := de_X8_sums_0 (0, .aload_n 0, 1) (List.mem_of_getElem? (i := 0) rfl)
theorem d_X8_sums_1 : decode prog_10_method_32_code 1 = .ok (.invokevirtual 251, 3) := de_X8_sums_0 (1, .invokevirtual 251, 3) (List.mem_of_getElem? (i := 1) rfl)
theorem d_X8_sums_4 : decode prog_10_method_32_code 4 = .ok (.invokestatic 254, 3) := de_X8_sums_0 (4, .invokestatic 254, 3) (List.mem_of_getElem? (i := 2) rfl)
theorem d_X8_sums_7 : decode prog_10_method_32_code 7 = .ok (.ifCond .ne 17, 3) := de_X8_sums_0 (7, .ifCond .ne 17, 3) (List.mem_of_getElem? (i := 3) rfl)
theorem d_X8_sums_10 : decode prog_10_method_32_code 10 = .ok (.iload_n 1, 1) := de_X8_sums_0 (10, .iload_n 1, 1) (List.mem_of_getElem? (i := 4) rfl)
theorem d_X8_sums_11 : decode prog_10_method_32_code 11 = .ok (.ifCond .eq 35, 3) := de_X8_sums_0 (11, .ifCond .eq 35, 3) (List.mem_of_getElem? (i := 5) rfl)
theorem d_X8_sums_14 : decode prog_10_method_32_code 14 = .ok (.aload_n 0, 1) := de_X8_sums_0 (14, .aload_n 0, 1) (List.mem_of_getElem? (i := 6) rfl)
theorem d_X8_sums_15 : decode prog_10_method_32_code 15 = .ok (.invokevirtual 251, 3) := de_X8_sums_0 (15, .invokevirtual 251, 3) (List.mem_of_getElem? (i := 7) rfl)
theorem d_X8_sums_18 : decode prog_10_method_32_code 18 = .ok (.invokestatic 257, 3) := de_X8_sums_0 (18, .invokestatic 257, 3) (List.mem_of_getElem? (i := 8) rfl)
theorem d_X8_sums_21 : decode prog_10_method_32_code 21 = .ok (.ifCond .eq 25, 3) := de_X8_sums_0 (21, .ifCond .eq 25, 3) (List.mem_of_getElem? (i := 9) rfl)
theorem d_X8_sums_24 : decode prog_10_method_32_code 24 = .ok (.aload_n 0, 1) := de_X8_sums_0 (24, .aload_n 0, 1) (List.mem_of_getElem? (i := 10) rfl)
theorem d_X8_sums_25 : decode prog_10_method_32_code 25 = .ok (.aload_n 0, 1) := de_X8_sums_0 (25, .aload_n 0, 1) (List.mem_of_getElem? (i := 11) rfl)
theorem d_X8_sums_26 : decode prog_10_method_32_code 26 = .ok (.invokevirtual 251, 3) := de_X8_sums_0 (26, .invokevirtual 251, 3) (List.mem_of_getElem? (i := 12) rfl)
theorem d_X8_sums_29 : decode prog_10_method_32_code 29 = .ok (.iconst 0, 1) := de_X8_sums_0 (29, .iconst 0, 1) (List.mem_of_getElem? (i := 13) rfl)
theorem d_X8_sums_30 : decode prog_10_method_32_code 30 = .ok (.invokevirtual 260, 3) := de_X8_sums_0 (30, .invokevirtual 260, 3) (List.mem_of_getElem? (i := 14) rfl)
theorem d_X8_sums_33 : decode prog_10_method_32_code 33 = .ok (.aload_n 0, 1) := de_X8_sums_0 (33, .aload_n 0, 1) (List.mem_of_getElem? (i := 15) rfl)
def ce_X8_sums_16 : List (Nat × Instr × Nat) := [(34, .dup, 1), (35, .getfield 224, 3), (38, .iconst 1, 1), (39, .isub, 1), (40, .putfield 224, 3), (43, .goto (-43), 3), (46, .return_, 1)]
theorem de_X8_sums_16 : ∀ q ∈ ce_X8_sums_16, decode prog_10_method_32_code q.1 = .ok (q.2.1, q.2.2) := by decide +kernel
theorem d_X8_sums_34 : decode prog_10_method_32_code 34 = .ok (.dup, 1) := de_X8_sums_16 (34, .dup, 1) (List.mem_of_getElem? (i := 0) rfl)
theorem d_X8_sums_35 : decode prog_10_method_32_code 35 = .ok (.getfield 224, 3) := de_X8_sums_16 (35, .getfield 224, 3) (List.mem_of_getElem? (i := 1) rfl)
theorem d_X8_sums_38 : decode prog_10_method_32_code 38 = .ok (.iconst 1, 1) := de_X8_sums_16 (38, .iconst 1, 1) (List.mem_of_getElem? (i := 2) rfl)
theorem d_X8_sums_39 : decode prog_10_method_32_code 39 = .ok (.isub, 1) := de_X8_sums_16 (39, .isub, 1) (List.mem_of_getElem? (i := 3) rfl)
theorem d_X8_sums_40 : decode prog_10_method_32_code 40 = .ok (.putfield 224, 3) := de_X8_sums_16 (40, .putfield 224, 3) (List.mem_of_getElem? (i := 4) rfl)
theorem d_X8_sums_43 : decode prog_10_method_32_code 43 = .ok (.goto (-43), 3) := de_X8_sums_16 (43, .goto (-43), 3) (List.mem_of_getElem? (i := 5) rfl)
theorem d_X8_sums_46 : decode prog_10_method_32_code 46 = .ok (.return_, 1) := de_X8_sums_16 (46, .return_, 1) (List.mem_of_getElem? (i := 6) rfl)
def ce_X8_joins_0 : List (Nat × Instr × Nat) := [(0, .aload_n 0, 1), (1, .invokevirtual 251, 3), (4, .bipush 38, 2), (6, .if_icmp .eq 16, 3), (9, .iload_n 1, 1), (10, .ifCond .eq 34, 3), (13, .aload_n 0, 1), (14, .invokevirtual 251, 3), (17, .bipush 124, 2), (19, .if_icmp .ne 25, 3), (22, .aload_n 0, 1), (23, .aload_n 0, 1), (24, .invokevirtual 251, 3), (27, .iconst 0, 1), (28, .invokevirtual 260, 3), (31, .aload_n 0, 1)]
theorem de_X8_joins_0 : ∀ q ∈ ce_X8_joins_0, decode prog_10_method_33_code q.1 = .ok (q.2.1, q.2.2) := by decide +kernel
theorem d_X8_joins_0 : decode prog_10_method_33_code 0 = .ok (.aload_n 0, 1) := de_X8_joins_0 (0, .aload_n 0, 1) (List.mem_of_getElem? (i := 0) rfl)
theorem d_X8_joins_1 : decode prog_10_method_33_code 1 = .ok (.invokevirtual 251, 3) := de_X8_joins_0 (1, .invokevirtual 251, 3) (List.mem_of_getElem? (i := 1) rfl)
theorem d_X8_joins_4 : decode prog_10_method_33_code 4 = .ok (.bipush 38, 2) := de_X8_joins_0 (4, .bipush 38, 2) (List.mem_of_getElem? (i := 2) rfl)
theorem d_X8_joins_6 : decode prog_10_method_33_code 6 = .ok (.if_icmp .eq 16, 3) := de_X8_joins_0 (6, .if_icmp .eq 16, 3) (List.mem_of_getElem? (i := 3) rfl)
theorem d_X8_joins_9 : decode prog_10_method_33_code 9 = .ok (.iload_n 1, 1) := de_X8_joins_0 (9, .iload_n 1, 1) (List.mem_of_getElem? (i := 4) rfl)
theorem d_X8_joins_10 : decode prog_10_method_33_code 10 = .ok (.ifCond .eq 34, 3) := de_X8_joins_0 (10, .ifCond .eq 34, 3) (List.mem_of_getElem? (i := 5) rfl)
theorem d_X8_joins_13 : decode prog_10_method_33_code 13 = .ok (.aload_n 0, 1) := de_X8_joins_0 (13, .aload_n 0, 1) (List.mem_of_getElem? (i := 6) rfl)
theorem d_X8_joins_14 : decode prog_10_method_33_code 14 = .ok (.invokevirtual 251, 3) := de_X8_joins_0 (14, .invokevirtual 251, 3) (List.mem_of_getElem? (i := 7) rfl)
theorem d_X8_joins_17 : decode prog_10_method_33_code 17 = .ok (.bipush 124, 2) := de_X8_joins_0 (17, .bipush 124, 2) (List.mem_of_getElem? (i := 8) rfl)
theorem d_X8_joins_19 : decode prog_10_method_33_code 19 = .ok (.if_icmp .ne 25, 3) := de_X8_joins_0 (19, .if_icmp .ne 25, 3) (List.mem_of_getElem? (i := 9) rfl)
theorem d_X8_joins_22 : decode prog_10_method_33_code 22 = .ok (.aload_n 0, 1) := de_X8_joins_0 (22, .aload_n 0, 1) (List.mem_of_getElem? (i := 10) rfl)
theorem d_X8_joins_23 : decode prog_10_method_33_code 23 = .ok (.aload_n 0, 1) := de_X8_joins_0 (23, .aload_n 0, 1) (List.mem_of_getElem? (i := 11) rfl)
theorem d_X8_joins_24 : decode prog_10_method_33_code 24 = .ok (.invokevirtual 251, 3) := de_X8_joins_0 (24, .invokevirtual 251, 3) (List.mem_of_getElem? (i := 12) rfl)
theorem d_X8_joins_27 : decode prog_10_method_33_code 27 = .ok (.iconst 0, 1) := de_X8_joins_0 (27, .iconst 0, 1) (List.mem_of_getElem? (i := 13) rfl)
theorem d_X8_joins_28 : decode prog_10_method_33_code 28 = .ok (.invokevirtual 260, 3) := de_X8_joins_0 (28, .invokevirtual 260, 3) (List.mem_of_getElem? (i := 14) rfl)
theorem d_X8_joins_31 : decode prog_10_method_33_code 31 = .ok (.aload_n 0, 1) := de_X8_joins_0 (31, .aload_n 0, 1) (List.mem_of_getElem? (i := 15) rfl)
def ce_X8_joins_16 : List (Nat × Instr × Nat) := [(32, .dup, 1), (33, .getfield 224, 3), (36, .iconst 1, 1), (37, .isub, 1), (38, .putfield 224, 3), (41, .goto (-41), 3), (44, .return_, 1)]
theorem de_X8_joins_16 : ∀ q ∈ ce_X8_joins_16, decode prog_10_method_33_code q.1 = .ok (q.2.1, q.2.2) := by decide +kernel
theorem d_X8_joins_32 : decode prog_10_method_33_code 32 = .ok (.dup, 1) := de_X8_joins_16 (32, .dup, 1) (List.mem_of_getElem? (i := 0) rfl)
theorem d_X8_joins_33 : decode prog_10_method_33_code 33 = .ok (.getfield 224, 3) := de_X8_joins_16 (33, .getfield 224, 3) (List.mem_of_getElem? (i := 1) rfl)
theorem d_X8_joins_36 : decode prog_10_method_33_code 36 = .ok (.iconst 1, 1) := de_X8_joins_16 (36, .iconst 1, 1) (List.mem_of_getElem? (i := 2) rfl)
theorem d_X8_joins_37 : decode prog_10_method_33_code 37 = .ok (.isub, 1) := de_X8_joins_16 (37, .isub, 1) (List.mem_of_getElem? (i := 3) rfl)
theorem d_X8_joins_38 : decode prog_10_method_33_code 38 = .ok (.putfield 224, 3) := de_X8_joins_16 (38, .putfield 224, 3) (List.mem_of_getElem? (i := 4) rfl)
theorem d_X8_joins_41 : decode prog_10_method_33_code 41 = .ok (.goto (-41), 3) := de_X8_joins_16 (41, .goto (-41), 3) (List.mem_of_getElem? (i := 5) rfl)
theorem d_X8_joins_44 : decode prog_10_method_33_code 44 = .ok (.return_, 1) := de_X8_joins_16 (44, .return_, 1) (List.mem_of_getElem? (i := 6) rfl)
def ce_X8_ends_0 : List (Nat × Instr × Nat) := [(0, .aload_n 0, 1), (1, .invokevirtual 251, 3), (4, .bipush 33, 2), (6, .if_icmp .ne 32, 3), (9, .aload_n 0, 1), (10, .iconst 2, 1), (11, .iconst 0, 1), (12, .invokevirtual 260, 3), (15, .aload_n 0, 1), (16, .dup, 1), (17, .getfield 224, 3), (20, .iconst 1, 1), (21, .isub, 1), (22, .putfield 224, 3), (25, .aload_n 0, 1), (26, .dup, 1)]
theorem de_X8_ends_0 : ∀ q ∈ ce_X8_ends_0, decode prog_10_method_34_code q.1 = .ok (q.2.1, q.2.2) := by decide +kernel
theorem d_X8_ends_0 : decode prog_10_method_34_code 0 = .ok (.aload_n 0, 1) := de_X8_ends_0 (0, .aload_n 0, 1) (List.mem_of_getElem? (i := 0) rfl)
theorem d_X8_ends_1 : decode prog_10_method_34_code 1 = .ok (.invokevirtual 251, 3) := de_X8_ends_0 (1, .invokevirtual 251, 3) (List.mem_of_getElem? (i := 1) rfl)
theorem d_X8_ends_4 : decode prog_10_method_34_code 4 = .ok (.bipush 33, 2) := de_X8_ends_0 (4, .bipush 33, 2) (List.mem_of_getElem? (i := 2) rfl)
theorem d_X8_ends_6 : decode prog_10_method_34_code 6 = .ok (.if_icmp .ne 32, 3) := de_X8_ends_0 (6, .if_icmp .ne 32, 3) (List.mem_of_getElem? (i := 3) rfl)
theorem d_X8_ends_9 : decode prog_10_method_34_code 9 = .ok (.aload_n 0, 1) := de_X8_ends_0 (9, .aload_n 0, 1) (List.mem_of_getElem? (i := 4) rfl)
theorem d_X8_ends_10 : decode prog_10_method_34_code 10 = .ok (.iconst 2, 1) := de_X8_ends_0 (10, .iconst 2, 1) (List.mem_of_getElem? (i := 5) rfl)
theorem d_X8_ends_11 : decode prog_10_method_34_code 11 = .ok (.iconst 0, 1) := de_X8_ends_0 (11, .iconst 0, 1) (List.mem_of_getElem? (i := 6) rfl)
theorem d_X8_ends_12 : decode prog_10_method_34_code 12 = .ok (.invokevirtual 260, 3) := de_X8_ends_0 (12, .invokevirtual 260, 3) (List.mem_of_getElem? (i := 7) rfl)
theorem d_X8_ends_15 : decode prog_10_method_34_code 15 = .ok (.aload_n 0, 1) := de_X8_ends_0 (15, .aload_n 0, 1) (List.mem_of_getElem? (i := 8) rfl)
theorem d_X8_ends_16 : decode prog_10_method_34_code 16 = .ok (.dup, 1) := de_X8_ends_0 (16, .dup, 1) (List.mem_of_getElem? (i := 9) rfl)
theorem d_X8_ends_17 : decode prog_10_method_34_code 17 = .ok (.getfield 224, 3) := de_X8_ends_0 (17, .getfield 224, 3) (List.mem_of_getElem? (i := 10) rfl)
theorem d_X8_ends_20 : decode prog_10_method_34_code 20 = .ok (.iconst 1, 1) := de_X8_ends_0 (20, .iconst 1, 1) (List.mem_of_getElem? (i := 11) rfl)
theorem d_X8_ends_21 : decode prog_10_method_34_code 21 = .ok (.isub, 1) := de_X8_ends_0 (21, .isub, 1) (List.mem_of_getElem? (i := 12) rfl)
theorem d_X8_ends_22 : decode prog_10_method_34_code 22 = .ok (.putfield 224, 3) := de_X8_ends_0 (22, .putfield 224, 3) (List.mem_of_getElem? (i := 13) rfl)
theorem d_X8_ends_25 : decode prog_10_method_34_code 25 = .ok (.aload_n 0, 1) := de_X8_ends_0 (25, .aload_n 0, 1) (List.mem_of_getElem? (i := 14) rfl)
theorem d_X8_ends_26 : decode prog_10_method_34_code 26 = .ok (.dup, 1) := de_X8_ends_0 (26, .dup, 1) (List.mem_of_getElem? (i := 15) rfl)
def ce_X8_ends_16 : List (Nat × Instr × Nat) := [(27, .getfield 227, 3), (30, .iconst 1, 1), (31, .isub, 1), (32, .putfield 227, 3), (35, .goto (-35), 3), (38, .return_, 1)]
theorem de_X8_ends_16 : ∀ q ∈ ce_X8_ends_16, decode prog_10_method_34_code q.1 = .ok (q.2.1, q.2.2) := by decide +kernel
theorem d_X8_ends_27 : decode prog_10_method_34_code 27 = .ok (.getfield 227, 3) := de_X8_ends_16 (27, .getfield 227, 3) (List.mem_of_getElem? (i := 0) rfl)
theorem d_X8_ends_30 : decode prog_10_method_34_code 30 = .ok (.iconst 1, 1) := de_X8_ends_16 (30, .iconst 1, 1) (List.mem_of_getElem? (i := 1) rfl)
theorem d_X8_ends_31 : decode prog_10_method_34_code 31 = .ok (.isub, 1) := de_X8_ends_16 (31, .isub, 1) (List.mem_of_getElem? (i := 2) rfl)
theorem d_X8_ends_32 : decode prog_10_method_34_code 32 = .ok (.putfield 227, 3) := de_X8_ends_16 (32, .putfield 227, 3) (List.mem_of_getElem? (i := 3) rfl)
theorem d_X8_ends_35 : decode prog_10_method_34_code 35 = .ok (.goto (-35), 3) := de_X8_ends_16 (35, .goto (-35), 3) (List.mem_of_getElem? (i := 4) rfl)
theorem d_X8_ends_38 : decode prog_10_method_34_code 38 = .ok (.return_, 1) := de_X8_ends_16 (38, .return_, 1) (List.mem_of_getElem? (i := 5) rfl)
def ce_X8_factor_0 : List (Nat × Instr × Nat) := [(0, .aload_n 0, 1), (1, .invokevirtual 217, 3), (4, .ifCond .eq 19, 3), (7, .aload_n 0, 1), (8, .invokevirtual 234, 3), (11, .bipush 91, 2), (13, .if_icmp .ne 10, 3), (16, .aload_n 0, 1), (17, .invokevirtual 263, 3), (20, .goto (-20), 3), (23, .aload_n 0, 1), (24, .invokevirtual 217, 3), (27, .ifCond .ne 4, 3), (30, .return_, 1), (31, .aload_n 0, 1), (32, .invokevirtual 245, 3)]
theorem de_X8_factor_0 : ∀ q ∈ ce_X8_factor_0, decode prog_10_method_35_code q.1 = .ok (q.2.1, q.2.2) := by decide +kernel
theorem d_X8_factor_0 : decode prog_10_method_35_code 0 = .ok (.aload_n 0, 1) := de_X8_factor_0 (0, .aload_n 0, 1) (List.mem_of_getElem? (i := 0) rfl)
theorem d_X8_factor_1 : decode prog_10_method_35_code 1 = .ok (.invokevirtual 217, 3) := de_X8_factor_0 (1, .invokevirtual 217, 3) (List.mem_of_getElem? (i := 1) rfl)
theorem d_X8_factor_4 : decode prog_10_method_35_code 4 = .ok (.ifCond .eq 19, 3) := de_X8_factor_0 (4, .ifCond .eq 19, 3) (List.mem_of_getElem? (i := 2) rfl)
theorem d_X8_factor_7 : decode prog_10_method_35_code 7 = .ok (.aload_n 0, 1) := de_X8_factor_0 (7, .aload_n 0, 1) (List.mem_of_getElem? (i := 3) rfl)
theorem d_X8_factor_8 : decode prog_10_method_35_code 8 = .ok (.invokevirtual 234, 3) := de_X8_factor_0 (8, .invokevirtual 234, 3) (List.mem_of_getElem? (i := 4) rfl)
theorem d_X8_factor_11 : decode prog_10_method_35_code 11 = .ok (.bipush 91, 2) := de_X8_factor_0 (11, .bipush 91, 2) (List.mem_of_getElem? (i := 5) rfl)
theorem d_X8_factor_13 : decode prog_10_method_35_code 13 = .ok (.if_icmp .ne 10, 3) := de_X8_factor_0 (13, .if_icmp .ne 10, 3) (List.mem_of_getElem? (i := 6) rfl)
theorem d_X8_factor_16 : decode prog_10_method_35_code 16 = .ok (.aload_n 0, 1) := de_X8_factor_0 (16, .aload_n 0, 1) (List.mem_of_getElem? (i := 7) rfl)
theorem d_X8_factor_17 : decode prog_10_method_35_code 17 = .ok (.invokevirtual 263, 3) := de_X8_factor_0 (17, .invokevirtual 263, 3) (List.mem_of_getElem? (i := 8) rfl)
theorem d_X8_factor_20 : decode prog_10_method_35_code 20 = .ok (.goto (-20), 3) := de_X8_factor_0 (20, .goto (-20), 3) (List.mem_of_getElem? (i := 9) rfl)
theorem d_X8_factor_23 : decode prog_10_method_35_code 23 = .ok (.aload_n 0, 1) := de_X8_factor_0 (23, .aload_n 0, 1) (List.mem_of_getElem? (i := 10) rfl)
theorem d_X8_factor_24 : decode prog_10_method_35_code 24 = .ok (.invokevirtual 217, 3) := de_X8_factor_0 (24, .invokevirtual 217, 3) (List.mem_of_getElem? (i := 11) rfl)
theorem d_X8_factor_27 : decode prog_10_method_35_code 27 = .ok (.ifCond .ne 4, 3) := de_X8_factor_0 (27, .ifCond .ne 4, 3) (List.mem_of_getElem? (i := 12) rfl)
theorem d_X8_factor_30 : decode prog_10_method_35_code 30 = .ok (.return_, 1) := de_X8_factor_0 (30, .return_, 1) (List.mem_of_getElem? (i := 13) rfl)
theorem d_X8_factor_31 : decode prog_10_method_35_code 31 = .ok (.aload_n 0, 1) := de_X8_factor_0 (31, .aload_n 0, 1) (List.mem_of_getElem? (i := 14) rfl)
theorem d_X8_factor_32 : decode prog_10_method_35_code 32 = .ok (.invokevirtual 245, 3) := de_X8_factor_0 (32, .invokevirtual 245, 3) (List.mem_of_getElem? (i := 15) rfl)
def ce_X8_factor_16 : List (Nat × Instr × Nat) := [(35, .ifCond .eq 15, 3), (38, .aload_n 0, 1), (39, .iconst 0, 1), (40, .aload_n 0, 1), (41, .invokevirtual 266, 3), (44, .invokevirtual 260, 3), (47, .goto 44, 3), (50, .aload_n 0, 1), (51, .invokevirtual 234, 3), (54, .invokestatic 269, 3), (57, .ifCond .eq 25, 3), (60, .aload_n 0, 1), (61, .iconst 1, 1), (62, .aload_n 0, 1), (63, .invokevirtual 234, 3), (66, .invokevirtual 260, 3)]
theorem de_X8_factor_16 : ∀ q ∈ ce_X8_factor_16, decode prog_10_method_35_code q.1 = .ok (q.2.1, q.2.2) := by decide +kernel
theorem d_X8_factor_35 : decode prog_10_method_35_code 35 = .ok (.ifCond .eq 15, 3) := de_X8_factor_16 (35, .ifCond .eq 15, 3) (List.mem_of_getElem? (i := 0) rfl)
theorem d_X8_factor_38 : decode prog_10_method_35_code 38 = .ok (.aload_n 0, 1) := de_X8_factor_16 (38, .aload_n 0, 1) (List.mem_of_getElem? (i := 1) rfl)
theorem d_X8_factor_39 : decode prog_10_method_35_code 39 = .ok (.iconst 0, 1) := de_X8_factor_16 (39, .iconst 0, 1) (List.mem_of_getElem? (i := 2) rfl)
theorem d_X8_factor_40 : decode prog_10_method_35_code 40 = .ok (.aload_n 0, 1) := de_X8_factor_16 (40, .aload_n 0, 1) (List.mem_of_getElem? (i := 3) rfl)
theorem d_X8_factor_41 : decode prog_10_method_35_code 41 = .ok (.invokevirtual 266, 3) := de_X8_factor_16 (41, .invokevirtual 266, 3) (List.mem_of_getElem? (i := 4) rfl)
theorem d_X8_factor_44 : decode prog_10_method_35_code 44 = .ok (.invokevirtual 260, 3) := de_X8_factor_16 (44, .invokevirtual 260, 3) (List.mem_of_getElem? (i := 5) rfl)
theorem d_X8_factor_47 : decode prog_10_method_35_code 47 = .ok (.goto 44, 3) := de_X8_factor_16 (47, .goto 44, 3) (List.mem_of_getElem? (i := 6) rfl)
theorem d_X8_factor_50 : decode prog_10_method_35_code 50 = .ok (.aload_n 0, 1) := de_X8_factor_16 (50, .aload_n 0, 1) (List.mem_of_getElem? (i := 7) rfl)
theorem d_X8_factor_51 : decode prog_10_method_35_code 51 = .ok (.invokevirtual 234, 3) := de_X8_factor_16 (51, .invokevirtual 234, 3) (List.mem_of_getElem? (i := 8) rfl)
theorem d_X8_factor_54 : decode prog_10_method_35_code 54 = .ok (.invokestatic 269, 3) := de_X8_factor_16 (54, .invokestatic 269, 3) (List.mem_of_getElem? (i := 9) rfl)
theorem d_X8_factor_57 : decode prog_10_method_35_code 57 = .ok (.ifCond .eq 25, 3) := de_X8_factor_16 (57, .ifCond .eq 25, 3) (List.mem_of_getElem? (i := 10) rfl)
theorem d_X8_factor_60 : decode prog_10_method_35_code 60 = .ok (.aload_n 0, 1) := de_X8_factor_16 (60, .aload_n 0, 1) (List.mem_of_getElem? (i := 11) rfl)
theorem d_X8_factor_61 : decode prog_10_method_35_code 61 = .ok (.iconst 1, 1) := de_X8_factor_16 (61, .iconst 1, 1) (List.mem_of_getElem? (i := 12) rfl)
theorem d_X8_factor_62 : decode prog_10_method_35_code 62 = .ok (.aload_n 0, 1) := de_X8_factor_16 (62, .aload_n 0, 1) (List.mem_of_getElem? (i := 13) rfl)
theorem d_X8_factor_63 : decode prog_10_method_35_code 63 = .ok (.invokevirtual 234, 3) := de_X8_factor_16 (63, .invokevirtual 234, 3) (List.mem_of_getElem? (i := 14) rfl)
theorem d_X8_factor_66 : decode prog_10_method_35_code 66 = .ok (.invokevirtual 260, 3) := de_X8_factor_16 (66, .invokevirtual 260, 3) (List.mem_of_getElem? (i := 15) rfl)
def ce_X8_factor_32 : List (Nat × Instr × Nat) := [(69, .aload_n 0, 1), (70, .dup, 1), (71, .getfield 208, 3), (74, .iconst 1, 1), (75, .iadd, 1), (76, .putfield 208, 3), (79, .goto 12, 3), (82, .aload_n 0, 1), (83, .iconst 1, 1), (84, .aload_n 0, 1), (85, .getfield 208, 3), (88, .invokevirtual 230, 3), (91, .return_, 1)]
theorem de_X8_factor_32 : ∀ q ∈ ce_X8_factor_32, decode prog_10_method_35_code q.1 = .ok (q.2.1, q.2.2) := by decide +kernel
theorem d_X8_factor_69 : decode prog_10_method_35_code 69 = .ok (.aload_n 0, 1) := de_X8_factor_32 (69, .aload_n 0, 1) (List.mem_of_getElem? (i := 0) rfl)
theorem d_X8_factor_70 : decode prog_10_method_35_code 70 = .ok (.dup, 1) := de_X8_factor_32 (70, .dup, 1) (List.mem_of_getElem? (i := 1) rfl)
theorem d_X8_factor_71 : decode prog_10_method_35_code 71 = .ok (.getfield 208, 3) := de_X8_factor_32 (71, .getfield 208, 3) (List.mem_of_getElem? (i := 2) rfl)
theorem d_X8_factor_74 : decode prog_10_method_35_code 74 = .ok (.iconst 1, 1) := de_X8_factor_32 (74, .iconst 1, 1) (List.mem_of_getElem? (i := 3) rfl)
theorem d_X8_factor_75 : decode prog_10_method_35_code 75 = .ok (.iadd, 1) := de_X8_factor_32 (75, .iadd, 1) (List.mem_of_getElem? (i := 4) rfl)
theorem d_X8_factor_76 : decode prog_10_method_35_code 76 = .ok (.putfield 208, 3) := de_X8_factor_32 (76, .putfield 208, 3) (List.mem_of_getElem? (i := 5) rfl)
theorem d_X8_factor_79 : decode prog_10_method_35_code 79 = .ok (.goto 12, 3) := de_X8_factor_32 (79, .goto 12, 3) (List.mem_of_getElem? (i := 6) rfl)
theorem d_X8_factor_82 : decode prog_10_method_35_code 82 = .ok (.aload_n 0, 1) := de_X8_factor_32 (82, .aload_n 0, 1) (List.mem_of_getElem? (i := 7) rfl)
theorem d_X8_factor_83 : decode prog_10_method_35_code 83 = .ok (.iconst 1, 1) := de_X8_factor_32 (83, .iconst 1, 1) (List.mem_of_getElem? (i := 8) rfl)
theorem d_X8_factor_84 : decode prog_10_method_35_code 84 = .ok (.aload_n 0, 1) := de_X8_factor_32 (84, .aload_n 0, 1) (List.mem_of_getElem? (i := 9) rfl)
theorem d_X8_factor_85 : decode prog_10_method_35_code 85 = .ok (.getfield 208, 3) := de_X8_factor_32 (85, .getfield 208, 3) (List.mem_of_getElem? (i := 10) rfl)
theorem d_X8_factor_88 : decode prog_10_method_35_code 88 = .ok (.invokevirtual 230, 3) := de_X8_factor_32 (88, .invokevirtual 230, 3) (List.mem_of_getElem? (i := 11) rfl)
theorem d_X8_factor_91 : decode prog_10_method_35_code 91 = .ok (.return_, 1) := de_X8_factor_32 (91, .return_, 1) (List.mem_of_getElem? (i := 12) rfl)
def ce_X8_stays_0 : List (Nat × Instr × Nat) := [(0, .aload_n 0, 1), (1, .invokevirtual 234, 3), (4, .istore_n 1, 1), (5, .iload_n 1, 1), (6, .invokestatic 254, 3), (9, .ifCond .ne 10, 3), (12, .iload_n 1, 1), (13, .invokestatic 257, 3), (16, .ifCond .eq 18, 3), (19, .aload_n 0, 1), (20, .iload_n 1, 1), (21, .invokestatic 257, 3), (24, .invokevirtual 272, 3), (27, .aload_n 0, 1), (28, .iload_n 1, 1), (29, .invokevirtual 238, 3)]
theorem de_X8_stays_0 : ∀ q ∈ ce_X8_stays_0, decode prog_10_method_36_code q.1 = .ok (q.2.1, q.2.2) := by decide +kernel
theorem d_X8_stays_0 : decode prog_10_method_36_code 0 = .ok (.aload_n 0, 1) := de_X8_stays_0 (0, .aload_n 0, 1) (List.mem_of_getElem? (i := 0) rfl)
theorem d_X8_stays_1 : decode prog_10_method_36_code 1 = .ok (.invokevirtual 234, 3) := de_X8_stays_0 (1, .invokevirtual 234, 3) (List.mem_of_getElem? (i := 1) rfl)
theorem d_X8_stays_4 : decode prog_10_method_36_code 4 = .ok (.istore_n 1, 1) := de_X8_stays_0 (4, .istore_n 1, 1) (List.mem_of_getElem? (i := 2) rfl)
theorem d_X8_stays_5 : decode prog_10_method_36_code 5 = .ok (.iload_n 1, 1) := de_X8_stays_0 (5, .iload_n 1, 1) (List.mem_of_getElem? (i := 3) rfl)
theorem d_X8_stays_6 : decode prog_10_method_36_code 6 = .ok (.invokestatic 254, 3) := de_X8_stays_0 (6, .invokestatic 254, 3) (List.mem_of_getElem? (i := 4) rfl)
theorem d_X8_stays_9 : decode prog_10_method_36_code 9 = .ok (.ifCond .ne 10, 3) := de_X8_stays_0 (9, .ifCond .ne 10, 3) (List.mem_of_getElem? (i := 5) rfl)
theorem d_X8_stays_12 : decode prog_10_method_36_code 12 = .ok (.iload_n 1, 1) := de_X8_stays_0 (12, .iload_n 1, 1) (List.mem_of_getElem? (i := 6) rfl)
theorem d_X8_stays_13 : decode prog_10_method_36_code 13 = .ok (.invokestatic 257, 3) := de_X8_stays_0 (13, .invokestatic 257, 3) (List.mem_of_getElem? (i := 7) rfl)
theorem d_X8_stays_16 : decode prog_10_method_36_code 16 = .ok (.ifCond .eq 18, 3) := de_X8_stays_0 (16, .ifCond .eq 18, 3) (List.mem_of_getElem? (i := 8) rfl)
theorem d_X8_stays_19 : decode prog_10_method_36_code 19 = .ok (.aload_n 0, 1) := de_X8_stays_0 (19, .aload_n 0, 1) (List.mem_of_getElem? (i := 9) rfl)
theorem d_X8_stays_20 : decode prog_10_method_36_code 20 = .ok (.iload_n 1, 1) := de_X8_stays_0 (20, .iload_n 1, 1) (List.mem_of_getElem? (i := 10) rfl)
theorem d_X8_stays_21 : decode prog_10_method_36_code 21 = .ok (.invokestatic 257, 3) := de_X8_stays_0 (21, .invokestatic 257, 3) (List.mem_of_getElem? (i := 11) rfl)
theorem d_X8_stays_24 : decode prog_10_method_36_code 24 = .ok (.invokevirtual 272, 3) := de_X8_stays_0 (24, .invokevirtual 272, 3) (List.mem_of_getElem? (i := 12) rfl)
theorem d_X8_stays_27 : decode prog_10_method_36_code 27 = .ok (.aload_n 0, 1) := de_X8_stays_0 (27, .aload_n 0, 1) (List.mem_of_getElem? (i := 13) rfl)
theorem d_X8_stays_28 : decode prog_10_method_36_code 28 = .ok (.iload_n 1, 1) := de_X8_stays_0 (28, .iload_n 1, 1) (List.mem_of_getElem? (i := 14) rfl)
theorem d_X8_stays_29 : decode prog_10_method_36_code 29 = .ok (.invokevirtual 238, 3) := de_X8_stays_0 (29, .invokevirtual 238, 3) (List.mem_of_getElem? (i := 15) rfl)
def ce_X8_stays_16 : List (Nat × Instr × Nat) := [(32, .iconst 1, 1), (33, .ireturn, 1), (34, .aload_n 0, 1), (35, .iconst 1, 1), (36, .invokevirtual 272, 3), (39, .iload_n 1, 1), (40, .bipush 93, 2), (42, .if_icmp .eq 5, 3), (45, .iconst 0, 1), (46, .ireturn, 1), (47, .aload_n 0, 1), (48, .invokevirtual 251, 3), (51, .bipush 91, 2), (53, .if_icmp .eq 14, 3), (56, .aload_n 0, 1), (57, .iconst 1, 1)]
theorem de_X8_stays_16 : ∀ q ∈ ce_X8_stays_16, decode prog_10_method_36_code q.1 = .ok (q.2.1, q.2.2) := by decide +kernel
theorem d_X8_stays_32 : decode prog_10_method_36_code 32 = .ok (.iconst 1, 1) := de_X8_stays_16 (32, .iconst 1, 1) (List.mem_of_getElem? (i := 0) rfl)
theorem d_X8_stays_33 : decode prog_10_method_36_code 33 = .ok (.ireturn, 1) := de_X8_stays_16 (33, .ireturn, 1) (List.mem_of_getElem? (i := 1) rfl)
theorem d_X8_stays_34 : decode prog_10_method_36_code 34 = .ok (.aload_n 0, 1) := de_X8_stays_16 (34, .aload_n 0, 1) (List.mem_of_getElem? (i := 2) rfl)
theorem d_X8_stays_35 : decode prog_10_method_36_code 35 = .ok (.iconst 1, 1) := de_X8_stays_16 (35, .iconst 1, 1) (List.mem_of_getElem? (i := 3) rfl)
theorem d_X8_stays_36 : decode prog_10_method_36_code 36 = .ok (.invokevirtual 272, 3) := de_X8_stays_16 (36, .invokevirtual 272, 3) (List.mem_of_getElem? (i := 4) rfl)
theorem d_X8_stays_39 : decode prog_10_method_36_code 39 = .ok (.iload_n 1, 1) := de_X8_stays_16 (39, .iload_n 1, 1) (List.mem_of_getElem? (i := 5) rfl)
theorem d_X8_stays_40 : decode prog_10_method_36_code 40 = .ok (.bipush 93, 2) := de_X8_stays_16 (40, .bipush 93, 2) (List.mem_of_getElem? (i := 6) rfl)
theorem d_X8_stays_42 : decode prog_10_method_36_code 42 = .ok (.if_icmp .eq 5, 3) := de_X8_stays_16 (42, .if_icmp .eq 5, 3) (List.mem_of_getElem? (i := 7) rfl)
theorem d_X8_stays_45 : decode prog_10_method_36_code 45 = .ok (.iconst 0, 1) := de_X8_stays_16 (45, .iconst 0, 1) (List.mem_of_getElem? (i := 8) rfl)
theorem d_X8_stays_46 : decode prog_10_method_36_code 46 = .ok (.ireturn, 1) := de_X8_stays_16 (46, .ireturn, 1) (List.mem_of_getElem? (i := 9) rfl)
theorem d_X8_stays_47 : decode prog_10_method_36_code 47 = .ok (.aload_n 0, 1) := de_X8_stays_16 (47, .aload_n 0, 1) (List.mem_of_getElem? (i := 10) rfl)
theorem d_X8_stays_48 : decode prog_10_method_36_code 48 = .ok (.invokevirtual 251, 3) := de_X8_stays_16 (48, .invokevirtual 251, 3) (List.mem_of_getElem? (i := 11) rfl)
theorem d_X8_stays_51 : decode prog_10_method_36_code 51 = .ok (.bipush 91, 2) := de_X8_stays_16 (51, .bipush 91, 2) (List.mem_of_getElem? (i := 12) rfl)
theorem d_X8_stays_53 : decode prog_10_method_36_code 53 = .ok (.if_icmp .eq 14, 3) := de_X8_stays_16 (53, .if_icmp .eq 14, 3) (List.mem_of_getElem? (i := 13) rfl)
theorem d_X8_stays_56 : decode prog_10_method_36_code 56 = .ok (.aload_n 0, 1) := de_X8_stays_16 (56, .aload_n 0, 1) (List.mem_of_getElem? (i := 14) rfl)
theorem d_X8_stays_57 : decode prog_10_method_36_code 57 = .ok (.iconst 1, 1) := de_X8_stays_16 (57, .iconst 1, 1) (List.mem_of_getElem? (i := 15) rfl)
def ce_X8_stays_32 : List (Nat × Instr × Nat) := [(58, .aload_n 0, 1), (59, .getfield 208, 3), (62, .invokevirtual 230, 3), (65, .iconst 0, 1), (66, .ireturn, 1), (67, .aload_n 0, 1), (68, .dup, 1), (69, .getfield 224, 3), (72, .iconst 1, 1), (73, .isub, 1), (74, .putfield 224, 3), (77, .aload_n 0, 1), (78, .dup, 1), (79, .getfield 227, 3), (82, .iconst 1, 1), (83, .isub, 1)]
theorem de_X8_stays_32 : ∀ q ∈ ce_X8_stays_32, decode prog_10_method_36_code q.1 = .ok (q.2.1, q.2.2) := by decide +kernel
theorem d_X8_stays_58 : decode prog_10_method_36_code 58 = .ok (.aload_n 0, 1) := de_X8_stays_32 (58, .aload_n 0, 1) (List.mem_of_getElem? (i := 0) rfl)
theorem d_X8_stays_59 : decode prog_10_method_36_code 59 = .ok (.getfield 208, 3) := de_X8_stays_32 (59, .getfield 208, 3) (List.mem_of_getElem? (i := 1) rfl)
theorem d_X8_stays_62 : decode prog_10_method_36_code 62 = .ok (.invokevirtual 230, 3) := de_X8_stays_32 (62, .invokevirtual 230, 3) (List.mem_of_getElem? (i := 2) rfl)
theorem d_X8_stays_65 : decode prog_10_method_36_code 65 = .ok (.iconst 0, 1) := de_X8_stays_32 (65, .iconst 0, 1) (List.mem_of_getElem? (i := 3) rfl)
theorem d_X8_stays_66 : decode prog_10_method_36_code 66 = .ok (.ireturn, 1) := de_X8_stays_32 (66, .ireturn, 1) (List.mem_of_getElem? (i := 4) rfl)
theorem d_X8_stays_67 : decode prog_10_method_36_code 67 = .ok (.aload_n 0, 1) := de_X8_stays_32 (67, .aload_n 0, 1) (List.mem_of_getElem? (i := 5) rfl)
theorem d_X8_stays_68 : decode prog_10_method_36_code 68 = .ok (.dup, 1) := de_X8_stays_32 (68, .dup, 1) (List.mem_of_getElem? (i := 6) rfl)
theorem d_X8_stays_69 : decode prog_10_method_36_code 69 = .ok (.getfield 224, 3) := de_X8_stays_32 (69, .getfield 224, 3) (List.mem_of_getElem? (i := 7) rfl)
theorem d_X8_stays_72 : decode prog_10_method_36_code 72 = .ok (.iconst 1, 1) := de_X8_stays_32 (72, .iconst 1, 1) (List.mem_of_getElem? (i := 8) rfl)
theorem d_X8_stays_73 : decode prog_10_method_36_code 73 = .ok (.isub, 1) := de_X8_stays_32 (73, .isub, 1) (List.mem_of_getElem? (i := 9) rfl)
theorem d_X8_stays_74 : decode prog_10_method_36_code 74 = .ok (.putfield 224, 3) := de_X8_stays_32 (74, .putfield 224, 3) (List.mem_of_getElem? (i := 10) rfl)
theorem d_X8_stays_77 : decode prog_10_method_36_code 77 = .ok (.aload_n 0, 1) := de_X8_stays_32 (77, .aload_n 0, 1) (List.mem_of_getElem? (i := 11) rfl)
theorem d_X8_stays_78 : decode prog_10_method_36_code 78 = .ok (.dup, 1) := de_X8_stays_32 (78, .dup, 1) (List.mem_of_getElem? (i := 12) rfl)
theorem d_X8_stays_79 : decode prog_10_method_36_code 79 = .ok (.getfield 227, 3) := de_X8_stays_32 (79, .getfield 227, 3) (List.mem_of_getElem? (i := 13) rfl)
theorem d_X8_stays_82 : decode prog_10_method_36_code 82 = .ok (.iconst 1, 1) := de_X8_stays_32 (82, .iconst 1, 1) (List.mem_of_getElem? (i := 14) rfl)
theorem d_X8_stays_83 : decode prog_10_method_36_code 83 = .ok (.isub, 1) := de_X8_stays_32 (83, .isub, 1) (List.mem_of_getElem? (i := 15) rfl)
def ce_X8_stays_48 : List (Nat × Instr × Nat) := [(84, .putfield 227, 3), (87, .aload_n 0, 1), (88, .dup, 1), (89, .getfield 208, 3), (92, .iconst 1, 1), (93, .iadd, 1), (94, .putfield 208, 3), (97, .aload_n 0, 1), (98, .iconst 1, 1), (99, .putfield 276, 3), (102, .iconst 1, 1), (103, .ireturn, 1)]
theorem de_X8_stays_48 : ∀ q ∈ ce_X8_stays_48, decode prog_10_method_36_code q.1 = .ok (q.2.1, q.2.2) := by decide +kernel
theorem d_X8_stays_84 : decode prog_10_method_36_code 84 = .ok (.putfield 227, 3) := de_X8_stays_48 (84, .putfield 227, 3) (List.mem_of_getElem? (i := 0) rfl)
theorem d_X8_stays_87 : decode prog_10_method_36_code 87 = .ok (.aload_n 0, 1) := de_X8_stays_48 (87, .aload_n 0, 1) (List.mem_of_getElem? (i := 1) rfl)
theorem d_X8_stays_88 : decode prog_10_method_36_code 88 = .ok (.dup, 1) := de_X8_stays_48 (88, .dup, 1) (List.mem_of_getElem? (i := 2) rfl)
theorem d_X8_stays_89 : decode prog_10_method_36_code 89 = .ok (.getfield 208, 3) := de_X8_stays_48 (89, .getfield 208, 3) (List.mem_of_getElem? (i := 3) rfl)
theorem d_X8_stays_92 : decode prog_10_method_36_code 92 = .ok (.iconst 1, 1) := de_X8_stays_48 (92, .iconst 1, 1) (List.mem_of_getElem? (i := 4) rfl)
theorem d_X8_stays_93 : decode prog_10_method_36_code 93 = .ok (.iadd, 1) := de_X8_stays_48 (93, .iadd, 1) (List.mem_of_getElem? (i := 5) rfl)
theorem d_X8_stays_94 : decode prog_10_method_36_code 94 = .ok (.putfield 208, 3) := de_X8_stays_48 (94, .putfield 208, 3) (List.mem_of_getElem? (i := 6) rfl)
theorem d_X8_stays_97 : decode prog_10_method_36_code 97 = .ok (.aload_n 0, 1) := de_X8_stays_48 (97, .aload_n 0, 1) (List.mem_of_getElem? (i := 7) rfl)
theorem d_X8_stays_98 : decode prog_10_method_36_code 98 = .ok (.iconst 1, 1) := de_X8_stays_48 (98, .iconst 1, 1) (List.mem_of_getElem? (i := 8) rfl)
theorem d_X8_stays_99 : decode prog_10_method_36_code 99 = .ok (.putfield 276, 3) := de_X8_stays_48 (99, .putfield 276, 3) (List.mem_of_getElem? (i := 9) rfl)
theorem d_X8_stays_102 : decode prog_10_method_36_code 102 = .ok (.iconst 1, 1) := de_X8_stays_48 (102, .iconst 1, 1) (List.mem_of_getElem? (i := 10) rfl)
theorem d_X8_stays_103 : decode prog_10_method_36_code 103 = .ok (.ireturn, 1) := de_X8_stays_48 (103, .ireturn, 1) (List.mem_of_getElem? (i := 11) rfl)
def ce_X8_value_0 : List (Nat × Instr × Nat) := [(0, .iconst 1, 1), (1, .istore_n 1, 1), (2, .aload_n 0, 1), (3, .iconst 0, 1), (4, .putfield 276, 3), (7, .iload_n 1, 1), (8, .ifCond .eq 49, 3), (11, .aload_n 0, 1), (12, .invokevirtual 217, 3), (15, .ifCond .eq 42, 3), (18, .aload_n 0, 1), (19, .getfield 276, 3), (22, .ifCond .ne 7, 3), (25, .aload_n 0, 1), (26, .invokevirtual 280, 3), (29, .aload_n 0, 1)]
theorem de_X8_value_0 : ∀ q ∈ ce_X8_value_0, decode prog_10_method_37_code q.1 = .ok (q.2.1, q.2.2) := by decide +kernel
theorem d_X8_value_0 : decode prog_10_method_37_code 0 = .ok (.iconst 1, 1) := de_X8_value_0 (0, .iconst 1, 1) (List.mem_of_getElem? (i := 0) rfl)
theorem d_X8_value_1 : decode prog_10_method_37_code 1 = .ok (.istore_n 1, 1) := de_X8_value_0 (1, .istore_n 1, 1) (List.mem_of_getElem? (i := 1) rfl)
theorem d_X8_value_2 : decode prog_10_method_37_code 2 = .ok (.aload_n 0, 1) := de_X8_value_0 (2, .aload_n 0, 1) (List.mem_of_getElem? (i := 2) rfl)
theorem d_X8_value_3 : decode prog_10_method_37_code 3 = .ok (.iconst 0, 1) := de_X8_value_0 (3, .iconst 0, 1) (List.mem_of_getElem? (i := 3) rfl)
theorem d_X8_value_4 : decode prog_10_method_37_code 4 = .ok (.putfield 276, 3) := de_X8_value_0 (4, .putfield 276, 3) (List.mem_of_getElem? (i := 4) rfl)
theorem d_X8_value_7 : decode prog_10_method_37_code 7 = .ok (.iload_n 1, 1) := de_X8_value_0 (7, .iload_n 1, 1) (List.mem_of_getElem? (i := 5) rfl)
theorem d_X8_value_8 : decode prog_10_method_37_code 8 = .ok (.ifCond .eq 49, 3) := de_X8_value_0 (8, .ifCond .eq 49, 3) (List.mem_of_getElem? (i := 6) rfl)
theorem d_X8_value_11 : decode prog_10_method_37_code 11 = .ok (.aload_n 0, 1) := de_X8_value_0 (11, .aload_n 0, 1) (List.mem_of_getElem? (i := 7) rfl)
theorem d_X8_value_12 : decode prog_10_method_37_code 12 = .ok (.invokevirtual 217, 3) := de_X8_value_0 (12, .invokevirtual 217, 3) (List.mem_of_getElem? (i := 8) rfl)
theorem d_X8_value_15 : decode prog_10_method_37_code 15 = .ok (.ifCond .eq 42, 3) := de_X8_value_0 (15, .ifCond .eq 42, 3) (List.mem_of_getElem? (i := 9) rfl)
theorem d_X8_value_18 : decode prog_10_method_37_code 18 = .ok (.aload_n 0, 1) := de_X8_value_0 (18, .aload_n 0, 1) (List.mem_of_getElem? (i := 10) rfl)
theorem d_X8_value_19 : decode prog_10_method_37_code 19 = .ok (.getfield 276, 3) := de_X8_value_0 (19, .getfield 276, 3) (List.mem_of_getElem? (i := 11) rfl)
theorem d_X8_value_22 : decode prog_10_method_37_code 22 = .ok (.ifCond .ne 7, 3) := de_X8_value_0 (22, .ifCond .ne 7, 3) (List.mem_of_getElem? (i := 12) rfl)
theorem d_X8_value_25 : decode prog_10_method_37_code 25 = .ok (.aload_n 0, 1) := de_X8_value_0 (25, .aload_n 0, 1) (List.mem_of_getElem? (i := 13) rfl)
theorem d_X8_value_26 : decode prog_10_method_37_code 26 = .ok (.invokevirtual 280, 3) := de_X8_value_0 (26, .invokevirtual 280, 3) (List.mem_of_getElem? (i := 14) rfl)
theorem d_X8_value_29 : decode prog_10_method_37_code 29 = .ok (.aload_n 0, 1) := de_X8_value_0 (29, .aload_n 0, 1) (List.mem_of_getElem? (i := 15) rfl)
def ce_X8_value_16 : List (Nat × Instr × Nat) := [(30, .iconst 0, 1), (31, .putfield 276, 3), (34, .aload_n 0, 1), (35, .invokevirtual 217, 3), (38, .ifCond .eq 14, 3), (41, .aload_n 0, 1), (42, .invokevirtual 283, 3), (45, .ifCond .eq 7, 3), (48, .iconst 1, 1), (49, .goto 4, 3), (52, .iconst 0, 1), (53, .istore_n 1, 1), (54, .goto (-47), 3), (57, .aload_n 0, 1), (58, .invokevirtual 217, 3), (61, .ifCond .eq 21, 3)]
theorem de_X8_value_16 : ∀ q ∈ ce_X8_value_16, decode prog_10_method_37_code q.1 = .ok (q.2.1, q.2.2) := by decide +kernel
theorem d_X8_value_30 : decode prog_10_method_37_code 30 = .ok (.iconst 0, 1) := de_X8_value_16 (30, .iconst 0, 1) (List.mem_of_getElem? (i := 0) rfl)
theorem d_X8_value_31 : decode prog_10_method_37_code 31 = .ok (.putfield 276, 3) := de_X8_value_16 (31, .putfield 276, 3) (List.mem_of_getElem? (i := 1) rfl)
theorem d_X8_value_34 : decode prog_10_method_37_code 34 = .ok (.aload_n 0, 1) := de_X8_value_16 (34, .aload_n 0, 1) (List.mem_of_getElem? (i := 2) rfl)
theorem d_X8_value_35 : decode prog_10_method_37_code 35 = .ok (.invokevirtual 217, 3) := de_X8_value_16 (35, .invokevirtual 217, 3) (List.mem_of_getElem? (i := 3) rfl)
theorem d_X8_value_38 : decode prog_10_method_37_code 38 = .ok (.ifCond .eq 14, 3) := de_X8_value_16 (38, .ifCond .eq 14, 3) (List.mem_of_getElem? (i := 4) rfl)
theorem d_X8_value_41 : decode prog_10_method_37_code 41 = .ok (.aload_n 0, 1) := de_X8_value_16 (41, .aload_n 0, 1) (List.mem_of_getElem? (i := 5) rfl)
theorem d_X8_value_42 : decode prog_10_method_37_code 42 = .ok (.invokevirtual 283, 3) := de_X8_value_16 (42, .invokevirtual 283, 3) (List.mem_of_getElem? (i := 6) rfl)
theorem d_X8_value_45 : decode prog_10_method_37_code 45 = .ok (.ifCond .eq 7, 3) := de_X8_value_16 (45, .ifCond .eq 7, 3) (List.mem_of_getElem? (i := 7) rfl)
theorem d_X8_value_48 : decode prog_10_method_37_code 48 = .ok (.iconst 1, 1) := de_X8_value_16 (48, .iconst 1, 1) (List.mem_of_getElem? (i := 8) rfl)
theorem d_X8_value_49 : decode prog_10_method_37_code 49 = .ok (.goto 4, 3) := de_X8_value_16 (49, .goto 4, 3) (List.mem_of_getElem? (i := 9) rfl)
theorem d_X8_value_52 : decode prog_10_method_37_code 52 = .ok (.iconst 0, 1) := de_X8_value_16 (52, .iconst 0, 1) (List.mem_of_getElem? (i := 10) rfl)
theorem d_X8_value_53 : decode prog_10_method_37_code 53 = .ok (.istore_n 1, 1) := de_X8_value_16 (53, .istore_n 1, 1) (List.mem_of_getElem? (i := 11) rfl)
theorem d_X8_value_54 : decode prog_10_method_37_code 54 = .ok (.goto (-47), 3) := de_X8_value_16 (54, .goto (-47), 3) (List.mem_of_getElem? (i := 12) rfl)
theorem d_X8_value_57 : decode prog_10_method_37_code 57 = .ok (.aload_n 0, 1) := de_X8_value_16 (57, .aload_n 0, 1) (List.mem_of_getElem? (i := 13) rfl)
theorem d_X8_value_58 : decode prog_10_method_37_code 58 = .ok (.invokevirtual 217, 3) := de_X8_value_16 (58, .invokevirtual 217, 3) (List.mem_of_getElem? (i := 14) rfl)
theorem d_X8_value_61 : decode prog_10_method_37_code 61 = .ok (.ifCond .eq 21, 3) := de_X8_value_16 (61, .ifCond .eq 21, 3) (List.mem_of_getElem? (i := 15) rfl)
def ce_X8_value_32 : List (Nat × Instr × Nat) := [(64, .aload_n 0, 1), (65, .invokevirtual 251, 3), (68, .bipush 91, 2), (70, .if_icmp .ne 12, 3), (73, .aload_n 0, 1), (74, .iconst 1, 1), (75, .aload_n 0, 1), (76, .getfield 208, 3), (79, .invokevirtual 230, 3), (82, .return_, 1)]
theorem de_X8_value_32 : ∀ q ∈ ce_X8_value_32, decode prog_10_method_37_code q.1 = .ok (q.2.1, q.2.2) := by decide +kernel
theorem d_X8_value_64 : decode prog_10_method_37_code 64 = .ok (.aload_n 0, 1) := de_X8_value_32 (64, .aload_n 0, 1) (List.mem_of_getElem? (i := 0) rfl)
theorem d_X8_value_65 : decode prog_10_method_37_code 65 = .ok (.invokevirtual 251, 3) := de_X8_value_32 (65, .invokevirtual 251, 3) (List.mem_of_getElem? (i := 1) rfl)
theorem d_X8_value_68 : decode prog_10_method_37_code 68 = .ok (.bipush 91, 2) := de_X8_value_32 (68, .bipush 91, 2) (List.mem_of_getElem? (i := 2) rfl)
theorem d_X8_value_70 : decode prog_10_method_37_code 70 = .ok (.if_icmp .ne 12, 3) := de_X8_value_32 (70, .if_icmp .ne 12, 3) (List.mem_of_getElem? (i := 3) rfl)
theorem d_X8_value_73 : decode prog_10_method_37_code 73 = .ok (.aload_n 0, 1) := de_X8_value_32 (73, .aload_n 0, 1) (List.mem_of_getElem? (i := 4) rfl)
theorem d_X8_value_74 : decode prog_10_method_37_code 74 = .ok (.iconst 1, 1) := de_X8_value_32 (74, .iconst 1, 1) (List.mem_of_getElem? (i := 5) rfl)
theorem d_X8_value_75 : decode prog_10_method_37_code 75 = .ok (.aload_n 0, 1) := de_X8_value_32 (75, .aload_n 0, 1) (List.mem_of_getElem? (i := 6) rfl)
theorem d_X8_value_76 : decode prog_10_method_37_code 76 = .ok (.getfield 208, 3) := de_X8_value_32 (76, .getfield 208, 3) (List.mem_of_getElem? (i := 7) rfl)
theorem d_X8_value_79 : decode prog_10_method_37_code 79 = .ok (.invokevirtual 230, 3) := de_X8_value_32 (79, .invokevirtual 230, 3) (List.mem_of_getElem? (i := 8) rfl)
theorem d_X8_value_82 : decode prog_10_method_37_code 82 = .ok (.return_, 1) := de_X8_value_32 (82, .return_, 1) (List.mem_of_getElem? (i := 9) rfl)
def ce_X8_pieceOfC_0 : List (Nat × Instr × Nat) := [(0, .aload_n 0, 1), (1, .invokevirtual 217, 3), (4, .ifCond .eq 28, 3), (7, .aload_n 0, 1), (8, .invokevirtual 234, 3), (11, .bipush 33, 2), (13, .if_icmp .eq 12, 3), (16, .aload_n 0, 1), (17, .invokevirtual 234, 3), (20, .bipush 40, 2), (22, .if_icmp .ne 10, 3), (25, .aload_n 0, 1), (26, .invokevirtual 263, 3), (29, .goto (-29), 3), (32, .aload_n 0, 1), (33, .invokevirtual 217, 3)]
theorem de_X8_pieceOfC_0 : ∀ q ∈ ce_X8_pieceOfC_0, decode prog_10_method_38_code q.1 = .ok (q.2.1, q.2.2) := by decide +kernel
theorem d_X8_pieceOfC_0 : decode prog_10_method_38_code 0 = .ok (.aload_n 0, 1) := de_X8_pieceOfC_0 (0, .aload_n 0, 1) (List.mem_of_getElem? (i := 0) rfl)
theorem d_X8_pieceOfC_1 : decode prog_10_method_38_code 1 = .ok (.invokevirtual 217, 3) := de_X8_pieceOfC_0 (1, .invokevirtual 217, 3) (List.mem_of_getElem? (i := 1) rfl)
theorem d_X8_pieceOfC_4 : decode prog_10_method_38_code 4 = .ok (.ifCond .eq 28, 3) := de_X8_pieceOfC_0 (4, .ifCond .eq 28, 3) (List.mem_of_getElem? (i := 2) rfl)
theorem d_X8_pieceOfC_7 : decode prog_10_method_38_code 7 = .ok (.aload_n 0, 1) := de_X8_pieceOfC_0 (7, .aload_n 0, 1) (List.mem_of_getElem? (i := 3) rfl)
theorem d_X8_pieceOfC_8 : decode prog_10_method_38_code 8 = .ok (.invokevirtual 234, 3) := de_X8_pieceOfC_0 (8, .invokevirtual 234, 3) (List.mem_of_getElem? (i := 4) rfl)
theorem d_X8_pieceOfC_11 : decode prog_10_method_38_code 11 = .ok (.bipush 33, 2) := de_X8_pieceOfC_0 (11, .bipush 33, 2) (List.mem_of_getElem? (i := 5) rfl)
theorem d_X8_pieceOfC_13 : decode prog_10_method_38_code 13 = .ok (.if_icmp .eq 12, 3) := de_X8_pieceOfC_0 (13, .if_icmp .eq 12, 3) (List.mem_of_getElem? (i := 6) rfl)
theorem d_X8_pieceOfC_16 : decode prog_10_method_38_code 16 = .ok (.aload_n 0, 1) := de_X8_pieceOfC_0 (16, .aload_n 0, 1) (List.mem_of_getElem? (i := 7) rfl)
theorem d_X8_pieceOfC_17 : decode prog_10_method_38_code 17 = .ok (.invokevirtual 234, 3) := de_X8_pieceOfC_0 (17, .invokevirtual 234, 3) (List.mem_of_getElem? (i := 8) rfl)
theorem d_X8_pieceOfC_20 : decode prog_10_method_38_code 20 = .ok (.bipush 40, 2) := de_X8_pieceOfC_0 (20, .bipush 40, 2) (List.mem_of_getElem? (i := 9) rfl)
theorem d_X8_pieceOfC_22 : decode prog_10_method_38_code 22 = .ok (.if_icmp .ne 10, 3) := de_X8_pieceOfC_0 (22, .if_icmp .ne 10, 3) (List.mem_of_getElem? (i := 10) rfl)
theorem d_X8_pieceOfC_25 : decode prog_10_method_38_code 25 = .ok (.aload_n 0, 1) := de_X8_pieceOfC_0 (25, .aload_n 0, 1) (List.mem_of_getElem? (i := 11) rfl)
theorem d_X8_pieceOfC_26 : decode prog_10_method_38_code 26 = .ok (.invokevirtual 263, 3) := de_X8_pieceOfC_0 (26, .invokevirtual 263, 3) (List.mem_of_getElem? (i := 12) rfl)
theorem d_X8_pieceOfC_29 : decode prog_10_method_38_code 29 = .ok (.goto (-29), 3) := de_X8_pieceOfC_0 (29, .goto (-29), 3) (List.mem_of_getElem? (i := 13) rfl)
theorem d_X8_pieceOfC_32 : decode prog_10_method_38_code 32 = .ok (.aload_n 0, 1) := de_X8_pieceOfC_0 (32, .aload_n 0, 1) (List.mem_of_getElem? (i := 14) rfl)
theorem d_X8_pieceOfC_33 : decode prog_10_method_38_code 33 = .ok (.invokevirtual 217, 3) := de_X8_pieceOfC_0 (33, .invokevirtual 217, 3) (List.mem_of_getElem? (i := 15) rfl)
def ce_X8_pieceOfC_16 : List (Nat × Instr × Nat) := [(36, .ifCond .eq 7, 3), (39, .aload_n 0, 1), (40, .invokevirtual 286, 3), (43, .aload_n 0, 1), (44, .invokevirtual 217, 3), (47, .ifCond .ne 4, 3), (50, .return_, 1), (51, .aload_n 0, 1), (52, .invokevirtual 234, 3), (55, .istore_n 1, 1), (56, .iload_n 1, 1), (57, .invokestatic 289, 3), (60, .ifCond .ne 13, 3), (63, .aload_n 0, 1), (64, .iconst 1, 1), (65, .aload_n 0, 1)]
theorem de_X8_pieceOfC_16 : ∀ q ∈ ce_X8_pieceOfC_16, decode prog_10_method_38_code q.1 = .ok (q.2.1, q.2.2) := by decide +kernel
theorem d_X8_pieceOfC_36 : decode prog_10_method_38_code 36 = .ok (.ifCond .eq 7, 3) := de_X8_pieceOfC_16 (36, .ifCond .eq 7, 3) (List.mem_of_getElem? (i := 0) rfl)
theorem d_X8_pieceOfC_39 : decode prog_10_method_38_code 39 = .ok (.aload_n 0, 1) := de_X8_pieceOfC_16 (39, .aload_n 0, 1) (List.mem_of_getElem? (i := 1) rfl)
theorem d_X8_pieceOfC_40 : decode prog_10_method_38_code 40 = .ok (.invokevirtual 286, 3) := de_X8_pieceOfC_16 (40, .invokevirtual 286, 3) (List.mem_of_getElem? (i := 2) rfl)
theorem d_X8_pieceOfC_43 : decode prog_10_method_38_code 43 = .ok (.aload_n 0, 1) := de_X8_pieceOfC_16 (43, .aload_n 0, 1) (List.mem_of_getElem? (i := 3) rfl)
theorem d_X8_pieceOfC_44 : decode prog_10_method_38_code 44 = .ok (.invokevirtual 217, 3) := de_X8_pieceOfC_16 (44, .invokevirtual 217, 3) (List.mem_of_getElem? (i := 4) rfl)
theorem d_X8_pieceOfC_47 : decode prog_10_method_38_code 47 = .ok (.ifCond .ne 4, 3) := de_X8_pieceOfC_16 (47, .ifCond .ne 4, 3) (List.mem_of_getElem? (i := 5) rfl)
theorem d_X8_pieceOfC_50 : decode prog_10_method_38_code 50 = .ok (.return_, 1) := de_X8_pieceOfC_16 (50, .return_, 1) (List.mem_of_getElem? (i := 6) rfl)
theorem d_X8_pieceOfC_51 : decode prog_10_method_38_code 51 = .ok (.aload_n 0, 1) := de_X8_pieceOfC_16 (51, .aload_n 0, 1) (List.mem_of_getElem? (i := 7) rfl)
theorem d_X8_pieceOfC_52 : decode prog_10_method_38_code 52 = .ok (.invokevirtual 234, 3) := de_X8_pieceOfC_16 (52, .invokevirtual 234, 3) (List.mem_of_getElem? (i := 8) rfl)
theorem d_X8_pieceOfC_55 : decode prog_10_method_38_code 55 = .ok (.istore_n 1, 1) := de_X8_pieceOfC_16 (55, .istore_n 1, 1) (List.mem_of_getElem? (i := 9) rfl)
theorem d_X8_pieceOfC_56 : decode prog_10_method_38_code 56 = .ok (.iload_n 1, 1) := de_X8_pieceOfC_16 (56, .iload_n 1, 1) (List.mem_of_getElem? (i := 10) rfl)
theorem d_X8_pieceOfC_57 : decode prog_10_method_38_code 57 = .ok (.invokestatic 289, 3) := de_X8_pieceOfC_16 (57, .invokestatic 289, 3) (List.mem_of_getElem? (i := 11) rfl)
theorem d_X8_pieceOfC_60 : decode prog_10_method_38_code 60 = .ok (.ifCond .ne 13, 3) := de_X8_pieceOfC_16 (60, .ifCond .ne 13, 3) (List.mem_of_getElem? (i := 12) rfl)
theorem d_X8_pieceOfC_63 : decode prog_10_method_38_code 63 = .ok (.aload_n 0, 1) := de_X8_pieceOfC_16 (63, .aload_n 0, 1) (List.mem_of_getElem? (i := 13) rfl)
theorem d_X8_pieceOfC_64 : decode prog_10_method_38_code 64 = .ok (.iconst 1, 1) := de_X8_pieceOfC_16 (64, .iconst 1, 1) (List.mem_of_getElem? (i := 14) rfl)
theorem d_X8_pieceOfC_65 : decode prog_10_method_38_code 65 = .ok (.aload_n 0, 1) := de_X8_pieceOfC_16 (65, .aload_n 0, 1) (List.mem_of_getElem? (i := 15) rfl)
def ce_X8_pieceOfC_32 : List (Nat × Instr × Nat) := [(66, .getfield 208, 3), (69, .invokevirtual 230, 3), (72, .return_, 1), (73, .aload_n 0, 1), (74, .iload_n 1, 1), (75, .invokevirtual 238, 3), (78, .aload_n 0, 1), (79, .invokevirtual 286, 3), (82, .aload_n 0, 1), (83, .invokevirtual 217, 3), (86, .ifCond .ne 4, 3), (89, .return_, 1), (90, .aload_n 0, 1), (91, .aload_n 0, 1), (92, .invokevirtual 251, 3), (95, .iconst 0, 1)]
theorem de_X8_pieceOfC_32 : ∀ q ∈ ce_X8_pieceOfC_32, decode prog_10_method_38_code q.1 = .ok (q.2.1, q.2.2) := by decide +kernel
theorem d_X8_pieceOfC_66 : decode prog_10_method_38_code 66 = .ok (.getfield 208, 3) := de_X8_pieceOfC_32 (66, .getfield 208, 3) (List.mem_of_getElem? (i := 0) rfl)
theorem d_X8_pieceOfC_69 : decode prog_10_method_38_code 69 = .ok (.invokevirtual 230, 3) := de_X8_pieceOfC_32 (69, .invokevirtual 230, 3) (List.mem_of_getElem? (i := 1) rfl)
theorem d_X8_pieceOfC_72 : decode prog_10_method_38_code 72 = .ok (.return_, 1) := de_X8_pieceOfC_32 (72, .return_, 1) (List.mem_of_getElem? (i := 2) rfl)
theorem d_X8_pieceOfC_73 : decode prog_10_method_38_code 73 = .ok (.aload_n 0, 1) := de_X8_pieceOfC_32 (73, .aload_n 0, 1) (List.mem_of_getElem? (i := 3) rfl)
theorem d_X8_pieceOfC_74 : decode prog_10_method_38_code 74 = .ok (.iload_n 1, 1) := de_X8_pieceOfC_32 (74, .iload_n 1, 1) (List.mem_of_getElem? (i := 4) rfl)
theorem d_X8_pieceOfC_75 : decode prog_10_method_38_code 75 = .ok (.invokevirtual 238, 3) := de_X8_pieceOfC_32 (75, .invokevirtual 238, 3) (List.mem_of_getElem? (i := 5) rfl)
theorem d_X8_pieceOfC_78 : decode prog_10_method_38_code 78 = .ok (.aload_n 0, 1) := de_X8_pieceOfC_32 (78, .aload_n 0, 1) (List.mem_of_getElem? (i := 6) rfl)
theorem d_X8_pieceOfC_79 : decode prog_10_method_38_code 79 = .ok (.invokevirtual 286, 3) := de_X8_pieceOfC_32 (79, .invokevirtual 286, 3) (List.mem_of_getElem? (i := 7) rfl)
theorem d_X8_pieceOfC_82 : decode prog_10_method_38_code 82 = .ok (.aload_n 0, 1) := de_X8_pieceOfC_32 (82, .aload_n 0, 1) (List.mem_of_getElem? (i := 8) rfl)
theorem d_X8_pieceOfC_83 : decode prog_10_method_38_code 83 = .ok (.invokevirtual 217, 3) := de_X8_pieceOfC_32 (83, .invokevirtual 217, 3) (List.mem_of_getElem? (i := 9) rfl)
theorem d_X8_pieceOfC_86 : decode prog_10_method_38_code 86 = .ok (.ifCond .ne 4, 3) := de_X8_pieceOfC_32 (86, .ifCond .ne 4, 3) (List.mem_of_getElem? (i := 10) rfl)
theorem d_X8_pieceOfC_89 : decode prog_10_method_38_code 89 = .ok (.return_, 1) := de_X8_pieceOfC_32 (89, .return_, 1) (List.mem_of_getElem? (i := 11) rfl)
theorem d_X8_pieceOfC_90 : decode prog_10_method_38_code 90 = .ok (.aload_n 0, 1) := de_X8_pieceOfC_32 (90, .aload_n 0, 1) (List.mem_of_getElem? (i := 12) rfl)
theorem d_X8_pieceOfC_91 : decode prog_10_method_38_code 91 = .ok (.aload_n 0, 1) := de_X8_pieceOfC_32 (91, .aload_n 0, 1) (List.mem_of_getElem? (i := 13) rfl)
theorem d_X8_pieceOfC_92 : decode prog_10_method_38_code 92 = .ok (.invokevirtual 251, 3) := de_X8_pieceOfC_32 (92, .invokevirtual 251, 3) (List.mem_of_getElem? (i := 14) rfl)
theorem d_X8_pieceOfC_95 : decode prog_10_method_38_code 95 = .ok (.iconst 0, 1) := de_X8_pieceOfC_32 (95, .iconst 0, 1) (List.mem_of_getElem? (i := 15) rfl)
def ce_X8_pieceOfC_48 : List (Nat × Instr × Nat) := [(96, .invokevirtual 260, 3), (99, .aload_n 0, 1), (100, .dup, 1), (101, .getfield 224, 3), (104, .iconst 1, 1), (105, .isub, 1), (106, .putfield 224, 3), (109, .aload_n 0, 1), (110, .invokevirtual 292, 3), (113, .return_, 1)]
theorem de_X8_pieceOfC_48 : ∀ q ∈ ce_X8_pieceOfC_48, decode prog_10_method_38_code q.1 = .ok (q.2.1, q.2.2) := by decide +kernel
theorem d_X8_pieceOfC_96 : decode prog_10_method_38_code 96 = .ok (.invokevirtual 260, 3) := de_X8_pieceOfC_48 (96, .invokevirtual 260, 3) (List.mem_of_getElem? (i := 0) rfl)
theorem d_X8_pieceOfC_99 : decode prog_10_method_38_code 99 = .ok (.aload_n 0, 1) := de_X8_pieceOfC_48 (99, .aload_n 0, 1) (List.mem_of_getElem? (i := 1) rfl)
theorem d_X8_pieceOfC_100 : decode prog_10_method_38_code 100 = .ok (.dup, 1) := de_X8_pieceOfC_48 (100, .dup, 1) (List.mem_of_getElem? (i := 2) rfl)
theorem d_X8_pieceOfC_101 : decode prog_10_method_38_code 101 = .ok (.getfield 224, 3) := de_X8_pieceOfC_48 (101, .getfield 224, 3) (List.mem_of_getElem? (i := 3) rfl)
theorem d_X8_pieceOfC_104 : decode prog_10_method_38_code 104 = .ok (.iconst 1, 1) := de_X8_pieceOfC_48 (104, .iconst 1, 1) (List.mem_of_getElem? (i := 4) rfl)
theorem d_X8_pieceOfC_105 : decode prog_10_method_38_code 105 = .ok (.isub, 1) := de_X8_pieceOfC_48 (105, .isub, 1) (List.mem_of_getElem? (i := 5) rfl)
theorem d_X8_pieceOfC_106 : decode prog_10_method_38_code 106 = .ok (.putfield 224, 3) := de_X8_pieceOfC_48 (106, .putfield 224, 3) (List.mem_of_getElem? (i := 6) rfl)
theorem d_X8_pieceOfC_109 : decode prog_10_method_38_code 109 = .ok (.aload_n 0, 1) := de_X8_pieceOfC_48 (109, .aload_n 0, 1) (List.mem_of_getElem? (i := 7) rfl)
theorem d_X8_pieceOfC_110 : decode prog_10_method_38_code 110 = .ok (.invokevirtual 292, 3) := de_X8_pieceOfC_48 (110, .invokevirtual 292, 3) (List.mem_of_getElem? (i := 8) rfl)
theorem d_X8_pieceOfC_113 : decode prog_10_method_38_code 113 = .ok (.return_, 1) := de_X8_pieceOfC_48 (113, .return_, 1) (List.mem_of_getElem? (i := 9) rfl)
def ce_X8_goesBehind_0 : List (Nat × Instr × Nat) := [(0, .aload_n 0, 1), (1, .invokevirtual 234, 3), (4, .istore_n 1, 1), (5, .iload_n 1, 1), (6, .bipush 38, 2), (8, .if_icmp .eq 9, 3), (11, .iload_n 1, 1), (12, .bipush 124, 2), (14, .if_icmp .ne 25, 3), (17, .aload_n 0, 1), (18, .iload_n 1, 1), (19, .bipush 124, 2), (21, .if_icmp .ne 7, 3), (24, .iconst 1, 1), (25, .goto 4, 3), (28, .iconst 0, 1)]
theorem de_X8_goesBehind_0 : ∀ q ∈ ce_X8_goesBehind_0, decode prog_10_method_39_code q.1 = .ok (q.2.1, q.2.2) := by decide +kernel
theorem d_X8_goesBehind_0 : decode prog_10_method_39_code 0 = .ok (.aload_n 0, 1) := de_X8_goesBehind_0 (0, .aload_n 0, 1) (List.mem_of_getElem? (i := 0) rfl)
theorem d_X8_goesBehind_1 : decode prog_10_method_39_code 1 = .ok (.invokevirtual 234, 3) := de_X8_goesBehind_0 (1, .invokevirtual 234, 3) (List.mem_of_getElem? (i := 1) rfl)
theorem d_X8_goesBehind_4 : decode prog_10_method_39_code 4 = .ok (.istore_n 1, 1) := de_X8_goesBehind_0 (4, .istore_n 1, 1) (List.mem_of_getElem? (i := 2) rfl)
theorem d_X8_goesBehind_5 : decode prog_10_method_39_code 5 = .ok (.iload_n 1, 1) := de_X8_goesBehind_0 (5, .iload_n 1, 1) (List.mem_of_getElem? (i := 3) rfl)
theorem d_X8_goesBehind_6 : decode prog_10_method_39_code 6 = .ok (.bipush 38, 2) := de_X8_goesBehind_0 (6, .bipush 38, 2) (List.mem_of_getElem? (i := 4) rfl)
theorem d_X8_goesBehind_8 : decode prog_10_method_39_code 8 = .ok (.if_icmp .eq 9, 3) := de_X8_goesBehind_0 (8, .if_icmp .eq 9, 3) (List.mem_of_getElem? (i := 5) rfl)
theorem d_X8_goesBehind_11 : decode prog_10_method_39_code 11 = .ok (.iload_n 1, 1) := de_X8_goesBehind_0 (11, .iload_n 1, 1) (List.mem_of_getElem? (i := 6) rfl)
theorem d_X8_goesBehind_12 : decode prog_10_method_39_code 12 = .ok (.bipush 124, 2) := de_X8_goesBehind_0 (12, .bipush 124, 2) (List.mem_of_getElem? (i := 7) rfl)
theorem d_X8_goesBehind_14 : decode prog_10_method_39_code 14 = .ok (.if_icmp .ne 25, 3) := de_X8_goesBehind_0 (14, .if_icmp .ne 25, 3) (List.mem_of_getElem? (i := 8) rfl)
theorem d_X8_goesBehind_17 : decode prog_10_method_39_code 17 = .ok (.aload_n 0, 1) := de_X8_goesBehind_0 (17, .aload_n 0, 1) (List.mem_of_getElem? (i := 9) rfl)
theorem d_X8_goesBehind_18 : decode prog_10_method_39_code 18 = .ok (.iload_n 1, 1) := de_X8_goesBehind_0 (18, .iload_n 1, 1) (List.mem_of_getElem? (i := 10) rfl)
theorem d_X8_goesBehind_19 : decode prog_10_method_39_code 19 = .ok (.bipush 124, 2) := de_X8_goesBehind_0 (19, .bipush 124, 2) (List.mem_of_getElem? (i := 11) rfl)
theorem d_X8_goesBehind_21 : decode prog_10_method_39_code 21 = .ok (.if_icmp .ne 7, 3) := de_X8_goesBehind_0 (21, .if_icmp .ne 7, 3) (List.mem_of_getElem? (i := 12) rfl)
theorem d_X8_goesBehind_24 : decode prog_10_method_39_code 24 = .ok (.iconst 1, 1) := de_X8_goesBehind_0 (24, .iconst 1, 1) (List.mem_of_getElem? (i := 13) rfl)
theorem d_X8_goesBehind_25 : decode prog_10_method_39_code 25 = .ok (.goto 4, 3) := de_X8_goesBehind_0 (25, .goto 4, 3) (List.mem_of_getElem? (i := 14) rfl)
theorem d_X8_goesBehind_28 : decode prog_10_method_39_code 28 = .ok (.iconst 0, 1) := de_X8_goesBehind_0 (28, .iconst 0, 1) (List.mem_of_getElem? (i := 15) rfl)
def ce_X8_goesBehind_16 : List (Nat × Instr × Nat) := [(29, .invokevirtual 295, 3), (32, .aload_n 0, 1), (33, .iload_n 1, 1), (34, .invokevirtual 238, 3), (37, .iconst 1, 1), (38, .ireturn, 1), (39, .iload_n 1, 1), (40, .bipush 41, 2), (42, .if_icmp .eq 14, 3), (45, .aload_n 0, 1), (46, .iconst 1, 1), (47, .aload_n 0, 1), (48, .getfield 208, 3), (51, .invokevirtual 230, 3), (54, .iconst 0, 1), (55, .ireturn, 1)]
theorem de_X8_goesBehind_16 : ∀ q ∈ ce_X8_goesBehind_16, decode prog_10_method_39_code q.1 = .ok (q.2.1, q.2.2) := by decide +kernel
theorem d_X8_goesBehind_29 : decode prog_10_method_39_code 29 = .ok (.invokevirtual 295, 3) := de_X8_goesBehind_16 (29, .invokevirtual 295, 3) (List.mem_of_getElem? (i := 0) rfl)
theorem d_X8_goesBehind_32 : decode prog_10_method_39_code 32 = .ok (.aload_n 0, 1) := de_X8_goesBehind_16 (32, .aload_n 0, 1) (List.mem_of_getElem? (i := 1) rfl)
theorem d_X8_goesBehind_33 : decode prog_10_method_39_code 33 = .ok (.iload_n 1, 1) := de_X8_goesBehind_16 (33, .iload_n 1, 1) (List.mem_of_getElem? (i := 2) rfl)
theorem d_X8_goesBehind_34 : decode prog_10_method_39_code 34 = .ok (.invokevirtual 238, 3) := de_X8_goesBehind_16 (34, .invokevirtual 238, 3) (List.mem_of_getElem? (i := 3) rfl)
theorem d_X8_goesBehind_37 : decode prog_10_method_39_code 37 = .ok (.iconst 1, 1) := de_X8_goesBehind_16 (37, .iconst 1, 1) (List.mem_of_getElem? (i := 4) rfl)
theorem d_X8_goesBehind_38 : decode prog_10_method_39_code 38 = .ok (.ireturn, 1) := de_X8_goesBehind_16 (38, .ireturn, 1) (List.mem_of_getElem? (i := 5) rfl)
theorem d_X8_goesBehind_39 : decode prog_10_method_39_code 39 = .ok (.iload_n 1, 1) := de_X8_goesBehind_16 (39, .iload_n 1, 1) (List.mem_of_getElem? (i := 6) rfl)
theorem d_X8_goesBehind_40 : decode prog_10_method_39_code 40 = .ok (.bipush 41, 2) := de_X8_goesBehind_16 (40, .bipush 41, 2) (List.mem_of_getElem? (i := 7) rfl)
theorem d_X8_goesBehind_42 : decode prog_10_method_39_code 42 = .ok (.if_icmp .eq 14, 3) := de_X8_goesBehind_16 (42, .if_icmp .eq 14, 3) (List.mem_of_getElem? (i := 8) rfl)
theorem d_X8_goesBehind_45 : decode prog_10_method_39_code 45 = .ok (.aload_n 0, 1) := de_X8_goesBehind_16 (45, .aload_n 0, 1) (List.mem_of_getElem? (i := 9) rfl)
theorem d_X8_goesBehind_46 : decode prog_10_method_39_code 46 = .ok (.iconst 1, 1) := de_X8_goesBehind_16 (46, .iconst 1, 1) (List.mem_of_getElem? (i := 10) rfl)
theorem d_X8_goesBehind_47 : decode prog_10_method_39_code 47 = .ok (.aload_n 0, 1) := de_X8_goesBehind_16 (47, .aload_n 0, 1) (List.mem_of_getElem? (i := 11) rfl)
theorem d_X8_goesBehind_48 : decode prog_10_method_39_code 48 = .ok (.getfield 208, 3) := de_X8_goesBehind_16 (48, .getfield 208, 3) (List.mem_of_getElem? (i := 12) rfl)
theorem d_X8_goesBehind_51 : decode prog_10_method_39_code 51 = .ok (.invokevirtual 230, 3) := de_X8_goesBehind_16 (51, .invokevirtual 230, 3) (List.mem_of_getElem? (i := 13) rfl)
theorem d_X8_goesBehind_54 : decode prog_10_method_39_code 54 = .ok (.iconst 0, 1) := de_X8_goesBehind_16 (54, .iconst 0, 1) (List.mem_of_getElem? (i := 14) rfl)
theorem d_X8_goesBehind_55 : decode prog_10_method_39_code 55 = .ok (.ireturn, 1) := de_X8_goesBehind_16 (55, .ireturn, 1) (List.mem_of_getElem? (i := 15) rfl)
def ce_X8_goesBehind_32 : List (Nat × Instr × Nat) := [(56, .aload_n 0, 1), (57, .iconst 1, 1), (58, .invokevirtual 295, 3), (61, .aload_n 0, 1), (62, .dup, 1), (63, .getfield 224, 3), (66, .iconst 1, 1), (67, .isub, 1), (68, .putfield 224, 3), (71, .aload_n 0, 1), (72, .dup, 1), (73, .getfield 227, 3), (76, .iconst 1, 1), (77, .isub, 1), (78, .putfield 227, 3), (81, .aload_n 0, 1)]
theorem de_X8_goesBehind_32 : ∀ q ∈ ce_X8_goesBehind_32, decode prog_10_method_39_code q.1 = .ok (q.2.1, q.2.2) := by decide +kernel
theorem d_X8_goesBehind_56 : decode prog_10_method_39_code 56 = .ok (.aload_n 0, 1) := de_X8_goesBehind_32 (56, .aload_n 0, 1) (List.mem_of_getElem? (i := 0) rfl)
theorem d_X8_goesBehind_57 : decode prog_10_method_39_code 57 = .ok (.iconst 1, 1) := de_X8_goesBehind_32 (57, .iconst 1, 1) (List.mem_of_getElem? (i := 1) rfl)
theorem d_X8_goesBehind_58 : decode prog_10_method_39_code 58 = .ok (.invokevirtual 295, 3) := de_X8_goesBehind_32 (58, .invokevirtual 295, 3) (List.mem_of_getElem? (i := 2) rfl)
theorem d_X8_goesBehind_61 : decode prog_10_method_39_code 61 = .ok (.aload_n 0, 1) := de_X8_goesBehind_32 (61, .aload_n 0, 1) (List.mem_of_getElem? (i := 3) rfl)
theorem d_X8_goesBehind_62 : decode prog_10_method_39_code 62 = .ok (.dup, 1) := de_X8_goesBehind_32 (62, .dup, 1) (List.mem_of_getElem? (i := 4) rfl)
theorem d_X8_goesBehind_63 : decode prog_10_method_39_code 63 = .ok (.getfield 224, 3) := de_X8_goesBehind_32 (63, .getfield 224, 3) (List.mem_of_getElem? (i := 5) rfl)
theorem d_X8_goesBehind_66 : decode prog_10_method_39_code 66 = .ok (.iconst 1, 1) := de_X8_goesBehind_32 (66, .iconst 1, 1) (List.mem_of_getElem? (i := 6) rfl)
theorem d_X8_goesBehind_67 : decode prog_10_method_39_code 67 = .ok (.isub, 1) := de_X8_goesBehind_32 (67, .isub, 1) (List.mem_of_getElem? (i := 7) rfl)
theorem d_X8_goesBehind_68 : decode prog_10_method_39_code 68 = .ok (.putfield 224, 3) := de_X8_goesBehind_32 (68, .putfield 224, 3) (List.mem_of_getElem? (i := 8) rfl)
theorem d_X8_goesBehind_71 : decode prog_10_method_39_code 71 = .ok (.aload_n 0, 1) := de_X8_goesBehind_32 (71, .aload_n 0, 1) (List.mem_of_getElem? (i := 9) rfl)
theorem d_X8_goesBehind_72 : decode prog_10_method_39_code 72 = .ok (.dup, 1) := de_X8_goesBehind_32 (72, .dup, 1) (List.mem_of_getElem? (i := 10) rfl)
theorem d_X8_goesBehind_73 : decode prog_10_method_39_code 73 = .ok (.getfield 227, 3) := de_X8_goesBehind_32 (73, .getfield 227, 3) (List.mem_of_getElem? (i := 11) rfl)
theorem d_X8_goesBehind_76 : decode prog_10_method_39_code 76 = .ok (.iconst 1, 1) := de_X8_goesBehind_32 (76, .iconst 1, 1) (List.mem_of_getElem? (i := 12) rfl)
theorem d_X8_goesBehind_77 : decode prog_10_method_39_code 77 = .ok (.isub, 1) := de_X8_goesBehind_32 (77, .isub, 1) (List.mem_of_getElem? (i := 13) rfl)
theorem d_X8_goesBehind_78 : decode prog_10_method_39_code 78 = .ok (.putfield 227, 3) := de_X8_goesBehind_32 (78, .putfield 227, 3) (List.mem_of_getElem? (i := 14) rfl)
theorem d_X8_goesBehind_81 : decode prog_10_method_39_code 81 = .ok (.aload_n 0, 1) := de_X8_goesBehind_32 (81, .aload_n 0, 1) (List.mem_of_getElem? (i := 15) rfl)
def ce_X8_goesBehind_48 : List (Nat × Instr × Nat) := [(82, .dup, 1), (83, .getfield 208, 3), (86, .iconst 1, 1), (87, .iadd, 1), (88, .putfield 208, 3), (91, .aload_n 0, 1), (92, .aload_n 0, 1), (93, .getfield 224, 3), (96, .ifCond .ne 7, 3), (99, .iconst 1, 1), (100, .goto 4, 3), (103, .iconst 0, 1), (104, .putfield 298, 3), (107, .aload_n 0, 1), (108, .getfield 298, 3), (111, .ifCond .ne 7, 3)]
theorem de_X8_goesBehind_48 : ∀ q ∈ ce_X8_goesBehind_48, decode prog_10_method_39_code q.1 = .ok (q.2.1, q.2.2) := by decide +kernel
theorem d_X8_goesBehind_82 : decode prog_10_method_39_code 82 = .ok (.dup, 1) := de_X8_goesBehind_48 (82, .dup, 1) (List.mem_of_getElem? (i := 0) rfl)
theorem d_X8_goesBehind_83 : decode prog_10_method_39_code 83 = .ok (.getfield 208, 3) := de_X8_goesBehind_48 (83, .getfield 208, 3) (List.mem_of_getElem? (i := 1) rfl)
theorem d_X8_goesBehind_86 : decode prog_10_method_39_code 86 = .ok (.iconst 1, 1) := de_X8_goesBehind_48 (86, .iconst 1, 1) (List.mem_of_getElem? (i := 2) rfl)
theorem d_X8_goesBehind_87 : decode prog_10_method_39_code 87 = .ok (.iadd, 1) := de_X8_goesBehind_48 (87, .iadd, 1) (List.mem_of_getElem? (i := 3) rfl)
theorem d_X8_goesBehind_88 : decode prog_10_method_39_code 88 = .ok (.putfield 208, 3) := de_X8_goesBehind_48 (88, .putfield 208, 3) (List.mem_of_getElem? (i := 4) rfl)
theorem d_X8_goesBehind_91 : decode prog_10_method_39_code 91 = .ok (.aload_n 0, 1) := de_X8_goesBehind_48 (91, .aload_n 0, 1) (List.mem_of_getElem? (i := 5) rfl)
theorem d_X8_goesBehind_92 : decode prog_10_method_39_code 92 = .ok (.aload_n 0, 1) := de_X8_goesBehind_48 (92, .aload_n 0, 1) (List.mem_of_getElem? (i := 6) rfl)
theorem d_X8_goesBehind_93 : decode prog_10_method_39_code 93 = .ok (.getfield 224, 3) := de_X8_goesBehind_48 (93, .getfield 224, 3) (List.mem_of_getElem? (i := 7) rfl)
theorem d_X8_goesBehind_96 : decode prog_10_method_39_code 96 = .ok (.ifCond .ne 7, 3) := de_X8_goesBehind_48 (96, .ifCond .ne 7, 3) (List.mem_of_getElem? (i := 8) rfl)
theorem d_X8_goesBehind_99 : decode prog_10_method_39_code 99 = .ok (.iconst 1, 1) := de_X8_goesBehind_48 (99, .iconst 1, 1) (List.mem_of_getElem? (i := 9) rfl)
theorem d_X8_goesBehind_100 : decode prog_10_method_39_code 100 = .ok (.goto 4, 3) := de_X8_goesBehind_48 (100, .goto 4, 3) (List.mem_of_getElem? (i := 10) rfl)
theorem d_X8_goesBehind_103 : decode prog_10_method_39_code 103 = .ok (.iconst 0, 1) := de_X8_goesBehind_48 (103, .iconst 0, 1) (List.mem_of_getElem? (i := 11) rfl)
theorem d_X8_goesBehind_104 : decode prog_10_method_39_code 104 = .ok (.putfield 298, 3) := de_X8_goesBehind_48 (104, .putfield 298, 3) (List.mem_of_getElem? (i := 12) rfl)
theorem d_X8_goesBehind_107 : decode prog_10_method_39_code 107 = .ok (.aload_n 0, 1) := de_X8_goesBehind_48 (107, .aload_n 0, 1) (List.mem_of_getElem? (i := 13) rfl)
theorem d_X8_goesBehind_108 : decode prog_10_method_39_code 108 = .ok (.getfield 298, 3) := de_X8_goesBehind_48 (108, .getfield 298, 3) (List.mem_of_getElem? (i := 14) rfl)
theorem d_X8_goesBehind_111 : decode prog_10_method_39_code 111 = .ok (.ifCond .ne 7, 3) := de_X8_goesBehind_48 (111, .ifCond .ne 7, 3) (List.mem_of_getElem? (i := 15) rfl)
def ce_X8_goesBehind_64 : List (Nat × Instr × Nat) := [(114, .aload_n 0, 1), (115, .invokevirtual 292, 3), (118, .iconst 0, 1), (119, .ireturn, 1)]
theorem de_X8_goesBehind_64 : ∀ q ∈ ce_X8_goesBehind_64, decode prog_10_method_39_code q.1 = .ok (q.2.1, q.2.2) := by decide +kernel
theorem d_X8_goesBehind_114 : decode prog_10_method_39_code 114 = .ok (.aload_n 0, 1) := de_X8_goesBehind_64 (114, .aload_n 0, 1) (List.mem_of_getElem? (i := 0) rfl)
theorem d_X8_goesBehind_115 : decode prog_10_method_39_code 115 = .ok (.invokevirtual 292, 3) := de_X8_goesBehind_64 (115, .invokevirtual 292, 3) (List.mem_of_getElem? (i := 1) rfl)
theorem d_X8_goesBehind_118 : decode prog_10_method_39_code 118 = .ok (.iconst 0, 1) := de_X8_goesBehind_64 (118, .iconst 0, 1) (List.mem_of_getElem? (i := 2) rfl)
theorem d_X8_goesBehind_119 : decode prog_10_method_39_code 119 = .ok (.ireturn, 1) := de_X8_goesBehind_64 (119, .ireturn, 1) (List.mem_of_getElem? (i := 3) rfl)
def ce_X8_condition_0 : List (Nat × Instr × Nat) := [(0, .aload_n 0, 1), (1, .iconst 0, 1), (2, .putfield 298, 3), (5, .aload_n 0, 1), (6, .invokevirtual 234, 3), (9, .bipush 40, 2), (11, .if_icmp .eq 12, 3), (14, .aload_n 0, 1), (15, .iconst 1, 1), (16, .aload_n 0, 1), (17, .getfield 208, 3), (20, .invokevirtual 230, 3), (23, .aload_n 0, 1), (24, .invokevirtual 217, 3), (27, .ifCond .ne 4, 3), (30, .return_, 1)]
theorem de_X8_condition_0 : ∀ q ∈ ce_X8_condition_0, decode prog_10_method_40_code q.1 = .ok (q.2.1, q.2.2) := by decide +kernel
theorem d_X8_condition_0 : decode prog_10_method_40_code 0 = .ok (.aload_n 0, 1) := de_X8_condition_0 (0, .aload_n 0, 1) (List.mem_of_getElem? (i := 0) rfl)
theorem d_X8_condition_1 : decode prog_10_method_40_code 1 = .ok (.iconst 0, 1) := de_X8_condition_0 (1, .iconst 0, 1) (List.mem_of_getElem? (i := 1) rfl)
theorem d_X8_condition_2 : decode prog_10_method_40_code 2 = .ok (.putfield 298, 3) := de_X8_condition_0 (2, .putfield 298, 3) (List.mem_of_getElem? (i := 2) rfl)
theorem d_X8_condition_5 : decode prog_10_method_40_code 5 = .ok (.aload_n 0, 1) := de_X8_condition_0 (5, .aload_n 0, 1) (List.mem_of_getElem? (i := 3) rfl)
theorem d_X8_condition_6 : decode prog_10_method_40_code 6 = .ok (.invokevirtual 234, 3) := de_X8_condition_0 (6, .invokevirtual 234, 3) (List.mem_of_getElem? (i := 4) rfl)
theorem d_X8_condition_9 : decode prog_10_method_40_code 9 = .ok (.bipush 40, 2) := de_X8_condition_0 (9, .bipush 40, 2) (List.mem_of_getElem? (i := 5) rfl)
theorem d_X8_condition_11 : decode prog_10_method_40_code 11 = .ok (.if_icmp .eq 12, 3) := de_X8_condition_0 (11, .if_icmp .eq 12, 3) (List.mem_of_getElem? (i := 6) rfl)
theorem d_X8_condition_14 : decode prog_10_method_40_code 14 = .ok (.aload_n 0, 1) := de_X8_condition_0 (14, .aload_n 0, 1) (List.mem_of_getElem? (i := 7) rfl)
theorem d_X8_condition_15 : decode prog_10_method_40_code 15 = .ok (.iconst 1, 1) := de_X8_condition_0 (15, .iconst 1, 1) (List.mem_of_getElem? (i := 8) rfl)
theorem d_X8_condition_16 : decode prog_10_method_40_code 16 = .ok (.aload_n 0, 1) := de_X8_condition_0 (16, .aload_n 0, 1) (List.mem_of_getElem? (i := 9) rfl)
theorem d_X8_condition_17 : decode prog_10_method_40_code 17 = .ok (.getfield 208, 3) := de_X8_condition_0 (17, .getfield 208, 3) (List.mem_of_getElem? (i := 10) rfl)
theorem d_X8_condition_20 : decode prog_10_method_40_code 20 = .ok (.invokevirtual 230, 3) := de_X8_condition_0 (20, .invokevirtual 230, 3) (List.mem_of_getElem? (i := 11) rfl)
theorem d_X8_condition_23 : decode prog_10_method_40_code 23 = .ok (.aload_n 0, 1) := de_X8_condition_0 (23, .aload_n 0, 1) (List.mem_of_getElem? (i := 12) rfl)
theorem d_X8_condition_24 : decode prog_10_method_40_code 24 = .ok (.invokevirtual 217, 3) := de_X8_condition_0 (24, .invokevirtual 217, 3) (List.mem_of_getElem? (i := 13) rfl)
theorem d_X8_condition_27 : decode prog_10_method_40_code 27 = .ok (.ifCond .ne 4, 3) := de_X8_condition_0 (27, .ifCond .ne 4, 3) (List.mem_of_getElem? (i := 14) rfl)
theorem d_X8_condition_30 : decode prog_10_method_40_code 30 = .ok (.return_, 1) := de_X8_condition_0 (30, .return_, 1) (List.mem_of_getElem? (i := 15) rfl)
def ce_X8_condition_16 : List (Nat × Instr × Nat) := [(31, .aload_n 0, 1), (32, .invokevirtual 263, 3), (35, .iconst 1, 1), (36, .istore_n 1, 1), (37, .aload_n 0, 1), (38, .invokevirtual 217, 3), (41, .ifCond .eq 33, 3), (44, .aload_n 0, 1), (45, .getfield 298, 3), (48, .ifCond .ne 26, 3), (51, .iload_n 1, 1), (52, .ifCond .eq 7, 3), (55, .aload_n 0, 1), (56, .invokevirtual 301, 3), (59, .aload_n 0, 1), (60, .invokevirtual 217, 3)]
theorem de_X8_condition_16 : ∀ q ∈ ce_X8_condition_16, decode prog_10_method_40_code q.1 = .ok (q.2.1, q.2.2) := by decide +kernel
theorem d_X8_condition_31 : decode prog_10_method_40_code 31 = .ok (.aload_n 0, 1) := de_X8_condition_16 (31, .aload_n 0, 1) (List.mem_of_getElem? (i := 0) rfl)
theorem d_X8_condition_32 : decode prog_10_method_40_code 32 = .ok (.invokevirtual 263, 3) := de_X8_condition_16 (32, .invokevirtual 263, 3) (List.mem_of_getElem? (i := 1) rfl)
theorem d_X8_condition_35 : decode prog_10_method_40_code 35 = .ok (.iconst 1, 1) := de_X8_condition_16 (35, .iconst 1, 1) (List.mem_of_getElem? (i := 2) rfl)
theorem d_X8_condition_36 : decode prog_10_method_40_code 36 = .ok (.istore_n 1, 1) := de_X8_condition_16 (36, .istore_n 1, 1) (List.mem_of_getElem? (i := 3) rfl)
theorem d_X8_condition_37 : decode prog_10_method_40_code 37 = .ok (.aload_n 0, 1) := de_X8_condition_16 (37, .aload_n 0, 1) (List.mem_of_getElem? (i := 4) rfl)
theorem d_X8_condition_38 : decode prog_10_method_40_code 38 = .ok (.invokevirtual 217, 3) := de_X8_condition_16 (38, .invokevirtual 217, 3) (List.mem_of_getElem? (i := 5) rfl)
theorem d_X8_condition_41 : decode prog_10_method_40_code 41 = .ok (.ifCond .eq 33, 3) := de_X8_condition_16 (41, .ifCond .eq 33, 3) (List.mem_of_getElem? (i := 6) rfl)
theorem d_X8_condition_44 : decode prog_10_method_40_code 44 = .ok (.aload_n 0, 1) := de_X8_condition_16 (44, .aload_n 0, 1) (List.mem_of_getElem? (i := 7) rfl)
theorem d_X8_condition_45 : decode prog_10_method_40_code 45 = .ok (.getfield 298, 3) := de_X8_condition_16 (45, .getfield 298, 3) (List.mem_of_getElem? (i := 8) rfl)
theorem d_X8_condition_48 : decode prog_10_method_40_code 48 = .ok (.ifCond .ne 26, 3) := de_X8_condition_16 (48, .ifCond .ne 26, 3) (List.mem_of_getElem? (i := 9) rfl)
theorem d_X8_condition_51 : decode prog_10_method_40_code 51 = .ok (.iload_n 1, 1) := de_X8_condition_16 (51, .iload_n 1, 1) (List.mem_of_getElem? (i := 10) rfl)
theorem d_X8_condition_52 : decode prog_10_method_40_code 52 = .ok (.ifCond .eq 7, 3) := de_X8_condition_16 (52, .ifCond .eq 7, 3) (List.mem_of_getElem? (i := 11) rfl)
theorem d_X8_condition_55 : decode prog_10_method_40_code 55 = .ok (.aload_n 0, 1) := de_X8_condition_16 (55, .aload_n 0, 1) (List.mem_of_getElem? (i := 12) rfl)
theorem d_X8_condition_56 : decode prog_10_method_40_code 56 = .ok (.invokevirtual 301, 3) := de_X8_condition_16 (56, .invokevirtual 301, 3) (List.mem_of_getElem? (i := 13) rfl)
theorem d_X8_condition_59 : decode prog_10_method_40_code 59 = .ok (.aload_n 0, 1) := de_X8_condition_16 (59, .aload_n 0, 1) (List.mem_of_getElem? (i := 14) rfl)
theorem d_X8_condition_60 : decode prog_10_method_40_code 60 = .ok (.invokevirtual 217, 3) := de_X8_condition_16 (60, .invokevirtual 217, 3) (List.mem_of_getElem? (i := 15) rfl)
def ce_X8_condition_32 : List (Nat × Instr × Nat) := [(63, .ifCond .eq (-26), 3), (66, .aload_n 0, 1), (67, .invokevirtual 304, 3), (70, .istore_n 1, 1), (71, .goto (-34), 3), (74, .return_, 1)]
theorem de_X8_condition_32 : ∀ q ∈ ce_X8_condition_32, decode prog_10_method_40_code q.1 = .ok (q.2.1, q.2.2) := by decide +kernel
theorem d_X8_condition_63 : decode prog_10_method_40_code 63 = .ok (.ifCond .eq (-26), 3) := de_X8_condition_32 (63, .ifCond .eq (-26), 3) (List.mem_of_getElem? (i := 0) rfl)
theorem d_X8_condition_66 : decode prog_10_method_40_code 66 = .ok (.aload_n 0, 1) := de_X8_condition_32 (66, .aload_n 0, 1) (List.mem_of_getElem? (i := 1) rfl)
theorem d_X8_condition_67 : decode prog_10_method_40_code 67 = .ok (.invokevirtual 304, 3) := de_X8_condition_32 (67, .invokevirtual 304, 3) (List.mem_of_getElem? (i := 2) rfl)
theorem d_X8_condition_70 : decode prog_10_method_40_code 70 = .ok (.istore_n 1, 1) := de_X8_condition_32 (70, .istore_n 1, 1) (List.mem_of_getElem? (i := 3) rfl)
theorem d_X8_condition_71 : decode prog_10_method_40_code 71 = .ok (.goto (-34), 3) := de_X8_condition_32 (71, .goto (-34), 3) (List.mem_of_getElem? (i := 4) rfl)
theorem d_X8_condition_74 : decode prog_10_method_40_code 74 = .ok (.return_, 1) := de_X8_condition_32 (74, .return_, 1) (List.mem_of_getElem? (i := 5) rfl)
def ce_X8_clause_0 : List (Nat × Instr × Nat) := [(0, .aload_n 0, 1), (1, .invokevirtual 234, 3), (4, .istore_n 1, 1), (5, .iload_n 1, 1), (6, .bipush 108, 2), (8, .if_icmp .eq 33, 3), (11, .iload_n 1, 1), (12, .bipush 109, 2), (14, .if_icmp .eq 27, 3), (17, .iload_n 1, 1), (18, .bipush 107, 2), (20, .if_icmp .eq 21, 3), (23, .iload_n 1, 1), (24, .bipush 115, 2), (26, .if_icmp .eq 15, 3), (29, .aload_n 0, 1)]
theorem de_X8_clause_0 : ∀ q ∈ ce_X8_clause_0, decode prog_10_method_41_code q.1 = .ok (q.2.1, q.2.2) := by decide +kernel
theorem d_X8_clause_0 : decode prog_10_method_41_code 0 = .ok (.aload_n 0, 1) := de_X8_clause_0 (0, .aload_n 0, 1) (List.mem_of_getElem? (i := 0) rfl)
theorem d_X8_clause_1 : decode prog_10_method_41_code 1 = .ok (.invokevirtual 234, 3) := de_X8_clause_0 (1, .invokevirtual 234, 3) (List.mem_of_getElem? (i := 1) rfl)
theorem d_X8_clause_4 : decode prog_10_method_41_code 4 = .ok (.istore_n 1, 1) := de_X8_clause_0 (4, .istore_n 1, 1) (List.mem_of_getElem? (i := 2) rfl)
theorem d_X8_clause_5 : decode prog_10_method_41_code 5 = .ok (.iload_n 1, 1) := de_X8_clause_0 (5, .iload_n 1, 1) (List.mem_of_getElem? (i := 3) rfl)
theorem d_X8_clause_6 : decode prog_10_method_41_code 6 = .ok (.bipush 108, 2) := de_X8_clause_0 (6, .bipush 108, 2) (List.mem_of_getElem? (i := 4) rfl)
theorem d_X8_clause_8 : decode prog_10_method_41_code 8 = .ok (.if_icmp .eq 33, 3) := de_X8_clause_0 (8, .if_icmp .eq 33, 3) (List.mem_of_getElem? (i := 5) rfl)
theorem d_X8_clause_11 : decode prog_10_method_41_code 11 = .ok (.iload_n 1, 1) := de_X8_clause_0 (11, .iload_n 1, 1) (List.mem_of_getElem? (i := 6) rfl)
theorem d_X8_clause_12 : decode prog_10_method_41_code 12 = .ok (.bipush 109, 2) := de_X8_clause_0 (12, .bipush 109, 2) (List.mem_of_getElem? (i := 7) rfl)
theorem d_X8_clause_14 : decode prog_10_method_41_code 14 = .ok (.if_icmp .eq 27, 3) := de_X8_clause_0 (14, .if_icmp .eq 27, 3) (List.mem_of_getElem? (i := 8) rfl)
theorem d_X8_clause_17 : decode prog_10_method_41_code 17 = .ok (.iload_n 1, 1) := de_X8_clause_0 (17, .iload_n 1, 1) (List.mem_of_getElem? (i := 9) rfl)
theorem d_X8_clause_18 : decode prog_10_method_41_code 18 = .ok (.bipush 107, 2) := de_X8_clause_0 (18, .bipush 107, 2) (List.mem_of_getElem? (i := 10) rfl)
theorem d_X8_clause_20 : decode prog_10_method_41_code 20 = .ok (.if_icmp .eq 21, 3) := de_X8_clause_0 (20, .if_icmp .eq 21, 3) (List.mem_of_getElem? (i := 11) rfl)
theorem d_X8_clause_23 : decode prog_10_method_41_code 23 = .ok (.iload_n 1, 1) := de_X8_clause_0 (23, .iload_n 1, 1) (List.mem_of_getElem? (i := 12) rfl)
theorem d_X8_clause_24 : decode prog_10_method_41_code 24 = .ok (.bipush 115, 2) := de_X8_clause_0 (24, .bipush 115, 2) (List.mem_of_getElem? (i := 13) rfl)
theorem d_X8_clause_26 : decode prog_10_method_41_code 26 = .ok (.if_icmp .eq 15, 3) := de_X8_clause_0 (26, .if_icmp .eq 15, 3) (List.mem_of_getElem? (i := 14) rfl)
theorem d_X8_clause_29 : decode prog_10_method_41_code 29 = .ok (.aload_n 0, 1) := de_X8_clause_0 (29, .aload_n 0, 1) (List.mem_of_getElem? (i := 15) rfl)
def ce_X8_clause_16 : List (Nat × Instr × Nat) := [(30, .iconst 1, 1), (31, .aload_n 0, 1), (32, .getfield 208, 3), (35, .invokevirtual 230, 3), (38, .goto 21, 3), (41, .aload_n 0, 1), (42, .getfield 307, 3), (45, .bipush 14, 2), (47, .if_icmp .ne 12, 3), (50, .aload_n 0, 1), (51, .iconst 4, 1), (52, .aload_n 0, 1), (53, .getfield 208, 3), (56, .invokevirtual 230, 3), (59, .aload_n 0, 1), (60, .invokevirtual 217, 3)]
theorem de_X8_clause_16 : ∀ q ∈ ce_X8_clause_16, decode prog_10_method_41_code q.1 = .ok (q.2.1, q.2.2) := by decide +kernel
theorem d_X8_clause_30 : decode prog_10_method_41_code 30 = .ok (.iconst 1, 1) := de_X8_clause_16 (30, .iconst 1, 1) (List.mem_of_getElem? (i := 0) rfl)
theorem d_X8_clause_31 : decode prog_10_method_41_code 31 = .ok (.aload_n 0, 1) := de_X8_clause_16 (31, .aload_n 0, 1) (List.mem_of_getElem? (i := 1) rfl)
theorem d_X8_clause_32 : decode prog_10_method_41_code 32 = .ok (.getfield 208, 3) := de_X8_clause_16 (32, .getfield 208, 3) (List.mem_of_getElem? (i := 2) rfl)
theorem d_X8_clause_35 : decode prog_10_method_41_code 35 = .ok (.invokevirtual 230, 3) := de_X8_clause_16 (35, .invokevirtual 230, 3) (List.mem_of_getElem? (i := 3) rfl)
theorem d_X8_clause_38 : decode prog_10_method_41_code 38 = .ok (.goto 21, 3) := de_X8_clause_16 (38, .goto 21, 3) (List.mem_of_getElem? (i := 4) rfl)
theorem d_X8_clause_41 : decode prog_10_method_41_code 41 = .ok (.aload_n 0, 1) := de_X8_clause_16 (41, .aload_n 0, 1) (List.mem_of_getElem? (i := 5) rfl)
theorem d_X8_clause_42 : decode prog_10_method_41_code 42 = .ok (.getfield 307, 3) := de_X8_clause_16 (42, .getfield 307, 3) (List.mem_of_getElem? (i := 6) rfl)
theorem d_X8_clause_45 : decode prog_10_method_41_code 45 = .ok (.bipush 14, 2) := de_X8_clause_16 (45, .bipush 14, 2) (List.mem_of_getElem? (i := 7) rfl)
theorem d_X8_clause_47 : decode prog_10_method_41_code 47 = .ok (.if_icmp .ne 12, 3) := de_X8_clause_16 (47, .if_icmp .ne 12, 3) (List.mem_of_getElem? (i := 8) rfl)
theorem d_X8_clause_50 : decode prog_10_method_41_code 50 = .ok (.aload_n 0, 1) := de_X8_clause_16 (50, .aload_n 0, 1) (List.mem_of_getElem? (i := 9) rfl)
theorem d_X8_clause_51 : decode prog_10_method_41_code 51 = .ok (.iconst 4, 1) := de_X8_clause_16 (51, .iconst 4, 1) (List.mem_of_getElem? (i := 10) rfl)
theorem d_X8_clause_52 : decode prog_10_method_41_code 52 = .ok (.aload_n 0, 1) := de_X8_clause_16 (52, .aload_n 0, 1) (List.mem_of_getElem? (i := 11) rfl)
theorem d_X8_clause_53 : decode prog_10_method_41_code 53 = .ok (.getfield 208, 3) := de_X8_clause_16 (53, .getfield 208, 3) (List.mem_of_getElem? (i := 12) rfl)
theorem d_X8_clause_56 : decode prog_10_method_41_code 56 = .ok (.invokevirtual 230, 3) := de_X8_clause_16 (56, .invokevirtual 230, 3) (List.mem_of_getElem? (i := 13) rfl)
theorem d_X8_clause_59 : decode prog_10_method_41_code 59 = .ok (.aload_n 0, 1) := de_X8_clause_16 (59, .aload_n 0, 1) (List.mem_of_getElem? (i := 14) rfl)
theorem d_X8_clause_60 : decode prog_10_method_41_code 60 = .ok (.invokevirtual 217, 3) := de_X8_clause_16 (60, .invokevirtual 217, 3) (List.mem_of_getElem? (i := 15) rfl)
def ce_X8_clause_32 : List (Nat × Instr × Nat) := [(63, .ifCond .ne 4, 3), (66, .return_, 1), (67, .aload_n 0, 1), (68, .getfield 76, 3), (71, .aload_n 0, 1), (72, .getfield 307, 3), (75, .iload_n 1, 1), (76, .iastore, 1), (77, .aload_n 0, 1), (78, .getfield 79, 3), (81, .aload_n 0, 1), (82, .getfield 307, 3), (85, .aload_n 0, 1), (86, .getfield 221, 3), (89, .iastore, 1), (90, .aload_n 0, 1)]
theorem de_X8_clause_32 : ∀ q ∈ ce_X8_clause_32, decode prog_10_method_41_code q.1 = .ok (q.2.1, q.2.2) := by decide +kernel
theorem d_X8_clause_63 : decode prog_10_method_41_code 63 = .ok (.ifCond .ne 4, 3) := de_X8_clause_32 (63, .ifCond .ne 4, 3) (List.mem_of_getElem? (i := 0) rfl)
theorem d_X8_clause_66 : decode prog_10_method_41_code 66 = .ok (.return_, 1) := de_X8_clause_32 (66, .return_, 1) (List.mem_of_getElem? (i := 1) rfl)
theorem d_X8_clause_67 : decode prog_10_method_41_code 67 = .ok (.aload_n 0, 1) := de_X8_clause_32 (67, .aload_n 0, 1) (List.mem_of_getElem? (i := 2) rfl)
theorem d_X8_clause_68 : decode prog_10_method_41_code 68 = .ok (.getfield 76, 3) := de_X8_clause_32 (68, .getfield 76, 3) (List.mem_of_getElem? (i := 3) rfl)
theorem d_X8_clause_71 : decode prog_10_method_41_code 71 = .ok (.aload_n 0, 1) := de_X8_clause_32 (71, .aload_n 0, 1) (List.mem_of_getElem? (i := 4) rfl)
theorem d_X8_clause_72 : decode prog_10_method_41_code 72 = .ok (.getfield 307, 3) := de_X8_clause_32 (72, .getfield 307, 3) (List.mem_of_getElem? (i := 5) rfl)
theorem d_X8_clause_75 : decode prog_10_method_41_code 75 = .ok (.iload_n 1, 1) := de_X8_clause_32 (75, .iload_n 1, 1) (List.mem_of_getElem? (i := 6) rfl)
theorem d_X8_clause_76 : decode prog_10_method_41_code 76 = .ok (.iastore, 1) := de_X8_clause_32 (76, .iastore, 1) (List.mem_of_getElem? (i := 7) rfl)
theorem d_X8_clause_77 : decode prog_10_method_41_code 77 = .ok (.aload_n 0, 1) := de_X8_clause_32 (77, .aload_n 0, 1) (List.mem_of_getElem? (i := 8) rfl)
theorem d_X8_clause_78 : decode prog_10_method_41_code 78 = .ok (.getfield 79, 3) := de_X8_clause_32 (78, .getfield 79, 3) (List.mem_of_getElem? (i := 9) rfl)
theorem d_X8_clause_81 : decode prog_10_method_41_code 81 = .ok (.aload_n 0, 1) := de_X8_clause_32 (81, .aload_n 0, 1) (List.mem_of_getElem? (i := 10) rfl)
theorem d_X8_clause_82 : decode prog_10_method_41_code 82 = .ok (.getfield 307, 3) := de_X8_clause_32 (82, .getfield 307, 3) (List.mem_of_getElem? (i := 11) rfl)
theorem d_X8_clause_85 : decode prog_10_method_41_code 85 = .ok (.aload_n 0, 1) := de_X8_clause_32 (85, .aload_n 0, 1) (List.mem_of_getElem? (i := 12) rfl)
theorem d_X8_clause_86 : decode prog_10_method_41_code 86 = .ok (.getfield 221, 3) := de_X8_clause_32 (86, .getfield 221, 3) (List.mem_of_getElem? (i := 13) rfl)
theorem d_X8_clause_89 : decode prog_10_method_41_code 89 = .ok (.iastore, 1) := de_X8_clause_32 (89, .iastore, 1) (List.mem_of_getElem? (i := 14) rfl)
theorem d_X8_clause_90 : decode prog_10_method_41_code 90 = .ok (.aload_n 0, 1) := de_X8_clause_32 (90, .aload_n 0, 1) (List.mem_of_getElem? (i := 15) rfl)
def ce_X8_clause_48 : List (Nat × Instr × Nat) := [(91, .dup, 1), (92, .getfield 208, 3), (95, .iconst 1, 1), (96, .iadd, 1), (97, .putfield 208, 3), (100, .aload_n 0, 1), (101, .iconst 0, 1), (102, .putfield 224, 3), (105, .aload_n 0, 1), (106, .iconst 0, 1), (107, .putfield 227, 3), (110, .aload_n 0, 1), (111, .invokevirtual 286, 3), (114, .aload_n 0, 1), (115, .getfield 82, 3), (118, .aload_n 0, 1)]
theorem de_X8_clause_48 : ∀ q ∈ ce_X8_clause_48, decode prog_10_method_41_code q.1 = .ok (q.2.1, q.2.2) := by decide +kernel
theorem d_X8_clause_91 : decode prog_10_method_41_code 91 = .ok (.dup, 1) := de_X8_clause_48 (91, .dup, 1) (List.mem_of_getElem? (i := 0) rfl)
theorem d_X8_clause_92 : decode prog_10_method_41_code 92 = .ok (.getfield 208, 3) := de_X8_clause_48 (92, .getfield 208, 3) (List.mem_of_getElem? (i := 1) rfl)
theorem d_X8_clause_95 : decode prog_10_method_41_code 95 = .ok (.iconst 1, 1) := de_X8_clause_48 (95, .iconst 1, 1) (List.mem_of_getElem? (i := 2) rfl)
theorem d_X8_clause_96 : decode prog_10_method_41_code 96 = .ok (.iadd, 1) := de_X8_clause_48 (96, .iadd, 1) (List.mem_of_getElem? (i := 3) rfl)
theorem d_X8_clause_97 : decode prog_10_method_41_code 97 = .ok (.putfield 208, 3) := de_X8_clause_48 (97, .putfield 208, 3) (List.mem_of_getElem? (i := 4) rfl)
theorem d_X8_clause_100 : decode prog_10_method_41_code 100 = .ok (.aload_n 0, 1) := de_X8_clause_48 (100, .aload_n 0, 1) (List.mem_of_getElem? (i := 5) rfl)
theorem d_X8_clause_101 : decode prog_10_method_41_code 101 = .ok (.iconst 0, 1) := de_X8_clause_48 (101, .iconst 0, 1) (List.mem_of_getElem? (i := 6) rfl)
theorem d_X8_clause_102 : decode prog_10_method_41_code 102 = .ok (.putfield 224, 3) := de_X8_clause_48 (102, .putfield 224, 3) (List.mem_of_getElem? (i := 7) rfl)
theorem d_X8_clause_105 : decode prog_10_method_41_code 105 = .ok (.aload_n 0, 1) := de_X8_clause_48 (105, .aload_n 0, 1) (List.mem_of_getElem? (i := 8) rfl)
theorem d_X8_clause_106 : decode prog_10_method_41_code 106 = .ok (.iconst 0, 1) := de_X8_clause_48 (106, .iconst 0, 1) (List.mem_of_getElem? (i := 9) rfl)
theorem d_X8_clause_107 : decode prog_10_method_41_code 107 = .ok (.putfield 227, 3) := de_X8_clause_48 (107, .putfield 227, 3) (List.mem_of_getElem? (i := 10) rfl)
theorem d_X8_clause_110 : decode prog_10_method_41_code 110 = .ok (.aload_n 0, 1) := de_X8_clause_48 (110, .aload_n 0, 1) (List.mem_of_getElem? (i := 11) rfl)
theorem d_X8_clause_111 : decode prog_10_method_41_code 111 = .ok (.invokevirtual 286, 3) := de_X8_clause_48 (111, .invokevirtual 286, 3) (List.mem_of_getElem? (i := 12) rfl)
theorem d_X8_clause_114 : decode prog_10_method_41_code 114 = .ok (.aload_n 0, 1) := de_X8_clause_48 (114, .aload_n 0, 1) (List.mem_of_getElem? (i := 13) rfl)
theorem d_X8_clause_115 : decode prog_10_method_41_code 115 = .ok (.getfield 82, 3) := de_X8_clause_48 (115, .getfield 82, 3) (List.mem_of_getElem? (i := 14) rfl)
theorem d_X8_clause_118 : decode prog_10_method_41_code 118 = .ok (.aload_n 0, 1) := de_X8_clause_48 (118, .aload_n 0, 1) (List.mem_of_getElem? (i := 15) rfl)
def ce_X8_clause_64 : List (Nat × Instr × Nat) := [(119, .getfield 307, 3), (122, .aload_n 0, 1), (123, .getfield 221, 3), (126, .iastore, 1), (127, .aload_n 0, 1), (128, .invokevirtual 217, 3), (131, .ifCond .eq 7, 3), (134, .aload_n 0, 1), (135, .invokevirtual 310, 3), (138, .aload_n 0, 1), (139, .getfield 85, 3), (142, .aload_n 0, 1), (143, .getfield 307, 3), (146, .aload_n 0, 1), (147, .getfield 221, 3), (150, .iastore, 1)]
theorem de_X8_clause_64 : ∀ q ∈ ce_X8_clause_64, decode prog_10_method_41_code q.1 = .ok (q.2.1, q.2.2) := by decide +kernel
theorem d_X8_clause_119 : decode prog_10_method_41_code 119 = .ok (.getfield 307, 3) := de_X8_clause_64 (119, .getfield 307, 3) (List.mem_of_getElem? (i := 0) rfl)
theorem d_X8_clause_122 : decode prog_10_method_41_code 122 = .ok (.aload_n 0, 1) := de_X8_clause_64 (122, .aload_n 0, 1) (List.mem_of_getElem? (i := 1) rfl)
theorem d_X8_clause_123 : decode prog_10_method_41_code 123 = .ok (.getfield 221, 3) := de_X8_clause_64 (123, .getfield 221, 3) (List.mem_of_getElem? (i := 2) rfl)
theorem d_X8_clause_126 : decode prog_10_method_41_code 126 = .ok (.iastore, 1) := de_X8_clause_64 (126, .iastore, 1) (List.mem_of_getElem? (i := 3) rfl)
theorem d_X8_clause_127 : decode prog_10_method_41_code 127 = .ok (.aload_n 0, 1) := de_X8_clause_64 (127, .aload_n 0, 1) (List.mem_of_getElem? (i := 4) rfl)
theorem d_X8_clause_128 : decode prog_10_method_41_code 128 = .ok (.invokevirtual 217, 3) := de_X8_clause_64 (128, .invokevirtual 217, 3) (List.mem_of_getElem? (i := 5) rfl)
theorem d_X8_clause_131 : decode prog_10_method_41_code 131 = .ok (.ifCond .eq 7, 3) := de_X8_clause_64 (131, .ifCond .eq 7, 3) (List.mem_of_getElem? (i := 6) rfl)
theorem d_X8_clause_134 : decode prog_10_method_41_code 134 = .ok (.aload_n 0, 1) := de_X8_clause_64 (134, .aload_n 0, 1) (List.mem_of_getElem? (i := 7) rfl)
theorem d_X8_clause_135 : decode prog_10_method_41_code 135 = .ok (.invokevirtual 310, 3) := de_X8_clause_64 (135, .invokevirtual 310, 3) (List.mem_of_getElem? (i := 8) rfl)
theorem d_X8_clause_138 : decode prog_10_method_41_code 138 = .ok (.aload_n 0, 1) := de_X8_clause_64 (138, .aload_n 0, 1) (List.mem_of_getElem? (i := 9) rfl)
theorem d_X8_clause_139 : decode prog_10_method_41_code 139 = .ok (.getfield 85, 3) := de_X8_clause_64 (139, .getfield 85, 3) (List.mem_of_getElem? (i := 10) rfl)
theorem d_X8_clause_142 : decode prog_10_method_41_code 142 = .ok (.aload_n 0, 1) := de_X8_clause_64 (142, .aload_n 0, 1) (List.mem_of_getElem? (i := 11) rfl)
theorem d_X8_clause_143 : decode prog_10_method_41_code 143 = .ok (.getfield 307, 3) := de_X8_clause_64 (143, .getfield 307, 3) (List.mem_of_getElem? (i := 12) rfl)
theorem d_X8_clause_146 : decode prog_10_method_41_code 146 = .ok (.aload_n 0, 1) := de_X8_clause_64 (146, .aload_n 0, 1) (List.mem_of_getElem? (i := 13) rfl)
theorem d_X8_clause_147 : decode prog_10_method_41_code 147 = .ok (.getfield 221, 3) := de_X8_clause_64 (147, .getfield 221, 3) (List.mem_of_getElem? (i := 14) rfl)
theorem d_X8_clause_150 : decode prog_10_method_41_code 150 = .ok (.iastore, 1) := de_X8_clause_64 (150, .iastore, 1) (List.mem_of_getElem? (i := 15) rfl)
def ce_X8_clause_80 : List (Nat × Instr × Nat) := [(151, .aload_n 0, 1), (152, .dup, 1), (153, .getfield 307, 3), (156, .iconst 1, 1), (157, .iadd, 1), (158, .putfield 307, 3), (161, .return_, 1)]
theorem de_X8_clause_80 : ∀ q ∈ ce_X8_clause_80, decode prog_10_method_41_code q.1 = .ok (q.2.1, q.2.2) := by decide +kernel
theorem d_X8_clause_151 : decode prog_10_method_41_code 151 = .ok (.aload_n 0, 1) := de_X8_clause_80 (151, .aload_n 0, 1) (List.mem_of_getElem? (i := 0) rfl)
theorem d_X8_clause_152 : decode prog_10_method_41_code 152 = .ok (.dup, 1) := de_X8_clause_80 (152, .dup, 1) (List.mem_of_getElem? (i := 1) rfl)
theorem d_X8_clause_153 : decode prog_10_method_41_code 153 = .ok (.getfield 307, 3) := de_X8_clause_80 (153, .getfield 307, 3) (List.mem_of_getElem? (i := 2) rfl)
theorem d_X8_clause_156 : decode prog_10_method_41_code 156 = .ok (.iconst 1, 1) := de_X8_clause_80 (156, .iconst 1, 1) (List.mem_of_getElem? (i := 3) rfl)
theorem d_X8_clause_157 : decode prog_10_method_41_code 157 = .ok (.iadd, 1) := de_X8_clause_80 (157, .iadd, 1) (List.mem_of_getElem? (i := 4) rfl)
theorem d_X8_clause_158 : decode prog_10_method_41_code 158 = .ok (.putfield 307, 3) := de_X8_clause_80 (158, .putfield 307, 3) (List.mem_of_getElem? (i := 5) rfl)
theorem d_X8_clause_161 : decode prog_10_method_41_code 161 = .ok (.return_, 1) := de_X8_clause_80 (161, .return_, 1) (List.mem_of_getElem? (i := 6) rfl)
def ce_X8_law_0 : List (Nat × Instr × Nat) := [(0, .iload_n 1, 1), (1, .i2l, 1), (2, .lconst 1, 1), (3, .ldc2_w 313, 3), (6, .invokestatic 168, 3), (9, .ifCond .eq 11, 3), (12, .iload_n 1, 1), (13, .aload_n 0, 1), (14, .getfield 201, 3), (17, .if_icmp .le 5, 3), (20, .iconst (-1), 1), (21, .ireturn, 1), (22, .aload_n 0, 1), (23, .iconst 0, 1), (24, .putfield 201, 3), (27, .aload_n 0, 1)]
theorem de_X8_law_0 : ∀ q ∈ ce_X8_law_0, decode prog_10_method_42_code q.1 = .ok (q.2.1, q.2.2) := by decide +kernel
theorem d_X8_law_0 : decode prog_10_method_42_code 0 = .ok (.iload_n 1, 1) := de_X8_law_0 (0, .iload_n 1, 1) (List.mem_of_getElem? (i := 0) rfl)
theorem d_X8_law_1 : decode prog_10_method_42_code 1 = .ok (.i2l, 1) := de_X8_law_0 (1, .i2l, 1) (List.mem_of_getElem? (i := 1) rfl)
theorem d_X8_law_2 : decode prog_10_method_42_code 2 = .ok (.lconst 1, 1) := de_X8_law_0 (2, .lconst 1, 1) (List.mem_of_getElem? (i := 2) rfl)
theorem d_X8_law_3 : decode prog_10_method_42_code 3 = .ok (.ldc2_w 313, 3) := de_X8_law_0 (3, .ldc2_w 313, 3) (List.mem_of_getElem? (i := 3) rfl)
theorem d_X8_law_6 : decode prog_10_method_42_code 6 = .ok (.invokestatic 168, 3) := de_X8_law_0 (6, .invokestatic 168, 3) (List.mem_of_getElem? (i := 4) rfl)
theorem d_X8_law_9 : decode prog_10_method_42_code 9 = .ok (.ifCond .eq 11, 3) := de_X8_law_0 (9, .ifCond .eq 11, 3) (List.mem_of_getElem? (i := 5) rfl)
theorem d_X8_law_12 : decode prog_10_method_42_code 12 = .ok (.iload_n 1, 1) := de_X8_law_0 (12, .iload_n 1, 1) (List.mem_of_getElem? (i := 6) rfl)
theorem d_X8_law_13 : decode prog_10_method_42_code 13 = .ok (.aload_n 0, 1) := de_X8_law_0 (13, .aload_n 0, 1) (List.mem_of_getElem? (i := 7) rfl)
theorem d_X8_law_14 : decode prog_10_method_42_code 14 = .ok (.getfield 201, 3) := de_X8_law_0 (14, .getfield 201, 3) (List.mem_of_getElem? (i := 8) rfl)
theorem d_X8_law_17 : decode prog_10_method_42_code 17 = .ok (.if_icmp .le 5, 3) := de_X8_law_0 (17, .if_icmp .le 5, 3) (List.mem_of_getElem? (i := 9) rfl)
theorem d_X8_law_20 : decode prog_10_method_42_code 20 = .ok (.iconst (-1), 1) := de_X8_law_0 (20, .iconst (-1), 1) (List.mem_of_getElem? (i := 10) rfl)
theorem d_X8_law_21 : decode prog_10_method_42_code 21 = .ok (.ireturn, 1) := de_X8_law_0 (21, .ireturn, 1) (List.mem_of_getElem? (i := 11) rfl)
theorem d_X8_law_22 : decode prog_10_method_42_code 22 = .ok (.aload_n 0, 1) := de_X8_law_0 (22, .aload_n 0, 1) (List.mem_of_getElem? (i := 12) rfl)
theorem d_X8_law_23 : decode prog_10_method_42_code 23 = .ok (.iconst 0, 1) := de_X8_law_0 (23, .iconst 0, 1) (List.mem_of_getElem? (i := 13) rfl)
theorem d_X8_law_24 : decode prog_10_method_42_code 24 = .ok (.putfield 201, 3) := de_X8_law_0 (24, .putfield 201, 3) (List.mem_of_getElem? (i := 14) rfl)
theorem d_X8_law_27 : decode prog_10_method_42_code 27 = .ok (.aload_n 0, 1) := de_X8_law_0 (27, .aload_n 0, 1) (List.mem_of_getElem? (i := 15) rfl)
def ce_X8_law_16 : List (Nat × Instr × Nat) := [(28, .iconst 0, 1), (29, .putfield 208, 3), (32, .aload_n 0, 1), (33, .iload_n 1, 1), (34, .putfield 211, 3), (37, .aload_n 0, 1), (38, .iconst 0, 1), (39, .putfield 214, 3), (42, .aload_n 0, 1), (43, .iconst 0, 1), (44, .putfield 307, 3), (47, .aload_n 0, 1), (48, .iconst 0, 1), (49, .putfield 221, 3), (52, .iconst 1, 1), (53, .istore_n 2, 1)]
theorem de_X8_law_16 : ∀ q ∈ ce_X8_law_16, decode prog_10_method_42_code q.1 = .ok (q.2.1, q.2.2) := by decide +kernel
theorem d_X8_law_28 : decode prog_10_method_42_code 28 = .ok (.iconst 0, 1) := de_X8_law_16 (28, .iconst 0, 1) (List.mem_of_getElem? (i := 0) rfl)
theorem d_X8_law_29 : decode prog_10_method_42_code 29 = .ok (.putfield 208, 3) := de_X8_law_16 (29, .putfield 208, 3) (List.mem_of_getElem? (i := 1) rfl)
theorem d_X8_law_32 : decode prog_10_method_42_code 32 = .ok (.aload_n 0, 1) := de_X8_law_16 (32, .aload_n 0, 1) (List.mem_of_getElem? (i := 2) rfl)
theorem d_X8_law_33 : decode prog_10_method_42_code 33 = .ok (.iload_n 1, 1) := de_X8_law_16 (33, .iload_n 1, 1) (List.mem_of_getElem? (i := 3) rfl)
theorem d_X8_law_34 : decode prog_10_method_42_code 34 = .ok (.putfield 211, 3) := de_X8_law_16 (34, .putfield 211, 3) (List.mem_of_getElem? (i := 4) rfl)
theorem d_X8_law_37 : decode prog_10_method_42_code 37 = .ok (.aload_n 0, 1) := de_X8_law_16 (37, .aload_n 0, 1) (List.mem_of_getElem? (i := 5) rfl)
theorem d_X8_law_38 : decode prog_10_method_42_code 38 = .ok (.iconst 0, 1) := de_X8_law_16 (38, .iconst 0, 1) (List.mem_of_getElem? (i := 6) rfl)
theorem d_X8_law_39 : decode prog_10_method_42_code 39 = .ok (.putfield 214, 3) := de_X8_law_16 (39, .putfield 214, 3) (List.mem_of_getElem? (i := 7) rfl)
theorem d_X8_law_42 : decode prog_10_method_42_code 42 = .ok (.aload_n 0, 1) := de_X8_law_16 (42, .aload_n 0, 1) (List.mem_of_getElem? (i := 8) rfl)
theorem d_X8_law_43 : decode prog_10_method_42_code 43 = .ok (.iconst 0, 1) := de_X8_law_16 (43, .iconst 0, 1) (List.mem_of_getElem? (i := 9) rfl)
theorem d_X8_law_44 : decode prog_10_method_42_code 44 = .ok (.putfield 307, 3) := de_X8_law_16 (44, .putfield 307, 3) (List.mem_of_getElem? (i := 10) rfl)
theorem d_X8_law_47 : decode prog_10_method_42_code 47 = .ok (.aload_n 0, 1) := de_X8_law_16 (47, .aload_n 0, 1) (List.mem_of_getElem? (i := 11) rfl)
theorem d_X8_law_48 : decode prog_10_method_42_code 48 = .ok (.iconst 0, 1) := de_X8_law_16 (48, .iconst 0, 1) (List.mem_of_getElem? (i := 12) rfl)
theorem d_X8_law_49 : decode prog_10_method_42_code 49 = .ok (.putfield 221, 3) := de_X8_law_16 (49, .putfield 221, 3) (List.mem_of_getElem? (i := 13) rfl)
theorem d_X8_law_52 : decode prog_10_method_42_code 52 = .ok (.iconst 1, 1) := de_X8_law_16 (52, .iconst 1, 1) (List.mem_of_getElem? (i := 14) rfl)
theorem d_X8_law_53 : decode prog_10_method_42_code 53 = .ok (.istore_n 2, 1) := de_X8_law_16 (53, .istore_n 2, 1) (List.mem_of_getElem? (i := 15) rfl)
def ce_X8_law_32 : List (Nat × Instr × Nat) := [(54, .iload_n 2, 1), (55, .ifCond .eq 73, 3), (58, .aload_n 0, 1), (59, .invokevirtual 217, 3), (62, .ifCond .eq 66, 3), (65, .aload_n 0, 1), (66, .invokevirtual 315, 3), (69, .aload_n 0, 1), (70, .invokevirtual 217, 3), (73, .ifCond .eq 18, 3), (76, .aload_n 0, 1), (77, .getfield 208, 3), (80, .aload_n 0, 1), (81, .getfield 211, 3), (84, .if_icmp .ge 7, 3), (87, .iconst 1, 1)]
theorem de_X8_law_32 : ∀ q ∈ ce_X8_law_32, decode prog_10_method_42_code q.1 = .ok (q.2.1, q.2.2) := by decide +kernel
theorem d_X8_law_54 : decode prog_10_method_42_code 54 = .ok (.iload_n 2, 1) := de_X8_law_32 (54, .iload_n 2, 1) (List.mem_of_getElem? (i := 0) rfl)
theorem d_X8_law_55 : decode prog_10_method_42_code 55 = .ok (.ifCond .eq 73, 3) := de_X8_law_32 (55, .ifCond .eq 73, 3) (List.mem_of_getElem? (i := 1) rfl)
theorem d_X8_law_58 : decode prog_10_method_42_code 58 = .ok (.aload_n 0, 1) := de_X8_law_32 (58, .aload_n 0, 1) (List.mem_of_getElem? (i := 2) rfl)
theorem d_X8_law_59 : decode prog_10_method_42_code 59 = .ok (.invokevirtual 217, 3) := de_X8_law_32 (59, .invokevirtual 217, 3) (List.mem_of_getElem? (i := 3) rfl)
theorem d_X8_law_62 : decode prog_10_method_42_code 62 = .ok (.ifCond .eq 66, 3) := de_X8_law_32 (62, .ifCond .eq 66, 3) (List.mem_of_getElem? (i := 4) rfl)
theorem d_X8_law_65 : decode prog_10_method_42_code 65 = .ok (.aload_n 0, 1) := de_X8_law_32 (65, .aload_n 0, 1) (List.mem_of_getElem? (i := 5) rfl)
theorem d_X8_law_66 : decode prog_10_method_42_code 66 = .ok (.invokevirtual 315, 3) := de_X8_law_32 (66, .invokevirtual 315, 3) (List.mem_of_getElem? (i := 6) rfl)
theorem d_X8_law_69 : decode prog_10_method_42_code 69 = .ok (.aload_n 0, 1) := de_X8_law_32 (69, .aload_n 0, 1) (List.mem_of_getElem? (i := 7) rfl)
theorem d_X8_law_70 : decode prog_10_method_42_code 70 = .ok (.invokevirtual 217, 3) := de_X8_law_32 (70, .invokevirtual 217, 3) (List.mem_of_getElem? (i := 8) rfl)
theorem d_X8_law_73 : decode prog_10_method_42_code 73 = .ok (.ifCond .eq 18, 3) := de_X8_law_32 (73, .ifCond .eq 18, 3) (List.mem_of_getElem? (i := 9) rfl)
theorem d_X8_law_76 : decode prog_10_method_42_code 76 = .ok (.aload_n 0, 1) := de_X8_law_32 (76, .aload_n 0, 1) (List.mem_of_getElem? (i := 10) rfl)
theorem d_X8_law_77 : decode prog_10_method_42_code 77 = .ok (.getfield 208, 3) := de_X8_law_32 (77, .getfield 208, 3) (List.mem_of_getElem? (i := 11) rfl)
theorem d_X8_law_80 : decode prog_10_method_42_code 80 = .ok (.aload_n 0, 1) := de_X8_law_32 (80, .aload_n 0, 1) (List.mem_of_getElem? (i := 12) rfl)
theorem d_X8_law_81 : decode prog_10_method_42_code 81 = .ok (.getfield 211, 3) := de_X8_law_32 (81, .getfield 211, 3) (List.mem_of_getElem? (i := 13) rfl)
theorem d_X8_law_84 : decode prog_10_method_42_code 84 = .ok (.if_icmp .ge 7, 3) := de_X8_law_32 (84, .if_icmp .ge 7, 3) (List.mem_of_getElem? (i := 14) rfl)
theorem d_X8_law_87 : decode prog_10_method_42_code 87 = .ok (.iconst 1, 1) := de_X8_law_32 (87, .iconst 1, 1) (List.mem_of_getElem? (i := 15) rfl)
def ce_X8_law_48 : List (Nat × Instr × Nat) := [(88, .goto 4, 3), (91, .iconst 0, 1), (92, .istore_n 2, 1), (93, .iload_n 2, 1), (94, .ifCond .eq (-40), 3), (97, .aload_n 0, 1), (98, .invokevirtual 234, 3), (101, .bipush 59, 2), (103, .if_icmp .eq 12, 3), (106, .aload_n 0, 1), (107, .iconst 1, 1), (108, .aload_n 0, 1), (109, .getfield 208, 3), (112, .invokevirtual 230, 3), (115, .aload_n 0, 1), (116, .dup, 1)]
theorem de_X8_law_48 : ∀ q ∈ ce_X8_law_48, decode prog_10_method_42_code q.1 = .ok (q.2.1, q.2.2) := by decide +kernel
theorem d_X8_law_88 : decode prog_10_method_42_code 88 = .ok (.goto 4, 3) := de_X8_law_48 (88, .goto 4, 3) (List.mem_of_getElem? (i := 0) rfl)
theorem d_X8_law_91 : decode prog_10_method_42_code 91 = .ok (.iconst 0, 1) := de_X8_law_48 (91, .iconst 0, 1) (List.mem_of_getElem? (i := 1) rfl)
theorem d_X8_law_92 : decode prog_10_method_42_code 92 = .ok (.istore_n 2, 1) := de_X8_law_48 (92, .istore_n 2, 1) (List.mem_of_getElem? (i := 2) rfl)
theorem d_X8_law_93 : decode prog_10_method_42_code 93 = .ok (.iload_n 2, 1) := de_X8_law_48 (93, .iload_n 2, 1) (List.mem_of_getElem? (i := 3) rfl)
theorem d_X8_law_94 : decode prog_10_method_42_code 94 = .ok (.ifCond .eq (-40), 3) := de_X8_law_48 (94, .ifCond .eq (-40), 3) (List.mem_of_getElem? (i := 4) rfl)
theorem d_X8_law_97 : decode prog_10_method_42_code 97 = .ok (.aload_n 0, 1) := de_X8_law_48 (97, .aload_n 0, 1) (List.mem_of_getElem? (i := 5) rfl)
theorem d_X8_law_98 : decode prog_10_method_42_code 98 = .ok (.invokevirtual 234, 3) := de_X8_law_48 (98, .invokevirtual 234, 3) (List.mem_of_getElem? (i := 6) rfl)
theorem d_X8_law_101 : decode prog_10_method_42_code 101 = .ok (.bipush 59, 2) := de_X8_law_48 (101, .bipush 59, 2) (List.mem_of_getElem? (i := 7) rfl)
theorem d_X8_law_103 : decode prog_10_method_42_code 103 = .ok (.if_icmp .eq 12, 3) := de_X8_law_48 (103, .if_icmp .eq 12, 3) (List.mem_of_getElem? (i := 8) rfl)
theorem d_X8_law_106 : decode prog_10_method_42_code 106 = .ok (.aload_n 0, 1) := de_X8_law_48 (106, .aload_n 0, 1) (List.mem_of_getElem? (i := 9) rfl)
theorem d_X8_law_107 : decode prog_10_method_42_code 107 = .ok (.iconst 1, 1) := de_X8_law_48 (107, .iconst 1, 1) (List.mem_of_getElem? (i := 10) rfl)
theorem d_X8_law_108 : decode prog_10_method_42_code 108 = .ok (.aload_n 0, 1) := de_X8_law_48 (108, .aload_n 0, 1) (List.mem_of_getElem? (i := 11) rfl)
theorem d_X8_law_109 : decode prog_10_method_42_code 109 = .ok (.getfield 208, 3) := de_X8_law_48 (109, .getfield 208, 3) (List.mem_of_getElem? (i := 12) rfl)
theorem d_X8_law_112 : decode prog_10_method_42_code 112 = .ok (.invokevirtual 230, 3) := de_X8_law_48 (112, .invokevirtual 230, 3) (List.mem_of_getElem? (i := 13) rfl)
theorem d_X8_law_115 : decode prog_10_method_42_code 115 = .ok (.aload_n 0, 1) := de_X8_law_48 (115, .aload_n 0, 1) (List.mem_of_getElem? (i := 14) rfl)
theorem d_X8_law_116 : decode prog_10_method_42_code 116 = .ok (.dup, 1) := de_X8_law_48 (116, .dup, 1) (List.mem_of_getElem? (i := 15) rfl)
def ce_X8_law_64 : List (Nat × Instr × Nat) := [(117, .getfield 208, 3), (120, .iconst 1, 1), (121, .iadd, 1), (122, .putfield 208, 3), (125, .goto (-71), 3), (128, .aload_n 0, 1), (129, .getfield 214, 3), (132, .ifCond .ge 8, 3), (135, .aload_n 0, 1), (136, .getfield 214, 3), (139, .ireturn, 1), (140, .iconst 0, 1), (141, .istore_n 3, 1), (142, .iload_n 3, 1), (143, .aload_n 0, 1), (144, .getfield 307, 3)]
theorem de_X8_law_64 : ∀ q ∈ ce_X8_law_64, decode prog_10_method_42_code q.1 = .ok (q.2.1, q.2.2) := by decide +kernel
theorem d_X8_law_117 : decode prog_10_method_42_code 117 = .ok (.getfield 208, 3) := de_X8_law_64 (117, .getfield 208, 3) (List.mem_of_getElem? (i := 0) rfl)
theorem d_X8_law_120 : decode prog_10_method_42_code 120 = .ok (.iconst 1, 1) := de_X8_law_64 (120, .iconst 1, 1) (List.mem_of_getElem? (i := 1) rfl)
theorem d_X8_law_121 : decode prog_10_method_42_code 121 = .ok (.iadd, 1) := de_X8_law_64 (121, .iadd, 1) (List.mem_of_getElem? (i := 2) rfl)
theorem d_X8_law_122 : decode prog_10_method_42_code 122 = .ok (.putfield 208, 3) := de_X8_law_64 (122, .putfield 208, 3) (List.mem_of_getElem? (i := 3) rfl)
theorem d_X8_law_125 : decode prog_10_method_42_code 125 = .ok (.goto (-71), 3) := de_X8_law_64 (125, .goto (-71), 3) (List.mem_of_getElem? (i := 4) rfl)
theorem d_X8_law_128 : decode prog_10_method_42_code 128 = .ok (.aload_n 0, 1) := de_X8_law_64 (128, .aload_n 0, 1) (List.mem_of_getElem? (i := 5) rfl)
theorem d_X8_law_129 : decode prog_10_method_42_code 129 = .ok (.getfield 214, 3) := de_X8_law_64 (129, .getfield 214, 3) (List.mem_of_getElem? (i := 6) rfl)
theorem d_X8_law_132 : decode prog_10_method_42_code 132 = .ok (.ifCond .ge 8, 3) := de_X8_law_64 (132, .ifCond .ge 8, 3) (List.mem_of_getElem? (i := 7) rfl)
theorem d_X8_law_135 : decode prog_10_method_42_code 135 = .ok (.aload_n 0, 1) := de_X8_law_64 (135, .aload_n 0, 1) (List.mem_of_getElem? (i := 8) rfl)
theorem d_X8_law_136 : decode prog_10_method_42_code 136 = .ok (.getfield 214, 3) := de_X8_law_64 (136, .getfield 214, 3) (List.mem_of_getElem? (i := 9) rfl)
theorem d_X8_law_139 : decode prog_10_method_42_code 139 = .ok (.ireturn, 1) := de_X8_law_64 (139, .ireturn, 1) (List.mem_of_getElem? (i := 10) rfl)
theorem d_X8_law_140 : decode prog_10_method_42_code 140 = .ok (.iconst 0, 1) := de_X8_law_64 (140, .iconst 0, 1) (List.mem_of_getElem? (i := 11) rfl)
theorem d_X8_law_141 : decode prog_10_method_42_code 141 = .ok (.istore_n 3, 1) := de_X8_law_64 (141, .istore_n 3, 1) (List.mem_of_getElem? (i := 12) rfl)
theorem d_X8_law_142 : decode prog_10_method_42_code 142 = .ok (.iload_n 3, 1) := de_X8_law_64 (142, .iload_n 3, 1) (List.mem_of_getElem? (i := 13) rfl)
theorem d_X8_law_143 : decode prog_10_method_42_code 143 = .ok (.aload_n 0, 1) := de_X8_law_64 (143, .aload_n 0, 1) (List.mem_of_getElem? (i := 14) rfl)
theorem d_X8_law_144 : decode prog_10_method_42_code 144 = .ok (.getfield 307, 3) := de_X8_law_64 (144, .getfield 307, 3) (List.mem_of_getElem? (i := 15) rfl)
def ce_X8_law_80 : List (Nat × Instr × Nat) := [(147, .if_icmp .ge 57, 3), (150, .aload_n 0, 1), (151, .getfield 58, 3), (154, .iload_n 3, 1), (155, .aload_n 0, 1), (156, .getfield 76, 3), (159, .iload_n 3, 1), (160, .iaload, 1), (161, .iastore, 1), (162, .aload_n 0, 1), (163, .getfield 61, 3), (166, .iload_n 3, 1), (167, .aload_n 0, 1), (168, .getfield 79, 3), (171, .iload_n 3, 1), (172, .iaload, 1)]
theorem de_X8_law_80 : ∀ q ∈ ce_X8_law_80, decode prog_10_method_42_code q.1 = .ok (q.2.1, q.2.2) := by decide +kernel
theorem d_X8_law_147 : decode prog_10_method_42_code 147 = .ok (.if_icmp .ge 57, 3) := de_X8_law_80 (147, .if_icmp .ge 57, 3) (List.mem_of_getElem? (i := 0) rfl)
theorem d_X8_law_150 : decode prog_10_method_42_code 150 = .ok (.aload_n 0, 1) := de_X8_law_80 (150, .aload_n 0, 1) (List.mem_of_getElem? (i := 1) rfl)
theorem d_X8_law_151 : decode prog_10_method_42_code 151 = .ok (.getfield 58, 3) := de_X8_law_80 (151, .getfield 58, 3) (List.mem_of_getElem? (i := 2) rfl)
theorem d_X8_law_154 : decode prog_10_method_42_code 154 = .ok (.iload_n 3, 1) := de_X8_law_80 (154, .iload_n 3, 1) (List.mem_of_getElem? (i := 3) rfl)
theorem d_X8_law_155 : decode prog_10_method_42_code 155 = .ok (.aload_n 0, 1) := de_X8_law_80 (155, .aload_n 0, 1) (List.mem_of_getElem? (i := 4) rfl)
theorem d_X8_law_156 : decode prog_10_method_42_code 156 = .ok (.getfield 76, 3) := de_X8_law_80 (156, .getfield 76, 3) (List.mem_of_getElem? (i := 5) rfl)
theorem d_X8_law_159 : decode prog_10_method_42_code 159 = .ok (.iload_n 3, 1) := de_X8_law_80 (159, .iload_n 3, 1) (List.mem_of_getElem? (i := 6) rfl)
theorem d_X8_law_160 : decode prog_10_method_42_code 160 = .ok (.iaload, 1) := de_X8_law_80 (160, .iaload, 1) (List.mem_of_getElem? (i := 7) rfl)
theorem d_X8_law_161 : decode prog_10_method_42_code 161 = .ok (.iastore, 1) := de_X8_law_80 (161, .iastore, 1) (List.mem_of_getElem? (i := 8) rfl)
theorem d_X8_law_162 : decode prog_10_method_42_code 162 = .ok (.aload_n 0, 1) := de_X8_law_80 (162, .aload_n 0, 1) (List.mem_of_getElem? (i := 9) rfl)
theorem d_X8_law_163 : decode prog_10_method_42_code 163 = .ok (.getfield 61, 3) := de_X8_law_80 (163, .getfield 61, 3) (List.mem_of_getElem? (i := 10) rfl)
theorem d_X8_law_166 : decode prog_10_method_42_code 166 = .ok (.iload_n 3, 1) := de_X8_law_80 (166, .iload_n 3, 1) (List.mem_of_getElem? (i := 11) rfl)
theorem d_X8_law_167 : decode prog_10_method_42_code 167 = .ok (.aload_n 0, 1) := de_X8_law_80 (167, .aload_n 0, 1) (List.mem_of_getElem? (i := 12) rfl)
theorem d_X8_law_168 : decode prog_10_method_42_code 168 = .ok (.getfield 79, 3) := de_X8_law_80 (168, .getfield 79, 3) (List.mem_of_getElem? (i := 13) rfl)
theorem d_X8_law_171 : decode prog_10_method_42_code 171 = .ok (.iload_n 3, 1) := de_X8_law_80 (171, .iload_n 3, 1) (List.mem_of_getElem? (i := 14) rfl)
theorem d_X8_law_172 : decode prog_10_method_42_code 172 = .ok (.iaload, 1) := de_X8_law_80 (172, .iaload, 1) (List.mem_of_getElem? (i := 15) rfl)
def ce_X8_law_96 : List (Nat × Instr × Nat) := [(173, .iastore, 1), (174, .aload_n 0, 1), (175, .getfield 64, 3), (178, .iload_n 3, 1), (179, .aload_n 0, 1), (180, .getfield 82, 3), (183, .iload_n 3, 1), (184, .iaload, 1), (185, .iastore, 1), (186, .aload_n 0, 1), (187, .getfield 67, 3), (190, .iload_n 3, 1), (191, .aload_n 0, 1), (192, .getfield 85, 3), (195, .iload_n 3, 1), (196, .iaload, 1)]
theorem de_X8_law_96 : ∀ q ∈ ce_X8_law_96, decode prog_10_method_42_code q.1 = .ok (q.2.1, q.2.2) := by decide +kernel
theorem d_X8_law_173 : decode prog_10_method_42_code 173 = .ok (.iastore, 1) := de_X8_law_96 (173, .iastore, 1) (List.mem_of_getElem? (i := 0) rfl)
theorem d_X8_law_174 : decode prog_10_method_42_code 174 = .ok (.aload_n 0, 1) := de_X8_law_96 (174, .aload_n 0, 1) (List.mem_of_getElem? (i := 1) rfl)
theorem d_X8_law_175 : decode prog_10_method_42_code 175 = .ok (.getfield 64, 3) := de_X8_law_96 (175, .getfield 64, 3) (List.mem_of_getElem? (i := 2) rfl)
theorem d_X8_law_178 : decode prog_10_method_42_code 178 = .ok (.iload_n 3, 1) := de_X8_law_96 (178, .iload_n 3, 1) (List.mem_of_getElem? (i := 3) rfl)
theorem d_X8_law_179 : decode prog_10_method_42_code 179 = .ok (.aload_n 0, 1) := de_X8_law_96 (179, .aload_n 0, 1) (List.mem_of_getElem? (i := 4) rfl)
theorem d_X8_law_180 : decode prog_10_method_42_code 180 = .ok (.getfield 82, 3) := de_X8_law_96 (180, .getfield 82, 3) (List.mem_of_getElem? (i := 5) rfl)
theorem d_X8_law_183 : decode prog_10_method_42_code 183 = .ok (.iload_n 3, 1) := de_X8_law_96 (183, .iload_n 3, 1) (List.mem_of_getElem? (i := 6) rfl)
theorem d_X8_law_184 : decode prog_10_method_42_code 184 = .ok (.iaload, 1) := de_X8_law_96 (184, .iaload, 1) (List.mem_of_getElem? (i := 7) rfl)
theorem d_X8_law_185 : decode prog_10_method_42_code 185 = .ok (.iastore, 1) := de_X8_law_96 (185, .iastore, 1) (List.mem_of_getElem? (i := 8) rfl)
theorem d_X8_law_186 : decode prog_10_method_42_code 186 = .ok (.aload_n 0, 1) := de_X8_law_96 (186, .aload_n 0, 1) (List.mem_of_getElem? (i := 9) rfl)
theorem d_X8_law_187 : decode prog_10_method_42_code 187 = .ok (.getfield 67, 3) := de_X8_law_96 (187, .getfield 67, 3) (List.mem_of_getElem? (i := 10) rfl)
theorem d_X8_law_190 : decode prog_10_method_42_code 190 = .ok (.iload_n 3, 1) := de_X8_law_96 (190, .iload_n 3, 1) (List.mem_of_getElem? (i := 11) rfl)
theorem d_X8_law_191 : decode prog_10_method_42_code 191 = .ok (.aload_n 0, 1) := de_X8_law_96 (191, .aload_n 0, 1) (List.mem_of_getElem? (i := 12) rfl)
theorem d_X8_law_192 : decode prog_10_method_42_code 192 = .ok (.getfield 85, 3) := de_X8_law_96 (192, .getfield 85, 3) (List.mem_of_getElem? (i := 13) rfl)
theorem d_X8_law_195 : decode prog_10_method_42_code 195 = .ok (.iload_n 3, 1) := de_X8_law_96 (195, .iload_n 3, 1) (List.mem_of_getElem? (i := 14) rfl)
theorem d_X8_law_196 : decode prog_10_method_42_code 196 = .ok (.iaload, 1) := de_X8_law_96 (196, .iaload, 1) (List.mem_of_getElem? (i := 15) rfl)
def ce_X8_law_112 : List (Nat × Instr × Nat) := [(197, .iastore, 1), (198, .iinc 3 1, 3), (201, .goto (-59), 3), (204, .iconst 0, 1), (205, .istore_n 3, 1), (206, .iload_n 3, 1), (207, .aload_n 0, 1), (208, .getfield 221, 3), (211, .if_icmp .ge 33, 3), (214, .aload_n 0, 1), (215, .getfield 70, 3), (218, .iload_n 3, 1), (219, .aload_n 0, 1), (220, .getfield 88, 3), (223, .iload_n 3, 1), (224, .iaload, 1)]
theorem de_X8_law_112 : ∀ q ∈ ce_X8_law_112, decode prog_10_method_42_code q.1 = .ok (q.2.1, q.2.2) := by decide +kernel
theorem d_X8_law_197 : decode prog_10_method_42_code 197 = .ok (.iastore, 1) := de_X8_law_112 (197, .iastore, 1) (List.mem_of_getElem? (i := 0) rfl)
theorem d_X8_law_198 : decode prog_10_method_42_code 198 = .ok (.iinc 3 1, 3) := de_X8_law_112 (198, .iinc 3 1, 3) (List.mem_of_getElem? (i := 1) rfl)
theorem d_X8_law_201 : decode prog_10_method_42_code 201 = .ok (.goto (-59), 3) := de_X8_law_112 (201, .goto (-59), 3) (List.mem_of_getElem? (i := 2) rfl)
theorem d_X8_law_204 : decode prog_10_method_42_code 204 = .ok (.iconst 0, 1) := de_X8_law_112 (204, .iconst 0, 1) (List.mem_of_getElem? (i := 3) rfl)
theorem d_X8_law_205 : decode prog_10_method_42_code 205 = .ok (.istore_n 3, 1) := de_X8_law_112 (205, .istore_n 3, 1) (List.mem_of_getElem? (i := 4) rfl)
theorem d_X8_law_206 : decode prog_10_method_42_code 206 = .ok (.iload_n 3, 1) := de_X8_law_112 (206, .iload_n 3, 1) (List.mem_of_getElem? (i := 5) rfl)
theorem d_X8_law_207 : decode prog_10_method_42_code 207 = .ok (.aload_n 0, 1) := de_X8_law_112 (207, .aload_n 0, 1) (List.mem_of_getElem? (i := 6) rfl)
theorem d_X8_law_208 : decode prog_10_method_42_code 208 = .ok (.getfield 221, 3) := de_X8_law_112 (208, .getfield 221, 3) (List.mem_of_getElem? (i := 7) rfl)
theorem d_X8_law_211 : decode prog_10_method_42_code 211 = .ok (.if_icmp .ge 33, 3) := de_X8_law_112 (211, .if_icmp .ge 33, 3) (List.mem_of_getElem? (i := 8) rfl)
theorem d_X8_law_214 : decode prog_10_method_42_code 214 = .ok (.aload_n 0, 1) := de_X8_law_112 (214, .aload_n 0, 1) (List.mem_of_getElem? (i := 9) rfl)
theorem d_X8_law_215 : decode prog_10_method_42_code 215 = .ok (.getfield 70, 3) := de_X8_law_112 (215, .getfield 70, 3) (List.mem_of_getElem? (i := 10) rfl)
theorem d_X8_law_218 : decode prog_10_method_42_code 218 = .ok (.iload_n 3, 1) := de_X8_law_112 (218, .iload_n 3, 1) (List.mem_of_getElem? (i := 11) rfl)
theorem d_X8_law_219 : decode prog_10_method_42_code 219 = .ok (.aload_n 0, 1) := de_X8_law_112 (219, .aload_n 0, 1) (List.mem_of_getElem? (i := 12) rfl)
theorem d_X8_law_220 : decode prog_10_method_42_code 220 = .ok (.getfield 88, 3) := de_X8_law_112 (220, .getfield 88, 3) (List.mem_of_getElem? (i := 13) rfl)
theorem d_X8_law_223 : decode prog_10_method_42_code 223 = .ok (.iload_n 3, 1) := de_X8_law_112 (223, .iload_n 3, 1) (List.mem_of_getElem? (i := 14) rfl)
theorem d_X8_law_224 : decode prog_10_method_42_code 224 = .ok (.iaload, 1) := de_X8_law_112 (224, .iaload, 1) (List.mem_of_getElem? (i := 15) rfl)
def ce_X8_law_128 : List (Nat × Instr × Nat) := [(225, .iastore, 1), (226, .aload_n 0, 1), (227, .getfield 73, 3), (230, .iload_n 3, 1), (231, .aload_n 0, 1), (232, .getfield 91, 3), (235, .iload_n 3, 1), (236, .iaload, 1), (237, .iastore, 1), (238, .iinc 3 1, 3), (241, .goto (-35), 3), (244, .aload_n 0, 1), (245, .aload_n 0, 1), (246, .getfield 307, 3), (249, .putfield 318, 3), (252, .aload_n 0, 1)]
theorem de_X8_law_128 : ∀ q ∈ ce_X8_law_128, decode prog_10_method_42_code q.1 = .ok (q.2.1, q.2.2) := by decide +kernel
theorem d_X8_law_225 : decode prog_10_method_42_code 225 = .ok (.iastore, 1) := de_X8_law_128 (225, .iastore, 1) (List.mem_of_getElem? (i := 0) rfl)
theorem d_X8_law_226 : decode prog_10_method_42_code 226 = .ok (.aload_n 0, 1) := de_X8_law_128 (226, .aload_n 0, 1) (List.mem_of_getElem? (i := 1) rfl)
theorem d_X8_law_227 : decode prog_10_method_42_code 227 = .ok (.getfield 73, 3) := de_X8_law_128 (227, .getfield 73, 3) (List.mem_of_getElem? (i := 2) rfl)
theorem d_X8_law_230 : decode prog_10_method_42_code 230 = .ok (.iload_n 3, 1) := de_X8_law_128 (230, .iload_n 3, 1) (List.mem_of_getElem? (i := 3) rfl)
theorem d_X8_law_231 : decode prog_10_method_42_code 231 = .ok (.aload_n 0, 1) := de_X8_law_128 (231, .aload_n 0, 1) (List.mem_of_getElem? (i := 4) rfl)
theorem d_X8_law_232 : decode prog_10_method_42_code 232 = .ok (.getfield 91, 3) := de_X8_law_128 (232, .getfield 91, 3) (List.mem_of_getElem? (i := 5) rfl)
theorem d_X8_law_235 : decode prog_10_method_42_code 235 = .ok (.iload_n 3, 1) := de_X8_law_128 (235, .iload_n 3, 1) (List.mem_of_getElem? (i := 6) rfl)
theorem d_X8_law_236 : decode prog_10_method_42_code 236 = .ok (.iaload, 1) := de_X8_law_128 (236, .iaload, 1) (List.mem_of_getElem? (i := 7) rfl)
theorem d_X8_law_237 : decode prog_10_method_42_code 237 = .ok (.iastore, 1) := de_X8_law_128 (237, .iastore, 1) (List.mem_of_getElem? (i := 8) rfl)
theorem d_X8_law_238 : decode prog_10_method_42_code 238 = .ok (.iinc 3 1, 3) := de_X8_law_128 (238, .iinc 3 1, 3) (List.mem_of_getElem? (i := 9) rfl)
theorem d_X8_law_241 : decode prog_10_method_42_code 241 = .ok (.goto (-35), 3) := de_X8_law_128 (241, .goto (-35), 3) (List.mem_of_getElem? (i := 10) rfl)
theorem d_X8_law_244 : decode prog_10_method_42_code 244 = .ok (.aload_n 0, 1) := de_X8_law_128 (244, .aload_n 0, 1) (List.mem_of_getElem? (i := 11) rfl)
theorem d_X8_law_245 : decode prog_10_method_42_code 245 = .ok (.aload_n 0, 1) := de_X8_law_128 (245, .aload_n 0, 1) (List.mem_of_getElem? (i := 12) rfl)
theorem d_X8_law_246 : decode prog_10_method_42_code 246 = .ok (.getfield 307, 3) := de_X8_law_128 (246, .getfield 307, 3) (List.mem_of_getElem? (i := 13) rfl)
theorem d_X8_law_249 : decode prog_10_method_42_code 249 = .ok (.putfield 318, 3) := de_X8_law_128 (249, .putfield 318, 3) (List.mem_of_getElem? (i := 14) rfl)
theorem d_X8_law_252 : decode prog_10_method_42_code 252 = .ok (.aload_n 0, 1) := de_X8_law_128 (252, .aload_n 0, 1) (List.mem_of_getElem? (i := 15) rfl)
def ce_X8_law_144 : List (Nat × Instr × Nat) := [(253, .getfield 318, 3), (256, .ireturn, 1)]
theorem de_X8_law_144 : ∀ q ∈ ce_X8_law_144, decode prog_10_method_42_code q.1 = .ok (q.2.1, q.2.2) := by decide +kernel
theorem d_X8_law_253 : decode prog_10_method_42_code 253 = .ok (.getfield 318, 3) := de_X8_law_144 (253, .getfield 318, 3) (List.mem_of_getElem? (i := 0) rfl)
theorem d_X8_law_256 : decode prog_10_method_42_code 256 = .ok (.ireturn, 1) := de_X8_law_144 (256, .ireturn, 1) (List.mem_of_getElem? (i := 1) rfl)
