/-! THE REFERENCE'S LAW TABLES: every clause's two stretches of code can be worked through -/
/-- how many numbers lie on the stack behind n codes from a on; none: one of them finds too few -/
def dp_ (f : Nat → Int32) (a : Nat) : Nat → Option Nat
  | 0 => some 0
  | n + 1 => match dp_ f a n with
    | none => none
    | some d => if 2 < (f (a + n)).toInt then (if 2 ≤ d then some (d - 1) else none) else if (f (a + n)).toInt = 2 then (if 1 ≤ d then some d else none) else some (d + 1)
def fm_G (V : fm_V) : Prop := 0 ≤ (V 80 20).toInt ∧ (V 80 20).toInt ≤ 14 ∧ ∀ k : Nat, (k : Int) < (V 80 20).toInt → ∃ a b c : Nat, (V 96 k).toInt = a ∧ (V 97 k).toInt = b ∧ (V 98 k).toInt = c ∧ a ≤ b ∧ b ≤ c ∧ c ≤ 200 ∧ dp_ (V 99) a (b - a) ≠ none ∧ dp_ (V 99) b (c - b) ≠ none
theorem fm_G_gd : fm_Gd fm_G := by
  intro V V' h hG
  have e1 : V' 80 20 = V 80 20 := h _ _ (by decide)
  have e2 : ∀ k, V' 96 k = V 96 k := fun k => h _ _ (by simp [fm_gd])
  have e3 : ∀ k, V' 97 k = V 97 k := fun k => h _ _ (by simp [fm_gd])
  have e4 : ∀ k, V' 98 k = V 98 k := fun k => h _ _ (by simp [fm_gd])
  have e5 : V' 99 = V 99 := funext fun k => h _ _ (by simp [fm_gd])
  unfold fm_G at hG ⊢
  rw [e1, e5]
  refine ⟨hG.1, hG.2.1, fun k hk => ?_⟩
  rw [e2, e3, e4]
  exact hG.2.2 k hk
theorem wm_X8_worked : Jvm.Cond.static yX8_worked ∈ fm_Ts ∧ Jvm.Cond.initialized yX8_worked.cls ∈ fm_Ts ∧ Jvm.Cond.code yX8_worked prog_10_method_48_code 3 (some .int) ∈ fm_Ts := ⟨fm_mem 1387 (by decide +kernel) rfl, fm_mem 95 (by decide +kernel) rfl, fm_mem 1388 (by decide +kernel) rfl⟩
theorem wy_X8_worked : yX8_worked.cls ≠ "java/lang/invoke/MethodHandle" ∧ yX8_worked.cls ≠ "java/lang/invoke/VarHandle" ∧ (parseMethodDescriptor yX8_worked.desc).map (fun d => d.parameters.length) = some 3 := by decide +kernel
theorem wm_X8_does : Jvm.Cond.instanceMethod yX8_does ∈ fm_Ts ∧ Jvm.Cond.selects RX8 yX8_does yX8_does ∈ fm_Ts ∧ Jvm.Cond.initialized RX8 ∈ fm_Ts ∧ Jvm.Cond.code yX8_does prog_10_method_49_code 4 none ∈ fm_Ts := ⟨fm_mem 1384 (by decide +kernel) rfl, fm_mem 59 (by decide +kernel) rfl, fm_mem 95 (by decide +kernel) rfl, fm_mem 1385 (by decide +kernel) rfl⟩
theorem wy_X8_does : yX8_does.cls = RX8 ∧ yX8_does.cls ≠ "java/lang/invoke/MethodHandle" ∧ yX8_does.cls ≠ "java/lang/invoke/VarHandle" ∧ (parseMethodDescriptor yX8_does.desc).map (fun d => d.parameters.length) = some 2 := by decide +kernel
theorem wm_X8_isOfYard : Jvm.Cond.static yX8_isOfYard ∈ fm_Ts ∧ Jvm.Cond.initialized yX8_isOfYard.cls ∈ fm_Ts ∧ Jvm.Cond.code yX8_isOfYard prog_10_method_30_code 1 (some .boolean) ∈ fm_Ts := ⟨fm_mem 1298 (by decide +kernel) rfl, fm_mem 95 (by decide +kernel) rfl, fm_mem 1299 (by decide +kernel) rfl⟩
theorem wy_X8_isOfYard : yX8_isOfYard.cls ≠ "java/lang/invoke/MethodHandle" ∧ yX8_isOfYard.cls ≠ "java/lang/invoke/VarHandle" ∧ (parseMethodDescriptor yX8_isOfYard.desc).map (fun d => d.parameters.length) = some 1 := by decide +kernel
theorem wm_X8_rainNow : Jvm.Cond.instanceMethod yX8_rainNow ∈ fm_Ts ∧ Jvm.Cond.selects RX8 yX8_rainNow yX8_rainNow ∈ fm_Ts ∧ Jvm.Cond.initialized RX8 ∈ fm_Ts ∧ Jvm.Cond.code yX8_rainNow prog_10_method_43_code 1 (some .int) ∈ fm_Ts := ⟨fm_mem 1399 (by decide +kernel) rfl, fm_mem 62 (by decide +kernel) rfl, fm_mem 95 (by decide +kernel) rfl, fm_mem 1400 (by decide +kernel) rfl⟩
theorem wy_X8_rainNow : yX8_rainNow.cls = RX8 ∧ yX8_rainNow.cls ≠ "java/lang/invoke/MethodHandle" ∧ yX8_rainNow.cls ≠ "java/lang/invoke/VarHandle" ∧ (parseMethodDescriptor yX8_rainNow.desc).map (fun d => d.parameters.length) = some 0 := by decide +kernel
theorem wm_X8_ofYard : Jvm.Cond.instanceMethod yX8_ofYard ∈ fm_Ts ∧ Jvm.Cond.selects RX8 yX8_ofYard yX8_ofYard ∈ fm_Ts ∧ Jvm.Cond.initialized RX8 ∈ fm_Ts ∧ Jvm.Cond.code yX8_ofYard prog_10_method_45_code 2 (some .int) ∈ fm_Ts := ⟨fm_mem 1395 (by decide +kernel) rfl, fm_mem 61 (by decide +kernel) rfl, fm_mem 95 (by decide +kernel) rfl, fm_mem 1396 (by decide +kernel) rfl⟩
theorem wy_X8_ofYard : yX8_ofYard.cls = RX8 ∧ yX8_ofYard.cls ≠ "java/lang/invoke/MethodHandle" ∧ yX8_ofYard.cls ≠ "java/lang/invoke/VarHandle" ∧ (parseMethodDescriptor yX8_ofYard.desc).map (fun d => d.parameters.length) = some 1 := by decide +kernel
theorem wm_X8_portersAt : Jvm.Cond.instanceMethod yX8_portersAt ∈ fm_Ts ∧ Jvm.Cond.selects RX8 yX8_portersAt yX8_portersAt ∈ fm_Ts ∧ Jvm.Cond.initialized RX8 ∈ fm_Ts ∧ Jvm.Cond.code yX8_portersAt prog_10_method_44_code 4 (some .int) ∈ fm_Ts := ⟨fm_mem 1407 (by decide +kernel) rfl, fm_mem 64 (by decide +kernel) rfl, fm_mem 95 (by decide +kernel) rfl, fm_mem 1408 (by decide +kernel) rfl⟩
theorem wy_X8_portersAt : yX8_portersAt.cls = RX8 ∧ yX8_portersAt.cls ≠ "java/lang/invoke/MethodHandle" ∧ yX8_portersAt.cls ≠ "java/lang/invoke/VarHandle" ∧ (parseMethodDescriptor yX8_portersAt.desc).map (fun d => d.parameters.length) = some 1 := by decide +kernel
theorem wm_X8_ofPorter : Jvm.Cond.instanceMethod yX8_ofPorter ∈ fm_Ts ∧ Jvm.Cond.selects RX8 yX8_ofPorter yX8_ofPorter ∈ fm_Ts ∧ Jvm.Cond.initialized RX8 ∈ fm_Ts ∧ Jvm.Cond.code yX8_ofPorter prog_10_method_46_code 2 (some .int) ∈ fm_Ts := ⟨fm_mem 1403 (by decide +kernel) rfl, fm_mem 63 (by decide +kernel) rfl, fm_mem 95 (by decide +kernel) rfl, fm_mem 1404 (by decide +kernel) rfl⟩
theorem wy_X8_ofPorter : yX8_ofPorter.cls = RX8 ∧ yX8_ofPorter.cls ≠ "java/lang/invoke/MethodHandle" ∧ yX8_ofPorter.cls ≠ "java/lang/invoke/VarHandle" ∧ (parseMethodDescriptor yX8_ofPorter.desc).map (fun d => d.parameters.length) = some 1 := by decide +kernel
theorem wm_X8_valueOf : Jvm.Cond.instanceMethod yX8_valueOf ∈ fm_Ts ∧ Jvm.Cond.selects RX8 yX8_valueOf yX8_valueOf ∈ fm_Ts ∧ Jvm.Cond.initialized RX8 ∈ fm_Ts ∧ Jvm.Cond.code yX8_valueOf prog_10_method_47_code 2 (some .int) ∈ fm_Ts := ⟨fm_mem 1391 (by decide +kernel) rfl, fm_mem 60 (by decide +kernel) rfl, fm_mem 95 (by decide +kernel) rfl, fm_mem 1392 (by decide +kernel) rfl⟩
theorem wy_X8_valueOf : yX8_valueOf.cls = RX8 ∧ yX8_valueOf.cls ≠ "java/lang/invoke/MethodHandle" ∧ yX8_valueOf.cls ≠ "java/lang/invoke/VarHandle" ∧ (parseMethodDescriptor yX8_valueOf.desc).map (fun d => d.parameters.length) = some 1 := by decide +kernel
theorem wm_X8_isYard : Jvm.Cond.static yX8_isYard ∈ fm_Ts ∧ Jvm.Cond.initialized yX8_isYard.cls ∈ fm_Ts ∧ Jvm.Cond.code yX8_isYard prog_10_method_5_code 1 (some .boolean) ∈ fm_Ts := ⟨fm_mem 1199 (by decide +kernel) rfl, fm_mem 95 (by decide +kernel) rfl, fm_mem 1200 (by decide +kernel) rfl⟩
theorem wy_X8_isYard : yX8_isYard.cls ≠ "java/lang/invoke/MethodHandle" ∧ yX8_isYard.cls ≠ "java/lang/invoke/VarHandle" ∧ (parseMethodDescriptor yX8_isYard.desc).map (fun d => d.parameters.length) = some 1 := by decide +kernel
theorem wm_X8_lies : Jvm.Cond.static yX8_lies ∈ fm_Ts ∧ Jvm.Cond.initialized yX8_lies.cls ∈ fm_Ts ∧ Jvm.Cond.code yX8_lies prog_10_method_2_code 6 (some .boolean) ∈ fm_Ts := ⟨fm_mem 1203 (by decide +kernel) rfl, fm_mem 95 (by decide +kernel) rfl, fm_mem 1204 (by decide +kernel) rfl⟩
theorem wy_X8_lies : yX8_lies.cls ≠ "java/lang/invoke/MethodHandle" ∧ yX8_lies.cls ≠ "java/lang/invoke/VarHandle" ∧ (parseMethodDescriptor yX8_lies.desc).map (fun d => d.parameters.length) = some 3 := by decide +kernel
theorem wm_X8_yard : Jvm.Cond.instanceMethod yX8_yard ∈ fm_Ts ∧ Jvm.Cond.selects RX8 yX8_yard yX8_yard ∈ fm_Ts ∧ Jvm.Cond.initialized RX8 ∈ fm_Ts ∧ Jvm.Cond.code yX8_yard prog_10_method_10_code 5 (some .boolean) ∈ fm_Ts := ⟨fm_mem 1195 (by decide +kernel) rfl, fm_mem 1196 (by decide +kernel) rfl, fm_mem 95 (by decide +kernel) rfl, fm_mem 1197 (by decide +kernel) rfl⟩
theorem wy_X8_yard : yX8_yard.cls = RX8 ∧ yX8_yard.cls ≠ "java/lang/invoke/MethodHandle" ∧ yX8_yard.cls ≠ "java/lang/invoke/VarHandle" ∧ (parseMethodDescriptor yX8_yard.desc).map (fun d => d.parameters.length) = some 4 := by decide +kernel
theorem wm_X8_isDigit : Jvm.Cond.static yX8_isDigit ∈ fm_Ts ∧ Jvm.Cond.initialized yX8_isDigit.cls ∈ fm_Ts ∧ Jvm.Cond.code yX8_isDigit prog_10_method_9_code 1 (some .boolean) ∈ fm_Ts := ⟨fm_mem 1214 (by decide +kernel) rfl, fm_mem 95 (by decide +kernel) rfl, fm_mem 1215 (by decide +kernel) rfl⟩
theorem wy_X8_isDigit : yX8_isDigit.cls ≠ "java/lang/invoke/MethodHandle" ∧ yX8_isDigit.cls ≠ "java/lang/invoke/VarHandle" ∧ (parseMethodDescriptor yX8_isDigit.desc).map (fun d => d.parameters.length) = some 1 := by decide +kernel
theorem wm_X8_rain : Jvm.Cond.instanceMethod yX8_rain ∈ fm_Ts ∧ Jvm.Cond.selects RX8 yX8_rain yX8_rain ∈ fm_Ts ∧ Jvm.Cond.initialized RX8 ∈ fm_Ts ∧ Jvm.Cond.code yX8_rain prog_10_method_11_code 3 (some .boolean) ∈ fm_Ts := ⟨fm_mem 1209 (by decide +kernel) rfl, fm_mem 1210 (by decide +kernel) rfl, fm_mem 95 (by decide +kernel) rfl, fm_mem 1211 (by decide +kernel) rfl⟩
theorem wy_X8_rain : yX8_rain.cls = RX8 ∧ yX8_rain.cls ≠ "java/lang/invoke/MethodHandle" ∧ yX8_rain.cls ≠ "java/lang/invoke/VarHandle" ∧ (parseMethodDescriptor yX8_rain.desc).map (fun d => d.parameters.length) = some 2 := by decide +kernel
theorem wm_X8_porter : Jvm.Cond.instanceMethod yX8_porter ∈ fm_Ts ∧ Jvm.Cond.selects RX8 yX8_porter yX8_porter ∈ fm_Ts ∧ Jvm.Cond.initialized RX8 ∈ fm_Ts ∧ Jvm.Cond.code yX8_porter prog_10_method_12_code 6 (some .boolean) ∈ fm_Ts := ⟨fm_mem 1218 (by decide +kernel) rfl, fm_mem 1219 (by decide +kernel) rfl, fm_mem 95 (by decide +kernel) rfl, fm_mem 1220 (by decide +kernel) rfl⟩
theorem wy_X8_porter : yX8_porter.cls = RX8 ∧ yX8_porter.cls ≠ "java/lang/invoke/MethodHandle" ∧ yX8_porter.cls ≠ "java/lang/invoke/VarHandle" ∧ (parseMethodDescriptor yX8_porter.desc).map (fun d => d.parameters.length) = some 5 := by decide +kernel
theorem wm_X8_isBeggar : Jvm.Cond.static yX8_isBeggar ∈ fm_Ts ∧ Jvm.Cond.initialized yX8_isBeggar.cls ∈ fm_Ts ∧ Jvm.Cond.code yX8_isBeggar prog_10_method_6_code 1 (some .boolean) ∈ fm_Ts := ⟨fm_mem 1228 (by decide +kernel) rfl, fm_mem 95 (by decide +kernel) rfl, fm_mem 1229 (by decide +kernel) rfl⟩
theorem wy_X8_isBeggar : yX8_isBeggar.cls ≠ "java/lang/invoke/MethodHandle" ∧ yX8_isBeggar.cls ≠ "java/lang/invoke/VarHandle" ∧ (parseMethodDescriptor yX8_isBeggar.desc).map (fun d => d.parameters.length) = some 1 := by decide +kernel
theorem wm_X8_licence : Jvm.Cond.instanceMethod yX8_licence ∈ fm_Ts ∧ Jvm.Cond.selects RX8 yX8_licence yX8_licence ∈ fm_Ts ∧ Jvm.Cond.initialized RX8 ∈ fm_Ts ∧ Jvm.Cond.code yX8_licence prog_10_method_13_code 3 (some .boolean) ∈ fm_Ts := ⟨fm_mem 1224 (by decide +kernel) rfl, fm_mem 1225 (by decide +kernel) rfl, fm_mem 95 (by decide +kernel) rfl, fm_mem 1226 (by decide +kernel) rfl⟩
theorem wy_X8_licence : yX8_licence.cls = RX8 ∧ yX8_licence.cls ≠ "java/lang/invoke/MethodHandle" ∧ yX8_licence.cls ≠ "java/lang/invoke/VarHandle" ∧ (parseMethodDescriptor yX8_licence.desc).map (fun d => d.parameters.length) = some 2 := by decide +kernel
theorem wm_X8_skill : Jvm.Cond.instanceMethod yX8_skill ∈ fm_Ts ∧ Jvm.Cond.selects RX8 yX8_skill yX8_skill ∈ fm_Ts ∧ Jvm.Cond.initialized RX8 ∈ fm_Ts ∧ Jvm.Cond.code yX8_skill prog_10_method_14_code 3 (some .boolean) ∈ fm_Ts := ⟨fm_mem 1232 (by decide +kernel) rfl, fm_mem 1233 (by decide +kernel) rfl, fm_mem 95 (by decide +kernel) rfl, fm_mem 1234 (by decide +kernel) rfl⟩
theorem wy_X8_skill : yX8_skill.cls = RX8 ∧ yX8_skill.cls ≠ "java/lang/invoke/MethodHandle" ∧ yX8_skill.cls ≠ "java/lang/invoke/VarHandle" ∧ (parseMethodDescriptor yX8_skill.desc).map (fun d => d.parameters.length) = some 2 := by decide +kernel
theorem wm_X8_push : Jvm.Cond.instanceMethod yX8_push ∈ fm_Ts ∧ Jvm.Cond.selects RX8 yX8_push yX8_push ∈ fm_Ts ∧ Jvm.Cond.initialized RX8 ∈ fm_Ts ∧ Jvm.Cond.code yX8_push prog_10_method_15_code 3 none ∈ fm_Ts := ⟨fm_mem 1241 (by decide +kernel) rfl, fm_mem 31 (by decide +kernel) rfl, fm_mem 95 (by decide +kernel) rfl, fm_mem 1242 (by decide +kernel) rfl⟩
theorem wy_X8_push : yX8_push.cls = RX8 ∧ yX8_push.cls ≠ "java/lang/invoke/MethodHandle" ∧ yX8_push.cls ≠ "java/lang/invoke/VarHandle" ∧ (parseMethodDescriptor yX8_push.desc).map (fun d => d.parameters.length) = some 1 := by decide +kernel
theorem wm_X8_feed : Jvm.Cond.instanceMethod yX8_feed ∈ fm_Ts ∧ Jvm.Cond.selects RX8 yX8_feed yX8_feed ∈ fm_Ts ∧ Jvm.Cond.initialized RX8 ∈ fm_Ts ∧ Jvm.Cond.code yX8_feed prog_10_method_16_code 6 (some .int) ∈ fm_Ts := ⟨fm_mem 1236 (by decide +kernel) rfl, fm_mem 1237 (by decide +kernel) rfl, fm_mem 95 (by decide +kernel) rfl, fm_mem 1238 (by decide +kernel) rfl⟩
theorem wy_X8_feed : yX8_feed.cls = RX8 ∧ yX8_feed.cls ≠ "java/lang/invoke/MethodHandle" ∧ yX8_feed.cls ≠ "java/lang/invoke/VarHandle" ∧ (parseMethodDescriptor yX8_feed.desc).map (fun d => d.parameters.length) = some 5 := by decide +kernel
theorem wm_X8_areHours : Jvm.Cond.static yX8_areHours ∈ fm_Ts ∧ Jvm.Cond.initialized yX8_areHours.cls ∈ fm_Ts ∧ Jvm.Cond.code yX8_areHours prog_10_method_62_code 1 (some .boolean) ∈ fm_Ts := ⟨fm_mem 1346 (by decide +kernel) rfl, fm_mem 95 (by decide +kernel) rfl, fm_mem 1347 (by decide +kernel) rfl⟩
theorem wy_X8_areHours : yX8_areHours.cls ≠ "java/lang/invoke/MethodHandle" ∧ yX8_areHours.cls ≠ "java/lang/invoke/VarHandle" ∧ (parseMethodDescriptor yX8_areHours.desc).map (fun d => d.parameters.length) = some 1 := by decide +kernel
theorem wm_X8_isPorter : Jvm.Cond.instanceMethod yX8_isPorter ∈ fm_Ts ∧ Jvm.Cond.selects RX8 yX8_isPorter yX8_isPorter ∈ fm_Ts ∧ Jvm.Cond.initialized RX8 ∈ fm_Ts ∧ Jvm.Cond.code yX8_isPorter prog_10_method_7_code 2 (some .boolean) ∈ fm_Ts := ⟨fm_mem 1368 (by decide +kernel) rfl, fm_mem 55 (by decide +kernel) rfl, fm_mem 95 (by decide +kernel) rfl, fm_mem 1369 (by decide +kernel) rfl⟩
theorem wy_X8_isPorter : yX8_isPorter.cls = RX8 ∧ yX8_isPorter.cls ≠ "java/lang/invoke/MethodHandle" ∧ yX8_isPorter.cls ≠ "java/lang/invoke/VarHandle" ∧ (parseMethodDescriptor yX8_isPorter.desc).map (fun d => d.parameters.length) = some 1 := by decide +kernel
theorem wm_X8_goesStill : Jvm.Cond.instanceMethod yX8_goesStill ∈ fm_Ts ∧ Jvm.Cond.selects RX8 yX8_goesStill yX8_goesStill ∈ fm_Ts ∧ Jvm.Cond.initialized RX8 ∈ fm_Ts ∧ Jvm.Cond.code yX8_goesStill prog_10_method_8_code 2 (some .boolean) ∈ fm_Ts := ⟨fm_mem 1364 (by decide +kernel) rfl, fm_mem 54 (by decide +kernel) rfl, fm_mem 95 (by decide +kernel) rfl, fm_mem 1365 (by decide +kernel) rfl⟩
theorem wy_X8_goesStill : yX8_goesStill.cls = RX8 ∧ yX8_goesStill.cls ≠ "java/lang/invoke/MethodHandle" ∧ yX8_goesStill.cls ≠ "java/lang/invoke/VarHandle" ∧ (parseMethodDescriptor yX8_goesStill.desc).map (fun d => d.parameters.length) = some 1 := by decide +kernel
theorem wm_X8_less : Jvm.Cond.static yX8_less ∈ fm_Ts ∧ Jvm.Cond.initialized yX8_less.cls ∈ fm_Ts ∧ Jvm.Cond.code yX8_less prog_10_method_52_code 2 (some .int) ∈ fm_Ts := ⟨fm_mem 1410 (by decide +kernel) rfl, fm_mem 95 (by decide +kernel) rfl, fm_mem 1411 (by decide +kernel) rfl⟩
theorem wy_X8_less : yX8_less.cls ≠ "java/lang/invoke/MethodHandle" ∧ yX8_less.cls ≠ "java/lang/invoke/VarHandle" ∧ (parseMethodDescriptor yX8_less.desc).map (fun d => d.parameters.length) = some 2 := by decide +kernel
theorem wm_X8_wouldLose : Jvm.Cond.instanceMethod yX8_wouldLose ∈ fm_Ts ∧ Jvm.Cond.selects RX8 yX8_wouldLose yX8_wouldLose ∈ fm_Ts ∧ Jvm.Cond.initialized RX8 ∈ fm_Ts ∧ Jvm.Cond.code yX8_wouldLose prog_10_method_53_code 2 (some .int) ∈ fm_Ts := ⟨fm_mem 1372 (by decide +kernel) rfl, fm_mem 56 (by decide +kernel) rfl, fm_mem 95 (by decide +kernel) rfl, fm_mem 1373 (by decide +kernel) rfl⟩
theorem wy_X8_wouldLose : yX8_wouldLose.cls = RX8 ∧ yX8_wouldLose.cls ≠ "java/lang/invoke/MethodHandle" ∧ yX8_wouldLose.cls ≠ "java/lang/invoke/VarHandle" ∧ (parseMethodDescriptor yX8_wouldLose.desc).map (fun d => d.parameters.length) = some 1 := by decide +kernel
theorem wm_X8_tells : Jvm.Cond.instanceMethod yX8_tells ∈ fm_Ts ∧ Jvm.Cond.selects RX8 yX8_tells yX8_tells ∈ fm_Ts ∧ Jvm.Cond.initialized RX8 ∈ fm_Ts ∧ Jvm.Cond.code yX8_tells prog_10_method_51_code 7 (some .int) ∈ fm_Ts := ⟨fm_mem 1376 (by decide +kernel) rfl, fm_mem 57 (by decide +kernel) rfl, fm_mem 95 (by decide +kernel) rfl, fm_mem 1377 (by decide +kernel) rfl⟩
theorem wy_X8_tells : yX8_tells.cls = RX8 ∧ yX8_tells.cls ≠ "java/lang/invoke/MethodHandle" ∧ yX8_tells.cls ≠ "java/lang/invoke/VarHandle" ∧ (parseMethodDescriptor yX8_tells.desc).map (fun d => d.parameters.length) = some 4 := by decide +kernel
theorem wm_X8_comes : Jvm.Cond.instanceMethod yX8_comes ∈ fm_Ts ∧ Jvm.Cond.selects RX8 yX8_comes yX8_comes ∈ fm_Ts ∧ Jvm.Cond.initialized RX8 ∈ fm_Ts ∧ Jvm.Cond.code yX8_comes prog_10_method_54_code 4 none ∈ fm_Ts := ⟨fm_mem 1414 (by decide +kernel) rfl, fm_mem 65 (by decide +kernel) rfl, fm_mem 95 (by decide +kernel) rfl, fm_mem 1415 (by decide +kernel) rfl⟩
theorem wy_X8_comes : yX8_comes.cls = RX8 ∧ yX8_comes.cls ≠ "java/lang/invoke/MethodHandle" ∧ yX8_comes.cls ≠ "java/lang/invoke/VarHandle" ∧ (parseMethodDescriptor yX8_comes.desc).map (fun d => d.parameters.length) = some 2 := by decide +kernel
theorem wm_X8_loses : Jvm.Cond.instanceMethod yX8_loses ∈ fm_Ts ∧ Jvm.Cond.selects RX8 yX8_loses yX8_loses ∈ fm_Ts ∧ Jvm.Cond.initialized RX8 ∈ fm_Ts ∧ Jvm.Cond.code yX8_loses prog_10_method_55_code 3 none ∈ fm_Ts := ⟨fm_mem 1360 (by decide +kernel) rfl, fm_mem 53 (by decide +kernel) rfl, fm_mem 95 (by decide +kernel) rfl, fm_mem 1361 (by decide +kernel) rfl⟩
theorem wy_X8_loses : yX8_loses.cls = RX8 ∧ yX8_loses.cls ≠ "java/lang/invoke/MethodHandle" ∧ yX8_loses.cls ≠ "java/lang/invoke/VarHandle" ∧ (parseMethodDescriptor yX8_loses.desc).map (fun d => d.parameters.length) = some 0 := by decide +kernel
theorem wm_X8_climbs : Jvm.Cond.instanceMethod yX8_climbs ∈ fm_Ts ∧ Jvm.Cond.selects RX8 yX8_climbs yX8_climbs ∈ fm_Ts ∧ Jvm.Cond.initialized RX8 ∈ fm_Ts ∧ Jvm.Cond.code yX8_climbs prog_10_method_56_code 2 none ∈ fm_Ts := ⟨fm_mem 1419 (by decide +kernel) rfl, fm_mem 66 (by decide +kernel) rfl, fm_mem 95 (by decide +kernel) rfl, fm_mem 1420 (by decide +kernel) rfl⟩
theorem wy_X8_climbs : yX8_climbs.cls = RX8 ∧ yX8_climbs.cls ≠ "java/lang/invoke/MethodHandle" ∧ yX8_climbs.cls ≠ "java/lang/invoke/VarHandle" ∧ (parseMethodDescriptor yX8_climbs.desc).map (fun d => d.parameters.length) = some 0 := by decide +kernel
theorem wm_X8_blows : Jvm.Cond.instanceMethod yX8_blows ∈ fm_Ts ∧ Jvm.Cond.selects RX8 yX8_blows yX8_blows ∈ fm_Ts ∧ Jvm.Cond.initialized RX8 ∈ fm_Ts ∧ Jvm.Cond.code yX8_blows prog_10_method_57_code 3 none ∈ fm_Ts := ⟨fm_mem 1423 (by decide +kernel) rfl, fm_mem 67 (by decide +kernel) rfl, fm_mem 95 (by decide +kernel) rfl, fm_mem 1424 (by decide +kernel) rfl⟩
theorem wy_X8_blows : yX8_blows.cls = RX8 ∧ yX8_blows.cls ≠ "java/lang/invoke/MethodHandle" ∧ yX8_blows.cls ≠ "java/lang/invoke/VarHandle" ∧ (parseMethodDescriptor yX8_blows.desc).map (fun d => d.parameters.length) = some 0 := by decide +kernel
theorem wm_X8_washes : Jvm.Cond.instanceMethod yX8_washes ∈ fm_Ts ∧ Jvm.Cond.selects RX8 yX8_washes yX8_washes ∈ fm_Ts ∧ Jvm.Cond.initialized RX8 ∈ fm_Ts ∧ Jvm.Cond.code yX8_washes prog_10_method_58_code 3 none ∈ fm_Ts := ⟨fm_mem 1427 (by decide +kernel) rfl, fm_mem 68 (by decide +kernel) rfl, fm_mem 95 (by decide +kernel) rfl, fm_mem 1428 (by decide +kernel) rfl⟩
theorem wy_X8_washes : yX8_washes.cls = RX8 ∧ yX8_washes.cls ≠ "java/lang/invoke/MethodHandle" ∧ yX8_washes.cls ≠ "java/lang/invoke/VarHandle" ∧ (parseMethodDescriptor yX8_washes.desc).map (fun d => d.parameters.length) = some 0 := by decide +kernel
theorem wm_X8_sieves : Jvm.Cond.instanceMethod yX8_sieves ∈ fm_Ts ∧ Jvm.Cond.selects RX8 yX8_sieves yX8_sieves ∈ fm_Ts ∧ Jvm.Cond.initialized RX8 ∈ fm_Ts ∧ Jvm.Cond.code yX8_sieves prog_10_method_59_code 3 none ∈ fm_Ts := ⟨fm_mem 1431 (by decide +kernel) rfl, fm_mem 69 (by decide +kernel) rfl, fm_mem 95 (by decide +kernel) rfl, fm_mem 1432 (by decide +kernel) rfl⟩
theorem wy_X8_sieves : yX8_sieves.cls = RX8 ∧ yX8_sieves.cls ≠ "java/lang/invoke/MethodHandle" ∧ yX8_sieves.cls ≠ "java/lang/invoke/VarHandle" ∧ (parseMethodDescriptor yX8_sieves.desc).map (fun d => d.parameters.length) = some 0 := by decide +kernel
theorem wm_X8_passes : Jvm.Cond.instanceMethod yX8_passes ∈ fm_Ts ∧ Jvm.Cond.selects RX8 yX8_passes yX8_passes ∈ fm_Ts ∧ Jvm.Cond.initialized RX8 ∈ fm_Ts ∧ Jvm.Cond.code yX8_passes prog_10_method_60_code 2 none ∈ fm_Ts := ⟨fm_mem 1356 (by decide +kernel) rfl, fm_mem 52 (by decide +kernel) rfl, fm_mem 95 (by decide +kernel) rfl, fm_mem 1357 (by decide +kernel) rfl⟩
theorem wy_X8_passes : yX8_passes.cls = RX8 ∧ yX8_passes.cls ≠ "java/lang/invoke/MethodHandle" ∧ yX8_passes.cls ≠ "java/lang/invoke/VarHandle" ∧ (parseMethodDescriptor yX8_passes.desc).map (fun d => d.parameters.length) = some 1 := by decide +kernel
theorem wm_X8_goesOn : Jvm.Cond.instanceMethod yX8_goesOn ∈ fm_Ts ∧ Jvm.Cond.selects RX8 yX8_goesOn yX8_goesOn ∈ fm_Ts ∧ Jvm.Cond.initialized RX8 ∈ fm_Ts ∧ Jvm.Cond.code yX8_goesOn prog_10_method_61_code 3 none ∈ fm_Ts := ⟨fm_mem 1351 (by decide +kernel) rfl, fm_mem 51 (by decide +kernel) rfl, fm_mem 95 (by decide +kernel) rfl, fm_mem 1352 (by decide +kernel) rfl⟩
theorem wy_X8_goesOn : yX8_goesOn.cls = RX8 ∧ yX8_goesOn.cls ≠ "java/lang/invoke/MethodHandle" ∧ yX8_goesOn.cls ≠ "java/lang/invoke/VarHandle" ∧ (parseMethodDescriptor yX8_goesOn.desc).map (fun d => d.parameters.length) = some 1 := by decide +kernel
theorem wm_X8_hours : Jvm.Cond.instanceMethod yX8_hours ∈ fm_Ts ∧ Jvm.Cond.selects RX8 yX8_hours yX8_hours ∈ fm_Ts ∧ Jvm.Cond.initialized RX8 ∈ fm_Ts ∧ Jvm.Cond.code yX8_hours prog_10_method_64_code 2 (some .int) ∈ fm_Ts := ⟨fm_mem 1342 (by decide +kernel) rfl, fm_mem 1343 (by decide +kernel) rfl, fm_mem 95 (by decide +kernel) rfl, fm_mem 1344 (by decide +kernel) rfl⟩
theorem wy_X8_hours : yX8_hours.cls = RX8 ∧ yX8_hours.cls ≠ "java/lang/invoke/MethodHandle" ∧ yX8_hours.cls ≠ "java/lang/invoke/VarHandle" ∧ (parseMethodDescriptor yX8_hours.desc).map (fun d => d.parameters.length) = some 1 := by decide +kernel
theorem wm_X8_hour : Jvm.Cond.instanceMethod yX8_hour ∈ fm_Ts ∧ Jvm.Cond.selects RX8 yX8_hour yX8_hour ∈ fm_Ts ∧ Jvm.Cond.initialized RX8 ∈ fm_Ts ∧ Jvm.Cond.code yX8_hour prog_10_method_65_code 2 (some .int) ∈ fm_Ts := ⟨fm_mem 1434 (by decide +kernel) rfl, fm_mem 1435 (by decide +kernel) rfl, fm_mem 95 (by decide +kernel) rfl, fm_mem 1436 (by decide +kernel) rfl⟩
theorem wy_X8_hour : yX8_hour.cls = RX8 ∧ yX8_hour.cls ≠ "java/lang/invoke/MethodHandle" ∧ yX8_hour.cls ≠ "java/lang/invoke/VarHandle" ∧ (parseMethodDescriptor yX8_hour.desc).map (fun d => d.parameters.length) = some 1 := by decide +kernel
theorem wm_X8_yardIs : Jvm.Cond.instanceMethod yX8_yardIs ∈ fm_Ts ∧ Jvm.Cond.selects RX8 yX8_yardIs yX8_yardIs ∈ fm_Ts ∧ Jvm.Cond.initialized RX8 ∈ fm_Ts ∧ Jvm.Cond.code yX8_yardIs prog_10_method_66_code 3 (some .int) ∈ fm_Ts := ⟨fm_mem 1438 (by decide +kernel) rfl, fm_mem 1439 (by decide +kernel) rfl, fm_mem 95 (by decide +kernel) rfl, fm_mem 1440 (by decide +kernel) rfl⟩
theorem wy_X8_yardIs : yX8_yardIs.cls = RX8 ∧ yX8_yardIs.cls ≠ "java/lang/invoke/MethodHandle" ∧ yX8_yardIs.cls ≠ "java/lang/invoke/VarHandle" ∧ (parseMethodDescriptor yX8_yardIs.desc).map (fun d => d.parameters.length) = some 2 := by decide +kernel
theorem wm_X8_losesNow : Jvm.Cond.instanceMethod yX8_losesNow ∈ fm_Ts ∧ Jvm.Cond.selects RX8 yX8_losesNow yX8_losesNow ∈ fm_Ts ∧ Jvm.Cond.initialized RX8 ∈ fm_Ts ∧ Jvm.Cond.code yX8_losesNow prog_10_method_67_code 2 (some .int) ∈ fm_Ts := ⟨fm_mem 1447 (by decide +kernel) rfl, fm_mem 70 (by decide +kernel) rfl, fm_mem 95 (by decide +kernel) rfl, fm_mem 1448 (by decide +kernel) rfl⟩
theorem wy_X8_losesNow : yX8_losesNow.cls = RX8 ∧ yX8_losesNow.cls ≠ "java/lang/invoke/MethodHandle" ∧ yX8_losesNow.cls ≠ "java/lang/invoke/VarHandle" ∧ (parseMethodDescriptor yX8_losesNow.desc).map (fun d => d.parameters.length) = some 1 := by decide +kernel
theorem wm_X8_porterIs : Jvm.Cond.instanceMethod yX8_porterIs ∈ fm_Ts ∧ Jvm.Cond.selects RX8 yX8_porterIs yX8_porterIs ∈ fm_Ts ∧ Jvm.Cond.initialized RX8 ∈ fm_Ts ∧ Jvm.Cond.code yX8_porterIs prog_10_method_68_code 3 (some .int) ∈ fm_Ts := ⟨fm_mem 1442 (by decide +kernel) rfl, fm_mem 1443 (by decide +kernel) rfl, fm_mem 95 (by decide +kernel) rfl, fm_mem 1444 (by decide +kernel) rfl⟩
theorem wy_X8_porterIs : yX8_porterIs.cls = RX8 ∧ yX8_porterIs.cls ≠ "java/lang/invoke/MethodHandle" ∧ yX8_porterIs.cls ≠ "java/lang/invoke/VarHandle" ∧ (parseMethodDescriptor yX8_porterIs.desc).map (fun d => d.parameters.length) = some 2 := by decide +kernel
theorem wm_X8_isTried : Jvm.Cond.instanceMethod yX8_isTried ∈ fm_Ts ∧ Jvm.Cond.selects RX8 yX8_isTried yX8_isTried ∈ fm_Ts ∧ Jvm.Cond.initialized RX8 ∈ fm_Ts ∧ Jvm.Cond.code yX8_isTried prog_10_method_72_code 2 (some .boolean) ∈ fm_Ts := ⟨fm_mem 1455 (by decide +kernel) rfl, fm_mem 71 (by decide +kernel) rfl, fm_mem 95 (by decide +kernel) rfl, fm_mem 1456 (by decide +kernel) rfl⟩
theorem wy_X8_isTried : yX8_isTried.cls = RX8 ∧ yX8_isTried.cls ≠ "java/lang/invoke/MethodHandle" ∧ yX8_isTried.cls ≠ "java/lang/invoke/VarHandle" ∧ (parseMethodDescriptor yX8_isTried.desc).map (fun d => d.parameters.length) = some 1 := by decide +kernel
theorem wm_X8_setsAside : Jvm.Cond.instanceMethod yX8_setsAside ∈ fm_Ts ∧ Jvm.Cond.selects RX8 yX8_setsAside yX8_setsAside ∈ fm_Ts ∧ Jvm.Cond.initialized RX8 ∈ fm_Ts ∧ Jvm.Cond.code yX8_setsAside prog_10_method_69_code 3 none ∈ fm_Ts := ⟨fm_mem 1459 (by decide +kernel) rfl, fm_mem 72 (by decide +kernel) rfl, fm_mem 95 (by decide +kernel) rfl, fm_mem 1460 (by decide +kernel) rfl⟩
theorem wy_X8_setsAside : yX8_setsAside.cls = RX8 ∧ yX8_setsAside.cls ≠ "java/lang/invoke/MethodHandle" ∧ yX8_setsAside.cls ≠ "java/lang/invoke/VarHandle" ∧ (parseMethodDescriptor yX8_setsAside.desc).map (fun d => d.parameters.length) = some 1 := by decide +kernel
theorem wm_X8_triedNow : Jvm.Cond.instanceMethod yX8_triedNow ∈ fm_Ts ∧ Jvm.Cond.selects RX8 yX8_triedNow yX8_triedNow ∈ fm_Ts ∧ Jvm.Cond.initialized RX8 ∈ fm_Ts ∧ Jvm.Cond.code yX8_triedNow prog_10_method_71_code 2 (some .int) ∈ fm_Ts := ⟨fm_mem 1463 (by decide +kernel) rfl, fm_mem 73 (by decide +kernel) rfl, fm_mem 95 (by decide +kernel) rfl, fm_mem 1464 (by decide +kernel) rfl⟩
theorem wy_X8_triedNow : yX8_triedNow.cls = RX8 ∧ yX8_triedNow.cls ≠ "java/lang/invoke/MethodHandle" ∧ yX8_triedNow.cls ≠ "java/lang/invoke/VarHandle" ∧ (parseMethodDescriptor yX8_triedNow.desc).map (fun d => d.parameters.length) = some 1 := by decide +kernel
theorem wm_X8_putsBack : Jvm.Cond.instanceMethod yX8_putsBack ∈ fm_Ts ∧ Jvm.Cond.selects RX8 yX8_putsBack yX8_putsBack ∈ fm_Ts ∧ Jvm.Cond.initialized RX8 ∈ fm_Ts ∧ Jvm.Cond.code yX8_putsBack prog_10_method_70_code 3 none ∈ fm_Ts := ⟨fm_mem 1474 (by decide +kernel) rfl, fm_mem 74 (by decide +kernel) rfl, fm_mem 95 (by decide +kernel) rfl, fm_mem 1475 (by decide +kernel) rfl⟩
theorem wy_X8_putsBack : yX8_putsBack.cls = RX8 ∧ yX8_putsBack.cls ≠ "java/lang/invoke/MethodHandle" ∧ yX8_putsBack.cls ≠ "java/lang/invoke/VarHandle" ∧ (parseMethodDescriptor yX8_putsBack.desc).map (fun d => d.parameters.length) = some 1 := by decide +kernel
theorem wm_X8_tried : Jvm.Cond.instanceMethod yX8_tried ∈ fm_Ts ∧ Jvm.Cond.selects RX8 yX8_tried yX8_tried ∈ fm_Ts ∧ Jvm.Cond.initialized RX8 ∈ fm_Ts ∧ Jvm.Cond.code yX8_tried prog_10_method_73_code 4 (some .int) ∈ fm_Ts := ⟨fm_mem 1450 (by decide +kernel) rfl, fm_mem 1451 (by decide +kernel) rfl, fm_mem 95 (by decide +kernel) rfl, fm_mem 1452 (by decide +kernel) rfl⟩
theorem wy_X8_tried : yX8_tried.cls = RX8 ∧ yX8_tried.cls ≠ "java/lang/invoke/MethodHandle" ∧ yX8_tried.cls ≠ "java/lang/invoke/VarHandle" ∧ (parseMethodDescriptor yX8_tried.desc).map (fun d => d.parameters.length) = some 2 := by decide +kernel
theorem wm_X8_areFew : Jvm.Cond.static yX8_areFew ∈ fm_Ts ∧ Jvm.Cond.initialized yX8_areFew.cls ∈ fm_Ts ∧ Jvm.Cond.code yX8_areFew prog_10_method_63_code 1 (some .boolean) ∈ fm_Ts := ⟨fm_mem 1481 (by decide +kernel) rfl, fm_mem 95 (by decide +kernel) rfl, fm_mem 1482 (by decide +kernel) rfl⟩
theorem wy_X8_areFew : yX8_areFew.cls ≠ "java/lang/invoke/MethodHandle" ∧ yX8_areFew.cls ≠ "java/lang/invoke/VarHandle" ∧ (parseMethodDescriptor yX8_areFew.desc).map (fun d => d.parameters.length) = some 1 := by decide +kernel
theorem wm_X8_has : Jvm.Cond.static yX8_has ∈ fm_Ts ∧ Jvm.Cond.initialized yX8_has.cls ∈ fm_Ts ∧ Jvm.Cond.code yX8_has prog_10_method_3_code 2 (some .boolean) ∈ fm_Ts := ⟨fm_mem 1491 (by decide +kernel) rfl, fm_mem 95 (by decide +kernel) rfl, fm_mem 1492 (by decide +kernel) rfl⟩
theorem wy_X8_has : yX8_has.cls ≠ "java/lang/invoke/MethodHandle" ∧ yX8_has.cls ≠ "java/lang/invoke/VarHandle" ∧ (parseMethodDescriptor yX8_has.desc).map (fun d => d.parameters.length) = some 2 := by decide +kernel
theorem wm_X8_isAhead : Jvm.Cond.static yX8_isAhead ∈ fm_Ts ∧ Jvm.Cond.initialized yX8_isAhead.cls ∈ fm_Ts ∧ Jvm.Cond.code yX8_isAhead prog_10_method_75_code 3 (some .boolean) ∈ fm_Ts := ⟨fm_mem 1497 (by decide +kernel) rfl, fm_mem 95 (by decide +kernel) rfl, fm_mem 1498 (by decide +kernel) rfl⟩
theorem wy_X8_isAhead : yX8_isAhead.cls ≠ "java/lang/invoke/MethodHandle" ∧ yX8_isAhead.cls ≠ "java/lang/invoke/VarHandle" ∧ (parseMethodDescriptor yX8_isAhead.desc).map (fun d => d.parameters.length) = some 2 := by decide +kernel
theorem wm_X8_sizeOf : Jvm.Cond.static yX8_sizeOf ∈ fm_Ts ∧ Jvm.Cond.initialized yX8_sizeOf.cls ∈ fm_Ts ∧ Jvm.Cond.code yX8_sizeOf prog_10_method_4_code 3 (some .int) ∈ fm_Ts := ⟨fm_mem 1494 (by decide +kernel) rfl, fm_mem 95 (by decide +kernel) rfl, fm_mem 1495 (by decide +kernel) rfl⟩
theorem wy_X8_sizeOf : yX8_sizeOf.cls ≠ "java/lang/invoke/MethodHandle" ∧ yX8_sizeOf.cls ≠ "java/lang/invoke/VarHandle" ∧ (parseMethodDescriptor yX8_sizeOf.desc).map (fun d => d.parameters.length) = some 1 := by decide +kernel
theorem wm_X8_sievesBy : Jvm.Cond.instanceMethod yX8_sievesBy ∈ fm_Ts ∧ Jvm.Cond.selects RX8 yX8_sievesBy yX8_sievesBy ∈ fm_Ts ∧ Jvm.Cond.initialized RX8 ∈ fm_Ts ∧ Jvm.Cond.code yX8_sievesBy prog_10_method_74_code 7 none ∈ fm_Ts := ⟨fm_mem 1488 (by decide +kernel) rfl, fm_mem 75 (by decide +kernel) rfl, fm_mem 95 (by decide +kernel) rfl, fm_mem 1489 (by decide +kernel) rfl⟩
theorem wy_X8_sievesBy : yX8_sievesBy.cls = RX8 ∧ yX8_sievesBy.cls ≠ "java/lang/invoke/MethodHandle" ∧ yX8_sievesBy.cls ≠ "java/lang/invoke/VarHandle" ∧ (parseMethodDescriptor yX8_sievesBy.desc).map (fun d => d.parameters.length) = some 4 := by decide +kernel
theorem wm_X8_sieved : Jvm.Cond.instanceMethod yX8_sieved ∈ fm_Ts ∧ Jvm.Cond.selects RX8 yX8_sieved yX8_sieved ∈ fm_Ts ∧ Jvm.Cond.initialized RX8 ∈ fm_Ts ∧ Jvm.Cond.code yX8_sieved prog_10_method_76_code 10 (some .int) ∈ fm_Ts := ⟨fm_mem 1477 (by decide +kernel) rfl, fm_mem 1478 (by decide +kernel) rfl, fm_mem 95 (by decide +kernel) rfl, fm_mem 1479 (by decide +kernel) rfl⟩
theorem wy_X8_sieved : yX8_sieved.cls = RX8 ∧ yX8_sieved.cls ≠ "java/lang/invoke/MethodHandle" ∧ yX8_sieved.cls ≠ "java/lang/invoke/VarHandle" ∧ (parseMethodDescriptor yX8_sieved.desc).map (fun d => d.parameters.length) = some 5 := by decide +kernel
theorem wm_X8_carpet : Jvm.Cond.instanceMethod yX8_carpet ∈ fm_Ts ∧ Jvm.Cond.selects RX8 yX8_carpet yX8_carpet ∈ fm_Ts ∧ Jvm.Cond.initialized RX8 ∈ fm_Ts ∧ Jvm.Cond.code yX8_carpet prog_10_method_79_code 6 (some .int) ∈ fm_Ts := ⟨fm_mem 1512 (by decide +kernel) rfl, fm_mem 1513 (by decide +kernel) rfl, fm_mem 95 (by decide +kernel) rfl, fm_mem 1514 (by decide +kernel) rfl⟩
theorem wy_X8_carpet : yX8_carpet.cls = RX8 ∧ yX8_carpet.cls ≠ "java/lang/invoke/MethodHandle" ∧ yX8_carpet.cls ≠ "java/lang/invoke/VarHandle" ∧ (parseMethodDescriptor yX8_carpet.desc).map (fun d => d.parameters.length) = some 2 := by decide +kernel
theorem wm_X8_gust : Jvm.Cond.instanceMethod yX8_gust ∈ fm_Ts ∧ Jvm.Cond.selects RX8 yX8_gust yX8_gust ∈ fm_Ts ∧ Jvm.Cond.initialized RX8 ∈ fm_Ts ∧ Jvm.Cond.code yX8_gust prog_10_method_80_code 10 (some .int) ∈ fm_Ts := ⟨fm_mem 1516 (by decide +kernel) rfl, fm_mem 1517 (by decide +kernel) rfl, fm_mem 95 (by decide +kernel) rfl, fm_mem 1518 (by decide +kernel) rfl⟩
theorem wy_X8_gust : yX8_gust.cls = RX8 ∧ yX8_gust.cls ≠ "java/lang/invoke/MethodHandle" ∧ yX8_gust.cls ≠ "java/lang/invoke/VarHandle" ∧ (parseMethodDescriptor yX8_gust.desc).map (fun d => d.parameters.length) = some 4 := by decide +kernel
theorem wm_X8_purseBy : Jvm.Cond.instanceMethod yX8_purseBy ∈ fm_Ts ∧ Jvm.Cond.selects RX8 yX8_purseBy yX8_purseBy ∈ fm_Ts ∧ Jvm.Cond.initialized RX8 ∈ fm_Ts ∧ Jvm.Cond.code yX8_purseBy prog_10_method_81_code 6 (some .int) ∈ fm_Ts := ⟨fm_mem 1529 (by decide +kernel) rfl, fm_mem 78 (by decide +kernel) rfl, fm_mem 95 (by decide +kernel) rfl, fm_mem 1530 (by decide +kernel) rfl⟩
theorem wy_X8_purseBy : yX8_purseBy.cls = RX8 ∧ yX8_purseBy.cls ≠ "java/lang/invoke/MethodHandle" ∧ yX8_purseBy.cls ≠ "java/lang/invoke/VarHandle" ∧ (parseMethodDescriptor yX8_purseBy.desc).map (fun d => d.parameters.length) = some 4 := by decide +kernel
theorem wm_X8_worthOf : Jvm.Cond.instanceMethod yX8_worthOf ∈ fm_Ts ∧ Jvm.Cond.selects RX8 yX8_worthOf yX8_worthOf ∈ fm_Ts ∧ Jvm.Cond.initialized RX8 ∈ fm_Ts ∧ Jvm.Cond.code yX8_worthOf prog_10_method_82_code 4 (some .int) ∈ fm_Ts := ⟨fm_mem 1525 (by decide +kernel) rfl, fm_mem 77 (by decide +kernel) rfl, fm_mem 95 (by decide +kernel) rfl, fm_mem 1526 (by decide +kernel) rfl⟩
theorem wy_X8_worthOf : yX8_worthOf.cls = RX8 ∧ yX8_worthOf.cls ≠ "java/lang/invoke/MethodHandle" ∧ yX8_worthOf.cls ≠ "java/lang/invoke/VarHandle" ∧ (parseMethodDescriptor yX8_worthOf.desc).map (fun d => d.parameters.length) = some 3 := by decide +kernel
theorem wm_X8_worth : Jvm.Cond.instanceMethod yX8_worth ∈ fm_Ts ∧ Jvm.Cond.selects RX8 yX8_worth yX8_worth ∈ fm_Ts ∧ Jvm.Cond.initialized RX8 ∈ fm_Ts ∧ Jvm.Cond.code yX8_worth prog_10_method_83_code 4 (some .int) ∈ fm_Ts := ⟨fm_mem 1520 (by decide +kernel) rfl, fm_mem 1521 (by decide +kernel) rfl, fm_mem 95 (by decide +kernel) rfl, fm_mem 1522 (by decide +kernel) rfl⟩
theorem wy_X8_worth : yX8_worth.cls = RX8 ∧ yX8_worth.cls ≠ "java/lang/invoke/MethodHandle" ∧ yX8_worth.cls ≠ "java/lang/invoke/VarHandle" ∧ (parseMethodDescriptor yX8_worth.desc).map (fun d => d.parameters.length) = some 3 := by decide +kernel
theorem wm_X8_sold : Jvm.Cond.instanceMethod yX8_sold ∈ fm_Ts ∧ Jvm.Cond.selects RX8 yX8_sold yX8_sold ∈ fm_Ts ∧ Jvm.Cond.initialized RX8 ∈ fm_Ts ∧ Jvm.Cond.code yX8_sold prog_10_method_84_code 9 (some .int) ∈ fm_Ts := ⟨fm_mem 1532 (by decide +kernel) rfl, fm_mem 1533 (by decide +kernel) rfl, fm_mem 95 (by decide +kernel) rfl, fm_mem 1534 (by decide +kernel) rfl⟩
theorem wy_X8_sold : yX8_sold.cls = RX8 ∧ yX8_sold.cls ≠ "java/lang/invoke/MethodHandle" ∧ yX8_sold.cls ≠ "java/lang/invoke/VarHandle" ∧ (parseMethodDescriptor yX8_sold.desc).map (fun d => d.parameters.length) = some 3 := by decide +kernel
theorem wm_X8_byteAt : Jvm.Cond.instanceMethod yX8_byteAt ∈ fm_Ts ∧ Jvm.Cond.selects RX8 yX8_byteAt yX8_byteAt ∈ fm_Ts ∧ Jvm.Cond.initialized RX8 ∈ fm_Ts ∧ Jvm.Cond.code yX8_byteAt prog_10_method_17_code 2 (some .int) ∈ fm_Ts := ⟨fm_mem 1545 (by decide +kernel) rfl, fm_mem 80 (by decide +kernel) rfl, fm_mem 95 (by decide +kernel) rfl, fm_mem 1546 (by decide +kernel) rfl⟩
theorem wy_X8_byteAt : yX8_byteAt.cls = RX8 ∧ yX8_byteAt.cls ≠ "java/lang/invoke/MethodHandle" ∧ yX8_byteAt.cls ≠ "java/lang/invoke/VarHandle" ∧ (parseMethodDescriptor yX8_byteAt.desc).map (fun d => d.parameters.length) = some 1 := by decide +kernel
theorem wm_X8_isShaken : Jvm.Cond.instanceMethod yX8_isShaken ∈ fm_Ts ∧ Jvm.Cond.selects RX8 yX8_isShaken yX8_isShaken ∈ fm_Ts ∧ Jvm.Cond.initialized RX8 ∈ fm_Ts ∧ Jvm.Cond.code yX8_isShaken prog_10_method_85_code 5 (some .boolean) ∈ fm_Ts := ⟨fm_mem 1541 (by decide +kernel) rfl, fm_mem 79 (by decide +kernel) rfl, fm_mem 95 (by decide +kernel) rfl, fm_mem 1542 (by decide +kernel) rfl⟩
theorem wy_X8_isShaken : yX8_isShaken.cls = RX8 ∧ yX8_isShaken.cls ≠ "java/lang/invoke/MethodHandle" ∧ yX8_isShaken.cls ≠ "java/lang/invoke/VarHandle" ∧ (parseMethodDescriptor yX8_isShaken.desc).map (fun d => d.parameters.length) = some 2 := by decide +kernel
theorem wm_X8_shook : Jvm.Cond.instanceMethod yX8_shook ∈ fm_Ts ∧ Jvm.Cond.selects RX8 yX8_shook yX8_shook ∈ fm_Ts ∧ Jvm.Cond.initialized RX8 ∈ fm_Ts ∧ Jvm.Cond.code yX8_shook prog_10_method_86_code 9 (some .int) ∈ fm_Ts := ⟨fm_mem 1536 (by decide +kernel) rfl, fm_mem 1537 (by decide +kernel) rfl, fm_mem 95 (by decide +kernel) rfl, fm_mem 1538 (by decide +kernel) rfl⟩
theorem wy_X8_shook : yX8_shook.cls = RX8 ∧ yX8_shook.cls ≠ "java/lang/invoke/MethodHandle" ∧ yX8_shook.cls ≠ "java/lang/invoke/VarHandle" ∧ (parseMethodDescriptor yX8_shook.desc).map (fun d => d.parameters.length) = some 3 := by decide +kernel
theorem wm_X8_ledOf : Jvm.Cond.instanceMethod yX8_ledOf ∈ fm_Ts ∧ Jvm.Cond.selects RX8 yX8_ledOf yX8_ledOf ∈ fm_Ts ∧ Jvm.Cond.initialized RX8 ∈ fm_Ts ∧ Jvm.Cond.code yX8_ledOf prog_10_method_87_code 6 (some .int) ∈ fm_Ts := ⟨fm_mem 1553 (by decide +kernel) rfl, fm_mem 81 (by decide +kernel) rfl, fm_mem 95 (by decide +kernel) rfl, fm_mem 1554 (by decide +kernel) rfl⟩
theorem wy_X8_ledOf : yX8_ledOf.cls = RX8 ∧ yX8_ledOf.cls ≠ "java/lang/invoke/MethodHandle" ∧ yX8_ledOf.cls ≠ "java/lang/invoke/VarHandle" ∧ (parseMethodDescriptor yX8_ledOf.desc).map (fun d => d.parameters.length) = some 2 := by decide +kernel
theorem wm_X8_led : Jvm.Cond.instanceMethod yX8_led ∈ fm_Ts ∧ Jvm.Cond.selects RX8 yX8_led yX8_led ∈ fm_Ts ∧ Jvm.Cond.initialized RX8 ∈ fm_Ts ∧ Jvm.Cond.code yX8_led prog_10_method_88_code 3 (some .int) ∈ fm_Ts := ⟨fm_mem 1548 (by decide +kernel) rfl, fm_mem 1549 (by decide +kernel) rfl, fm_mem 95 (by decide +kernel) rfl, fm_mem 1550 (by decide +kernel) rfl⟩
theorem wy_X8_led : yX8_led.cls = RX8 ∧ yX8_led.cls ≠ "java/lang/invoke/MethodHandle" ∧ yX8_led.cls ≠ "java/lang/invoke/VarHandle" ∧ (parseMethodDescriptor yX8_led.desc).map (fun d => d.parameters.length) = some 2 := by decide +kernel
theorem wm_X8_share : Jvm.Cond.instanceMethod yX8_share ∈ fm_Ts ∧ Jvm.Cond.selects RX8 yX8_share yX8_share ∈ fm_Ts ∧ Jvm.Cond.initialized RX8 ∈ fm_Ts ∧ Jvm.Cond.code yX8_share prog_10_method_90_code 7 (some .int) ∈ fm_Ts := ⟨fm_mem 1556 (by decide +kernel) rfl, fm_mem 1557 (by decide +kernel) rfl, fm_mem 95 (by decide +kernel) rfl, fm_mem 1558 (by decide +kernel) rfl⟩
theorem wy_X8_share : yX8_share.cls = RX8 ∧ yX8_share.cls ≠ "java/lang/invoke/MethodHandle" ∧ yX8_share.cls ≠ "java/lang/invoke/VarHandle" ∧ (parseMethodDescriptor yX8_share.desc).map (fun d => d.parameters.length) = some 3 := by decide +kernel
theorem wm_X8_divisor : Jvm.Cond.static yX8_divisor ∈ fm_Ts ∧ Jvm.Cond.initialized yX8_divisor.cls ∈ fm_Ts ∧ Jvm.Cond.code yX8_divisor prog_10_method_89_code 5 (some .int) ∈ fm_Ts := ⟨fm_mem 1560 (by decide +kernel) rfl, fm_mem 95 (by decide +kernel) rfl, fm_mem 1561 (by decide +kernel) rfl⟩
theorem wy_X8_divisor : yX8_divisor.cls ≠ "java/lang/invoke/MethodHandle" ∧ yX8_divisor.cls ≠ "java/lang/invoke/VarHandle" ∧ (parseMethodDescriptor yX8_divisor.desc).map (fun d => d.parameters.length) = some 2 := by decide +kernel
theorem wm_X8_odds : Jvm.Cond.instanceMethod yX8_odds ∈ fm_Ts ∧ Jvm.Cond.selects RX8 yX8_odds yX8_odds ∈ fm_Ts ∧ Jvm.Cond.initialized RX8 ∈ fm_Ts ∧ Jvm.Cond.code yX8_odds prog_10_method_91_code 9 (some .int) ∈ fm_Ts := ⟨fm_mem 1563 (by decide +kernel) rfl, fm_mem 1564 (by decide +kernel) rfl, fm_mem 95 (by decide +kernel) rfl, fm_mem 1565 (by decide +kernel) rfl⟩
theorem wy_X8_odds : yX8_odds.cls = RX8 ∧ yX8_odds.cls ≠ "java/lang/invoke/MethodHandle" ∧ yX8_odds.cls ≠ "java/lang/invoke/VarHandle" ∧ (parseMethodDescriptor yX8_odds.desc).map (fun d => d.parameters.length) = some 3 := by decide +kernel
theorem wm_X8_seed : Jvm.Cond.instanceMethod yX8_seed ∈ fm_Ts ∧ Jvm.Cond.selects RX8 yX8_seed yX8_seed ∈ fm_Ts ∧ Jvm.Cond.initialized RX8 ∈ fm_Ts ∧ Jvm.Cond.code yX8_seed prog_10_method_92_code 2 (some .boolean) ∈ fm_Ts := ⟨fm_mem 1567 (by decide +kernel) rfl, fm_mem 1568 (by decide +kernel) rfl, fm_mem 95 (by decide +kernel) rfl, fm_mem 1569 (by decide +kernel) rfl⟩
theorem wy_X8_seed : yX8_seed.cls = RX8 ∧ yX8_seed.cls ≠ "java/lang/invoke/MethodHandle" ∧ yX8_seed.cls ≠ "java/lang/invoke/VarHandle" ∧ (parseMethodDescriptor yX8_seed.desc).map (fun d => d.parameters.length) = some 1 := by decide +kernel
theorem wm_X8_keep : Jvm.Cond.instanceMethod yX8_keep ∈ fm_Ts ∧ Jvm.Cond.selects RX8 yX8_keep yX8_keep ∈ fm_Ts ∧ Jvm.Cond.initialized RX8 ∈ fm_Ts ∧ Jvm.Cond.code yX8_keep prog_10_method_93_code 1 (some .int) ∈ fm_Ts := ⟨fm_mem 1572 (by decide +kernel) rfl, fm_mem 1573 (by decide +kernel) rfl, fm_mem 95 (by decide +kernel) rfl, fm_mem 1574 (by decide +kernel) rfl⟩
theorem wy_X8_keep : yX8_keep.cls = RX8 ∧ yX8_keep.cls ≠ "java/lang/invoke/MethodHandle" ∧ yX8_keep.cls ≠ "java/lang/invoke/VarHandle" ∧ (parseMethodDescriptor yX8_keep.desc).map (fun d => d.parameters.length) = some 0 := by decide +kernel
theorem wm_X8_undo : Jvm.Cond.instanceMethod yX8_undo ∈ fm_Ts ∧ Jvm.Cond.selects RX8 yX8_undo yX8_undo ∈ fm_Ts ∧ Jvm.Cond.initialized RX8 ∈ fm_Ts ∧ Jvm.Cond.code yX8_undo prog_10_method_94_code 1 (some .boolean) ∈ fm_Ts := ⟨fm_mem 1576 (by decide +kernel) rfl, fm_mem 1577 (by decide +kernel) rfl, fm_mem 95 (by decide +kernel) rfl, fm_mem 1578 (by decide +kernel) rfl⟩
theorem wy_X8_undo : yX8_undo.cls = RX8 ∧ yX8_undo.cls ≠ "java/lang/invoke/MethodHandle" ∧ yX8_undo.cls ≠ "java/lang/invoke/VarHandle" ∧ (parseMethodDescriptor yX8_undo.desc).map (fun d => d.parameters.length) = some 0 := by decide +kernel
theorem wm_X8_numberAt : Jvm.Cond.instanceMethod yX8_numberAt ∈ fm_Ts ∧ Jvm.Cond.selects RX8 yX8_numberAt yX8_numberAt ∈ fm_Ts ∧ Jvm.Cond.initialized RX8 ∈ fm_Ts ∧ Jvm.Cond.code yX8_numberAt prog_10_method_95_code 4 (some .int) ∈ fm_Ts := ⟨fm_mem 1585 (by decide +kernel) rfl, fm_mem 82 (by decide +kernel) rfl, fm_mem 95 (by decide +kernel) rfl, fm_mem 1586 (by decide +kernel) rfl⟩
theorem wy_X8_numberAt : yX8_numberAt.cls = RX8 ∧ yX8_numberAt.cls ≠ "java/lang/invoke/MethodHandle" ∧ yX8_numberAt.cls ≠ "java/lang/invoke/VarHandle" ∧ (parseMethodDescriptor yX8_numberAt.desc).map (fun d => d.parameters.length) = some 1 := by decide +kernel
theorem wm_X8_check : Jvm.Cond.instanceMethod yX8_check ∈ fm_Ts ∧ Jvm.Cond.selects RX8 yX8_check yX8_check ∈ fm_Ts ∧ Jvm.Cond.initialized RX8 ∈ fm_Ts ∧ Jvm.Cond.code yX8_check prog_10_method_96_code 3 (some .int) ∈ fm_Ts := ⟨fm_mem 1580 (by decide +kernel) rfl, fm_mem 1581 (by decide +kernel) rfl, fm_mem 95 (by decide +kernel) rfl, fm_mem 1582 (by decide +kernel) rfl⟩
theorem wy_X8_check : yX8_check.cls = RX8 ∧ yX8_check.cls ≠ "java/lang/invoke/MethodHandle" ∧ yX8_check.cls ≠ "java/lang/invoke/VarHandle" ∧ (parseMethodDescriptor yX8_check.desc).map (fun d => d.parameters.length) = some 1 := by decide +kernel
theorem wm_X8_allDust : Jvm.Cond.instanceMethod yX8_allDust ∈ fm_Ts ∧ Jvm.Cond.selects RX8 yX8_allDust yX8_allDust ∈ fm_Ts ∧ Jvm.Cond.initialized RX8 ∈ fm_Ts ∧ Jvm.Cond.code yX8_allDust prog_10_method_97_code 3 (some .int) ∈ fm_Ts := ⟨fm_mem 1595 (by decide +kernel) rfl, fm_mem 83 (by decide +kernel) rfl, fm_mem 95 (by decide +kernel) rfl, fm_mem 1596 (by decide +kernel) rfl⟩
theorem wy_X8_allDust : yX8_allDust.cls = RX8 ∧ yX8_allDust.cls ≠ "java/lang/invoke/MethodHandle" ∧ yX8_allDust.cls ≠ "java/lang/invoke/VarHandle" ∧ (parseMethodDescriptor yX8_allDust.desc).map (fun d => d.parameters.length) = some 0 := by decide +kernel
theorem wm_X8_portersTold : Jvm.Cond.instanceMethod yX8_portersTold ∈ fm_Ts ∧ Jvm.Cond.selects RX8 yX8_portersTold yX8_portersTold ∈ fm_Ts ∧ Jvm.Cond.initialized RX8 ∈ fm_Ts ∧ Jvm.Cond.code yX8_portersTold prog_10_method_98_code 3 (some .int) ∈ fm_Ts := ⟨fm_mem 1599 (by decide +kernel) rfl, fm_mem 84 (by decide +kernel) rfl, fm_mem 95 (by decide +kernel) rfl, fm_mem 1600 (by decide +kernel) rfl⟩
theorem wy_X8_portersTold : yX8_portersTold.cls = RX8 ∧ yX8_portersTold.cls ≠ "java/lang/invoke/MethodHandle" ∧ yX8_portersTold.cls ≠ "java/lang/invoke/VarHandle" ∧ (parseMethodDescriptor yX8_portersTold.desc).map (fun d => d.parameters.length) = some 0 := by decide +kernel
theorem wm_X8_count : Jvm.Cond.instanceMethod yX8_count ∈ fm_Ts ∧ Jvm.Cond.selects RX8 yX8_count yX8_count ∈ fm_Ts ∧ Jvm.Cond.initialized RX8 ∈ fm_Ts ∧ Jvm.Cond.code yX8_count prog_10_method_99_code 2 (some .int) ∈ fm_Ts := ⟨fm_mem 1588 (by decide +kernel) rfl, fm_mem 1589 (by decide +kernel) rfl, fm_mem 95 (by decide +kernel) rfl, fm_mem 1590 (by decide +kernel) rfl⟩
theorem wy_X8_count : yX8_count.cls = RX8 ∧ yX8_count.cls ≠ "java/lang/invoke/MethodHandle" ∧ yX8_count.cls ≠ "java/lang/invoke/VarHandle" ∧ (parseMethodDescriptor yX8_count.desc).map (fun d => d.parameters.length) = some 1 := by decide +kernel
theorem wm_X8_goesToNext : Jvm.Cond.instanceMethod yX8_goesToNext ∈ fm_Ts ∧ Jvm.Cond.selects RX8 yX8_goesToNext yX8_goesToNext ∈ fm_Ts ∧ Jvm.Cond.initialized RX8 ∈ fm_Ts ∧ Jvm.Cond.code yX8_goesToNext prog_10_method_77_code 7 (some .boolean) ∈ fm_Ts := ⟨fm_mem 1509 (by decide +kernel) rfl, fm_mem 76 (by decide +kernel) rfl, fm_mem 95 (by decide +kernel) rfl, fm_mem 1510 (by decide +kernel) rfl⟩
theorem wy_X8_goesToNext : yX8_goesToNext.cls = RX8 ∧ yX8_goesToNext.cls ≠ "java/lang/invoke/MethodHandle" ∧ yX8_goesToNext.cls ≠ "java/lang/invoke/VarHandle" ∧ (parseMethodDescriptor yX8_goesToNext.desc).map (fun d => d.parameters.length) = some 1 := by decide +kernel
theorem wm_X8_works : Jvm.Cond.instanceMethod yX8_works ∈ fm_Ts ∧ Jvm.Cond.selects RX8 yX8_works yX8_works ∈ fm_Ts ∧ Jvm.Cond.initialized RX8 ∈ fm_Ts ∧ Jvm.Cond.code yX8_works prog_10_method_50_code 5 none ∈ fm_Ts := ⟨fm_mem 1380 (by decide +kernel) rfl, fm_mem 58 (by decide +kernel) rfl, fm_mem 95 (by decide +kernel) rfl, fm_mem 1381 (by decide +kernel) rfl⟩
theorem wy_X8_works : yX8_works.cls = RX8 ∧ yX8_works.cls ≠ "java/lang/invoke/MethodHandle" ∧ yX8_works.cls ≠ "java/lang/invoke/VarHandle" ∧ (parseMethodDescriptor yX8_works.desc).map (fun d => d.parameters.length) = some 2 := by decide +kernel
theorem wm_X8_bowls : Jvm.Cond.instanceMethod yX8_bowls ∈ fm_Ts ∧ Jvm.Cond.selects RX8 yX8_bowls yX8_bowls ∈ fm_Ts ∧ Jvm.Cond.initialized RX8 ∈ fm_Ts ∧ Jvm.Cond.code yX8_bowls prog_10_method_78_code 9 (some .int) ∈ fm_Ts := ⟨fm_mem 1500 (by decide +kernel) rfl, fm_mem 1501 (by decide +kernel) rfl, fm_mem 95 (by decide +kernel) rfl, fm_mem 1502 (by decide +kernel) rfl⟩
theorem wy_X8_bowls : yX8_bowls.cls = RX8 ∧ yX8_bowls.cls ≠ "java/lang/invoke/MethodHandle" ∧ yX8_bowls.cls ≠ "java/lang/invoke/VarHandle" ∧ (parseMethodDescriptor yX8_bowls.desc).map (fun d => d.parameters.length) = some 3 := by decide +kernel
theorem wm_X8_here : Jvm.Cond.instanceMethod yX8_here ∈ fm_Ts ∧ Jvm.Cond.selects RX8 yX8_here yX8_here ∈ fm_Ts ∧ Jvm.Cond.initialized RX8 ∈ fm_Ts ∧ Jvm.Cond.code yX8_here prog_10_method_18_code 1 (some .int) ∈ fm_Ts := ⟨fm_mem 1258 (by decide +kernel) rfl, fm_mem 34 (by decide +kernel) rfl, fm_mem 95 (by decide +kernel) rfl, fm_mem 1259 (by decide +kernel) rfl⟩
theorem wy_X8_here : yX8_here.cls = RX8 ∧ yX8_here.cls ≠ "java/lang/invoke/MethodHandle" ∧ yX8_here.cls ≠ "java/lang/invoke/VarHandle" ∧ (parseMethodDescriptor yX8_here.desc).map (fun d => d.parameters.length) = some 0 := by decide +kernel
theorem wm_X8_wrongs : Jvm.Cond.instanceMethod yX8_wrongs ∈ fm_Ts ∧ Jvm.Cond.selects RX8 yX8_wrongs yX8_wrongs ∈ fm_Ts ∧ Jvm.Cond.initialized RX8 ∈ fm_Ts ∧ Jvm.Cond.code yX8_wrongs prog_10_method_19_code 3 none ∈ fm_Ts := ⟨fm_mem 1262 (by decide +kernel) rfl, fm_mem 35 (by decide +kernel) rfl, fm_mem 95 (by decide +kernel) rfl, fm_mem 1263 (by decide +kernel) rfl⟩
theorem wy_X8_wrongs : yX8_wrongs.cls = RX8 ∧ yX8_wrongs.cls ≠ "java/lang/invoke/MethodHandle" ∧ yX8_wrongs.cls ≠ "java/lang/invoke/VarHandle" ∧ (parseMethodDescriptor yX8_wrongs.desc).map (fun d => d.parameters.length) = some 2 := by decide +kernel
theorem wm_X8_isGood : Jvm.Cond.instanceMethod yX8_isGood ∈ fm_Ts ∧ Jvm.Cond.selects RX8 yX8_isGood yX8_isGood ∈ fm_Ts ∧ Jvm.Cond.initialized RX8 ∈ fm_Ts ∧ Jvm.Cond.code yX8_isGood prog_10_method_20_code 1 (some .boolean) ∈ fm_Ts := ⟨fm_mem 1250 (by decide +kernel) rfl, fm_mem 32 (by decide +kernel) rfl, fm_mem 95 (by decide +kernel) rfl, fm_mem 1251 (by decide +kernel) rfl⟩
theorem wy_X8_isGood : yX8_isGood.cls = RX8 ∧ yX8_isGood.cls ≠ "java/lang/invoke/MethodHandle" ∧ yX8_isGood.cls ≠ "java/lang/invoke/VarHandle" ∧ (parseMethodDescriptor yX8_isGood.desc).map (fun d => d.parameters.length) = some 0 := by decide +kernel
theorem wm_X8_emit : Jvm.Cond.instanceMethod yX8_emit ∈ fm_Ts ∧ Jvm.Cond.selects RX8 yX8_emit yX8_emit ∈ fm_Ts ∧ Jvm.Cond.initialized RX8 ∈ fm_Ts ∧ Jvm.Cond.code yX8_emit prog_10_method_21_code 3 none ∈ fm_Ts := ⟨fm_mem 1292 (by decide +kernel) rfl, fm_mem 42 (by decide +kernel) rfl, fm_mem 95 (by decide +kernel) rfl, fm_mem 1293 (by decide +kernel) rfl⟩
theorem wy_X8_emit : yX8_emit.cls = RX8 ∧ yX8_emit.cls ≠ "java/lang/invoke/MethodHandle" ∧ yX8_emit.cls ≠ "java/lang/invoke/VarHandle" ∧ (parseMethodDescriptor yX8_emit.desc).map (fun d => d.parameters.length) = some 2 := by decide +kernel
theorem wm_X8_top : Jvm.Cond.instanceMethod yX8_top ∈ fm_Ts ∧ Jvm.Cond.selects RX8 yX8_top yX8_top ∈ fm_Ts ∧ Jvm.Cond.initialized RX8 ∈ fm_Ts ∧ Jvm.Cond.code yX8_top prog_10_method_22_code 1 (some .int) ∈ fm_Ts := ⟨fm_mem 1316 (by decide +kernel) rfl, fm_mem 45 (by decide +kernel) rfl, fm_mem 95 (by decide +kernel) rfl, fm_mem 1317 (by decide +kernel) rfl⟩
theorem wy_X8_top : yX8_top.cls = RX8 ∧ yX8_top.cls ≠ "java/lang/invoke/MethodHandle" ∧ yX8_top.cls ≠ "java/lang/invoke/VarHandle" ∧ (parseMethodDescriptor yX8_top.desc).map (fun d => d.parameters.length) = some 0 := by decide +kernel
theorem wm_X8_puts : Jvm.Cond.instanceMethod yX8_puts ∈ fm_Ts ∧ Jvm.Cond.selects RX8 yX8_puts yX8_puts ∈ fm_Ts ∧ Jvm.Cond.initialized RX8 ∈ fm_Ts ∧ Jvm.Cond.code yX8_puts prog_10_method_23_code 2 none ∈ fm_Ts := ⟨fm_mem 1278 (by decide +kernel) rfl, fm_mem 39 (by decide +kernel) rfl, fm_mem 95 (by decide +kernel) rfl, fm_mem 1279 (by decide +kernel) rfl⟩
theorem wy_X8_puts : yX8_puts.cls = RX8 ∧ yX8_puts.cls ≠ "java/lang/invoke/MethodHandle" ∧ yX8_puts.cls ≠ "java/lang/invoke/VarHandle" ∧ (parseMethodDescriptor yX8_puts.desc).map (fun d => d.parameters.length) = some 1 := by decide +kernel
theorem wm_X8_opens : Jvm.Cond.instanceMethod yX8_opens ∈ fm_Ts ∧ Jvm.Cond.selects RX8 yX8_opens yX8_opens ∈ fm_Ts ∧ Jvm.Cond.initialized RX8 ∈ fm_Ts ∧ Jvm.Cond.code yX8_opens prog_10_method_24_code 1 none ∈ fm_Ts := ⟨fm_mem 1274 (by decide +kernel) rfl, fm_mem 38 (by decide +kernel) rfl, fm_mem 95 (by decide +kernel) rfl, fm_mem 1275 (by decide +kernel) rfl⟩
theorem wy_X8_opens : yX8_opens.cls = RX8 ∧ yX8_opens.cls ≠ "java/lang/invoke/MethodHandle" ∧ yX8_opens.cls ≠ "java/lang/invoke/VarHandle" ∧ (parseMethodDescriptor yX8_opens.desc).map (fun d => d.parameters.length) = some 0 := by decide +kernel
theorem wm_X8_seesDigit : Jvm.Cond.instanceMethod yX8_seesDigit ∈ fm_Ts ∧ Jvm.Cond.selects RX8 yX8_seesDigit yX8_seesDigit ∈ fm_Ts ∧ Jvm.Cond.initialized RX8 ∈ fm_Ts ∧ Jvm.Cond.code yX8_seesDigit prog_10_method_25_code 1 (some .boolean) ∈ fm_Ts := ⟨fm_mem 1282 (by decide +kernel) rfl, fm_mem 40 (by decide +kernel) rfl, fm_mem 95 (by decide +kernel) rfl, fm_mem 1283 (by decide +kernel) rfl⟩
theorem wy_X8_seesDigit : yX8_seesDigit.cls = RX8 ∧ yX8_seesDigit.cls ≠ "java/lang/invoke/MethodHandle" ∧ yX8_seesDigit.cls ≠ "java/lang/invoke/VarHandle" ∧ (parseMethodDescriptor yX8_seesDigit.desc).map (fun d => d.parameters.length) = some 0 := by decide +kernel
theorem wm_X8_reads : Jvm.Cond.instanceMethod yX8_reads ∈ fm_Ts ∧ Jvm.Cond.selects RX8 yX8_reads yX8_reads ∈ fm_Ts ∧ Jvm.Cond.initialized RX8 ∈ fm_Ts ∧ Jvm.Cond.code yX8_reads prog_10_method_26_code 3 (some .int) ∈ fm_Ts := ⟨fm_mem 1288 (by decide +kernel) rfl, fm_mem 41 (by decide +kernel) rfl, fm_mem 95 (by decide +kernel) rfl, fm_mem 1289 (by decide +kernel) rfl⟩
theorem wy_X8_reads : yX8_reads.cls = RX8 ∧ yX8_reads.cls ≠ "java/lang/invoke/MethodHandle" ∧ yX8_reads.cls ≠ "java/lang/invoke/VarHandle" ∧ (parseMethodDescriptor yX8_reads.desc).map (fun d => d.parameters.length) = some 0 := by decide +kernel
theorem wm_X8_isTimes : Jvm.Cond.static yX8_isTimes ∈ fm_Ts ∧ Jvm.Cond.initialized yX8_isTimes.cls ∈ fm_Ts ∧ Jvm.Cond.code yX8_isTimes prog_10_method_27_code 1 (some .boolean) ∈ fm_Ts := ⟨fm_mem 1305 (by decide +kernel) rfl, fm_mem 95 (by decide +kernel) rfl, fm_mem 1306 (by decide +kernel) rfl⟩
theorem wy_X8_isTimes : yX8_isTimes.cls ≠ "java/lang/invoke/MethodHandle" ∧ yX8_isTimes.cls ≠ "java/lang/invoke/VarHandle" ∧ (parseMethodDescriptor yX8_isTimes.desc).map (fun d => d.parameters.length) = some 1 := by decide +kernel
theorem wm_X8_isPlus : Jvm.Cond.static yX8_isPlus ∈ fm_Ts ∧ Jvm.Cond.initialized yX8_isPlus.cls ∈ fm_Ts ∧ Jvm.Cond.code yX8_isPlus prog_10_method_28_code 1 (some .boolean) ∈ fm_Ts := ⟨fm_mem 1308 (by decide +kernel) rfl, fm_mem 95 (by decide +kernel) rfl, fm_mem 1309 (by decide +kernel) rfl⟩
theorem wy_X8_isPlus : yX8_isPlus.cls ≠ "java/lang/invoke/MethodHandle" ∧ yX8_isPlus.cls ≠ "java/lang/invoke/VarHandle" ∧ (parseMethodDescriptor yX8_isPlus.desc).map (fun d => d.parameters.length) = some 1 := by decide +kernel
theorem wm_X8_isSign : Jvm.Cond.static yX8_isSign ∈ fm_Ts ∧ Jvm.Cond.initialized yX8_isSign.cls ∈ fm_Ts ∧ Jvm.Cond.code yX8_isSign prog_10_method_29_code 1 (some .boolean) ∈ fm_Ts := ⟨fm_mem 1327 (by decide +kernel) rfl, fm_mem 95 (by decide +kernel) rfl, fm_mem 1328 (by decide +kernel) rfl⟩
theorem wy_X8_isSign : yX8_isSign.cls ≠ "java/lang/invoke/MethodHandle" ∧ yX8_isSign.cls ≠ "java/lang/invoke/VarHandle" ∧ (parseMethodDescriptor yX8_isSign.desc).map (fun d => d.parameters.length) = some 1 := by decide +kernel
theorem wm_X8_isValue : Jvm.Cond.static yX8_isValue ∈ fm_Ts ∧ Jvm.Cond.initialized yX8_isValue.cls ∈ fm_Ts ∧ Jvm.Cond.code yX8_isValue prog_10_method_31_code 1 (some .boolean) ∈ fm_Ts := ⟨fm_mem 1295 (by decide +kernel) rfl, fm_mem 95 (by decide +kernel) rfl, fm_mem 1296 (by decide +kernel) rfl⟩
theorem wy_X8_isValue : yX8_isValue.cls ≠ "java/lang/invoke/MethodHandle" ∧ yX8_isValue.cls ≠ "java/lang/invoke/VarHandle" ∧ (parseMethodDescriptor yX8_isValue.desc).map (fun d => d.parameters.length) = some 1 := by decide +kernel
theorem wm_X8_sums : Jvm.Cond.instanceMethod yX8_sums ∈ fm_Ts ∧ Jvm.Cond.selects RX8 yX8_sums yX8_sums ∈ fm_Ts ∧ Jvm.Cond.initialized RX8 ∈ fm_Ts ∧ Jvm.Cond.code yX8_sums prog_10_method_32_code 2 none ∈ fm_Ts := ⟨fm_mem 1312 (by decide +kernel) rfl, fm_mem 44 (by decide +kernel) rfl, fm_mem 95 (by decide +kernel) rfl, fm_mem 1313 (by decide +kernel) rfl⟩
theorem wy_X8_sums : yX8_sums.cls = RX8 ∧ yX8_sums.cls ≠ "java/lang/invoke/MethodHandle" ∧ yX8_sums.cls ≠ "java/lang/invoke/VarHandle" ∧ (parseMethodDescriptor yX8_sums.desc).map (fun d => d.parameters.length) = some 1 := by decide +kernel
theorem wm_X8_joins : Jvm.Cond.instanceMethod yX8_joins ∈ fm_Ts ∧ Jvm.Cond.selects RX8 yX8_joins yX8_joins ∈ fm_Ts ∧ Jvm.Cond.initialized RX8 ∈ fm_Ts ∧ Jvm.Cond.code yX8_joins prog_10_method_33_code 2 none ∈ fm_Ts := ⟨fm_mem 1339 (by decide +kernel) rfl, fm_mem 50 (by decide +kernel) rfl, fm_mem 95 (by decide +kernel) rfl, fm_mem 1340 (by decide +kernel) rfl⟩
theorem wy_X8_joins : yX8_joins.cls = RX8 ∧ yX8_joins.cls ≠ "java/lang/invoke/MethodHandle" ∧ yX8_joins.cls ≠ "java/lang/invoke/VarHandle" ∧ (parseMethodDescriptor yX8_joins.desc).map (fun d => d.parameters.length) = some 1 := by decide +kernel
theorem wm_X8_ends : Jvm.Cond.instanceMethod yX8_ends ∈ fm_Ts ∧ Jvm.Cond.selects RX8 yX8_ends yX8_ends ∈ fm_Ts ∧ Jvm.Cond.initialized RX8 ∈ fm_Ts ∧ Jvm.Cond.code yX8_ends prog_10_method_34_code 1 none ∈ fm_Ts := ⟨fm_mem 1331 (by decide +kernel) rfl, fm_mem 48 (by decide +kernel) rfl, fm_mem 95 (by decide +kernel) rfl, fm_mem 1332 (by decide +kernel) rfl⟩
theorem wy_X8_ends : yX8_ends.cls = RX8 ∧ yX8_ends.cls ≠ "java/lang/invoke/MethodHandle" ∧ yX8_ends.cls ≠ "java/lang/invoke/VarHandle" ∧ (parseMethodDescriptor yX8_ends.desc).map (fun d => d.parameters.length) = some 0 := by decide +kernel
theorem wm_X8_factor : Jvm.Cond.instanceMethod yX8_factor ∈ fm_Ts ∧ Jvm.Cond.selects RX8 yX8_factor yX8_factor ∈ fm_Ts ∧ Jvm.Cond.initialized RX8 ∈ fm_Ts ∧ Jvm.Cond.code yX8_factor prog_10_method_35_code 1 none ∈ fm_Ts := ⟨fm_mem 1270 (by decide +kernel) rfl, fm_mem 37 (by decide +kernel) rfl, fm_mem 95 (by decide +kernel) rfl, fm_mem 1271 (by decide +kernel) rfl⟩
theorem wy_X8_factor : yX8_factor.cls = RX8 ∧ yX8_factor.cls ≠ "java/lang/invoke/MethodHandle" ∧ yX8_factor.cls ≠ "java/lang/invoke/VarHandle" ∧ (parseMethodDescriptor yX8_factor.desc).map (fun d => d.parameters.length) = some 0 := by decide +kernel
theorem wm_X8_stays : Jvm.Cond.instanceMethod yX8_stays ∈ fm_Ts ∧ Jvm.Cond.selects RX8 yX8_stays yX8_stays ∈ fm_Ts ∧ Jvm.Cond.initialized RX8 ∈ fm_Ts ∧ Jvm.Cond.code yX8_stays prog_10_method_36_code 2 (some .boolean) ∈ fm_Ts := ⟨fm_mem 1302 (by decide +kernel) rfl, fm_mem 43 (by decide +kernel) rfl, fm_mem 95 (by decide +kernel) rfl, fm_mem 1303 (by decide +kernel) rfl⟩
theorem wy_X8_stays : yX8_stays.cls = RX8 ∧ yX8_stays.cls ≠ "java/lang/invoke/MethodHandle" ∧ yX8_stays.cls ≠ "java/lang/invoke/VarHandle" ∧ (parseMethodDescriptor yX8_stays.desc).map (fun d => d.parameters.length) = some 0 := by decide +kernel
theorem wm_X8_value : Jvm.Cond.instanceMethod yX8_value ∈ fm_Ts ∧ Jvm.Cond.selects RX8 yX8_value yX8_value ∈ fm_Ts ∧ Jvm.Cond.initialized RX8 ∈ fm_Ts ∧ Jvm.Cond.code yX8_value prog_10_method_37_code 2 none ∈ fm_Ts := ⟨fm_mem 1266 (by decide +kernel) rfl, fm_mem 36 (by decide +kernel) rfl, fm_mem 95 (by decide +kernel) rfl, fm_mem 1267 (by decide +kernel) rfl⟩
theorem wy_X8_value : yX8_value.cls = RX8 ∧ yX8_value.cls ≠ "java/lang/invoke/MethodHandle" ∧ yX8_value.cls ≠ "java/lang/invoke/VarHandle" ∧ (parseMethodDescriptor yX8_value.desc).map (fun d => d.parameters.length) = some 0 := by decide +kernel
theorem wm_X8_pieceOfC : Jvm.Cond.instanceMethod yX8_pieceOfC ∈ fm_Ts ∧ Jvm.Cond.selects RX8 yX8_pieceOfC yX8_pieceOfC ∈ fm_Ts ∧ Jvm.Cond.initialized RX8 ∈ fm_Ts ∧ Jvm.Cond.code yX8_pieceOfC prog_10_method_38_code 2 none ∈ fm_Ts := ⟨fm_mem 1324 (by decide +kernel) rfl, fm_mem 47 (by decide +kernel) rfl, fm_mem 95 (by decide +kernel) rfl, fm_mem 1325 (by decide +kernel) rfl⟩
theorem wy_X8_pieceOfC : yX8_pieceOfC.cls = RX8 ∧ yX8_pieceOfC.cls ≠ "java/lang/invoke/MethodHandle" ∧ yX8_pieceOfC.cls ≠ "java/lang/invoke/VarHandle" ∧ (parseMethodDescriptor yX8_pieceOfC.desc).map (fun d => d.parameters.length) = some 0 := by decide +kernel
theorem wm_X8_goesBehind : Jvm.Cond.instanceMethod yX8_goesBehind ∈ fm_Ts ∧ Jvm.Cond.selects RX8 yX8_goesBehind yX8_goesBehind ∈ fm_Ts ∧ Jvm.Cond.initialized RX8 ∈ fm_Ts ∧ Jvm.Cond.code yX8_goesBehind prog_10_method_39_code 2 (some .boolean) ∈ fm_Ts := ⟨fm_mem 1335 (by decide +kernel) rfl, fm_mem 49 (by decide +kernel) rfl, fm_mem 95 (by decide +kernel) rfl, fm_mem 1336 (by decide +kernel) rfl⟩
theorem wy_X8_goesBehind : yX8_goesBehind.cls = RX8 ∧ yX8_goesBehind.cls ≠ "java/lang/invoke/MethodHandle" ∧ yX8_goesBehind.cls ≠ "java/lang/invoke/VarHandle" ∧ (parseMethodDescriptor yX8_goesBehind.desc).map (fun d => d.parameters.length) = some 0 := by decide +kernel
theorem wm_X8_condition : Jvm.Cond.instanceMethod yX8_condition ∈ fm_Ts ∧ Jvm.Cond.selects RX8 yX8_condition yX8_condition ∈ fm_Ts ∧ Jvm.Cond.initialized RX8 ∈ fm_Ts ∧ Jvm.Cond.code yX8_condition prog_10_method_40_code 2 none ∈ fm_Ts := ⟨fm_mem 1320 (by decide +kernel) rfl, fm_mem 46 (by decide +kernel) rfl, fm_mem 95 (by decide +kernel) rfl, fm_mem 1321 (by decide +kernel) rfl⟩
theorem wy_X8_condition : yX8_condition.cls = RX8 ∧ yX8_condition.cls ≠ "java/lang/invoke/MethodHandle" ∧ yX8_condition.cls ≠ "java/lang/invoke/VarHandle" ∧ (parseMethodDescriptor yX8_condition.desc).map (fun d => d.parameters.length) = some 0 := by decide +kernel
theorem wm_X8_clause : Jvm.Cond.instanceMethod yX8_clause ∈ fm_Ts ∧ Jvm.Cond.selects RX8 yX8_clause yX8_clause ∈ fm_Ts ∧ Jvm.Cond.initialized RX8 ∈ fm_Ts ∧ Jvm.Cond.code yX8_clause prog_10_method_41_code 2 none ∈ fm_Ts := ⟨fm_mem 1254 (by decide +kernel) rfl, fm_mem 33 (by decide +kernel) rfl, fm_mem 95 (by decide +kernel) rfl, fm_mem 1255 (by decide +kernel) rfl⟩
theorem wy_X8_clause : yX8_clause.cls = RX8 ∧ yX8_clause.cls ≠ "java/lang/invoke/MethodHandle" ∧ yX8_clause.cls ≠ "java/lang/invoke/VarHandle" ∧ (parseMethodDescriptor yX8_clause.desc).map (fun d => d.parameters.length) = some 0 := by decide +kernel
theorem wm_X8_law : Jvm.Cond.instanceMethod yX8_law ∈ fm_Ts ∧ Jvm.Cond.selects RX8 yX8_law yX8_law ∈ fm_Ts ∧ Jvm.Cond.initialized RX8 ∈ fm_Ts ∧ Jvm.Cond.code yX8_law prog_10_method_42_code 4 (some .int) ∈ fm_Ts := ⟨fm_mem 1244 (by decide +kernel) rfl, fm_mem 1245 (by decide +kernel) rfl, fm_mem 95 (by decide +kernel) rfl, fm_mem 1246 (by decide +kernel) rfl⟩
theorem wy_X8_law : yX8_law.cls = RX8 ∧ yX8_law.cls ≠ "java/lang/invoke/MethodHandle" ∧ yX8_law.cls ≠ "java/lang/invoke/VarHandle" ∧ (parseMethodDescriptor yX8_law.desc).map (fun d => d.parameters.length) = some 1 := by decide +kernel
theorem wl_X8_349 : Jvm.Cond.methodLink RX8 349 yX8_worked ∈ fm_Ts := fm_mem 1386 (by decide +kernel) rfl
theorem wl_X8_327 : Jvm.Cond.methodLink RX8 327 yX8_rainNow ∈ fm_Ts := fm_mem 1397 (by decide +kernel) rfl
theorem wl_X8_336 : Jvm.Cond.methodLink RX8 336 yX8_portersAt ∈ fm_Ts := fm_mem 1405 (by decide +kernel) rfl
theorem wl_X8_248 : Jvm.Cond.methodLink RX8 248 yX8_isOfYard ∈ fm_Ts := fm_mem 1297 (by decide +kernel) rfl
theorem wl_X8_340 : Jvm.Cond.methodLink RX8 340 yX8_ofYard ∈ fm_Ts := fm_mem 1393 (by decide +kernel) rfl
theorem wl_X8_346 : Jvm.Cond.methodLink RX8 346 yX8_ofPorter ∈ fm_Ts := fm_mem 1401 (by decide +kernel) rfl
theorem wl_X8_168 : Jvm.Cond.methodLink RX8 168 yX8_lies ∈ fm_Ts := fm_mem 1202 (by decide +kernel) rfl
theorem wl_X8_182 : Jvm.Cond.methodLink RX8 182 yX8_isYard ∈ fm_Ts := fm_mem 1198 (by decide +kernel) rfl
theorem wl_X8_193 : Jvm.Cond.methodLink RX8 193 yX8_isDigit ∈ fm_Ts := fm_mem 1213 (by decide +kernel) rfl
theorem wl_X8_198 : Jvm.Cond.methodLink RX8 198 yX8_isBeggar ∈ fm_Ts := fm_mem 1227 (by decide +kernel) rfl
theorem wl_X8_204 : Jvm.Cond.methodLink RX8 204 yX8_push ∈ fm_Ts := fm_mem 1239 (by decide +kernel) rfl
theorem wl_X8_176 : Jvm.Cond.methodLink RX8 176 yX8_isPorter ∈ fm_Ts := fm_mem 1366 (by decide +kernel) rfl
theorem wl_X8_362 : Jvm.Cond.methodLink RX8 362 yX8_tells ∈ fm_Ts := fm_mem 1374 (by decide +kernel) rfl
theorem wl_X8_366 : Jvm.Cond.methodLink RX8 366 yX8_less ∈ fm_Ts := fm_mem 1409 (by decide +kernel) rfl
theorem wl_X8_374 : Jvm.Cond.methodLink RX8 374 yX8_goesStill ∈ fm_Ts := fm_mem 1362 (by decide +kernel) rfl
theorem wl_X8_377 : Jvm.Cond.methodLink RX8 377 yX8_wouldLose ∈ fm_Ts := fm_mem 1370 (by decide +kernel) rfl
theorem wl_X8_383 : Jvm.Cond.methodLink RX8 383 yX8_comes ∈ fm_Ts := fm_mem 1412 (by decide +kernel) rfl
theorem wl_X8_392 : Jvm.Cond.methodLink RX8 392 yX8_loses ∈ fm_Ts := fm_mem 1358 (by decide +kernel) rfl
theorem wl_X8_395 : Jvm.Cond.methodLink RX8 395 yX8_climbs ∈ fm_Ts := fm_mem 1417 (by decide +kernel) rfl
theorem wl_X8_398 : Jvm.Cond.methodLink RX8 398 yX8_blows ∈ fm_Ts := fm_mem 1421 (by decide +kernel) rfl
theorem wl_X8_401 : Jvm.Cond.methodLink RX8 401 yX8_washes ∈ fm_Ts := fm_mem 1425 (by decide +kernel) rfl
theorem wl_X8_404 : Jvm.Cond.methodLink RX8 404 yX8_sieves ∈ fm_Ts := fm_mem 1429 (by decide +kernel) rfl
theorem wl_X8_408 : Jvm.Cond.methodLink RX8 408 yX8_passes ∈ fm_Ts := fm_mem 1354 (by decide +kernel) rfl
theorem wl_X8_415 : Jvm.Cond.methodLink RX8 415 yX8_areHours ∈ fm_Ts := fm_mem 1345 (by decide +kernel) rfl
theorem wl_X8_418 : Jvm.Cond.methodLink RX8 418 yX8_goesOn ∈ fm_Ts := fm_mem 1349 (by decide +kernel) rfl
theorem wl_X8_421 : Jvm.Cond.methodLink RX8 421 yX8_losesNow ∈ fm_Ts := fm_mem 1445 (by decide +kernel) rfl
theorem wl_X8_436 : Jvm.Cond.methodLink RX8 436 yX8_isTried ∈ fm_Ts := fm_mem 1453 (by decide +kernel) rfl
theorem wl_X8_439 : Jvm.Cond.methodLink RX8 439 yX8_setsAside ∈ fm_Ts := fm_mem 1457 (by decide +kernel) rfl
theorem wl_X8_442 : Jvm.Cond.methodLink RX8 442 yX8_triedNow ∈ fm_Ts := fm_mem 1461 (by decide +kernel) rfl
theorem wl_X8_445 : Jvm.Cond.methodLink RX8 445 yX8_putsBack ∈ fm_Ts := fm_mem 1472 (by decide +kernel) rfl
theorem wl_X8_452 : Jvm.Cond.methodLink RX8 452 yX8_sizeOf ∈ fm_Ts := fm_mem 1493 (by decide +kernel) rfl
theorem wl_X8_448 : Jvm.Cond.methodLink RX8 448 yX8_has ∈ fm_Ts := fm_mem 1490 (by decide +kernel) rfl
theorem wl_X8_461 : Jvm.Cond.methodLink RX8 461 yX8_isAhead ∈ fm_Ts := fm_mem 1496 (by decide +kernel) rfl
theorem wl_X8_464 : Jvm.Cond.methodLink RX8 464 yX8_areFew ∈ fm_Ts := fm_mem 1480 (by decide +kernel) rfl
theorem wl_X8_472 : Jvm.Cond.methodLink RX8 472 yX8_sievesBy ∈ fm_Ts := fm_mem 1486 (by decide +kernel) rfl
theorem wl_X8_486 : Jvm.Cond.methodLink RX8 486 yX8_purseBy ∈ fm_Ts := fm_mem 1527 (by decide +kernel) rfl
theorem wl_X8_489 : Jvm.Cond.methodLink RX8 489 yX8_worthOf ∈ fm_Ts := fm_mem 1523 (by decide +kernel) rfl
theorem wl_X8_492 : Jvm.Cond.methodLink RX8 492 yX8_byteAt ∈ fm_Ts := fm_mem 1543 (by decide +kernel) rfl
theorem wl_X8_495 : Jvm.Cond.methodLink RX8 495 yX8_isShaken ∈ fm_Ts := fm_mem 1539 (by decide +kernel) rfl
theorem wl_X8_498 : Jvm.Cond.methodLink RX8 498 yX8_ledOf ∈ fm_Ts := fm_mem 1551 (by decide +kernel) rfl
theorem wl_X8_501 : Jvm.Cond.methodLink RX8 501 yX8_divisor ∈ fm_Ts := fm_mem 1559 (by decide +kernel) rfl
theorem wl_X8_509 : Jvm.Cond.methodLink RX8 509 yX8_numberAt ∈ fm_Ts := fm_mem 1583 (by decide +kernel) rfl
theorem wl_X8_516 : Jvm.Cond.methodLink RX8 516 yX8_allDust ∈ fm_Ts := fm_mem 1593 (by decide +kernel) rfl
theorem wl_X8_519 : Jvm.Cond.methodLink RX8 519 yX8_portersTold ∈ fm_Ts := fm_mem 1597 (by decide +kernel) rfl
theorem wl_X8_353 : Jvm.Cond.methodLink RX8 353 yX8_does ∈ fm_Ts := fm_mem 1382 (by decide +kernel) rfl
theorem wl_X8_356 : Jvm.Cond.methodLink RX8 356 yX8_valueOf ∈ fm_Ts := fm_mem 1389 (by decide +kernel) rfl
theorem wl_X8_359 : Jvm.Cond.methodLink RX8 359 yX8_works ∈ fm_Ts := fm_mem 1378 (by decide +kernel) rfl
theorem wl_X8_483 : Jvm.Cond.methodLink RX8 483 yX8_goesToNext ∈ fm_Ts := fm_mem 1507 (by decide +kernel) rfl
theorem wl_X8_217 : Jvm.Cond.methodLink RX8 217 yX8_isGood ∈ fm_Ts := fm_mem 1248 (by decide +kernel) rfl
theorem wl_X8_230 : Jvm.Cond.methodLink RX8 230 yX8_wrongs ∈ fm_Ts := fm_mem 1260 (by decide +kernel) rfl
theorem wl_X8_234 : Jvm.Cond.methodLink RX8 234 yX8_here ∈ fm_Ts := fm_mem 1256 (by decide +kernel) rfl
theorem wl_X8_238 : Jvm.Cond.methodLink RX8 238 yX8_puts ∈ fm_Ts := fm_mem 1276 (by decide +kernel) rfl
theorem wl_X8_245 : Jvm.Cond.methodLink RX8 245 yX8_seesDigit ∈ fm_Ts := fm_mem 1280 (by decide +kernel) rfl
theorem wl_X8_251 : Jvm.Cond.methodLink RX8 251 yX8_top ∈ fm_Ts := fm_mem 1314 (by decide +kernel) rfl
theorem wl_X8_254 : Jvm.Cond.methodLink RX8 254 yX8_isTimes ∈ fm_Ts := fm_mem 1304 (by decide +kernel) rfl
theorem wl_X8_257 : Jvm.Cond.methodLink RX8 257 yX8_isPlus ∈ fm_Ts := fm_mem 1307 (by decide +kernel) rfl
theorem wl_X8_260 : Jvm.Cond.methodLink RX8 260 yX8_emit ∈ fm_Ts := fm_mem 1290 (by decide +kernel) rfl
theorem wl_X8_263 : Jvm.Cond.methodLink RX8 263 yX8_opens ∈ fm_Ts := fm_mem 1272 (by decide +kernel) rfl
theorem wl_X8_266 : Jvm.Cond.methodLink RX8 266 yX8_reads ∈ fm_Ts := fm_mem 1286 (by decide +kernel) rfl
theorem wl_X8_269 : Jvm.Cond.methodLink RX8 269 yX8_isValue ∈ fm_Ts := fm_mem 1294 (by decide +kernel) rfl
theorem wl_X8_272 : Jvm.Cond.methodLink RX8 272 yX8_sums ∈ fm_Ts := fm_mem 1310 (by decide +kernel) rfl
theorem wl_X8_280 : Jvm.Cond.methodLink RX8 280 yX8_factor ∈ fm_Ts := fm_mem 1268 (by decide +kernel) rfl
theorem wl_X8_283 : Jvm.Cond.methodLink RX8 283 yX8_stays ∈ fm_Ts := fm_mem 1300 (by decide +kernel) rfl
theorem wl_X8_286 : Jvm.Cond.methodLink RX8 286 yX8_value ∈ fm_Ts := fm_mem 1264 (by decide +kernel) rfl
theorem wl_X8_289 : Jvm.Cond.methodLink RX8 289 yX8_isSign ∈ fm_Ts := fm_mem 1326 (by decide +kernel) rfl
theorem wl_X8_292 : Jvm.Cond.methodLink RX8 292 yX8_ends ∈ fm_Ts := fm_mem 1329 (by decide +kernel) rfl
theorem wl_X8_295 : Jvm.Cond.methodLink RX8 295 yX8_joins ∈ fm_Ts := fm_mem 1337 (by decide +kernel) rfl
theorem wl_X8_301 : Jvm.Cond.methodLink RX8 301 yX8_pieceOfC ∈ fm_Ts := fm_mem 1322 (by decide +kernel) rfl
theorem wl_X8_304 : Jvm.Cond.methodLink RX8 304 yX8_goesBehind ∈ fm_Ts := fm_mem 1333 (by decide +kernel) rfl
theorem wl_X8_310 : Jvm.Cond.methodLink RX8 310 yX8_condition ∈ fm_Ts := fm_mem 1318 (by decide +kernel) rfl
theorem wl_X8_315 : Jvm.Cond.methodLink RX8 315 yX8_clause ∈ fm_Ts := fm_mem 1252 (by decide +kernel) rfl
def cd_X8_lies : List (Nat × Instr × Nat) := [(0, .lload_n 0, 1), (1, .lload_n 2, 1), (2, .lcmp, 1), (3, .ifCond .lt 14, 3), (6, .lload_n 0, 1), (7, .lload 4, 2), (9, .lcmp, 1), (10, .ifCond .gt 7, 3), (13, .iconst 1, 1), (14, .goto 4, 3), (17, .iconst 0, 1), (18, .ireturn, 1)]
theorem dc_X8_lies : ∀ q ∈ cd_X8_lies, decode prog_10_method_2_code q.1 = .ok (q.2.1, q.2.2) := by decide +kernel
theorem d_X8_lies_0 : decode prog_10_method_2_code 0 = .ok (.lload_n 0, 1) := dc_X8_lies (0, .lload_n 0, 1) (List.mem_of_getElem? (i := 0) rfl)
theorem d_X8_lies_1 : decode prog_10_method_2_code 1 = .ok (.lload_n 2, 1) := dc_X8_lies (1, .lload_n 2, 1) (List.mem_of_getElem? (i := 1) rfl)
theorem d_X8_lies_2 : decode prog_10_method_2_code 2 = .ok (.lcmp, 1) := dc_X8_lies (2, .lcmp, 1) (List.mem_of_getElem? (i := 2) rfl)
theorem d_X8_lies_3 : decode prog_10_method_2_code 3 = .ok (.ifCond .lt 14, 3) := dc_X8_lies (3, .ifCond .lt 14, 3) (List.mem_of_getElem? (i := 3) rfl)
theorem d_X8_lies_6 : decode prog_10_method_2_code 6 = .ok (.lload_n 0, 1) := dc_X8_lies (6, .lload_n 0, 1) (List.mem_of_getElem? (i := 4) rfl)
theorem d_X8_lies_7 : decode prog_10_method_2_code 7 = .ok (.lload 4, 2) := dc_X8_lies (7, .lload 4, 2) (List.mem_of_getElem? (i := 5) rfl)
theorem d_X8_lies_9 : decode prog_10_method_2_code 9 = .ok (.lcmp, 1) := dc_X8_lies (9, .lcmp, 1) (List.mem_of_getElem? (i := 6) rfl)
theorem d_X8_lies_10 : decode prog_10_method_2_code 10 = .ok (.ifCond .gt 7, 3) := dc_X8_lies (10, .ifCond .gt 7, 3) (List.mem_of_getElem? (i := 7) rfl)
theorem d_X8_lies_13 : decode prog_10_method_2_code 13 = .ok (.iconst 1, 1) := dc_X8_lies (13, .iconst 1, 1) (List.mem_of_getElem? (i := 8) rfl)
theorem d_X8_lies_14 : decode prog_10_method_2_code 14 = .ok (.goto 4, 3) := dc_X8_lies (14, .goto 4, 3) (List.mem_of_getElem? (i := 9) rfl)
theorem d_X8_lies_17 : decode prog_10_method_2_code 17 = .ok (.iconst 0, 1) := dc_X8_lies (17, .iconst 0, 1) (List.mem_of_getElem? (i := 10) rfl)
theorem d_X8_lies_18 : decode prog_10_method_2_code 18 = .ok (.ireturn, 1) := dc_X8_lies (18, .ireturn, 1) (List.mem_of_getElem? (i := 11) rfl)
def cd_X8_sizeOf : List (Nat × Instr × Nat) := [(0, .iconst 0, 1), (1, .istore_n 1, 1), (2, .iload_n 0, 1), (3, .istore_n 2, 1), (4, .iload_n 2, 1), (5, .ifCond .eq 15, 3), (8, .iinc 1 1, 3), (11, .iload_n 2, 1), (12, .iload_n 2, 1), (13, .iconst 1, 1), (14, .isub, 1), (15, .iand, 1), (16, .istore_n 2, 1), (17, .goto (-13), 3), (20, .iload_n 1, 1), (21, .ireturn, 1)]
theorem dc_X8_sizeOf : ∀ q ∈ cd_X8_sizeOf, decode prog_10_method_4_code q.1 = .ok (q.2.1, q.2.2) := by decide +kernel
theorem d_X8_sizeOf_0 : decode prog_10_method_4_code 0 = .ok (.iconst 0, 1) := dc_X8_sizeOf (0, .iconst 0, 1) (List.mem_of_getElem? (i := 0) rfl)
theorem d_X8_sizeOf_1 : decode prog_10_method_4_code 1 = .ok (.istore_n 1, 1) := dc_X8_sizeOf (1, .istore_n 1, 1) (List.mem_of_getElem? (i := 1) rfl)
theorem d_X8_sizeOf_2 : decode prog_10_method_4_code 2 = .ok (.iload_n 0, 1) := dc_X8_sizeOf (2, .iload_n 0, 1) (List.mem_of_getElem? (i := 2) rfl)
theorem d_X8_sizeOf_3 : decode prog_10_method_4_code 3 = .ok (.istore_n 2, 1) := dc_X8_sizeOf (3, .istore_n 2, 1) (List.mem_of_getElem? (i := 3) rfl)
theorem d_X8_sizeOf_4 : decode prog_10_method_4_code 4 = .ok (.iload_n 2, 1) := dc_X8_sizeOf (4, .iload_n 2, 1) (List.mem_of_getElem? (i := 4) rfl)
theorem d_X8_sizeOf_5 : decode prog_10_method_4_code 5 = .ok (.ifCond .eq 15, 3) := dc_X8_sizeOf (5, .ifCond .eq 15, 3) (List.mem_of_getElem? (i := 5) rfl)
theorem d_X8_sizeOf_8 : decode prog_10_method_4_code 8 = .ok (.iinc 1 1, 3) := dc_X8_sizeOf (8, .iinc 1 1, 3) (List.mem_of_getElem? (i := 6) rfl)
theorem d_X8_sizeOf_11 : decode prog_10_method_4_code 11 = .ok (.iload_n 2, 1) := dc_X8_sizeOf (11, .iload_n 2, 1) (List.mem_of_getElem? (i := 7) rfl)
theorem d_X8_sizeOf_12 : decode prog_10_method_4_code 12 = .ok (.iload_n 2, 1) := dc_X8_sizeOf (12, .iload_n 2, 1) (List.mem_of_getElem? (i := 8) rfl)
theorem d_X8_sizeOf_13 : decode prog_10_method_4_code 13 = .ok (.iconst 1, 1) := dc_X8_sizeOf (13, .iconst 1, 1) (List.mem_of_getElem? (i := 9) rfl)
theorem d_X8_sizeOf_14 : decode prog_10_method_4_code 14 = .ok (.isub, 1) := dc_X8_sizeOf (14, .isub, 1) (List.mem_of_getElem? (i := 10) rfl)
theorem d_X8_sizeOf_15 : decode prog_10_method_4_code 15 = .ok (.iand, 1) := dc_X8_sizeOf (15, .iand, 1) (List.mem_of_getElem? (i := 11) rfl)
theorem d_X8_sizeOf_16 : decode prog_10_method_4_code 16 = .ok (.istore_n 2, 1) := dc_X8_sizeOf (16, .istore_n 2, 1) (List.mem_of_getElem? (i := 12) rfl)
theorem d_X8_sizeOf_17 : decode prog_10_method_4_code 17 = .ok (.goto (-13), 3) := dc_X8_sizeOf (17, .goto (-13), 3) (List.mem_of_getElem? (i := 13) rfl)
theorem d_X8_sizeOf_20 : decode prog_10_method_4_code 20 = .ok (.iload_n 1, 1) := dc_X8_sizeOf (20, .iload_n 1, 1) (List.mem_of_getElem? (i := 14) rfl)
theorem d_X8_sizeOf_21 : decode prog_10_method_4_code 21 = .ok (.ireturn, 1) := dc_X8_sizeOf (21, .ireturn, 1) (List.mem_of_getElem? (i := 15) rfl)
def cd_X8_divisor : List (Nat × Instr × Nat) := [(0, .iload_n 0, 1), (1, .istore_n 2, 1), (2, .iload_n 1, 1), (3, .istore_n 3, 1), (4, .iload_n 3, 1), (5, .ifCond .eq 16, 3), (8, .iload_n 2, 1), (9, .iload_n 3, 1), (10, .irem, 1), (11, .istore 4, 2), (13, .iload_n 3, 1), (14, .istore_n 2, 1), (15, .iload 4, 2), (17, .istore_n 3, 1), (18, .goto (-14), 3), (21, .iload_n 2, 1), (22, .ireturn, 1)]
theorem dc_X8_divisor : ∀ q ∈ cd_X8_divisor, decode prog_10_method_89_code q.1 = .ok (q.2.1, q.2.2) := by decide +kernel
theorem d_X8_divisor_0 : decode prog_10_method_89_code 0 = .ok (.iload_n 0, 1) := dc_X8_divisor (0, .iload_n 0, 1) (List.mem_of_getElem? (i := 0) rfl)
theorem d_X8_divisor_1 : decode prog_10_method_89_code 1 = .ok (.istore_n 2, 1) := dc_X8_divisor (1, .istore_n 2, 1) (List.mem_of_getElem? (i := 1) rfl)
theorem d_X8_divisor_2 : decode prog_10_method_89_code 2 = .ok (.iload_n 1, 1) := dc_X8_divisor (2, .iload_n 1, 1) (List.mem_of_getElem? (i := 2) rfl)
theorem d_X8_divisor_3 : decode prog_10_method_89_code 3 = .ok (.istore_n 3, 1) := dc_X8_divisor (3, .istore_n 3, 1) (List.mem_of_getElem? (i := 3) rfl)
theorem d_X8_divisor_4 : decode prog_10_method_89_code 4 = .ok (.iload_n 3, 1) := dc_X8_divisor (4, .iload_n 3, 1) (List.mem_of_getElem? (i := 4) rfl)
theorem d_X8_divisor_5 : decode prog_10_method_89_code 5 = .ok (.ifCond .eq 16, 3) := dc_X8_divisor (5, .ifCond .eq 16, 3) (List.mem_of_getElem? (i := 5) rfl)
theorem d_X8_divisor_8 : decode prog_10_method_89_code 8 = .ok (.iload_n 2, 1) := dc_X8_divisor (8, .iload_n 2, 1) (List.mem_of_getElem? (i := 6) rfl)
theorem d_X8_divisor_9 : decode prog_10_method_89_code 9 = .ok (.iload_n 3, 1) := dc_X8_divisor (9, .iload_n 3, 1) (List.mem_of_getElem? (i := 7) rfl)
theorem d_X8_divisor_10 : decode prog_10_method_89_code 10 = .ok (.irem, 1) := dc_X8_divisor (10, .irem, 1) (List.mem_of_getElem? (i := 8) rfl)
theorem d_X8_divisor_11 : decode prog_10_method_89_code 11 = .ok (.istore 4, 2) := dc_X8_divisor (11, .istore 4, 2) (List.mem_of_getElem? (i := 9) rfl)
theorem d_X8_divisor_13 : decode prog_10_method_89_code 13 = .ok (.iload_n 3, 1) := dc_X8_divisor (13, .iload_n 3, 1) (List.mem_of_getElem? (i := 10) rfl)
theorem d_X8_divisor_14 : decode prog_10_method_89_code 14 = .ok (.istore_n 2, 1) := dc_X8_divisor (14, .istore_n 2, 1) (List.mem_of_getElem? (i := 11) rfl)
theorem d_X8_divisor_15 : decode prog_10_method_89_code 15 = .ok (.iload 4, 2) := dc_X8_divisor (15, .iload 4, 2) (List.mem_of_getElem? (i := 12) rfl)
theorem d_X8_divisor_17 : decode prog_10_method_89_code 17 = .ok (.istore_n 3, 1) := dc_X8_divisor (17, .istore_n 3, 1) (List.mem_of_getElem? (i := 13) rfl)
theorem d_X8_divisor_18 : decode prog_10_method_89_code 18 = .ok (.goto (-14), 3) := dc_X8_divisor (18, .goto (-14), 3) (List.mem_of_getElem? (i := 14) rfl)
theorem d_X8_divisor_21 : decode prog_10_method_89_code 21 = .ok (.iload_n 2, 1) := dc_X8_divisor (21, .iload_n 2, 1) (List.mem_of_getElem? (i := 15) rfl)
theorem d_X8_divisor_22 : decode prog_10_method_89_code 22 = .ok (.ireturn, 1) := dc_X8_divisor (22, .ireturn, 1) (List.mem_of_getElem? (i := 16) rfl)
def cd_X8_goesToNext : List (Nat × Instr × Nat) := [(0, .iload_n 1, 1), (1, .iconst 2, 1), (2, .isub, 1), (3, .istore_n 2, 1), (4, .iload_n 2, 1), (5, .ifCond .lt 26, 3), (8, .aload_n 0, 1), (9, .getfield 154, 3), (12, .iload_n 2, 1), (13, .iaload, 1), (14, .aload_n 0, 1), (15, .getfield 154, 3), (18, .iload_n 2, 1), (19, .iconst 1, 1), (20, .iadd, 1), (21, .iaload, 1), (22, .if_icmp .le 9, 3), (25, .iinc 2 (-1), 3), (28, .goto (-24), 3), (31, .iload_n 2, 1), (32, .ifCond .ge 5, 3), (35, .iconst 0, 1), (36, .ireturn, 1), (37, .iload_n 1, 1), (38, .iconst 1, 1), (39, .isub, 1), (40, .istore_n 3, 1), (41, .aload_n 0, 1), (42, .getfield 154, 3), (45, .iload_n 3, 1), (46, .iaload, 1), (47, .aload_n 0, 1), (48, .getfield 154, 3), (51, .iload_n 2, 1), (52, .iaload, 1), (53, .if_icmp .ge 9, 3), (56, .iinc 3 (-1), 3), (59, .goto (-18), 3), (62, .aload_n 0, 1), (63, .getfield 154, 3), (66, .iload_n 2, 1), (67, .iaload, 1), (68, .istore 4, 2), (70, .aload_n 0, 1), (71, .getfield 154, 3), (74, .iload_n 2, 1), (75, .aload_n 0, 1), (76, .getfield 154, 3), (79, .iload_n 3, 1), (80, .iaload, 1), (81, .iastore, 1), (82, .aload_n 0, 1), (83, .getfield 154, 3), (86, .iload_n 3, 1), (87, .iload 4, 2), (89, .iastore, 1), (90, .iload_n 2, 1), (91, .iconst 1, 1), (92, .iadd, 1), (93, .istore 5, 2), (95, .iload_n 1, 1), (96, .iconst 1, 1), (97, .isub, 1), (98, .istore 6, 2), (100, .iload 5, 2), (102, .iload 6, 2), (104, .if_icmp .ge 44, 3), (107, .aload_n 0, 1), (108, .getfield 154, 3), (111, .iload 5, 2), (113, .iaload, 1), (114, .istore 4, 2), (116, .aload_n 0, 1), (117, .getfield 154, 3), (120, .iload 5, 2), (122, .aload_n 0, 1), (123, .getfield 154, 3), (126, .iload 6, 2), (128, .iaload, 1), (129, .iastore, 1), (130, .aload_n 0, 1), (131, .getfield 154, 3), (134, .iload 6, 2), (136, .iload 4, 2), (138, .iastore, 1), (139, .iinc 5 1, 3), (142, .iinc 6 (-1), 3), (145, .goto (-45), 3), (148, .iconst 1, 1), (149, .ireturn, 1)]
theorem dc_X8_goesToNext : ∀ q ∈ cd_X8_goesToNext, decode prog_10_method_77_code q.1 = .ok (q.2.1, q.2.2) := by decide +kernel
theorem d_X8_goesToNext_0 : decode prog_10_method_77_code 0 = .ok (.iload_n 1, 1) := dc_X8_goesToNext (0, .iload_n 1, 1) (List.mem_of_getElem? (i := 0) rfl)
theorem d_X8_goesToNext_1 : decode prog_10_method_77_code 1 = .ok (.iconst 2, 1) := dc_X8_goesToNext (1, .iconst 2, 1) (List.mem_of_getElem? (i := 1) rfl)
theorem d_X8_goesToNext_2 : decode prog_10_method_77_code 2 = .ok (.isub, 1) := dc_X8_goesToNext (2, .isub, 1) (List.mem_of_getElem? (i := 2) rfl)
theorem d_X8_goesToNext_3 : decode prog_10_method_77_code 3 = .ok (.istore_n 2, 1) := dc_X8_goesToNext (3, .istore_n 2, 1) (List.mem_of_getElem? (i := 3) rfl)
theorem d_X8_goesToNext_4 : decode prog_10_method_77_code 4 = .ok (.iload_n 2, 1) := dc_X8_goesToNext (4, .iload_n 2, 1) (List.mem_of_getElem? (i := 4) rfl)
theorem d_X8_goesToNext_5 : decode prog_10_method_77_code 5 = .ok (.ifCond .lt 26, 3) := dc_X8_goesToNext (5, .ifCond .lt 26, 3) (List.mem_of_getElem? (i := 5) rfl)
theorem d_X8_goesToNext_8 : decode prog_10_method_77_code 8 = .ok (.aload_n 0, 1) := dc_X8_goesToNext (8, .aload_n 0, 1) (List.mem_of_getElem? (i := 6) rfl)
theorem d_X8_goesToNext_9 : decode prog_10_method_77_code 9 = .ok (.getfield 154, 3) := dc_X8_goesToNext (9, .getfield 154, 3) (List.mem_of_getElem? (i := 7) rfl)
theorem d_X8_goesToNext_12 : decode prog_10_method_77_code 12 = .ok (.iload_n 2, 1) := dc_X8_goesToNext (12, .iload_n 2, 1) (List.mem_of_getElem? (i := 8) rfl)
theorem d_X8_goesToNext_13 : decode prog_10_method_77_code 13 = .ok (.iaload, 1) := dc_X8_goesToNext (13, .iaload, 1) (List.mem_of_getElem? (i := 9) rfl)
theorem d_X8_goesToNext_14 : decode prog_10_method_77_code 14 = .ok (.aload_n 0, 1) := dc_X8_goesToNext (14, .aload_n 0, 1) (List.mem_of_getElem? (i := 10) rfl)
theorem d_X8_goesToNext_15 : decode prog_10_method_77_code 15 = .ok (.getfield 154, 3) := dc_X8_goesToNext (15, .getfield 154, 3) (List.mem_of_getElem? (i := 11) rfl)
theorem d_X8_goesToNext_18 : decode prog_10_method_77_code 18 = .ok (.iload_n 2, 1) := dc_X8_goesToNext (18, .iload_n 2, 1) (List.mem_of_getElem? (i := 12) rfl)
theorem d_X8_goesToNext_19 : decode prog_10_method_77_code 19 = .ok (.iconst 1, 1) := dc_X8_goesToNext (19, .iconst 1, 1) (List.mem_of_getElem? (i := 13) rfl)
theorem d_X8_goesToNext_20 : decode prog_10_method_77_code 20 = .ok (.iadd, 1) := dc_X8_goesToNext (20, .iadd, 1) (List.mem_of_getElem? (i := 14) rfl)
theorem d_X8_goesToNext_21 : decode prog_10_method_77_code 21 = .ok (.iaload, 1) := dc_X8_goesToNext (21, .iaload, 1) (List.mem_of_getElem? (i := 15) rfl)
theorem d_X8_goesToNext_22 : decode prog_10_method_77_code 22 = .ok (.if_icmp .le 9, 3) := dc_X8_goesToNext (22, .if_icmp .le 9, 3) (List.mem_of_getElem? (i := 16) rfl)
theorem d_X8_goesToNext_25 : decode prog_10_method_77_code 25 = .ok (.iinc 2 (-1), 3) := dc_X8_goesToNext (25, .iinc 2 (-1), 3) (List.mem_of_getElem? (i := 17) rfl)
theorem d_X8_goesToNext_28 : decode prog_10_method_77_code 28 = .ok (.goto (-24), 3) := dc_X8_goesToNext (28, .goto (-24), 3) (List.mem_of_getElem? (i := 18) rfl)
theorem d_X8_goesToNext_31 : decode prog_10_method_77_code 31 = .ok (.iload_n 2, 1) := dc_X8_goesToNext (31, .iload_n 2, 1) (List.mem_of_getElem? (i := 19) rfl)
theorem d_X8_goesToNext_32 : decode prog_10_method_77_code 32 = .ok (.ifCond .ge 5, 3) := dc_X8_goesToNext (32, .ifCond .ge 5, 3) (List.mem_of_getElem? (i := 20) rfl)
theorem d_X8_goesToNext_35 : decode prog_10_method_77_code 35 = .ok (.iconst 0, 1) := dc_X8_goesToNext (35, .iconst 0, 1) (List.mem_of_getElem? (i := 21) rfl)
theorem d_X8_goesToNext_36 : decode prog_10_method_77_code 36 = .ok (.ireturn, 1) := dc_X8_goesToNext (36, .ireturn, 1) (List.mem_of_getElem? (i := 22) rfl)
theorem d_X8_goesToNext_37 : decode prog_10_method_77_code 37 = .ok (.iload_n 1, 1) := dc_X8_goesToNext (37, .iload_n 1, 1) (List.mem_of_getElem? (i := 23) rfl)
theorem d_X8_goesToNext_38 : decode prog_10_method_77_code 38 = .ok (.iconst 1, 1) := dc_X8_goesToNext (38, .iconst 1, 1) (List.mem_of_getElem? (i := 24) rfl)
theorem d_X8_goesToNext_39 : decode prog_10_method_77_code 39 = .ok (.isub, 1) := dc_X8_goesToNext (39, .isub, 1) (List.mem_of_getElem? (i := 25) rfl)
theorem d_X8_goesToNext_40 : decode prog_10_method_77_code 40 = .ok (.istore_n 3, 1) := dc_X8_goesToNext (40, .istore_n 3, 1) (List.mem_of_getElem? (i := 26) rfl)
theorem d_X8_goesToNext_41 : decode prog_10_method_77_code 41 = .ok (.aload_n 0, 1) := dc_X8_goesToNext (41, .aload_n 0, 1) (List.mem_of_getElem? (i := 27) rfl)
theorem d_X8_goesToNext_42 : decode prog_10_method_77_code 42 = .ok (.getfield 154, 3) := dc_X8_goesToNext (42, .getfield 154, 3) (List.mem_of_getElem? (i := 28) rfl)
theorem d_X8_goesToNext_45 : decode prog_10_method_77_code 45 = .ok (.iload_n 3, 1) := dc_X8_goesToNext (45, .iload_n 3, 1) (List.mem_of_getElem? (i := 29) rfl)
theorem d_X8_goesToNext_46 : decode prog_10_method_77_code 46 = .ok (.iaload, 1) := dc_X8_goesToNext (46, .iaload, 1) (List.mem_of_getElem? (i := 30) rfl)
theorem d_X8_goesToNext_47 : decode prog_10_method_77_code 47 = .ok (.aload_n 0, 1) := dc_X8_goesToNext (47, .aload_n 0, 1) (List.mem_of_getElem? (i := 31) rfl)
theorem d_X8_goesToNext_48 : decode prog_10_method_77_code 48 = .ok (.getfield 154, 3) := dc_X8_goesToNext (48, .getfield 154, 3) (List.mem_of_getElem? (i := 32) rfl)
theorem d_X8_goesToNext_51 : decode prog_10_method_77_code 51 = .ok (.iload_n 2, 1) := dc_X8_goesToNext (51, .iload_n 2, 1) (List.mem_of_getElem? (i := 33) rfl)
theorem d_X8_goesToNext_52 : decode prog_10_method_77_code 52 = .ok (.iaload, 1) := dc_X8_goesToNext (52, .iaload, 1) (List.mem_of_getElem? (i := 34) rfl)
theorem d_X8_goesToNext_53 : decode prog_10_method_77_code 53 = .ok (.if_icmp .ge 9, 3) := dc_X8_goesToNext (53, .if_icmp .ge 9, 3) (List.mem_of_getElem? (i := 35) rfl)
theorem d_X8_goesToNext_56 : decode prog_10_method_77_code 56 = .ok (.iinc 3 (-1), 3) := dc_X8_goesToNext (56, .iinc 3 (-1), 3) (List.mem_of_getElem? (i := 36) rfl)
theorem d_X8_goesToNext_59 : decode prog_10_method_77_code 59 = .ok (.goto (-18), 3) := dc_X8_goesToNext (59, .goto (-18), 3) (List.mem_of_getElem? (i := 37) rfl)
theorem d_X8_goesToNext_62 : decode prog_10_method_77_code 62 = .ok (.aload_n 0, 1) := dc_X8_goesToNext (62, .aload_n 0, 1) (List.mem_of_getElem? (i := 38) rfl)
theorem d_X8_goesToNext_63 : decode prog_10_method_77_code 63 = .ok (.getfield 154, 3) := dc_X8_goesToNext (63, .getfield 154, 3) (List.mem_of_getElem? (i := 39) rfl)
theorem d_X8_goesToNext_66 : decode prog_10_method_77_code 66 = .ok (.iload_n 2, 1) := dc_X8_goesToNext (66, .iload_n 2, 1) (List.mem_of_getElem? (i := 40) rfl)
theorem d_X8_goesToNext_67 : decode prog_10_method_77_code 67 = .ok (.iaload, 1) := dc_X8_goesToNext (67, .iaload, 1) (List.mem_of_getElem? (i := 41) rfl)
theorem d_X8_goesToNext_68 : decode prog_10_method_77_code 68 = .ok (.istore 4, 2) := dc_X8_goesToNext (68, .istore 4, 2) (List.mem_of_getElem? (i := 42) rfl)
theorem d_X8_goesToNext_70 : decode prog_10_method_77_code 70 = .ok (.aload_n 0, 1) := dc_X8_goesToNext (70, .aload_n 0, 1) (List.mem_of_getElem? (i := 43) rfl)
theorem d_X8_goesToNext_71 : decode prog_10_method_77_code 71 = .ok (.getfield 154, 3) := dc_X8_goesToNext (71, .getfield 154, 3) (List.mem_of_getElem? (i := 44) rfl)
theorem d_X8_goesToNext_74 : decode prog_10_method_77_code 74 = .ok (.iload_n 2, 1) := dc_X8_goesToNext (74, .iload_n 2, 1) (List.mem_of_getElem? (i := 45) rfl)
theorem d_X8_goesToNext_75 : decode prog_10_method_77_code 75 = .ok (.aload_n 0, 1) := dc_X8_goesToNext (75, .aload_n 0, 1) (List.mem_of_getElem? (i := 46) rfl)
theorem d_X8_goesToNext_76 : decode prog_10_method_77_code 76 = .ok (.getfield 154, 3) := dc_X8_goesToNext (76, .getfield 154, 3) (List.mem_of_getElem? (i := 47) rfl)
theorem d_X8_goesToNext_79 : decode prog_10_method_77_code 79 = .ok (.iload_n 3, 1) := dc_X8_goesToNext (79, .iload_n 3, 1) (List.mem_of_getElem? (i := 48) rfl)
theorem d_X8_goesToNext_80 : decode prog_10_method_77_code 80 = .ok (.iaload, 1) := dc_X8_goesToNext (80, .iaload, 1) (List.mem_of_getElem? (i := 49) rfl)
theorem d_X8_goesToNext_81 : decode prog_10_method_77_code 81 = .ok (.iastore, 1) := dc_X8_goesToNext (81, .iastore, 1) (List.mem_of_getElem? (i := 50) rfl)
theorem d_X8_goesToNext_82 : decode prog_10_method_77_code 82 = .ok (.aload_n 0, 1) := dc_X8_goesToNext (82, .aload_n 0, 1) (List.mem_of_getElem? (i := 51) rfl)
theorem d_X8_goesToNext_83 : decode prog_10_method_77_code 83 = .ok (.getfield 154, 3) := dc_X8_goesToNext (83, .getfield 154, 3) (List.mem_of_getElem? (i := 52) rfl)
theorem d_X8_goesToNext_86 : decode prog_10_method_77_code 86 = .ok (.iload_n 3, 1) := dc_X8_goesToNext (86, .iload_n 3, 1) (List.mem_of_getElem? (i := 53) rfl)
theorem d_X8_goesToNext_87 : decode prog_10_method_77_code 87 = .ok (.iload 4, 2) := dc_X8_goesToNext (87, .iload 4, 2) (List.mem_of_getElem? (i := 54) rfl)
theorem d_X8_goesToNext_89 : decode prog_10_method_77_code 89 = .ok (.iastore, 1) := dc_X8_goesToNext (89, .iastore, 1) (List.mem_of_getElem? (i := 55) rfl)
theorem d_X8_goesToNext_90 : decode prog_10_method_77_code 90 = .ok (.iload_n 2, 1) := dc_X8_goesToNext (90, .iload_n 2, 1) (List.mem_of_getElem? (i := 56) rfl)
theorem d_X8_goesToNext_91 : decode prog_10_method_77_code 91 = .ok (.iconst 1, 1) := dc_X8_goesToNext (91, .iconst 1, 1) (List.mem_of_getElem? (i := 57) rfl)
theorem d_X8_goesToNext_92 : decode prog_10_method_77_code 92 = .ok (.iadd, 1) := dc_X8_goesToNext (92, .iadd, 1) (List.mem_of_getElem? (i := 58) rfl)
theorem d_X8_goesToNext_93 : decode prog_10_method_77_code 93 = .ok (.istore 5, 2) := dc_X8_goesToNext (93, .istore 5, 2) (List.mem_of_getElem? (i := 59) rfl)
theorem d_X8_goesToNext_95 : decode prog_10_method_77_code 95 = .ok (.iload_n 1, 1) := dc_X8_goesToNext (95, .iload_n 1, 1) (List.mem_of_getElem? (i := 60) rfl)
theorem d_X8_goesToNext_96 : decode prog_10_method_77_code 96 = .ok (.iconst 1, 1) := dc_X8_goesToNext (96, .iconst 1, 1) (List.mem_of_getElem? (i := 61) rfl)
theorem d_X8_goesToNext_97 : decode prog_10_method_77_code 97 = .ok (.isub, 1) := dc_X8_goesToNext (97, .isub, 1) (List.mem_of_getElem? (i := 62) rfl)
theorem d_X8_goesToNext_98 : decode prog_10_method_77_code 98 = .ok (.istore 6, 2) := dc_X8_goesToNext (98, .istore 6, 2) (List.mem_of_getElem? (i := 63) rfl)
theorem d_X8_goesToNext_100 : decode prog_10_method_77_code 100 = .ok (.iload 5, 2) := dc_X8_goesToNext (100, .iload 5, 2) (List.mem_of_getElem? (i := 64) rfl)
theorem d_X8_goesToNext_102 : decode prog_10_method_77_code 102 = .ok (.iload 6, 2) := dc_X8_goesToNext (102, .iload 6, 2) (List.mem_of_getElem? (i := 65) rfl)
theorem d_X8_goesToNext_104 : decode prog_10_method_77_code 104 = .ok (.if_icmp .ge 44, 3) := dc_X8_goesToNext (104, .if_icmp .ge 44, 3) (List.mem_of_getElem? (i := 66) rfl)
theorem d_X8_goesToNext_107 : decode prog_10_method_77_code 107 = .ok (.aload_n 0, 1) := dc_X8_goesToNext (107, .aload_n 0, 1) (List.mem_of_getElem? (i := 67) rfl)
theorem d_X8_goesToNext_108 : decode prog_10_method_77_code 108 = .ok (.getfield 154, 3) := dc_X8_goesToNext (108, .getfield 154, 3) (List.mem_of_getElem? (i := 68) rfl)
theorem d_X8_goesToNext_111 : decode prog_10_method_77_code 111 = .ok (.iload 5, 2) := dc_X8_goesToNext (111, .iload 5, 2) (List.mem_of_getElem? (i := 69) rfl)
theorem d_X8_goesToNext_113 : decode prog_10_method_77_code 113 = .ok (.iaload, 1) := dc_X8_goesToNext (113, .iaload, 1) (List.mem_of_getElem? (i := 70) rfl)
theorem d_X8_goesToNext_114 : decode prog_10_method_77_code 114 = .ok (.istore 4, 2) := dc_X8_goesToNext (114, .istore 4, 2) (List.mem_of_getElem? (i := 71) rfl)
theorem d_X8_goesToNext_116 : decode prog_10_method_77_code 116 = .ok (.aload_n 0, 1) := dc_X8_goesToNext (116, .aload_n 0, 1) (List.mem_of_getElem? (i := 72) rfl)
theorem d_X8_goesToNext_117 : decode prog_10_method_77_code 117 = .ok (.getfield 154, 3) := dc_X8_goesToNext (117, .getfield 154, 3) (List.mem_of_getElem? (i := 73) rfl)
theorem d_X8_goesToNext_120 : decode prog_10_method_77_code 120 = .ok (.iload 5, 2) := dc_X8_goesToNext (120, .iload 5, 2) (List.mem_of_getElem? (i := 74) rfl)
theorem d_X8_goesToNext_122 : decode prog_10_method_77_code 122 = .ok (.aload_n 0, 1) := dc_X8_goesToNext (122, .aload_n 0, 1) (List.mem_of_getElem? (i := 75) rfl)
theorem d_X8_goesToNext_123 : decode prog_10_method_77_code 123 = .ok (.getfield 154, 3) := dc_X8_goesToNext (123, .getfield 154, 3) (List.mem_of_getElem? (i := 76) rfl)
theorem d_X8_goesToNext_126 : decode prog_10_method_77_code 126 = .ok (.iload 6, 2) := dc_X8_goesToNext (126, .iload 6, 2) (List.mem_of_getElem? (i := 77) rfl)
theorem d_X8_goesToNext_128 : decode prog_10_method_77_code 128 = .ok (.iaload, 1) := dc_X8_goesToNext (128, .iaload, 1) (List.mem_of_getElem? (i := 78) rfl)
theorem d_X8_goesToNext_129 : decode prog_10_method_77_code 129 = .ok (.iastore, 1) := dc_X8_goesToNext (129, .iastore, 1) (List.mem_of_getElem? (i := 79) rfl)
theorem d_X8_goesToNext_130 : decode prog_10_method_77_code 130 = .ok (.aload_n 0, 1) := dc_X8_goesToNext (130, .aload_n 0, 1) (List.mem_of_getElem? (i := 80) rfl)
theorem d_X8_goesToNext_131 : decode prog_10_method_77_code 131 = .ok (.getfield 154, 3) := dc_X8_goesToNext (131, .getfield 154, 3) (List.mem_of_getElem? (i := 81) rfl)
theorem d_X8_goesToNext_134 : decode prog_10_method_77_code 134 = .ok (.iload 6, 2) := dc_X8_goesToNext (134, .iload 6, 2) (List.mem_of_getElem? (i := 82) rfl)
theorem d_X8_goesToNext_136 : decode prog_10_method_77_code 136 = .ok (.iload 4, 2) := dc_X8_goesToNext (136, .iload 4, 2) (List.mem_of_getElem? (i := 83) rfl)
theorem d_X8_goesToNext_138 : decode prog_10_method_77_code 138 = .ok (.iastore, 1) := dc_X8_goesToNext (138, .iastore, 1) (List.mem_of_getElem? (i := 84) rfl)
theorem d_X8_goesToNext_139 : decode prog_10_method_77_code 139 = .ok (.iinc 5 1, 3) := dc_X8_goesToNext (139, .iinc 5 1, 3) (List.mem_of_getElem? (i := 85) rfl)
theorem d_X8_goesToNext_142 : decode prog_10_method_77_code 142 = .ok (.iinc 6 (-1), 3) := dc_X8_goesToNext (142, .iinc 6 (-1), 3) (List.mem_of_getElem? (i := 86) rfl)
theorem d_X8_goesToNext_145 : decode prog_10_method_77_code 145 = .ok (.goto (-45), 3) := dc_X8_goesToNext (145, .goto (-45), 3) (List.mem_of_getElem? (i := 87) rfl)
theorem d_X8_goesToNext_148 : decode prog_10_method_77_code 148 = .ok (.iconst 1, 1) := dc_X8_goesToNext (148, .iconst 1, 1) (List.mem_of_getElem? (i := 88) rfl)
theorem d_X8_goesToNext_149 : decode prog_10_method_77_code 149 = .ok (.ireturn, 1) := dc_X8_goesToNext (149, .ireturn, 1) (List.mem_of_getElem? (i := 89) rfl)
def cd_X8_works : List (Nat × Instr × Nat) := [(0, .iconst 0, 1), (1, .istore_n 3, 1), (2, .iload_n 1, 1), (3, .istore 4, 2), (5, .iload 4, 2), (7, .iload_n 2, 1), (8, .if_icmp .ge 119, 3), (11, .aload_n 0, 1), (12, .getfield 70, 3), (15, .iload 4, 2), (17, .iaload, 1), (18, .iconst 2, 1), (19, .if_icmp .le 23, 3), (22, .iinc 3 (-1), 3), (25, .aload_n 0, 1), (26, .aload_n 0, 1), (27, .getfield 70, 3), (30, .iload 4, 2), (32, .iaload, 1), (33, .iload_n 3, 1), (34, .iconst 1, 1), (35, .isub, 1), (36, .invokevirtual 353, 3), (39, .goto 82, 3), (42, .aload_n 0, 1), (43, .getfield 70, 3), (46, .iload 4, 2), (48, .iaload, 1), (49, .iconst 2, 1), (50, .if_icmp .ne 24, 3), (53, .aload_n 0, 1), (54, .getfield 97, 3), (57, .iload_n 3, 1), (58, .iconst 1, 1), (59, .isub, 1), (60, .iconst 1, 1), (61, .aload_n 0, 1), (62, .getfield 97, 3), (65, .iload_n 3, 1), (66, .iconst 1, 1), (67, .isub, 1), (68, .iaload, 1), (69, .isub, 1), (70, .iastore, 1), (71, .goto 50, 3), (74, .aload_n 0, 1), (75, .getfield 100, 3), (78, .iload_n 3, 1), (79, .iconst 0, 1), (80, .bastore, 1), (81, .aload_n 0, 1), (82, .getfield 97, 3), (85, .iload_n 3, 1), (86, .aload_n 0, 1), (87, .getfield 70, 3), (90, .iload 4, 2), (92, .iaload, 1), (93, .ifCond .ne 13, 3), (96, .aload_n 0, 1), (97, .getfield 73, 3), (100, .iload 4, 2), (102, .iaload, 1), (103, .goto 14, 3), (106, .aload_n 0, 1), (107, .aload_n 0, 1), (108, .getfield 73, 3), (111, .iload 4, 2), (113, .iaload, 1), (114, .invokevirtual 356, 3), (117, .iastore, 1), (118, .iinc 3 1, 3), (121, .iinc 4 1, 3), (124, .goto (-119), 3), (127, .return_, 1)]
theorem dc_X8_works : ∀ q ∈ cd_X8_works, decode prog_10_method_50_code q.1 = .ok (q.2.1, q.2.2) := by decide +kernel
theorem d_X8_works_0 : decode prog_10_method_50_code 0 = .ok (.iconst 0, 1) := dc_X8_works (0, .iconst 0, 1) (List.mem_of_getElem? (i := 0) rfl)
theorem d_X8_works_1 : decode prog_10_method_50_code 1 = .ok (.istore_n 3, 1) := dc_X8_works (1, .istore_n 3, 1) (List.mem_of_getElem? (i := 1) rfl)
theorem d_X8_works_2 : decode prog_10_method_50_code 2 = .ok (.iload_n 1, 1) := dc_X8_works (2, .iload_n 1, 1) (List.mem_of_getElem? (i := 2) rfl)
theorem d_X8_works_3 : decode prog_10_method_50_code 3 = .ok (.istore 4, 2) := dc_X8_works (3, .istore 4, 2) (List.mem_of_getElem? (i := 3) rfl)
theorem d_X8_works_5 : decode prog_10_method_50_code 5 = .ok (.iload 4, 2) := dc_X8_works (5, .iload 4, 2) (List.mem_of_getElem? (i := 4) rfl)
theorem d_X8_works_7 : decode prog_10_method_50_code 7 = .ok (.iload_n 2, 1) := dc_X8_works (7, .iload_n 2, 1) (List.mem_of_getElem? (i := 5) rfl)
theorem d_X8_works_8 : decode prog_10_method_50_code 8 = .ok (.if_icmp .ge 119, 3) := dc_X8_works (8, .if_icmp .ge 119, 3) (List.mem_of_getElem? (i := 6) rfl)
theorem d_X8_works_11 : decode prog_10_method_50_code 11 = .ok (.aload_n 0, 1) := dc_X8_works (11, .aload_n 0, 1) (List.mem_of_getElem? (i := 7) rfl)
theorem d_X8_works_12 : decode prog_10_method_50_code 12 = .ok (.getfield 70, 3) := dc_X8_works (12, .getfield 70, 3) (List.mem_of_getElem? (i := 8) rfl)
theorem d_X8_works_15 : decode prog_10_method_50_code 15 = .ok (.iload 4, 2) := dc_X8_works (15, .iload 4, 2) (List.mem_of_getElem? (i := 9) rfl)
theorem d_X8_works_17 : decode prog_10_method_50_code 17 = .ok (.iaload, 1) := dc_X8_works (17, .iaload, 1) (List.mem_of_getElem? (i := 10) rfl)
theorem d_X8_works_18 : decode prog_10_method_50_code 18 = .ok (.iconst 2, 1) := dc_X8_works (18, .iconst 2, 1) (List.mem_of_getElem? (i := 11) rfl)
theorem d_X8_works_19 : decode prog_10_method_50_code 19 = .ok (.if_icmp .le 23, 3) := dc_X8_works (19, .if_icmp .le 23, 3) (List.mem_of_getElem? (i := 12) rfl)
theorem d_X8_works_22 : decode prog_10_method_50_code 22 = .ok (.iinc 3 (-1), 3) := dc_X8_works (22, .iinc 3 (-1), 3) (List.mem_of_getElem? (i := 13) rfl)
theorem d_X8_works_25 : decode prog_10_method_50_code 25 = .ok (.aload_n 0, 1) := dc_X8_works (25, .aload_n 0, 1) (List.mem_of_getElem? (i := 14) rfl)
theorem d_X8_works_26 : decode prog_10_method_50_code 26 = .ok (.aload_n 0, 1) := dc_X8_works (26, .aload_n 0, 1) (List.mem_of_getElem? (i := 15) rfl)
theorem d_X8_works_27 : decode prog_10_method_50_code 27 = .ok (.getfield 70, 3) := dc_X8_works (27, .getfield 70, 3) (List.mem_of_getElem? (i := 16) rfl)
theorem d_X8_works_30 : decode prog_10_method_50_code 30 = .ok (.iload 4, 2) := dc_X8_works (30, .iload 4, 2) (List.mem_of_getElem? (i := 17) rfl)
theorem d_X8_works_32 : decode prog_10_method_50_code 32 = .ok (.iaload, 1) := dc_X8_works (32, .iaload, 1) (List.mem_of_getElem? (i := 18) rfl)
theorem d_X8_works_33 : decode prog_10_method_50_code 33 = .ok (.iload_n 3, 1) := dc_X8_works (33, .iload_n 3, 1) (List.mem_of_getElem? (i := 19) rfl)
theorem d_X8_works_34 : decode prog_10_method_50_code 34 = .ok (.iconst 1, 1) := dc_X8_works (34, .iconst 1, 1) (List.mem_of_getElem? (i := 20) rfl)
theorem d_X8_works_35 : decode prog_10_method_50_code 35 = .ok (.isub, 1) := dc_X8_works (35, .isub, 1) (List.mem_of_getElem? (i := 21) rfl)
theorem d_X8_works_36 : decode prog_10_method_50_code 36 = .ok (.invokevirtual 353, 3) := dc_X8_works (36, .invokevirtual 353, 3) (List.mem_of_getElem? (i := 22) rfl)
theorem d_X8_works_39 : decode prog_10_method_50_code 39 = .ok (.goto 82, 3) := dc_X8_works (39, .goto 82, 3) (List.mem_of_getElem? (i := 23) rfl)
theorem d_X8_works_42 : decode prog_10_method_50_code 42 = .ok (.aload_n 0, 1) := dc_X8_works (42, .aload_n 0, 1) (List.mem_of_getElem? (i := 24) rfl)
theorem d_X8_works_43 : decode prog_10_method_50_code 43 = .ok (.getfield 70, 3) := dc_X8_works (43, .getfield 70, 3) (List.mem_of_getElem? (i := 25) rfl)
theorem d_X8_works_46 : decode prog_10_method_50_code 46 = .ok (.iload 4, 2) := dc_X8_works (46, .iload 4, 2) (List.mem_of_getElem? (i := 26) rfl)
theorem d_X8_works_48 : decode prog_10_method_50_code 48 = .ok (.iaload, 1) := dc_X8_works (48, .iaload, 1) (List.mem_of_getElem? (i := 27) rfl)
theorem d_X8_works_49 : decode prog_10_method_50_code 49 = .ok (.iconst 2, 1) := dc_X8_works (49, .iconst 2, 1) (List.mem_of_getElem? (i := 28) rfl)
theorem d_X8_works_50 : decode prog_10_method_50_code 50 = .ok (.if_icmp .ne 24, 3) := dc_X8_works (50, .if_icmp .ne 24, 3) (List.mem_of_getElem? (i := 29) rfl)
theorem d_X8_works_53 : decode prog_10_method_50_code 53 = .ok (.aload_n 0, 1) := dc_X8_works (53, .aload_n 0, 1) (List.mem_of_getElem? (i := 30) rfl)
theorem d_X8_works_54 : decode prog_10_method_50_code 54 = .ok (.getfield 97, 3) := dc_X8_works (54, .getfield 97, 3) (List.mem_of_getElem? (i := 31) rfl)
theorem d_X8_works_57 : decode prog_10_method_50_code 57 = .ok (.iload_n 3, 1) := dc_X8_works (57, .iload_n 3, 1) (List.mem_of_getElem? (i := 32) rfl)
theorem d_X8_works_58 : decode prog_10_method_50_code 58 = .ok (.iconst 1, 1) := dc_X8_works (58, .iconst 1, 1) (List.mem_of_getElem? (i := 33) rfl)
theorem d_X8_works_59 : decode prog_10_method_50_code 59 = .ok (.isub, 1) := dc_X8_works (59, .isub, 1) (List.mem_of_getElem? (i := 34) rfl)
theorem d_X8_works_60 : decode prog_10_method_50_code 60 = .ok (.iconst 1, 1) := dc_X8_works (60, .iconst 1, 1) (List.mem_of_getElem? (i := 35) rfl)
theorem d_X8_works_61 : decode prog_10_method_50_code 61 = .ok (.aload_n 0, 1) := dc_X8_works (61, .aload_n 0, 1) (List.mem_of_getElem? (i := 36) rfl)
theorem d_X8_works_62 : decode prog_10_method_50_code 62 = .ok (.getfield 97, 3) := dc_X8_works (62, .getfield 97, 3) (List.mem_of_getElem? (i := 37) rfl)
theorem d_X8_works_65 : decode prog_10_method_50_code 65 = .ok (.iload_n 3, 1) := dc_X8_works (65, .iload_n 3, 1) (List.mem_of_getElem? (i := 38) rfl)
theorem d_X8_works_66 : decode prog_10_method_50_code 66 = .ok (.iconst 1, 1) := dc_X8_works (66, .iconst 1, 1) (List.mem_of_getElem? (i := 39) rfl)
theorem d_X8_works_67 : decode prog_10_method_50_code 67 = .ok (.isub, 1) := dc_X8_works (67, .isub, 1) (List.mem_of_getElem? (i := 40) rfl)
theorem d_X8_works_68 : decode prog_10_method_50_code 68 = .ok (.iaload, 1) := dc_X8_works (68, .iaload, 1) (List.mem_of_getElem? (i := 41) rfl)
theorem d_X8_works_69 : decode prog_10_method_50_code 69 = .ok (.isub, 1) := dc_X8_works (69, .isub, 1) (List.mem_of_getElem? (i := 42) rfl)
theorem d_X8_works_70 : decode prog_10_method_50_code 70 = .ok (.iastore, 1) := dc_X8_works (70, .iastore, 1) (List.mem_of_getElem? (i := 43) rfl)
theorem d_X8_works_71 : decode prog_10_method_50_code 71 = .ok (.goto 50, 3) := dc_X8_works (71, .goto 50, 3) (List.mem_of_getElem? (i := 44) rfl)
theorem d_X8_works_74 : decode prog_10_method_50_code 74 = .ok (.aload_n 0, 1) := dc_X8_works (74, .aload_n 0, 1) (List.mem_of_getElem? (i := 45) rfl)
theorem d_X8_works_75 : decode prog_10_method_50_code 75 = .ok (.getfield 100, 3) := dc_X8_works (75, .getfield 100, 3) (List.mem_of_getElem? (i := 46) rfl)
theorem d_X8_works_78 : decode prog_10_method_50_code 78 = .ok (.iload_n 3, 1) := dc_X8_works (78, .iload_n 3, 1) (List.mem_of_getElem? (i := 47) rfl)
theorem d_X8_works_79 : decode prog_10_method_50_code 79 = .ok (.iconst 0, 1) := dc_X8_works (79, .iconst 0, 1) (List.mem_of_getElem? (i := 48) rfl)
theorem d_X8_works_80 : decode prog_10_method_50_code 80 = .ok (.bastore, 1) := dc_X8_works (80, .bastore, 1) (List.mem_of_getElem? (i := 49) rfl)
theorem d_X8_works_81 : decode prog_10_method_50_code 81 = .ok (.aload_n 0, 1) := dc_X8_works (81, .aload_n 0, 1) (List.mem_of_getElem? (i := 50) rfl)
theorem d_X8_works_82 : decode prog_10_method_50_code 82 = .ok (.getfield 97, 3) := dc_X8_works (82, .getfield 97, 3) (List.mem_of_getElem? (i := 51) rfl)
theorem d_X8_works_85 : decode prog_10_method_50_code 85 = .ok (.iload_n 3, 1) := dc_X8_works (85, .iload_n 3, 1) (List.mem_of_getElem? (i := 52) rfl)
theorem d_X8_works_86 : decode prog_10_method_50_code 86 = .ok (.aload_n 0, 1) := dc_X8_works (86, .aload_n 0, 1) (List.mem_of_getElem? (i := 53) rfl)
theorem d_X8_works_87 : decode prog_10_method_50_code 87 = .ok (.getfield 70, 3) := dc_X8_works (87, .getfield 70, 3) (List.mem_of_getElem? (i := 54) rfl)
theorem d_X8_works_90 : decode prog_10_method_50_code 90 = .ok (.iload 4, 2) := dc_X8_works (90, .iload 4, 2) (List.mem_of_getElem? (i := 55) rfl)
theorem d_X8_works_92 : decode prog_10_method_50_code 92 = .ok (.iaload, 1) := dc_X8_works (92, .iaload, 1) (List.mem_of_getElem? (i := 56) rfl)
theorem d_X8_works_93 : decode prog_10_method_50_code 93 = .ok (.ifCond .ne 13, 3) := dc_X8_works (93, .ifCond .ne 13, 3) (List.mem_of_getElem? (i := 57) rfl)
theorem d_X8_works_96 : decode prog_10_method_50_code 96 = .ok (.aload_n 0, 1) := dc_X8_works (96, .aload_n 0, 1) (List.mem_of_getElem? (i := 58) rfl)
theorem d_X8_works_97 : decode prog_10_method_50_code 97 = .ok (.getfield 73, 3) := dc_X8_works (97, .getfield 73, 3) (List.mem_of_getElem? (i := 59) rfl)
theorem d_X8_works_100 : decode prog_10_method_50_code 100 = .ok (.iload 4, 2) := dc_X8_works (100, .iload 4, 2) (List.mem_of_getElem? (i := 60) rfl)
theorem d_X8_works_102 : decode prog_10_method_50_code 102 = .ok (.iaload, 1) := dc_X8_works (102, .iaload, 1) (List.mem_of_getElem? (i := 61) rfl)
theorem d_X8_works_103 : decode prog_10_method_50_code 103 = .ok (.goto 14, 3) := dc_X8_works (103, .goto 14, 3) (List.mem_of_getElem? (i := 62) rfl)
theorem d_X8_works_106 : decode prog_10_method_50_code 106 = .ok (.aload_n 0, 1) := dc_X8_works (106, .aload_n 0, 1) (List.mem_of_getElem? (i := 63) rfl)
theorem d_X8_works_107 : decode prog_10_method_50_code 107 = .ok (.aload_n 0, 1) := dc_X8_works (107, .aload_n 0, 1) (List.mem_of_getElem? (i := 64) rfl)
theorem d_X8_works_108 : decode prog_10_method_50_code 108 = .ok (.getfield 73, 3) := dc_X8_works (108, .getfield 73, 3) (List.mem_of_getElem? (i := 65) rfl)
theorem d_X8_works_111 : decode prog_10_method_50_code 111 = .ok (.iload 4, 2) := dc_X8_works (111, .iload 4, 2) (List.mem_of_getElem? (i := 66) rfl)
theorem d_X8_works_113 : decode prog_10_method_50_code 113 = .ok (.iaload, 1) := dc_X8_works (113, .iaload, 1) (List.mem_of_getElem? (i := 67) rfl)
theorem d_X8_works_114 : decode prog_10_method_50_code 114 = .ok (.invokevirtual 356, 3) := dc_X8_works (114, .invokevirtual 356, 3) (List.mem_of_getElem? (i := 68) rfl)
theorem d_X8_works_117 : decode prog_10_method_50_code 117 = .ok (.iastore, 1) := dc_X8_works (117, .iastore, 1) (List.mem_of_getElem? (i := 69) rfl)
theorem d_X8_works_118 : decode prog_10_method_50_code 118 = .ok (.iinc 3 1, 3) := dc_X8_works (118, .iinc 3 1, 3) (List.mem_of_getElem? (i := 70) rfl)
theorem d_X8_works_121 : decode prog_10_method_50_code 121 = .ok (.iinc 4 1, 3) := dc_X8_works (121, .iinc 4 1, 3) (List.mem_of_getElem? (i := 71) rfl)
theorem d_X8_works_124 : decode prog_10_method_50_code 124 = .ok (.goto (-119), 3) := dc_X8_works (124, .goto (-119), 3) (List.mem_of_getElem? (i := 72) rfl)
theorem d_X8_works_127 : decode prog_10_method_50_code 127 = .ok (.return_, 1) := dc_X8_works (127, .return_, 1) (List.mem_of_getElem? (i := 73) rfl)
def cd_X8_tells : List (Nat × Instr × Nat) := [(0, .aload_n 0, 1), (1, .iload_n 2, 1), (2, .putfield 324, 3), (5, .aload_n 0, 1), (6, .iload_n 3, 1), (7, .putfield 330, 3), (10, .aload_n 0, 1), (11, .iload 4, 2), (13, .putfield 343, 3), (16, .iconst 0, 1), (17, .istore 5, 2), (19, .iload 5, 2), (21, .aload_n 0, 1), (22, .getfield 318, 3), (25, .if_icmp .ge 126, 3), (28, .aload_n 0, 1), (29, .getfield 58, 3), (32, .iload 5, 2), (34, .iaload, 1), (35, .iload_n 1, 1), (36, .if_icmp .eq 6, 3), (39, .goto 106, 3), (42, .aload_n 0, 1), (43, .aload_n 0, 1), (44, .getfield 64, 3), (47, .iload 5, 2), (49, .iaload, 1), (50, .aload_n 0, 1), (51, .getfield 67, 3), (54, .iload 5, 2), (56, .iaload, 1), (57, .invokevirtual 359, 3), (60, .aload_n 0, 1), (61, .getfield 100, 3), (64, .iconst 0, 1), (65, .baload, 1), (66, .ifCond .ne 79, 3), (69, .aload_n 0, 1), (70, .getfield 97, 3), (73, .iconst 0, 1), (74, .iaload, 1), (75, .iconst 1, 1), (76, .if_icmp .eq 6, 3), (79, .goto 66, 3), (82, .aload_n 0, 1), (83, .aload_n 0, 1), (84, .getfield 61, 3), (87, .iload 5, 2), (89, .iaload, 1), (90, .aload_n 0, 1), (91, .getfield 64, 3), (94, .iload 5, 2), (96, .iaload, 1), (97, .invokevirtual 359, 3), (100, .aload_n 0, 1), (101, .getfield 100, 3), (104, .iconst 0, 1), (105, .baload, 1), (106, .ifCond .eq 7, 3), (109, .iconst 0, 1), (110, .goto 9, 3), (113, .aload_n 0, 1), (114, .getfield 97, 3), (117, .iconst 0, 1), (118, .iaload, 1), (119, .istore 6, 2), (121, .iload 6, 2), (123, .ifCond .ge 7, 3), (126, .iconst 0, 1), (127, .goto 17, 3), (130, .iload 6, 2), (132, .bipush 99, 2), (134, .if_icmp .le 8, 3), (137, .bipush 99, 2), (139, .goto 5, 3), (142, .iload 6, 2), (144, .ireturn, 1), (145, .iinc 5 1, 3), (148, .goto (-129), 3), (151, .iconst 0, 1), (152, .ireturn, 1)]
theorem dc_X8_tells : ∀ q ∈ cd_X8_tells, decode prog_10_method_51_code q.1 = .ok (q.2.1, q.2.2) := by decide +kernel
theorem d_X8_tells_0 : decode prog_10_method_51_code 0 = .ok (.aload_n 0, 1) := dc_X8_tells (0, .aload_n 0, 1) (List.mem_of_getElem? (i := 0) rfl)
theorem d_X8_tells_1 : decode prog_10_method_51_code 1 = .ok (.iload_n 2, 1) := dc_X8_tells (1, .iload_n 2, 1) (List.mem_of_getElem? (i := 1) rfl)
theorem d_X8_tells_2 : decode prog_10_method_51_code 2 = .ok (.putfield 324, 3) := dc_X8_tells (2, .putfield 324, 3) (List.mem_of_getElem? (i := 2) rfl)
theorem d_X8_tells_5 : decode prog_10_method_51_code 5 = .ok (.aload_n 0, 1) := dc_X8_tells (5, .aload_n 0, 1) (List.mem_of_getElem? (i := 3) rfl)
theorem d_X8_tells_6 : decode prog_10_method_51_code 6 = .ok (.iload_n 3, 1) := dc_X8_tells (6, .iload_n 3, 1) (List.mem_of_getElem? (i := 4) rfl)
theorem d_X8_tells_7 : decode prog_10_method_51_code 7 = .ok (.putfield 330, 3) := dc_X8_tells (7, .putfield 330, 3) (List.mem_of_getElem? (i := 5) rfl)
theorem d_X8_tells_10 : decode prog_10_method_51_code 10 = .ok (.aload_n 0, 1) := dc_X8_tells (10, .aload_n 0, 1) (List.mem_of_getElem? (i := 6) rfl)
theorem d_X8_tells_11 : decode prog_10_method_51_code 11 = .ok (.iload 4, 2) := dc_X8_tells (11, .iload 4, 2) (List.mem_of_getElem? (i := 7) rfl)
theorem d_X8_tells_13 : decode prog_10_method_51_code 13 = .ok (.putfield 343, 3) := dc_X8_tells (13, .putfield 343, 3) (List.mem_of_getElem? (i := 8) rfl)
theorem d_X8_tells_16 : decode prog_10_method_51_code 16 = .ok (.iconst 0, 1) := dc_X8_tells (16, .iconst 0, 1) (List.mem_of_getElem? (i := 9) rfl)
theorem d_X8_tells_17 : decode prog_10_method_51_code 17 = .ok (.istore 5, 2) := dc_X8_tells (17, .istore 5, 2) (List.mem_of_getElem? (i := 10) rfl)
theorem d_X8_tells_19 : decode prog_10_method_51_code 19 = .ok (.iload 5, 2) := dc_X8_tells (19, .iload 5, 2) (List.mem_of_getElem? (i := 11) rfl)
theorem d_X8_tells_21 : decode prog_10_method_51_code 21 = .ok (.aload_n 0, 1) := dc_X8_tells (21, .aload_n 0, 1) (List.mem_of_getElem? (i := 12) rfl)
theorem d_X8_tells_22 : decode prog_10_method_51_code 22 = .ok (.getfield 318, 3) := dc_X8_tells (22, .getfield 318, 3) (List.mem_of_getElem? (i := 13) rfl)
theorem d_X8_tells_25 : decode prog_10_method_51_code 25 = .ok (.if_icmp .ge 126, 3) := dc_X8_tells (25, .if_icmp .ge 126, 3) (List.mem_of_getElem? (i := 14) rfl)
theorem d_X8_tells_28 : decode prog_10_method_51_code 28 = .ok (.aload_n 0, 1) := dc_X8_tells (28, .aload_n 0, 1) (List.mem_of_getElem? (i := 15) rfl)
theorem d_X8_tells_29 : decode prog_10_method_51_code 29 = .ok (.getfield 58, 3) := dc_X8_tells (29, .getfield 58, 3) (List.mem_of_getElem? (i := 16) rfl)
theorem d_X8_tells_32 : decode prog_10_method_51_code 32 = .ok (.iload 5, 2) := dc_X8_tells (32, .iload 5, 2) (List.mem_of_getElem? (i := 17) rfl)
theorem d_X8_tells_34 : decode prog_10_method_51_code 34 = .ok (.iaload, 1) := dc_X8_tells (34, .iaload, 1) (List.mem_of_getElem? (i := 18) rfl)
theorem d_X8_tells_35 : decode prog_10_method_51_code 35 = .ok (.iload_n 1, 1) := dc_X8_tells (35, .iload_n 1, 1) (List.mem_of_getElem? (i := 19) rfl)
theorem d_X8_tells_36 : decode prog_10_method_51_code 36 = .ok (.if_icmp .eq 6, 3) := dc_X8_tells (36, .if_icmp .eq 6, 3) (List.mem_of_getElem? (i := 20) rfl)
theorem d_X8_tells_39 : decode prog_10_method_51_code 39 = .ok (.goto 106, 3) := dc_X8_tells (39, .goto 106, 3) (List.mem_of_getElem? (i := 21) rfl)
theorem d_X8_tells_42 : decode prog_10_method_51_code 42 = .ok (.aload_n 0, 1) := dc_X8_tells (42, .aload_n 0, 1) (List.mem_of_getElem? (i := 22) rfl)
theorem d_X8_tells_43 : decode prog_10_method_51_code 43 = .ok (.aload_n 0, 1) := dc_X8_tells (43, .aload_n 0, 1) (List.mem_of_getElem? (i := 23) rfl)
theorem d_X8_tells_44 : decode prog_10_method_51_code 44 = .ok (.getfield 64, 3) := dc_X8_tells (44, .getfield 64, 3) (List.mem_of_getElem? (i := 24) rfl)
theorem d_X8_tells_47 : decode prog_10_method_51_code 47 = .ok (.iload 5, 2) := dc_X8_tells (47, .iload 5, 2) (List.mem_of_getElem? (i := 25) rfl)
theorem d_X8_tells_49 : decode prog_10_method_51_code 49 = .ok (.iaload, 1) := dc_X8_tells (49, .iaload, 1) (List.mem_of_getElem? (i := 26) rfl)
theorem d_X8_tells_50 : decode prog_10_method_51_code 50 = .ok (.aload_n 0, 1) := dc_X8_tells (50, .aload_n 0, 1) (List.mem_of_getElem? (i := 27) rfl)
theorem d_X8_tells_51 : decode prog_10_method_51_code 51 = .ok (.getfield 67, 3) := dc_X8_tells (51, .getfield 67, 3) (List.mem_of_getElem? (i := 28) rfl)
theorem d_X8_tells_54 : decode prog_10_method_51_code 54 = .ok (.iload 5, 2) := dc_X8_tells (54, .iload 5, 2) (List.mem_of_getElem? (i := 29) rfl)
theorem d_X8_tells_56 : decode prog_10_method_51_code 56 = .ok (.iaload, 1) := dc_X8_tells (56, .iaload, 1) (List.mem_of_getElem? (i := 30) rfl)
theorem d_X8_tells_57 : decode prog_10_method_51_code 57 = .ok (.invokevirtual 359, 3) := dc_X8_tells (57, .invokevirtual 359, 3) (List.mem_of_getElem? (i := 31) rfl)
theorem d_X8_tells_60 : decode prog_10_method_51_code 60 = .ok (.aload_n 0, 1) := dc_X8_tells (60, .aload_n 0, 1) (List.mem_of_getElem? (i := 32) rfl)
theorem d_X8_tells_61 : decode prog_10_method_51_code 61 = .ok (.getfield 100, 3) := dc_X8_tells (61, .getfield 100, 3) (List.mem_of_getElem? (i := 33) rfl)
theorem d_X8_tells_64 : decode prog_10_method_51_code 64 = .ok (.iconst 0, 1) := dc_X8_tells (64, .iconst 0, 1) (List.mem_of_getElem? (i := 34) rfl)
theorem d_X8_tells_65 : decode prog_10_method_51_code 65 = .ok (.baload, 1) := dc_X8_tells (65, .baload, 1) (List.mem_of_getElem? (i := 35) rfl)
theorem d_X8_tells_66 : decode prog_10_method_51_code 66 = .ok (.ifCond .ne 79, 3) := dc_X8_tells (66, .ifCond .ne 79, 3) (List.mem_of_getElem? (i := 36) rfl)
theorem d_X8_tells_69 : decode prog_10_method_51_code 69 = .ok (.aload_n 0, 1) := dc_X8_tells (69, .aload_n 0, 1) (List.mem_of_getElem? (i := 37) rfl)
theorem d_X8_tells_70 : decode prog_10_method_51_code 70 = .ok (.getfield 97, 3) := dc_X8_tells (70, .getfield 97, 3) (List.mem_of_getElem? (i := 38) rfl)
theorem d_X8_tells_73 : decode prog_10_method_51_code 73 = .ok (.iconst 0, 1) := dc_X8_tells (73, .iconst 0, 1) (List.mem_of_getElem? (i := 39) rfl)
theorem d_X8_tells_74 : decode prog_10_method_51_code 74 = .ok (.iaload, 1) := dc_X8_tells (74, .iaload, 1) (List.mem_of_getElem? (i := 40) rfl)
theorem d_X8_tells_75 : decode prog_10_method_51_code 75 = .ok (.iconst 1, 1) := dc_X8_tells (75, .iconst 1, 1) (List.mem_of_getElem? (i := 41) rfl)
theorem d_X8_tells_76 : decode prog_10_method_51_code 76 = .ok (.if_icmp .eq 6, 3) := dc_X8_tells (76, .if_icmp .eq 6, 3) (List.mem_of_getElem? (i := 42) rfl)
theorem d_X8_tells_79 : decode prog_10_method_51_code 79 = .ok (.goto 66, 3) := dc_X8_tells (79, .goto 66, 3) (List.mem_of_getElem? (i := 43) rfl)
theorem d_X8_tells_82 : decode prog_10_method_51_code 82 = .ok (.aload_n 0, 1) := dc_X8_tells (82, .aload_n 0, 1) (List.mem_of_getElem? (i := 44) rfl)
theorem d_X8_tells_83 : decode prog_10_method_51_code 83 = .ok (.aload_n 0, 1) := dc_X8_tells (83, .aload_n 0, 1) (List.mem_of_getElem? (i := 45) rfl)
theorem d_X8_tells_84 : decode prog_10_method_51_code 84 = .ok (.getfield 61, 3) := dc_X8_tells (84, .getfield 61, 3) (List.mem_of_getElem? (i := 46) rfl)
theorem d_X8_tells_87 : decode prog_10_method_51_code 87 = .ok (.iload 5, 2) := dc_X8_tells (87, .iload 5, 2) (List.mem_of_getElem? (i := 47) rfl)
theorem d_X8_tells_89 : decode prog_10_method_51_code 89 = .ok (.iaload, 1) := dc_X8_tells (89, .iaload, 1) (List.mem_of_getElem? (i := 48) rfl)
theorem d_X8_tells_90 : decode prog_10_method_51_code 90 = .ok (.aload_n 0, 1) := dc_X8_tells (90, .aload_n 0, 1) (List.mem_of_getElem? (i := 49) rfl)
theorem d_X8_tells_91 : decode prog_10_method_51_code 91 = .ok (.getfield 64, 3) := dc_X8_tells (91, .getfield 64, 3) (List.mem_of_getElem? (i := 50) rfl)
theorem d_X8_tells_94 : decode prog_10_method_51_code 94 = .ok (.iload 5, 2) := dc_X8_tells (94, .iload 5, 2) (List.mem_of_getElem? (i := 51) rfl)
theorem d_X8_tells_96 : decode prog_10_method_51_code 96 = .ok (.iaload, 1) := dc_X8_tells (96, .iaload, 1) (List.mem_of_getElem? (i := 52) rfl)
theorem d_X8_tells_97 : decode prog_10_method_51_code 97 = .ok (.invokevirtual 359, 3) := dc_X8_tells (97, .invokevirtual 359, 3) (List.mem_of_getElem? (i := 53) rfl)
theorem d_X8_tells_100 : decode prog_10_method_51_code 100 = .ok (.aload_n 0, 1) := dc_X8_tells (100, .aload_n 0, 1) (List.mem_of_getElem? (i := 54) rfl)
theorem d_X8_tells_101 : decode prog_10_method_51_code 101 = .ok (.getfield 100, 3) := dc_X8_tells (101, .getfield 100, 3) (List.mem_of_getElem? (i := 55) rfl)
theorem d_X8_tells_104 : decode prog_10_method_51_code 104 = .ok (.iconst 0, 1) := dc_X8_tells (104, .iconst 0, 1) (List.mem_of_getElem? (i := 56) rfl)
theorem d_X8_tells_105 : decode prog_10_method_51_code 105 = .ok (.baload, 1) := dc_X8_tells (105, .baload, 1) (List.mem_of_getElem? (i := 57) rfl)
theorem d_X8_tells_106 : decode prog_10_method_51_code 106 = .ok (.ifCond .eq 7, 3) := dc_X8_tells (106, .ifCond .eq 7, 3) (List.mem_of_getElem? (i := 58) rfl)
theorem d_X8_tells_109 : decode prog_10_method_51_code 109 = .ok (.iconst 0, 1) := dc_X8_tells (109, .iconst 0, 1) (List.mem_of_getElem? (i := 59) rfl)
theorem d_X8_tells_110 : decode prog_10_method_51_code 110 = .ok (.goto 9, 3) := dc_X8_tells (110, .goto 9, 3) (List.mem_of_getElem? (i := 60) rfl)
theorem d_X8_tells_113 : decode prog_10_method_51_code 113 = .ok (.aload_n 0, 1) := dc_X8_tells (113, .aload_n 0, 1) (List.mem_of_getElem? (i := 61) rfl)
theorem d_X8_tells_114 : decode prog_10_method_51_code 114 = .ok (.getfield 97, 3) := dc_X8_tells (114, .getfield 97, 3) (List.mem_of_getElem? (i := 62) rfl)
theorem d_X8_tells_117 : decode prog_10_method_51_code 117 = .ok (.iconst 0, 1) := dc_X8_tells (117, .iconst 0, 1) (List.mem_of_getElem? (i := 63) rfl)
theorem d_X8_tells_118 : decode prog_10_method_51_code 118 = .ok (.iaload, 1) := dc_X8_tells (118, .iaload, 1) (List.mem_of_getElem? (i := 64) rfl)
theorem d_X8_tells_119 : decode prog_10_method_51_code 119 = .ok (.istore 6, 2) := dc_X8_tells (119, .istore 6, 2) (List.mem_of_getElem? (i := 65) rfl)
theorem d_X8_tells_121 : decode prog_10_method_51_code 121 = .ok (.iload 6, 2) := dc_X8_tells (121, .iload 6, 2) (List.mem_of_getElem? (i := 66) rfl)
theorem d_X8_tells_123 : decode prog_10_method_51_code 123 = .ok (.ifCond .ge 7, 3) := dc_X8_tells (123, .ifCond .ge 7, 3) (List.mem_of_getElem? (i := 67) rfl)
theorem d_X8_tells_126 : decode prog_10_method_51_code 126 = .ok (.iconst 0, 1) := dc_X8_tells (126, .iconst 0, 1) (List.mem_of_getElem? (i := 68) rfl)
theorem d_X8_tells_127 : decode prog_10_method_51_code 127 = .ok (.goto 17, 3) := dc_X8_tells (127, .goto 17, 3) (List.mem_of_getElem? (i := 69) rfl)
theorem d_X8_tells_130 : decode prog_10_method_51_code 130 = .ok (.iload 6, 2) := dc_X8_tells (130, .iload 6, 2) (List.mem_of_getElem? (i := 70) rfl)
theorem d_X8_tells_132 : decode prog_10_method_51_code 132 = .ok (.bipush 99, 2) := dc_X8_tells (132, .bipush 99, 2) (List.mem_of_getElem? (i := 71) rfl)
theorem d_X8_tells_134 : decode prog_10_method_51_code 134 = .ok (.if_icmp .le 8, 3) := dc_X8_tells (134, .if_icmp .le 8, 3) (List.mem_of_getElem? (i := 72) rfl)
theorem d_X8_tells_137 : decode prog_10_method_51_code 137 = .ok (.bipush 99, 2) := dc_X8_tells (137, .bipush 99, 2) (List.mem_of_getElem? (i := 73) rfl)
theorem d_X8_tells_139 : decode prog_10_method_51_code 139 = .ok (.goto 5, 3) := dc_X8_tells (139, .goto 5, 3) (List.mem_of_getElem? (i := 74) rfl)
theorem d_X8_tells_142 : decode prog_10_method_51_code 142 = .ok (.iload 6, 2) := dc_X8_tells (142, .iload 6, 2) (List.mem_of_getElem? (i := 75) rfl)
theorem d_X8_tells_144 : decode prog_10_method_51_code 144 = .ok (.ireturn, 1) := dc_X8_tells (144, .ireturn, 1) (List.mem_of_getElem? (i := 76) rfl)
theorem d_X8_tells_145 : decode prog_10_method_51_code 145 = .ok (.iinc 5 1, 3) := dc_X8_tells (145, .iinc 5 1, 3) (List.mem_of_getElem? (i := 77) rfl)
theorem d_X8_tells_148 : decode prog_10_method_51_code 148 = .ok (.goto (-129), 3) := dc_X8_tells (148, .goto (-129), 3) (List.mem_of_getElem? (i := 78) rfl)
theorem d_X8_tells_151 : decode prog_10_method_51_code 151 = .ok (.iconst 0, 1) := dc_X8_tells (151, .iconst 0, 1) (List.mem_of_getElem? (i := 79) rfl)
theorem d_X8_tells_152 : decode prog_10_method_51_code 152 = .ok (.ireturn, 1) := dc_X8_tells (152, .ireturn, 1) (List.mem_of_getElem? (i := 80) rfl)
def cd_X8_bowls : List (Nat × Instr × Nat) := [(0, .iload_n 1, 1), (1, .i2l, 1), (2, .lconst 0, 1), (3, .ldc2_w 476, 3), (6, .invokestatic 168, 3), (9, .ifCond .eq 41, 3), (12, .iload_n 1, 1), (13, .invokestatic 452, 3), (16, .i2l, 1), (17, .ldc2_w 478, 3), (20, .ldc2_w 480, 3), (23, .invokestatic 168, 3), (26, .ifCond .eq 24, 3), (29, .iload_n 2, 1), (30, .invokestatic 464, 3), (33, .ifCond .eq 17, 3), (36, .iload_n 3, 1), (37, .i2l, 1), (38, .ldc2_w 469, 3), (41, .ldc2_w 180, 3), (44, .invokestatic 168, 3), (47, .ifCond .ne 5, 3), (50, .iconst (-1), 1), (51, .ireturn, 1), (52, .iconst 0, 1), (53, .istore 4, 2), (55, .iconst (-1), 1), (56, .istore 5, 2), (58, .iconst 0, 1), (59, .istore 6, 2), (61, .iload 6, 2), (63, .bipush 9, 2), (65, .if_icmp .ge 83, 3), (68, .iload_n 1, 1), (69, .iload 6, 2), (71, .invokestatic 448, 3), (74, .ifCond .ne 6, 3), (77, .goto 65, 3), (80, .aload_n 0, 1), (81, .iload 6, 2), (83, .invokevirtual 374, 3), (86, .ifCond .ne 6, 3), (89, .bipush (-2), 2), (91, .ireturn, 1), (92, .iload 6, 2), (94, .iload_n 3, 1), (95, .if_icmp .ne 8, 3), (98, .iload 4, 2), (100, .goto 5, 3), (103, .iload 5, 2), (105, .istore 5, 2), (107, .aload_n 0, 1), (108, .getfield 151, 3), (111, .iload 4, 2), (113, .iload 6, 2), (115, .iastore, 1), (116, .aload_n 0, 1), (117, .getfield 154, 3), (120, .iload 4, 2), (122, .iload 4, 2), (124, .iastore, 1), (125, .aload_n 0, 1), (126, .getfield 160, 3), (129, .iload 4, 2), (131, .aload_n 0, 1), (132, .getfield 43, 3), (135, .iload 6, 2), (137, .iaload, 1), (138, .iastore, 1), (139, .iinc 4 1, 3), (142, .iinc 6 1, 3), (145, .goto (-84), 3), (148, .iload_n 3, 1), (149, .ifCond .lt 17, 3), (152, .iload_n 3, 1), (153, .bipush 9, 2), (155, .if_icmp .ge 11, 3), (158, .iload 5, 2), (160, .iconst (-1), 1), (161, .if_icmp .ne 5, 3), (164, .iconst (-1), 1), (165, .ireturn, 1), (166, .ldc_w 482, 3), (169, .istore 6, 2), (171, .iconst 1, 1), (172, .istore 7, 2), (174, .iload 7, 2), (176, .ifCond .eq 114, 3), (179, .aload_n 0, 1), (180, .iconst 0, 1), (181, .invokevirtual 439, 3), (184, .iconst 0, 1), (185, .istore 8, 2), (187, .iload 8, 2), (189, .iload 4, 2), (191, .if_icmp .ge 33, 3), (194, .aload_n 0, 1), (195, .getfield 43, 3), (198, .aload_n 0, 1), (199, .getfield 151, 3), (202, .iload 8, 2), (204, .iaload, 1), (205, .aload_n 0, 1), (206, .getfield 160, 3), (209, .aload_n 0, 1), (210, .getfield 154, 3), (213, .iload 8, 2), (215, .iaload, 1), (216, .iaload, 1), (217, .iastore, 1), (218, .iinc 8 1, 3), (221, .goto (-34), 3), (224, .aload_n 0, 1), (225, .iload_n 2, 1), (226, .invokevirtual 418, 3), (229, .aload_n 0, 1), (230, .iconst 0, 1), (231, .invokevirtual 445, 3), (234, .aload_n 0, 1), (235, .getfield 380, 3), (238, .iload 6, 2), (240, .if_icmp .ge 39, 3), (243, .aload_n 0, 1), (244, .getfield 380, 3), (247, .istore 6, 2), (249, .iconst 0, 1), (250, .istore 8, 2), (252, .iload 8, 2), (254, .iload 4, 2), (256, .if_icmp .ge 23, 3), (259, .aload_n 0, 1), (260, .getfield 157, 3), (263, .iload 8, 2), (265, .aload_n 0, 1), (266, .getfield 154, 3), (269, .iload 8, 2), (271, .iaload, 1), (272, .iastore, 1), (273, .iinc 8 1, 3), (276, .goto (-24), 3), (279, .aload_n 0, 1), (280, .iload 4, 2), (282, .invokevirtual 483, 3), (285, .istore 7, 2), (287, .goto (-113), 3), (290, .iconst 0, 1), (291, .istore 8, 2), (293, .iload 8, 2), (295, .iload 4, 2), (297, .if_icmp .ge 39, 3), (300, .iload_n 3, 1), (301, .bipush 9, 2), (303, .if_icmp .ne 33, 3), (306, .aload_n 0, 1), (307, .getfield 43, 3), (310, .aload_n 0, 1), (311, .getfield 151, 3), (314, .iload 8, 2), (316, .iaload, 1), (317, .aload_n 0, 1), (318, .getfield 160, 3), (321, .aload_n 0, 1), (322, .getfield 157, 3), (325, .iload 8, 2), (327, .iaload, 1), (328, .iaload, 1), (329, .iastore, 1), (330, .iinc 8 1, 3), (333, .goto (-40), 3), (336, .iload_n 3, 1), (337, .iconst (-1), 1), (338, .if_icmp .eq 9, 3), (341, .iload_n 3, 1), (342, .bipush 9, 2), (344, .if_icmp .ne 8, 3), (347, .iload 6, 2), (349, .goto 15, 3), (352, .aload_n 0, 1), (353, .getfield 151, 3), (356, .aload_n 0, 1), (357, .getfield 157, 3), (360, .iload 5, 2), (362, .iaload, 1), (363, .iaload, 1), (364, .ireturn, 1)]
theorem dc_X8_bowls : ∀ q ∈ cd_X8_bowls, decode prog_10_method_78_code q.1 = .ok (q.2.1, q.2.2) := by decide +kernel
theorem d_X8_bowls_0 : decode prog_10_method_78_code 0 = .ok (.iload_n 1, 1) := dc_X8_bowls (0, .iload_n 1, 1) (List.mem_of_getElem? (i := 0) rfl)
theorem d_X8_bowls_1 : decode prog_10_method_78_code 1 = .ok (.i2l, 1) := dc_X8_bowls (1, .i2l, 1) (List.mem_of_getElem? (i := 1) rfl)
theorem d_X8_bowls_2 : decode prog_10_method_78_code 2 = .ok (.lconst 0, 1) := dc_X8_bowls (2, .lconst 0, 1) (List.mem_of_getElem? (i := 2) rfl)
theorem d_X8_bowls_3 : decode prog_10_method_78_code 3 = .ok (.ldc2_w 476, 3) := dc_X8_bowls (3, .ldc2_w 476, 3) (List.mem_of_getElem? (i := 3) rfl)
theorem d_X8_bowls_6 : decode prog_10_method_78_code 6 = .ok (.invokestatic 168, 3) := dc_X8_bowls (6, .invokestatic 168, 3) (List.mem_of_getElem? (i := 4) rfl)
theorem d_X8_bowls_9 : decode prog_10_method_78_code 9 = .ok (.ifCond .eq 41, 3) := dc_X8_bowls (9, .ifCond .eq 41, 3) (List.mem_of_getElem? (i := 5) rfl)
theorem d_X8_bowls_12 : decode prog_10_method_78_code 12 = .ok (.iload_n 1, 1) := dc_X8_bowls (12, .iload_n 1, 1) (List.mem_of_getElem? (i := 6) rfl)
theorem d_X8_bowls_13 : decode prog_10_method_78_code 13 = .ok (.invokestatic 452, 3) := dc_X8_bowls (13, .invokestatic 452, 3) (List.mem_of_getElem? (i := 7) rfl)
theorem d_X8_bowls_16 : decode prog_10_method_78_code 16 = .ok (.i2l, 1) := dc_X8_bowls (16, .i2l, 1) (List.mem_of_getElem? (i := 8) rfl)
theorem d_X8_bowls_17 : decode prog_10_method_78_code 17 = .ok (.ldc2_w 478, 3) := dc_X8_bowls (17, .ldc2_w 478, 3) (List.mem_of_getElem? (i := 9) rfl)
theorem d_X8_bowls_20 : decode prog_10_method_78_code 20 = .ok (.ldc2_w 480, 3) := dc_X8_bowls (20, .ldc2_w 480, 3) (List.mem_of_getElem? (i := 10) rfl)
theorem d_X8_bowls_23 : decode prog_10_method_78_code 23 = .ok (.invokestatic 168, 3) := dc_X8_bowls (23, .invokestatic 168, 3) (List.mem_of_getElem? (i := 11) rfl)
theorem d_X8_bowls_26 : decode prog_10_method_78_code 26 = .ok (.ifCond .eq 24, 3) := dc_X8_bowls (26, .ifCond .eq 24, 3) (List.mem_of_getElem? (i := 12) rfl)
theorem d_X8_bowls_29 : decode prog_10_method_78_code 29 = .ok (.iload_n 2, 1) := dc_X8_bowls (29, .iload_n 2, 1) (List.mem_of_getElem? (i := 13) rfl)
theorem d_X8_bowls_30 : decode prog_10_method_78_code 30 = .ok (.invokestatic 464, 3) := dc_X8_bowls (30, .invokestatic 464, 3) (List.mem_of_getElem? (i := 14) rfl)
theorem d_X8_bowls_33 : decode prog_10_method_78_code 33 = .ok (.ifCond .eq 17, 3) := dc_X8_bowls (33, .ifCond .eq 17, 3) (List.mem_of_getElem? (i := 15) rfl)
theorem d_X8_bowls_36 : decode prog_10_method_78_code 36 = .ok (.iload_n 3, 1) := dc_X8_bowls (36, .iload_n 3, 1) (List.mem_of_getElem? (i := 16) rfl)
theorem d_X8_bowls_37 : decode prog_10_method_78_code 37 = .ok (.i2l, 1) := dc_X8_bowls (37, .i2l, 1) (List.mem_of_getElem? (i := 17) rfl)
theorem d_X8_bowls_38 : decode prog_10_method_78_code 38 = .ok (.ldc2_w 469, 3) := dc_X8_bowls (38, .ldc2_w 469, 3) (List.mem_of_getElem? (i := 18) rfl)
theorem d_X8_bowls_41 : decode prog_10_method_78_code 41 = .ok (.ldc2_w 180, 3) := dc_X8_bowls (41, .ldc2_w 180, 3) (List.mem_of_getElem? (i := 19) rfl)
theorem d_X8_bowls_44 : decode prog_10_method_78_code 44 = .ok (.invokestatic 168, 3) := dc_X8_bowls (44, .invokestatic 168, 3) (List.mem_of_getElem? (i := 20) rfl)
theorem d_X8_bowls_47 : decode prog_10_method_78_code 47 = .ok (.ifCond .ne 5, 3) := dc_X8_bowls (47, .ifCond .ne 5, 3) (List.mem_of_getElem? (i := 21) rfl)
theorem d_X8_bowls_50 : decode prog_10_method_78_code 50 = .ok (.iconst (-1), 1) := dc_X8_bowls (50, .iconst (-1), 1) (List.mem_of_getElem? (i := 22) rfl)
theorem d_X8_bowls_51 : decode prog_10_method_78_code 51 = .ok (.ireturn, 1) := dc_X8_bowls (51, .ireturn, 1) (List.mem_of_getElem? (i := 23) rfl)
theorem d_X8_bowls_52 : decode prog_10_method_78_code 52 = .ok (.iconst 0, 1) := dc_X8_bowls (52, .iconst 0, 1) (List.mem_of_getElem? (i := 24) rfl)
theorem d_X8_bowls_53 : decode prog_10_method_78_code 53 = .ok (.istore 4, 2) := dc_X8_bowls (53, .istore 4, 2) (List.mem_of_getElem? (i := 25) rfl)
theorem d_X8_bowls_55 : decode prog_10_method_78_code 55 = .ok (.iconst (-1), 1) := dc_X8_bowls (55, .iconst (-1), 1) (List.mem_of_getElem? (i := 26) rfl)
theorem d_X8_bowls_56 : decode prog_10_method_78_code 56 = .ok (.istore 5, 2) := dc_X8_bowls (56, .istore 5, 2) (List.mem_of_getElem? (i := 27) rfl)
theorem d_X8_bowls_58 : decode prog_10_method_78_code 58 = .ok (.iconst 0, 1) := dc_X8_bowls (58, .iconst 0, 1) (List.mem_of_getElem? (i := 28) rfl)
theorem d_X8_bowls_59 : decode prog_10_method_78_code 59 = .ok (.istore 6, 2) := dc_X8_bowls (59, .istore 6, 2) (List.mem_of_getElem? (i := 29) rfl)
theorem d_X8_bowls_61 : decode prog_10_method_78_code 61 = .ok (.iload 6, 2) := dc_X8_bowls (61, .iload 6, 2) (List.mem_of_getElem? (i := 30) rfl)
theorem d_X8_bowls_63 : decode prog_10_method_78_code 63 = .ok (.bipush 9, 2) := dc_X8_bowls (63, .bipush 9, 2) (List.mem_of_getElem? (i := 31) rfl)
theorem d_X8_bowls_65 : decode prog_10_method_78_code 65 = .ok (.if_icmp .ge 83, 3) := dc_X8_bowls (65, .if_icmp .ge 83, 3) (List.mem_of_getElem? (i := 32) rfl)
theorem d_X8_bowls_68 : decode prog_10_method_78_code 68 = .ok (.iload_n 1, 1) := dc_X8_bowls (68, .iload_n 1, 1) (List.mem_of_getElem? (i := 33) rfl)
theorem d_X8_bowls_69 : decode prog_10_method_78_code 69 = .ok (.iload 6, 2) := dc_X8_bowls (69, .iload 6, 2) (List.mem_of_getElem? (i := 34) rfl)
theorem d_X8_bowls_71 : decode prog_10_method_78_code 71 = .ok (.invokestatic 448, 3) := dc_X8_bowls (71, .invokestatic 448, 3) (List.mem_of_getElem? (i := 35) rfl)
theorem d_X8_bowls_74 : decode prog_10_method_78_code 74 = .ok (.ifCond .ne 6, 3) := dc_X8_bowls (74, .ifCond .ne 6, 3) (List.mem_of_getElem? (i := 36) rfl)
theorem d_X8_bowls_77 : decode prog_10_method_78_code 77 = .ok (.goto 65, 3) := dc_X8_bowls (77, .goto 65, 3) (List.mem_of_getElem? (i := 37) rfl)
theorem d_X8_bowls_80 : decode prog_10_method_78_code 80 = .ok (.aload_n 0, 1) := dc_X8_bowls (80, .aload_n 0, 1) (List.mem_of_getElem? (i := 38) rfl)
theorem d_X8_bowls_81 : decode prog_10_method_78_code 81 = .ok (.iload 6, 2) := dc_X8_bowls (81, .iload 6, 2) (List.mem_of_getElem? (i := 39) rfl)
theorem d_X8_bowls_83 : decode prog_10_method_78_code 83 = .ok (.invokevirtual 374, 3) := dc_X8_bowls (83, .invokevirtual 374, 3) (List.mem_of_getElem? (i := 40) rfl)
theorem d_X8_bowls_86 : decode prog_10_method_78_code 86 = .ok (.ifCond .ne 6, 3) := dc_X8_bowls (86, .ifCond .ne 6, 3) (List.mem_of_getElem? (i := 41) rfl)
theorem d_X8_bowls_89 : decode prog_10_method_78_code 89 = .ok (.bipush (-2), 2) := dc_X8_bowls (89, .bipush (-2), 2) (List.mem_of_getElem? (i := 42) rfl)
theorem d_X8_bowls_91 : decode prog_10_method_78_code 91 = .ok (.ireturn, 1) := dc_X8_bowls (91, .ireturn, 1) (List.mem_of_getElem? (i := 43) rfl)
theorem d_X8_bowls_92 : decode prog_10_method_78_code 92 = .ok (.iload 6, 2) := dc_X8_bowls (92, .iload 6, 2) (List.mem_of_getElem? (i := 44) rfl)
theorem d_X8_bowls_94 : decode prog_10_method_78_code 94 = .ok (.iload_n 3, 1) := dc_X8_bowls (94, .iload_n 3, 1) (List.mem_of_getElem? (i := 45) rfl)
theorem d_X8_bowls_95 : decode prog_10_method_78_code 95 = .ok (.if_icmp .ne 8, 3) := dc_X8_bowls (95, .if_icmp .ne 8, 3) (List.mem_of_getElem? (i := 46) rfl)
theorem d_X8_bowls_98 : decode prog_10_method_78_code 98 = .ok (.iload 4, 2) := dc_X8_bowls (98, .iload 4, 2) (List.mem_of_getElem? (i := 47) rfl)
theorem d_X8_bowls_100 : decode prog_10_method_78_code 100 = .ok (.goto 5, 3) := dc_X8_bowls (100, .goto 5, 3) (List.mem_of_getElem? (i := 48) rfl)
theorem d_X8_bowls_103 : decode prog_10_method_78_code 103 = .ok (.iload 5, 2) := dc_X8_bowls (103, .iload 5, 2) (List.mem_of_getElem? (i := 49) rfl)
theorem d_X8_bowls_105 : decode prog_10_method_78_code 105 = .ok (.istore 5, 2) := dc_X8_bowls (105, .istore 5, 2) (List.mem_of_getElem? (i := 50) rfl)
theorem d_X8_bowls_107 : decode prog_10_method_78_code 107 = .ok (.aload_n 0, 1) := dc_X8_bowls (107, .aload_n 0, 1) (List.mem_of_getElem? (i := 51) rfl)
theorem d_X8_bowls_108 : decode prog_10_method_78_code 108 = .ok (.getfield 151, 3) := dc_X8_bowls (108, .getfield 151, 3) (List.mem_of_getElem? (i := 52) rfl)
theorem d_X8_bowls_111 : decode prog_10_method_78_code 111 = .ok (.iload 4, 2) := dc_X8_bowls (111, .iload 4, 2) (List.mem_of_getElem? (i := 53) rfl)
theorem d_X8_bowls_113 : decode prog_10_method_78_code 113 = .ok (.iload 6, 2) := dc_X8_bowls (113, .iload 6, 2) (List.mem_of_getElem? (i := 54) rfl)
theorem d_X8_bowls_115 : decode prog_10_method_78_code 115 = .ok (.iastore, 1) := dc_X8_bowls (115, .iastore, 1) (List.mem_of_getElem? (i := 55) rfl)
theorem d_X8_bowls_116 : decode prog_10_method_78_code 116 = .ok (.aload_n 0, 1) := dc_X8_bowls (116, .aload_n 0, 1) (List.mem_of_getElem? (i := 56) rfl)
theorem d_X8_bowls_117 : decode prog_10_method_78_code 117 = .ok (.getfield 154, 3) := dc_X8_bowls (117, .getfield 154, 3) (List.mem_of_getElem? (i := 57) rfl)
theorem d_X8_bowls_120 : decode prog_10_method_78_code 120 = .ok (.iload 4, 2) := dc_X8_bowls (120, .iload 4, 2) (List.mem_of_getElem? (i := 58) rfl)
theorem d_X8_bowls_122 : decode prog_10_method_78_code 122 = .ok (.iload 4, 2) := dc_X8_bowls (122, .iload 4, 2) (List.mem_of_getElem? (i := 59) rfl)
theorem d_X8_bowls_124 : decode prog_10_method_78_code 124 = .ok (.iastore, 1) := dc_X8_bowls (124, .iastore, 1) (List.mem_of_getElem? (i := 60) rfl)
theorem d_X8_bowls_125 : decode prog_10_method_78_code 125 = .ok (.aload_n 0, 1) := dc_X8_bowls (125, .aload_n 0, 1) (List.mem_of_getElem? (i := 61) rfl)
theorem d_X8_bowls_126 : decode prog_10_method_78_code 126 = .ok (.getfield 160, 3) := dc_X8_bowls (126, .getfield 160, 3) (List.mem_of_getElem? (i := 62) rfl)
theorem d_X8_bowls_129 : decode prog_10_method_78_code 129 = .ok (.iload 4, 2) := dc_X8_bowls (129, .iload 4, 2) (List.mem_of_getElem? (i := 63) rfl)
theorem d_X8_bowls_131 : decode prog_10_method_78_code 131 = .ok (.aload_n 0, 1) := dc_X8_bowls (131, .aload_n 0, 1) (List.mem_of_getElem? (i := 64) rfl)
theorem d_X8_bowls_132 : decode prog_10_method_78_code 132 = .ok (.getfield 43, 3) := dc_X8_bowls (132, .getfield 43, 3) (List.mem_of_getElem? (i := 65) rfl)
theorem d_X8_bowls_135 : decode prog_10_method_78_code 135 = .ok (.iload 6, 2) := dc_X8_bowls (135, .iload 6, 2) (List.mem_of_getElem? (i := 66) rfl)
theorem d_X8_bowls_137 : decode prog_10_method_78_code 137 = .ok (.iaload, 1) := dc_X8_bowls (137, .iaload, 1) (List.mem_of_getElem? (i := 67) rfl)
theorem d_X8_bowls_138 : decode prog_10_method_78_code 138 = .ok (.iastore, 1) := dc_X8_bowls (138, .iastore, 1) (List.mem_of_getElem? (i := 68) rfl)
theorem d_X8_bowls_139 : decode prog_10_method_78_code 139 = .ok (.iinc 4 1, 3) := dc_X8_bowls (139, .iinc 4 1, 3) (List.mem_of_getElem? (i := 69) rfl)
theorem d_X8_bowls_142 : decode prog_10_method_78_code 142 = .ok (.iinc 6 1, 3) := dc_X8_bowls (142, .iinc 6 1, 3) (List.mem_of_getElem? (i := 70) rfl)
theorem d_X8_bowls_145 : decode prog_10_method_78_code 145 = .ok (.goto (-84), 3) := dc_X8_bowls (145, .goto (-84), 3) (List.mem_of_getElem? (i := 71) rfl)
theorem d_X8_bowls_148 : decode prog_10_method_78_code 148 = .ok (.iload_n 3, 1) := dc_X8_bowls (148, .iload_n 3, 1) (List.mem_of_getElem? (i := 72) rfl)
theorem d_X8_bowls_149 : decode prog_10_method_78_code 149 = .ok (.ifCond .lt 17, 3) := dc_X8_bowls (149, .ifCond .lt 17, 3) (List.mem_of_getElem? (i := 73) rfl)
theorem d_X8_bowls_152 : decode prog_10_method_78_code 152 = .ok (.iload_n 3, 1) := dc_X8_bowls (152, .iload_n 3, 1) (List.mem_of_getElem? (i := 74) rfl)
theorem d_X8_bowls_153 : decode prog_10_method_78_code 153 = .ok (.bipush 9, 2) := dc_X8_bowls (153, .bipush 9, 2) (List.mem_of_getElem? (i := 75) rfl)
theorem d_X8_bowls_155 : decode prog_10_method_78_code 155 = .ok (.if_icmp .ge 11, 3) := dc_X8_bowls (155, .if_icmp .ge 11, 3) (List.mem_of_getElem? (i := 76) rfl)
theorem d_X8_bowls_158 : decode prog_10_method_78_code 158 = .ok (.iload 5, 2) := dc_X8_bowls (158, .iload 5, 2) (List.mem_of_getElem? (i := 77) rfl)
theorem d_X8_bowls_160 : decode prog_10_method_78_code 160 = .ok (.iconst (-1), 1) := dc_X8_bowls (160, .iconst (-1), 1) (List.mem_of_getElem? (i := 78) rfl)
theorem d_X8_bowls_161 : decode prog_10_method_78_code 161 = .ok (.if_icmp .ne 5, 3) := dc_X8_bowls (161, .if_icmp .ne 5, 3) (List.mem_of_getElem? (i := 79) rfl)
theorem d_X8_bowls_164 : decode prog_10_method_78_code 164 = .ok (.iconst (-1), 1) := dc_X8_bowls (164, .iconst (-1), 1) (List.mem_of_getElem? (i := 80) rfl)
theorem d_X8_bowls_165 : decode prog_10_method_78_code 165 = .ok (.ireturn, 1) := dc_X8_bowls (165, .ireturn, 1) (List.mem_of_getElem? (i := 81) rfl)
theorem d_X8_bowls_166 : decode prog_10_method_78_code 166 = .ok (.ldc_w 482, 3) := dc_X8_bowls (166, .ldc_w 482, 3) (List.mem_of_getElem? (i := 82) rfl)
theorem d_X8_bowls_169 : decode prog_10_method_78_code 169 = .ok (.istore 6, 2) := dc_X8_bowls (169, .istore 6, 2) (List.mem_of_getElem? (i := 83) rfl)
theorem d_X8_bowls_171 : decode prog_10_method_78_code 171 = .ok (.iconst 1, 1) := dc_X8_bowls (171, .iconst 1, 1) (List.mem_of_getElem? (i := 84) rfl)
theorem d_X8_bowls_172 : decode prog_10_method_78_code 172 = .ok (.istore 7, 2) := dc_X8_bowls (172, .istore 7, 2) (List.mem_of_getElem? (i := 85) rfl)
theorem d_X8_bowls_174 : decode prog_10_method_78_code 174 = .ok (.iload 7, 2) := dc_X8_bowls (174, .iload 7, 2) (List.mem_of_getElem? (i := 86) rfl)
theorem d_X8_bowls_176 : decode prog_10_method_78_code 176 = .ok (.ifCond .eq 114, 3) := dc_X8_bowls (176, .ifCond .eq 114, 3) (List.mem_of_getElem? (i := 87) rfl)
theorem d_X8_bowls_179 : decode prog_10_method_78_code 179 = .ok (.aload_n 0, 1) := dc_X8_bowls (179, .aload_n 0, 1) (List.mem_of_getElem? (i := 88) rfl)
theorem d_X8_bowls_180 : decode prog_10_method_78_code 180 = .ok (.iconst 0, 1) := dc_X8_bowls (180, .iconst 0, 1) (List.mem_of_getElem? (i := 89) rfl)
theorem d_X8_bowls_181 : decode prog_10_method_78_code 181 = .ok (.invokevirtual 439, 3) := dc_X8_bowls (181, .invokevirtual 439, 3) (List.mem_of_getElem? (i := 90) rfl)
theorem d_X8_bowls_184 : decode prog_10_method_78_code 184 = .ok (.iconst 0, 1) := dc_X8_bowls (184, .iconst 0, 1) (List.mem_of_getElem? (i := 91) rfl)
theorem d_X8_bowls_185 : decode prog_10_method_78_code 185 = .ok (.istore 8, 2) := dc_X8_bowls (185, .istore 8, 2) (List.mem_of_getElem? (i := 92) rfl)
theorem d_X8_bowls_187 : decode prog_10_method_78_code 187 = .ok (.iload 8, 2) := dc_X8_bowls (187, .iload 8, 2) (List.mem_of_getElem? (i := 93) rfl)
theorem d_X8_bowls_189 : decode prog_10_method_78_code 189 = .ok (.iload 4, 2) := dc_X8_bowls (189, .iload 4, 2) (List.mem_of_getElem? (i := 94) rfl)
theorem d_X8_bowls_191 : decode prog_10_method_78_code 191 = .ok (.if_icmp .ge 33, 3) := dc_X8_bowls (191, .if_icmp .ge 33, 3) (List.mem_of_getElem? (i := 95) rfl)
theorem d_X8_bowls_194 : decode prog_10_method_78_code 194 = .ok (.aload_n 0, 1) := dc_X8_bowls (194, .aload_n 0, 1) (List.mem_of_getElem? (i := 96) rfl)
theorem d_X8_bowls_195 : decode prog_10_method_78_code 195 = .ok (.getfield 43, 3) := dc_X8_bowls (195, .getfield 43, 3) (List.mem_of_getElem? (i := 97) rfl)
theorem d_X8_bowls_198 : decode prog_10_method_78_code 198 = .ok (.aload_n 0, 1) := dc_X8_bowls (198, .aload_n 0, 1) (List.mem_of_getElem? (i := 98) rfl)
theorem d_X8_bowls_199 : decode prog_10_method_78_code 199 = .ok (.getfield 151, 3) := dc_X8_bowls (199, .getfield 151, 3) (List.mem_of_getElem? (i := 99) rfl)
theorem d_X8_bowls_202 : decode prog_10_method_78_code 202 = .ok (.iload 8, 2) := dc_X8_bowls (202, .iload 8, 2) (List.mem_of_getElem? (i := 100) rfl)
theorem d_X8_bowls_204 : decode prog_10_method_78_code 204 = .ok (.iaload, 1) := dc_X8_bowls (204, .iaload, 1) (List.mem_of_getElem? (i := 101) rfl)
theorem d_X8_bowls_205 : decode prog_10_method_78_code 205 = .ok (.aload_n 0, 1) := dc_X8_bowls (205, .aload_n 0, 1) (List.mem_of_getElem? (i := 102) rfl)
theorem d_X8_bowls_206 : decode prog_10_method_78_code 206 = .ok (.getfield 160, 3) := dc_X8_bowls (206, .getfield 160, 3) (List.mem_of_getElem? (i := 103) rfl)
theorem d_X8_bowls_209 : decode prog_10_method_78_code 209 = .ok (.aload_n 0, 1) := dc_X8_bowls (209, .aload_n 0, 1) (List.mem_of_getElem? (i := 104) rfl)
theorem d_X8_bowls_210 : decode prog_10_method_78_code 210 = .ok (.getfield 154, 3) := dc_X8_bowls (210, .getfield 154, 3) (List.mem_of_getElem? (i := 105) rfl)
theorem d_X8_bowls_213 : decode prog_10_method_78_code 213 = .ok (.iload 8, 2) := dc_X8_bowls (213, .iload 8, 2) (List.mem_of_getElem? (i := 106) rfl)
theorem d_X8_bowls_215 : decode prog_10_method_78_code 215 = .ok (.iaload, 1) := dc_X8_bowls (215, .iaload, 1) (List.mem_of_getElem? (i := 107) rfl)
theorem d_X8_bowls_216 : decode prog_10_method_78_code 216 = .ok (.iaload, 1) := dc_X8_bowls (216, .iaload, 1) (List.mem_of_getElem? (i := 108) rfl)
theorem d_X8_bowls_217 : decode prog_10_method_78_code 217 = .ok (.iastore, 1) := dc_X8_bowls (217, .iastore, 1) (List.mem_of_getElem? (i := 109) rfl)
theorem d_X8_bowls_218 : decode prog_10_method_78_code 218 = .ok (.iinc 8 1, 3) := dc_X8_bowls (218, .iinc 8 1, 3) (List.mem_of_getElem? (i := 110) rfl)
theorem d_X8_bowls_221 : decode prog_10_method_78_code 221 = .ok (.goto (-34), 3) := dc_X8_bowls (221, .goto (-34), 3) (List.mem_of_getElem? (i := 111) rfl)
theorem d_X8_bowls_224 : decode prog_10_method_78_code 224 = .ok (.aload_n 0, 1) := dc_X8_bowls (224, .aload_n 0, 1) (List.mem_of_getElem? (i := 112) rfl)
theorem d_X8_bowls_225 : decode prog_10_method_78_code 225 = .ok (.iload_n 2, 1) := dc_X8_bowls (225, .iload_n 2, 1) (List.mem_of_getElem? (i := 113) rfl)
theorem d_X8_bowls_226 : decode prog_10_method_78_code 226 = .ok (.invokevirtual 418, 3) := dc_X8_bowls (226, .invokevirtual 418, 3) (List.mem_of_getElem? (i := 114) rfl)
theorem d_X8_bowls_229 : decode prog_10_method_78_code 229 = .ok (.aload_n 0, 1) := dc_X8_bowls (229, .aload_n 0, 1) (List.mem_of_getElem? (i := 115) rfl)
theorem d_X8_bowls_230 : decode prog_10_method_78_code 230 = .ok (.iconst 0, 1) := dc_X8_bowls (230, .iconst 0, 1) (List.mem_of_getElem? (i := 116) rfl)
theorem d_X8_bowls_231 : decode prog_10_method_78_code 231 = .ok (.invokevirtual 445, 3) := dc_X8_bowls (231, .invokevirtual 445, 3) (List.mem_of_getElem? (i := 117) rfl)
theorem d_X8_bowls_234 : decode prog_10_method_78_code 234 = .ok (.aload_n 0, 1) := dc_X8_bowls (234, .aload_n 0, 1) (List.mem_of_getElem? (i := 118) rfl)
theorem d_X8_bowls_235 : decode prog_10_method_78_code 235 = .ok (.getfield 380, 3) := dc_X8_bowls (235, .getfield 380, 3) (List.mem_of_getElem? (i := 119) rfl)
theorem d_X8_bowls_238 : decode prog_10_method_78_code 238 = .ok (.iload 6, 2) := dc_X8_bowls (238, .iload 6, 2) (List.mem_of_getElem? (i := 120) rfl)
theorem d_X8_bowls_240 : decode prog_10_method_78_code 240 = .ok (.if_icmp .ge 39, 3) := dc_X8_bowls (240, .if_icmp .ge 39, 3) (List.mem_of_getElem? (i := 121) rfl)
theorem d_X8_bowls_243 : decode prog_10_method_78_code 243 = .ok (.aload_n 0, 1) := dc_X8_bowls (243, .aload_n 0, 1) (List.mem_of_getElem? (i := 122) rfl)
theorem d_X8_bowls_244 : decode prog_10_method_78_code 244 = .ok (.getfield 380, 3) := dc_X8_bowls (244, .getfield 380, 3) (List.mem_of_getElem? (i := 123) rfl)
theorem d_X8_bowls_247 : decode prog_10_method_78_code 247 = .ok (.istore 6, 2) := dc_X8_bowls (247, .istore 6, 2) (List.mem_of_getElem? (i := 124) rfl)
theorem d_X8_bowls_249 : decode prog_10_method_78_code 249 = .ok (.iconst 0, 1) := dc_X8_bowls (249, .iconst 0, 1) (List.mem_of_getElem? (i := 125) rfl)
theorem d_X8_bowls_250 : decode prog_10_method_78_code 250 = .ok (.istore 8, 2) := dc_X8_bowls (250, .istore 8, 2) (List.mem_of_getElem? (i := 126) rfl)
theorem d_X8_bowls_252 : decode prog_10_method_78_code 252 = .ok (.iload 8, 2) := dc_X8_bowls (252, .iload 8, 2) (List.mem_of_getElem? (i := 127) rfl)
theorem d_X8_bowls_254 : decode prog_10_method_78_code 254 = .ok (.iload 4, 2) := dc_X8_bowls (254, .iload 4, 2) (List.mem_of_getElem? (i := 128) rfl)
theorem d_X8_bowls_256 : decode prog_10_method_78_code 256 = .ok (.if_icmp .ge 23, 3) := dc_X8_bowls (256, .if_icmp .ge 23, 3) (List.mem_of_getElem? (i := 129) rfl)
theorem d_X8_bowls_259 : decode prog_10_method_78_code 259 = .ok (.aload_n 0, 1) := dc_X8_bowls (259, .aload_n 0, 1) (List.mem_of_getElem? (i := 130) rfl)
theorem d_X8_bowls_260 : decode prog_10_method_78_code 260 = .ok (.getfield 157, 3) := dc_X8_bowls (260, .getfield 157, 3) (List.mem_of_getElem? (i := 131) rfl)
theorem d_X8_bowls_263 : decode prog_10_method_78_code 263 = .ok (.iload 8, 2) := dc_X8_bowls (263, .iload 8, 2) (List.mem_of_getElem? (i := 132) rfl)
theorem d_X8_bowls_265 : decode prog_10_method_78_code 265 = .ok (.aload_n 0, 1) := dc_X8_bowls (265, .aload_n 0, 1) (List.mem_of_getElem? (i := 133) rfl)
theorem d_X8_bowls_266 : decode prog_10_method_78_code 266 = .ok (.getfield 154, 3) := dc_X8_bowls (266, .getfield 154, 3) (List.mem_of_getElem? (i := 134) rfl)
theorem d_X8_bowls_269 : decode prog_10_method_78_code 269 = .ok (.iload 8, 2) := dc_X8_bowls (269, .iload 8, 2) (List.mem_of_getElem? (i := 135) rfl)
theorem d_X8_bowls_271 : decode prog_10_method_78_code 271 = .ok (.iaload, 1) := dc_X8_bowls (271, .iaload, 1) (List.mem_of_getElem? (i := 136) rfl)
theorem d_X8_bowls_272 : decode prog_10_method_78_code 272 = .ok (.iastore, 1) := dc_X8_bowls (272, .iastore, 1) (List.mem_of_getElem? (i := 137) rfl)
theorem d_X8_bowls_273 : decode prog_10_method_78_code 273 = .ok (.iinc 8 1, 3) := dc_X8_bowls (273, .iinc 8 1, 3) (List.mem_of_getElem? (i := 138) rfl)
theorem d_X8_bowls_276 : decode prog_10_method_78_code 276 = .ok (.goto (-24), 3) := dc_X8_bowls (276, .goto (-24), 3) (List.mem_of_getElem? (i := 139) rfl)
theorem d_X8_bowls_279 : decode prog_10_method_78_code 279 = .ok (.aload_n 0, 1) := dc_X8_bowls (279, .aload_n 0, 1) (List.mem_of_getElem? (i := 140) rfl)
theorem d_X8_bowls_280 : decode prog_10_method_78_code 280 = .ok (.iload 4, 2) := dc_X8_bowls (280, .iload 4, 2) (List.mem_of_getElem? (i := 141) rfl)
theorem d_X8_bowls_282 : decode prog_10_method_78_code 282 = .ok (.invokevirtual 483, 3) := dc_X8_bowls (282, .invokevirtual 483, 3) (List.mem_of_getElem? (i := 142) rfl)
theorem d_X8_bowls_285 : decode prog_10_method_78_code 285 = .ok (.istore 7, 2) := dc_X8_bowls (285, .istore 7, 2) (List.mem_of_getElem? (i := 143) rfl)
theorem d_X8_bowls_287 : decode prog_10_method_78_code 287 = .ok (.goto (-113), 3) := dc_X8_bowls (287, .goto (-113), 3) (List.mem_of_getElem? (i := 144) rfl)
theorem d_X8_bowls_290 : decode prog_10_method_78_code 290 = .ok (.iconst 0, 1) := dc_X8_bowls (290, .iconst 0, 1) (List.mem_of_getElem? (i := 145) rfl)
theorem d_X8_bowls_291 : decode prog_10_method_78_code 291 = .ok (.istore 8, 2) := dc_X8_bowls (291, .istore 8, 2) (List.mem_of_getElem? (i := 146) rfl)
theorem d_X8_bowls_293 : decode prog_10_method_78_code 293 = .ok (.iload 8, 2) := dc_X8_bowls (293, .iload 8, 2) (List.mem_of_getElem? (i := 147) rfl)
theorem d_X8_bowls_295 : decode prog_10_method_78_code 295 = .ok (.iload 4, 2) := dc_X8_bowls (295, .iload 4, 2) (List.mem_of_getElem? (i := 148) rfl)
theorem d_X8_bowls_297 : decode prog_10_method_78_code 297 = .ok (.if_icmp .ge 39, 3) := dc_X8_bowls (297, .if_icmp .ge 39, 3) (List.mem_of_getElem? (i := 149) rfl)
theorem d_X8_bowls_300 : decode prog_10_method_78_code 300 = .ok (.iload_n 3, 1) := dc_X8_bowls (300, .iload_n 3, 1) (List.mem_of_getElem? (i := 150) rfl)
theorem d_X8_bowls_301 : decode prog_10_method_78_code 301 = .ok (.bipush 9, 2) := dc_X8_bowls (301, .bipush 9, 2) (List.mem_of_getElem? (i := 151) rfl)
theorem d_X8_bowls_303 : decode prog_10_method_78_code 303 = .ok (.if_icmp .ne 33, 3) := dc_X8_bowls (303, .if_icmp .ne 33, 3) (List.mem_of_getElem? (i := 152) rfl)
theorem d_X8_bowls_306 : decode prog_10_method_78_code 306 = .ok (.aload_n 0, 1) := dc_X8_bowls (306, .aload_n 0, 1) (List.mem_of_getElem? (i := 153) rfl)
theorem d_X8_bowls_307 : decode prog_10_method_78_code 307 = .ok (.getfield 43, 3) := dc_X8_bowls (307, .getfield 43, 3) (List.mem_of_getElem? (i := 154) rfl)
theorem d_X8_bowls_310 : decode prog_10_method_78_code 310 = .ok (.aload_n 0, 1) := dc_X8_bowls (310, .aload_n 0, 1) (List.mem_of_getElem? (i := 155) rfl)
theorem d_X8_bowls_311 : decode prog_10_method_78_code 311 = .ok (.getfield 151, 3) := dc_X8_bowls (311, .getfield 151, 3) (List.mem_of_getElem? (i := 156) rfl)
theorem d_X8_bowls_314 : decode prog_10_method_78_code 314 = .ok (.iload 8, 2) := dc_X8_bowls (314, .iload 8, 2) (List.mem_of_getElem? (i := 157) rfl)
theorem d_X8_bowls_316 : decode prog_10_method_78_code 316 = .ok (.iaload, 1) := dc_X8_bowls (316, .iaload, 1) (List.mem_of_getElem? (i := 158) rfl)
theorem d_X8_bowls_317 : decode prog_10_method_78_code 317 = .ok (.aload_n 0, 1) := dc_X8_bowls (317, .aload_n 0, 1) (List.mem_of_getElem? (i := 159) rfl)
theorem d_X8_bowls_318 : decode prog_10_method_78_code 318 = .ok (.getfield 160, 3) := dc_X8_bowls (318, .getfield 160, 3) (List.mem_of_getElem? (i := 160) rfl)
theorem d_X8_bowls_321 : decode prog_10_method_78_code 321 = .ok (.aload_n 0, 1) := dc_X8_bowls (321, .aload_n 0, 1) (List.mem_of_getElem? (i := 161) rfl)
theorem d_X8_bowls_322 : decode prog_10_method_78_code 322 = .ok (.getfield 157, 3) := dc_X8_bowls (322, .getfield 157, 3) (List.mem_of_getElem? (i := 162) rfl)
theorem d_X8_bowls_325 : decode prog_10_method_78_code 325 = .ok (.iload 8, 2) := dc_X8_bowls (325, .iload 8, 2) (List.mem_of_getElem? (i := 163) rfl)
theorem d_X8_bowls_327 : decode prog_10_method_78_code 327 = .ok (.iaload, 1) := dc_X8_bowls (327, .iaload, 1) (List.mem_of_getElem? (i := 164) rfl)
theorem d_X8_bowls_328 : decode prog_10_method_78_code 328 = .ok (.iaload, 1) := dc_X8_bowls (328, .iaload, 1) (List.mem_of_getElem? (i := 165) rfl)
theorem d_X8_bowls_329 : decode prog_10_method_78_code 329 = .ok (.iastore, 1) := dc_X8_bowls (329, .iastore, 1) (List.mem_of_getElem? (i := 166) rfl)
theorem d_X8_bowls_330 : decode prog_10_method_78_code 330 = .ok (.iinc 8 1, 3) := dc_X8_bowls (330, .iinc 8 1, 3) (List.mem_of_getElem? (i := 167) rfl)
theorem d_X8_bowls_333 : decode prog_10_method_78_code 333 = .ok (.goto (-40), 3) := dc_X8_bowls (333, .goto (-40), 3) (List.mem_of_getElem? (i := 168) rfl)
theorem d_X8_bowls_336 : decode prog_10_method_78_code 336 = .ok (.iload_n 3, 1) := dc_X8_bowls (336, .iload_n 3, 1) (List.mem_of_getElem? (i := 169) rfl)
theorem d_X8_bowls_337 : decode prog_10_method_78_code 337 = .ok (.iconst (-1), 1) := dc_X8_bowls (337, .iconst (-1), 1) (List.mem_of_getElem? (i := 170) rfl)
theorem d_X8_bowls_338 : decode prog_10_method_78_code 338 = .ok (.if_icmp .eq 9, 3) := dc_X8_bowls (338, .if_icmp .eq 9, 3) (List.mem_of_getElem? (i := 171) rfl)
theorem d_X8_bowls_341 : decode prog_10_method_78_code 341 = .ok (.iload_n 3, 1) := dc_X8_bowls (341, .iload_n 3, 1) (List.mem_of_getElem? (i := 172) rfl)
theorem d_X8_bowls_342 : decode prog_10_method_78_code 342 = .ok (.bipush 9, 2) := dc_X8_bowls (342, .bipush 9, 2) (List.mem_of_getElem? (i := 173) rfl)
theorem d_X8_bowls_344 : decode prog_10_method_78_code 344 = .ok (.if_icmp .ne 8, 3) := dc_X8_bowls (344, .if_icmp .ne 8, 3) (List.mem_of_getElem? (i := 174) rfl)
theorem d_X8_bowls_347 : decode prog_10_method_78_code 347 = .ok (.iload 6, 2) := dc_X8_bowls (347, .iload 6, 2) (List.mem_of_getElem? (i := 175) rfl)
theorem d_X8_bowls_349 : decode prog_10_method_78_code 349 = .ok (.goto 15, 3) := dc_X8_bowls (349, .goto 15, 3) (List.mem_of_getElem? (i := 176) rfl)
theorem d_X8_bowls_352 : decode prog_10_method_78_code 352 = .ok (.aload_n 0, 1) := dc_X8_bowls (352, .aload_n 0, 1) (List.mem_of_getElem? (i := 177) rfl)
theorem d_X8_bowls_353 : decode prog_10_method_78_code 353 = .ok (.getfield 151, 3) := dc_X8_bowls (353, .getfield 151, 3) (List.mem_of_getElem? (i := 178) rfl)
theorem d_X8_bowls_356 : decode prog_10_method_78_code 356 = .ok (.aload_n 0, 1) := dc_X8_bowls (356, .aload_n 0, 1) (List.mem_of_getElem? (i := 179) rfl)
theorem d_X8_bowls_357 : decode prog_10_method_78_code 357 = .ok (.getfield 157, 3) := dc_X8_bowls (357, .getfield 157, 3) (List.mem_of_getElem? (i := 180) rfl)
theorem d_X8_bowls_360 : decode prog_10_method_78_code 360 = .ok (.iload 5, 2) := dc_X8_bowls (360, .iload 5, 2) (List.mem_of_getElem? (i := 181) rfl)
theorem d_X8_bowls_362 : decode prog_10_method_78_code 362 = .ok (.iaload, 1) := dc_X8_bowls (362, .iaload, 1) (List.mem_of_getElem? (i := 182) rfl)
theorem d_X8_bowls_363 : decode prog_10_method_78_code 363 = .ok (.iaload, 1) := dc_X8_bowls (363, .iaload, 1) (List.mem_of_getElem? (i := 183) rfl)
theorem d_X8_bowls_364 : decode prog_10_method_78_code 364 = .ok (.ireturn, 1) := dc_X8_bowls (364, .ireturn, 1) (List.mem_of_getElem? (i := 184) rfl)
def cd_X8_here : List (Nat × Instr × Nat) := [(0, .aload_n 0, 1), (1, .getfield 208, 3), (4, .aload_n 0, 1), (5, .getfield 211, 3), (8, .if_icmp .ge 19, 3), (11, .aload_n 0, 1), (12, .getfield 7, 3), (15, .aload_n 0, 1), (16, .getfield 208, 3), (19, .baload, 1), (20, .sipush 255, 3), (23, .iand, 1), (24, .goto 4, 3), (27, .iconst 0, 1), (28, .ireturn, 1)]
theorem dc_X8_here : ∀ q ∈ cd_X8_here, decode prog_10_method_18_code q.1 = .ok (q.2.1, q.2.2) := by decide +kernel
theorem d_X8_here_0 : decode prog_10_method_18_code 0 = .ok (.aload_n 0, 1) := dc_X8_here (0, .aload_n 0, 1) (List.mem_of_getElem? (i := 0) rfl)
theorem d_X8_here_1 : decode prog_10_method_18_code 1 = .ok (.getfield 208, 3) := dc_X8_here (1, .getfield 208, 3) (List.mem_of_getElem? (i := 1) rfl)
theorem d_X8_here_4 : decode prog_10_method_18_code 4 = .ok (.aload_n 0, 1) := dc_X8_here (4, .aload_n 0, 1) (List.mem_of_getElem? (i := 2) rfl)
theorem d_X8_here_5 : decode prog_10_method_18_code 5 = .ok (.getfield 211, 3) := dc_X8_here (5, .getfield 211, 3) (List.mem_of_getElem? (i := 3) rfl)
theorem d_X8_here_8 : decode prog_10_method_18_code 8 = .ok (.if_icmp .ge 19, 3) := dc_X8_here (8, .if_icmp .ge 19, 3) (List.mem_of_getElem? (i := 4) rfl)
theorem d_X8_here_11 : decode prog_10_method_18_code 11 = .ok (.aload_n 0, 1) := dc_X8_here (11, .aload_n 0, 1) (List.mem_of_getElem? (i := 5) rfl)
theorem d_X8_here_12 : decode prog_10_method_18_code 12 = .ok (.getfield 7, 3) := dc_X8_here (12, .getfield 7, 3) (List.mem_of_getElem? (i := 6) rfl)
theorem d_X8_here_15 : decode prog_10_method_18_code 15 = .ok (.aload_n 0, 1) := dc_X8_here (15, .aload_n 0, 1) (List.mem_of_getElem? (i := 7) rfl)
theorem d_X8_here_16 : decode prog_10_method_18_code 16 = .ok (.getfield 208, 3) := dc_X8_here (16, .getfield 208, 3) (List.mem_of_getElem? (i := 8) rfl)
theorem d_X8_here_19 : decode prog_10_method_18_code 19 = .ok (.baload, 1) := dc_X8_here (19, .baload, 1) (List.mem_of_getElem? (i := 9) rfl)
theorem d_X8_here_20 : decode prog_10_method_18_code 20 = .ok (.sipush 255, 3) := dc_X8_here (20, .sipush 255, 3) (List.mem_of_getElem? (i := 10) rfl)
theorem d_X8_here_23 : decode prog_10_method_18_code 23 = .ok (.iand, 1) := dc_X8_here (23, .iand, 1) (List.mem_of_getElem? (i := 11) rfl)
theorem d_X8_here_24 : decode prog_10_method_18_code 24 = .ok (.goto 4, 3) := dc_X8_here (24, .goto 4, 3) (List.mem_of_getElem? (i := 12) rfl)
theorem d_X8_here_27 : decode prog_10_method_18_code 27 = .ok (.iconst 0, 1) := dc_X8_here (27, .iconst 0, 1) (List.mem_of_getElem? (i := 13) rfl)
theorem d_X8_here_28 : decode prog_10_method_18_code 28 = .ok (.ireturn, 1) := dc_X8_here (28, .ireturn, 1) (List.mem_of_getElem? (i := 14) rfl)
def cd_X8_wrongs : List (Nat × Instr × Nat) := [(0, .aload_n 0, 1), (1, .aload_n 0, 1), (2, .getfield 214, 3), (5, .ifCond .ge 10, 3), (8, .aload_n 0, 1), (9, .getfield 214, 3), (12, .goto 10, 3), (15, .sipush (-1000), 3), (18, .iload_n 1, 1), (19, .imul, 1), (20, .iload_n 2, 1), (21, .isub, 1), (22, .putfield 214, 3), (25, .return_, 1)]
theorem dc_X8_wrongs : ∀ q ∈ cd_X8_wrongs, decode prog_10_method_19_code q.1 = .ok (q.2.1, q.2.2) := by decide +kernel
theorem d_X8_wrongs_0 : decode prog_10_method_19_code 0 = .ok (.aload_n 0, 1) := dc_X8_wrongs (0, .aload_n 0, 1) (List.mem_of_getElem? (i := 0) rfl)
theorem d_X8_wrongs_1 : decode prog_10_method_19_code 1 = .ok (.aload_n 0, 1) := dc_X8_wrongs (1, .aload_n 0, 1) (List.mem_of_getElem? (i := 1) rfl)
theorem d_X8_wrongs_2 : decode prog_10_method_19_code 2 = .ok (.getfield 214, 3) := dc_X8_wrongs (2, .getfield 214, 3) (List.mem_of_getElem? (i := 2) rfl)
theorem d_X8_wrongs_5 : decode prog_10_method_19_code 5 = .ok (.ifCond .ge 10, 3) := dc_X8_wrongs (5, .ifCond .ge 10, 3) (List.mem_of_getElem? (i := 3) rfl)
theorem d_X8_wrongs_8 : decode prog_10_method_19_code 8 = .ok (.aload_n 0, 1) := dc_X8_wrongs (8, .aload_n 0, 1) (List.mem_of_getElem? (i := 4) rfl)
theorem d_X8_wrongs_9 : decode prog_10_method_19_code 9 = .ok (.getfield 214, 3) := dc_X8_wrongs (9, .getfield 214, 3) (List.mem_of_getElem? (i := 5) rfl)
theorem d_X8_wrongs_12 : decode prog_10_method_19_code 12 = .ok (.goto 10, 3) := dc_X8_wrongs (12, .goto 10, 3) (List.mem_of_getElem? (i := 6) rfl)
theorem d_X8_wrongs_15 : decode prog_10_method_19_code 15 = .ok (.sipush (-1000), 3) := dc_X8_wrongs (15, .sipush (-1000), 3) (List.mem_of_getElem? (i := 7) rfl)
theorem d_X8_wrongs_18 : decode prog_10_method_19_code 18 = .ok (.iload_n 1, 1) := dc_X8_wrongs (18, .iload_n 1, 1) (List.mem_of_getElem? (i := 8) rfl)
theorem d_X8_wrongs_19 : decode prog_10_method_19_code 19 = .ok (.imul, 1) := dc_X8_wrongs (19, .imul, 1) (List.mem_of_getElem? (i := 9) rfl)
theorem d_X8_wrongs_20 : decode prog_10_method_19_code 20 = .ok (.iload_n 2, 1) := dc_X8_wrongs (20, .iload_n 2, 1) (List.mem_of_getElem? (i := 10) rfl)
theorem d_X8_wrongs_21 : decode prog_10_method_19_code 21 = .ok (.isub, 1) := dc_X8_wrongs (21, .isub, 1) (List.mem_of_getElem? (i := 11) rfl)
theorem d_X8_wrongs_22 : decode prog_10_method_19_code 22 = .ok (.putfield 214, 3) := dc_X8_wrongs (22, .putfield 214, 3) (List.mem_of_getElem? (i := 12) rfl)
theorem d_X8_wrongs_25 : decode prog_10_method_19_code 25 = .ok (.return_, 1) := dc_X8_wrongs (25, .return_, 1) (List.mem_of_getElem? (i := 13) rfl)
def cd_X8_isGood : List (Nat × Instr × Nat) := [(0, .aload_n 0, 1), (1, .getfield 214, 3), (4, .ifCond .ne 7, 3), (7, .iconst 1, 1), (8, .goto 4, 3), (11, .iconst 0, 1), (12, .ireturn, 1)]
theorem dc_X8_isGood : ∀ q ∈ cd_X8_isGood, decode prog_10_method_20_code q.1 = .ok (q.2.1, q.2.2) := by decide +kernel
theorem d_X8_isGood_0 : decode prog_10_method_20_code 0 = .ok (.aload_n 0, 1) := dc_X8_isGood (0, .aload_n 0, 1) (List.mem_of_getElem? (i := 0) rfl)
theorem d_X8_isGood_1 : decode prog_10_method_20_code 1 = .ok (.getfield 214, 3) := dc_X8_isGood (1, .getfield 214, 3) (List.mem_of_getElem? (i := 1) rfl)
theorem d_X8_isGood_4 : decode prog_10_method_20_code 4 = .ok (.ifCond .ne 7, 3) := dc_X8_isGood (4, .ifCond .ne 7, 3) (List.mem_of_getElem? (i := 2) rfl)
theorem d_X8_isGood_7 : decode prog_10_method_20_code 7 = .ok (.iconst 1, 1) := dc_X8_isGood (7, .iconst 1, 1) (List.mem_of_getElem? (i := 3) rfl)
theorem d_X8_isGood_8 : decode prog_10_method_20_code 8 = .ok (.goto 4, 3) := dc_X8_isGood (8, .goto 4, 3) (List.mem_of_getElem? (i := 4) rfl)
theorem d_X8_isGood_11 : decode prog_10_method_20_code 11 = .ok (.iconst 0, 1) := dc_X8_isGood (11, .iconst 0, 1) (List.mem_of_getElem? (i := 5) rfl)
theorem d_X8_isGood_12 : decode prog_10_method_20_code 12 = .ok (.ireturn, 1) := dc_X8_isGood (12, .ireturn, 1) (List.mem_of_getElem? (i := 6) rfl)
def cd_X8_emit : List (Nat × Instr × Nat) := [(0, .aload_n 0, 1), (1, .invokevirtual 217, 3), (4, .ifCond .ne 4, 3), (7, .return_, 1), (8, .aload_n 0, 1), (9, .getfield 88, 3), (12, .aload_n 0, 1), (13, .getfield 221, 3), (16, .iload_n 1, 1), (17, .iastore, 1), (18, .aload_n 0, 1), (19, .getfield 91, 3), (22, .aload_n 0, 1), (23, .getfield 221, 3), (26, .iload_n 2, 1), (27, .iastore, 1), (28, .aload_n 0, 1), (29, .dup, 1), (30, .getfield 221, 3), (33, .iconst 1, 1), (34, .iadd, 1), (35, .putfield 221, 3), (38, .return_, 1)]
theorem dc_X8_emit : ∀ q ∈ cd_X8_emit, decode prog_10_method_21_code q.1 = .ok (q.2.1, q.2.2) := by decide +kernel
theorem d_X8_emit_0 : decode prog_10_method_21_code 0 = .ok (.aload_n 0, 1) := dc_X8_emit (0, .aload_n 0, 1) (List.mem_of_getElem? (i := 0) rfl)
theorem d_X8_emit_1 : decode prog_10_method_21_code 1 = .ok (.invokevirtual 217, 3) := dc_X8_emit (1, .invokevirtual 217, 3) (List.mem_of_getElem? (i := 1) rfl)
theorem d_X8_emit_4 : decode prog_10_method_21_code 4 = .ok (.ifCond .ne 4, 3) := dc_X8_emit (4, .ifCond .ne 4, 3) (List.mem_of_getElem? (i := 2) rfl)
theorem d_X8_emit_7 : decode prog_10_method_21_code 7 = .ok (.return_, 1) := dc_X8_emit (7, .return_, 1) (List.mem_of_getElem? (i := 3) rfl)
theorem d_X8_emit_8 : decode prog_10_method_21_code 8 = .ok (.aload_n 0, 1) := dc_X8_emit (8, .aload_n 0, 1) (List.mem_of_getElem? (i := 4) rfl)
theorem d_X8_emit_9 : decode prog_10_method_21_code 9 = .ok (.getfield 88, 3) := dc_X8_emit (9, .getfield 88, 3) (List.mem_of_getElem? (i := 5) rfl)
theorem d_X8_emit_12 : decode prog_10_method_21_code 12 = .ok (.aload_n 0, 1) := dc_X8_emit (12, .aload_n 0, 1) (List.mem_of_getElem? (i := 6) rfl)
theorem d_X8_emit_13 : decode prog_10_method_21_code 13 = .ok (.getfield 221, 3) := dc_X8_emit (13, .getfield 221, 3) (List.mem_of_getElem? (i := 7) rfl)
theorem d_X8_emit_16 : decode prog_10_method_21_code 16 = .ok (.iload_n 1, 1) := dc_X8_emit (16, .iload_n 1, 1) (List.mem_of_getElem? (i := 8) rfl)
theorem d_X8_emit_17 : decode prog_10_method_21_code 17 = .ok (.iastore, 1) := dc_X8_emit (17, .iastore, 1) (List.mem_of_getElem? (i := 9) rfl)
theorem d_X8_emit_18 : decode prog_10_method_21_code 18 = .ok (.aload_n 0, 1) := dc_X8_emit (18, .aload_n 0, 1) (List.mem_of_getElem? (i := 10) rfl)
theorem d_X8_emit_19 : decode prog_10_method_21_code 19 = .ok (.getfield 91, 3) := dc_X8_emit (19, .getfield 91, 3) (List.mem_of_getElem? (i := 11) rfl)
theorem d_X8_emit_22 : decode prog_10_method_21_code 22 = .ok (.aload_n 0, 1) := dc_X8_emit (22, .aload_n 0, 1) (List.mem_of_getElem? (i := 12) rfl)
theorem d_X8_emit_23 : decode prog_10_method_21_code 23 = .ok (.getfield 221, 3) := dc_X8_emit (23, .getfield 221, 3) (List.mem_of_getElem? (i := 13) rfl)
theorem d_X8_emit_26 : decode prog_10_method_21_code 26 = .ok (.iload_n 2, 1) := dc_X8_emit (26, .iload_n 2, 1) (List.mem_of_getElem? (i := 14) rfl)
theorem d_X8_emit_27 : decode prog_10_method_21_code 27 = .ok (.iastore, 1) := dc_X8_emit (27, .iastore, 1) (List.mem_of_getElem? (i := 15) rfl)
theorem d_X8_emit_28 : decode prog_10_method_21_code 28 = .ok (.aload_n 0, 1) := dc_X8_emit (28, .aload_n 0, 1) (List.mem_of_getElem? (i := 16) rfl)
theorem d_X8_emit_29 : decode prog_10_method_21_code 29 = .ok (.dup, 1) := dc_X8_emit (29, .dup, 1) (List.mem_of_getElem? (i := 17) rfl)
theorem d_X8_emit_30 : decode prog_10_method_21_code 30 = .ok (.getfield 221, 3) := dc_X8_emit (30, .getfield 221, 3) (List.mem_of_getElem? (i := 18) rfl)
theorem d_X8_emit_33 : decode prog_10_method_21_code 33 = .ok (.iconst 1, 1) := dc_X8_emit (33, .iconst 1, 1) (List.mem_of_getElem? (i := 19) rfl)
theorem d_X8_emit_34 : decode prog_10_method_21_code 34 = .ok (.iadd, 1) := dc_X8_emit (34, .iadd, 1) (List.mem_of_getElem? (i := 20) rfl)
theorem d_X8_emit_35 : decode prog_10_method_21_code 35 = .ok (.putfield 221, 3) := dc_X8_emit (35, .putfield 221, 3) (List.mem_of_getElem? (i := 21) rfl)
theorem d_X8_emit_38 : decode prog_10_method_21_code 38 = .ok (.return_, 1) := dc_X8_emit (38, .return_, 1) (List.mem_of_getElem? (i := 22) rfl)
def cd_X8_top : List (Nat × Instr × Nat) := [(0, .aload_n 0, 1), (1, .getfield 224, 3), (4, .ifCond .le 17, 3), (7, .aload_n 0, 1), (8, .getfield 94, 3), (11, .aload_n 0, 1), (12, .getfield 224, 3), (15, .iconst 1, 1), (16, .isub, 1), (17, .iaload, 1), (18, .goto 4, 3), (21, .iconst 0, 1), (22, .ireturn, 1)]
theorem dc_X8_top : ∀ q ∈ cd_X8_top, decode prog_10_method_22_code q.1 = .ok (q.2.1, q.2.2) := by decide +kernel
theorem d_X8_top_0 : decode prog_10_method_22_code 0 = .ok (.aload_n 0, 1) := dc_X8_top (0, .aload_n 0, 1) (List.mem_of_getElem? (i := 0) rfl)
theorem d_X8_top_1 : decode prog_10_method_22_code 1 = .ok (.getfield 224, 3) := dc_X8_top (1, .getfield 224, 3) (List.mem_of_getElem? (i := 1) rfl)
theorem d_X8_top_4 : decode prog_10_method_22_code 4 = .ok (.ifCond .le 17, 3) := dc_X8_top (4, .ifCond .le 17, 3) (List.mem_of_getElem? (i := 2) rfl)
theorem d_X8_top_7 : decode prog_10_method_22_code 7 = .ok (.aload_n 0, 1) := dc_X8_top (7, .aload_n 0, 1) (List.mem_of_getElem? (i := 3) rfl)
theorem d_X8_top_8 : decode prog_10_method_22_code 8 = .ok (.getfield 94, 3) := dc_X8_top (8, .getfield 94, 3) (List.mem_of_getElem? (i := 4) rfl)
theorem d_X8_top_11 : decode prog_10_method_22_code 11 = .ok (.aload_n 0, 1) := dc_X8_top (11, .aload_n 0, 1) (List.mem_of_getElem? (i := 5) rfl)
theorem d_X8_top_12 : decode prog_10_method_22_code 12 = .ok (.getfield 224, 3) := dc_X8_top (12, .getfield 224, 3) (List.mem_of_getElem? (i := 6) rfl)
theorem d_X8_top_15 : decode prog_10_method_22_code 15 = .ok (.iconst 1, 1) := dc_X8_top (15, .iconst 1, 1) (List.mem_of_getElem? (i := 7) rfl)
theorem d_X8_top_16 : decode prog_10_method_22_code 16 = .ok (.isub, 1) := dc_X8_top (16, .isub, 1) (List.mem_of_getElem? (i := 8) rfl)
theorem d_X8_top_17 : decode prog_10_method_22_code 17 = .ok (.iaload, 1) := dc_X8_top (17, .iaload, 1) (List.mem_of_getElem? (i := 9) rfl)
theorem d_X8_top_18 : decode prog_10_method_22_code 18 = .ok (.goto 4, 3) := dc_X8_top (18, .goto 4, 3) (List.mem_of_getElem? (i := 10) rfl)
theorem d_X8_top_21 : decode prog_10_method_22_code 21 = .ok (.iconst 0, 1) := dc_X8_top (21, .iconst 0, 1) (List.mem_of_getElem? (i := 11) rfl)
theorem d_X8_top_22 : decode prog_10_method_22_code 22 = .ok (.ireturn, 1) := dc_X8_top (22, .ireturn, 1) (List.mem_of_getElem? (i := 12) rfl)
def cd_X8_puts : List (Nat × Instr × Nat) := [(0, .aload_n 0, 1), (1, .getfield 94, 3), (4, .aload_n 0, 1), (5, .getfield 224, 3), (8, .iload_n 1, 1), (9, .iastore, 1), (10, .aload_n 0, 1), (11, .dup, 1), (12, .getfield 224, 3), (15, .iconst 1, 1), (16, .iadd, 1), (17, .putfield 224, 3), (20, .aload_n 0, 1), (21, .dup, 1), (22, .getfield 208, 3), (25, .iconst 1, 1), (26, .iadd, 1), (27, .putfield 208, 3), (30, .return_, 1)]
theorem dc_X8_puts : ∀ q ∈ cd_X8_puts, decode prog_10_method_23_code q.1 = .ok (q.2.1, q.2.2) := by decide +kernel
theorem d_X8_puts_0 : decode prog_10_method_23_code 0 = .ok (.aload_n 0, 1) := dc_X8_puts (0, .aload_n 0, 1) (List.mem_of_getElem? (i := 0) rfl)
theorem d_X8_puts_1 : decode prog_10_method_23_code 1 = .ok (.getfield 94, 3) := dc_X8_puts (1, .getfield 94, 3) (List.mem_of_getElem? (i := 1) rfl)
theorem d_X8_puts_4 : decode prog_10_method_23_code 4 = .ok (.aload_n 0, 1) := dc_X8_puts (4, .aload_n 0, 1) (List.mem_of_getElem? (i := 2) rfl)
theorem d_X8_puts_5 : decode prog_10_method_23_code 5 = .ok (.getfield 224, 3) := dc_X8_puts (5, .getfield 224, 3) (List.mem_of_getElem? (i := 3) rfl)
theorem d_X8_puts_8 : decode prog_10_method_23_code 8 = .ok (.iload_n 1, 1) := dc_X8_puts (8, .iload_n 1, 1) (List.mem_of_getElem? (i := 4) rfl)
theorem d_X8_puts_9 : decode prog_10_method_23_code 9 = .ok (.iastore, 1) := dc_X8_puts (9, .iastore, 1) (List.mem_of_getElem? (i := 5) rfl)
theorem d_X8_puts_10 : decode prog_10_method_23_code 10 = .ok (.aload_n 0, 1) := dc_X8_puts (10, .aload_n 0, 1) (List.mem_of_getElem? (i := 6) rfl)
theorem d_X8_puts_11 : decode prog_10_method_23_code 11 = .ok (.dup, 1) := dc_X8_puts (11, .dup, 1) (List.mem_of_getElem? (i := 7) rfl)
theorem d_X8_puts_12 : decode prog_10_method_23_code 12 = .ok (.getfield 224, 3) := dc_X8_puts (12, .getfield 224, 3) (List.mem_of_getElem? (i := 8) rfl)
theorem d_X8_puts_15 : decode prog_10_method_23_code 15 = .ok (.iconst 1, 1) := dc_X8_puts (15, .iconst 1, 1) (List.mem_of_getElem? (i := 9) rfl)
theorem d_X8_puts_16 : decode prog_10_method_23_code 16 = .ok (.iadd, 1) := dc_X8_puts (16, .iadd, 1) (List.mem_of_getElem? (i := 10) rfl)
theorem d_X8_puts_17 : decode prog_10_method_23_code 17 = .ok (.putfield 224, 3) := dc_X8_puts (17, .putfield 224, 3) (List.mem_of_getElem? (i := 11) rfl)
theorem d_X8_puts_20 : decode prog_10_method_23_code 20 = .ok (.aload_n 0, 1) := dc_X8_puts (20, .aload_n 0, 1) (List.mem_of_getElem? (i := 12) rfl)
theorem d_X8_puts_21 : decode prog_10_method_23_code 21 = .ok (.dup, 1) := dc_X8_puts (21, .dup, 1) (List.mem_of_getElem? (i := 13) rfl)
theorem d_X8_puts_22 : decode prog_10_method_23_code 22 = .ok (.getfield 208, 3) := dc_X8_puts (22, .getfield 208, 3) (List.mem_of_getElem? (i := 14) rfl)
theorem d_X8_puts_25 : decode prog_10_method_23_code 25 = .ok (.iconst 1, 1) := dc_X8_puts (25, .iconst 1, 1) (List.mem_of_getElem? (i := 15) rfl)
theorem d_X8_puts_26 : decode prog_10_method_23_code 26 = .ok (.iadd, 1) := dc_X8_puts (26, .iadd, 1) (List.mem_of_getElem? (i := 16) rfl)
theorem d_X8_puts_27 : decode prog_10_method_23_code 27 = .ok (.putfield 208, 3) := dc_X8_puts (27, .putfield 208, 3) (List.mem_of_getElem? (i := 17) rfl)
theorem d_X8_puts_30 : decode prog_10_method_23_code 30 = .ok (.return_, 1) := dc_X8_puts (30, .return_, 1) (List.mem_of_getElem? (i := 18) rfl)
def cd_X8_opens : List (Nat × Instr × Nat) := [(0, .aload_n 0, 1), (1, .getfield 227, 3), (4, .bipush 6, 2), (6, .if_icmp .ne 12, 3), (9, .aload_n 0, 1), (10, .iconst 5, 1), (11, .aload_n 0, 1), (12, .getfield 208, 3), (15, .invokevirtual 230, 3), (18, .aload_n 0, 1), (19, .dup, 1), (20, .getfield 227, 3), (23, .iconst 1, 1), (24, .iadd, 1), (25, .putfield 227, 3), (28, .aload_n 0, 1), (29, .aload_n 0, 1), (30, .invokevirtual 234, 3), (33, .invokevirtual 238, 3), (36, .return_, 1)]
theorem dc_X8_opens : ∀ q ∈ cd_X8_opens, decode prog_10_method_24_code q.1 = .ok (q.2.1, q.2.2) := by decide +kernel
theorem d_X8_opens_0 : decode prog_10_method_24_code 0 = .ok (.aload_n 0, 1) := dc_X8_opens (0, .aload_n 0, 1) (List.mem_of_getElem? (i := 0) rfl)
theorem d_X8_opens_1 : decode prog_10_method_24_code 1 = .ok (.getfield 227, 3) := dc_X8_opens (1, .getfield 227, 3) (List.mem_of_getElem? (i := 1) rfl)
theorem d_X8_opens_4 : decode prog_10_method_24_code 4 = .ok (.bipush 6, 2) := dc_X8_opens (4, .bipush 6, 2) (List.mem_of_getElem? (i := 2) rfl)
theorem d_X8_opens_6 : decode prog_10_method_24_code 6 = .ok (.if_icmp .ne 12, 3) := dc_X8_opens (6, .if_icmp .ne 12, 3) (List.mem_of_getElem? (i := 3) rfl)
theorem d_X8_opens_9 : decode prog_10_method_24_code 9 = .ok (.aload_n 0, 1) := dc_X8_opens (9, .aload_n 0, 1) (List.mem_of_getElem? (i := 4) rfl)
theorem d_X8_opens_10 : decode prog_10_method_24_code 10 = .ok (.iconst 5, 1) := dc_X8_opens (10, .iconst 5, 1) (List.mem_of_getElem? (i := 5) rfl)
theorem d_X8_opens_11 : decode prog_10_method_24_code 11 = .ok (.aload_n 0, 1) := dc_X8_opens (11, .aload_n 0, 1) (List.mem_of_getElem? (i := 6) rfl)
theorem d_X8_opens_12 : decode prog_10_method_24_code 12 = .ok (.getfield 208, 3) := dc_X8_opens (12, .getfield 208, 3) (List.mem_of_getElem? (i := 7) rfl)
theorem d_X8_opens_15 : decode prog_10_method_24_code 15 = .ok (.invokevirtual 230, 3) := dc_X8_opens (15, .invokevirtual 230, 3) (List.mem_of_getElem? (i := 8) rfl)
theorem d_X8_opens_18 : decode prog_10_method_24_code 18 = .ok (.aload_n 0, 1) := dc_X8_opens (18, .aload_n 0, 1) (List.mem_of_getElem? (i := 9) rfl)
theorem d_X8_opens_19 : decode prog_10_method_24_code 19 = .ok (.dup, 1) := dc_X8_opens (19, .dup, 1) (List.mem_of_getElem? (i := 10) rfl)
theorem d_X8_opens_20 : decode prog_10_method_24_code 20 = .ok (.getfield 227, 3) := dc_X8_opens (20, .getfield 227, 3) (List.mem_of_getElem? (i := 11) rfl)
theorem d_X8_opens_23 : decode prog_10_method_24_code 23 = .ok (.iconst 1, 1) := dc_X8_opens (23, .iconst 1, 1) (List.mem_of_getElem? (i := 12) rfl)
theorem d_X8_opens_24 : decode prog_10_method_24_code 24 = .ok (.iadd, 1) := dc_X8_opens (24, .iadd, 1) (List.mem_of_getElem? (i := 13) rfl)
theorem d_X8_opens_25 : decode prog_10_method_24_code 25 = .ok (.putfield 227, 3) := dc_X8_opens (25, .putfield 227, 3) (List.mem_of_getElem? (i := 14) rfl)
theorem d_X8_opens_28 : decode prog_10_method_24_code 28 = .ok (.aload_n 0, 1) := dc_X8_opens (28, .aload_n 0, 1) (List.mem_of_getElem? (i := 15) rfl)
theorem d_X8_opens_29 : decode prog_10_method_24_code 29 = .ok (.aload_n 0, 1) := dc_X8_opens (29, .aload_n 0, 1) (List.mem_of_getElem? (i := 16) rfl)
theorem d_X8_opens_30 : decode prog_10_method_24_code 30 = .ok (.invokevirtual 234, 3) := dc_X8_opens (30, .invokevirtual 234, 3) (List.mem_of_getElem? (i := 17) rfl)
theorem d_X8_opens_33 : decode prog_10_method_24_code 33 = .ok (.invokevirtual 238, 3) := dc_X8_opens (33, .invokevirtual 238, 3) (List.mem_of_getElem? (i := 18) rfl)
theorem d_X8_opens_36 : decode prog_10_method_24_code 36 = .ok (.return_, 1) := dc_X8_opens (36, .return_, 1) (List.mem_of_getElem? (i := 19) rfl)
def cd_X8_seesDigit : List (Nat × Instr × Nat) := [(0, .aload_n 0, 1), (1, .invokevirtual 234, 3), (4, .i2l, 1), (5, .ldc2_w 241, 3), (8, .ldc2_w 243, 3), (11, .invokestatic 168, 3), (14, .ireturn, 1)]
theorem dc_X8_seesDigit : ∀ q ∈ cd_X8_seesDigit, decode prog_10_method_25_code q.1 = .ok (q.2.1, q.2.2) := by decide +kernel
theorem d_X8_seesDigit_0 : decode prog_10_method_25_code 0 = .ok (.aload_n 0, 1) := dc_X8_seesDigit (0, .aload_n 0, 1) (List.mem_of_getElem? (i := 0) rfl)
theorem d_X8_seesDigit_1 : decode prog_10_method_25_code 1 = .ok (.invokevirtual 234, 3) := dc_X8_seesDigit (1, .invokevirtual 234, 3) (List.mem_of_getElem? (i := 1) rfl)
theorem d_X8_seesDigit_4 : decode prog_10_method_25_code 4 = .ok (.i2l, 1) := dc_X8_seesDigit (4, .i2l, 1) (List.mem_of_getElem? (i := 2) rfl)
theorem d_X8_seesDigit_5 : decode prog_10_method_25_code 5 = .ok (.ldc2_w 241, 3) := dc_X8_seesDigit (5, .ldc2_w 241, 3) (List.mem_of_getElem? (i := 3) rfl)
theorem d_X8_seesDigit_8 : decode prog_10_method_25_code 8 = .ok (.ldc2_w 243, 3) := dc_X8_seesDigit (8, .ldc2_w 243, 3) (List.mem_of_getElem? (i := 4) rfl)
theorem d_X8_seesDigit_11 : decode prog_10_method_25_code 11 = .ok (.invokestatic 168, 3) := dc_X8_seesDigit (11, .invokestatic 168, 3) (List.mem_of_getElem? (i := 5) rfl)
theorem d_X8_seesDigit_14 : decode prog_10_method_25_code 14 = .ok (.ireturn, 1) := dc_X8_seesDigit (14, .ireturn, 1) (List.mem_of_getElem? (i := 6) rfl)
def cd_X8_reads : List (Nat × Instr × Nat) := [(0, .aload_n 0, 1), (1, .getfield 208, 3), (4, .istore_n 1, 1), (5, .iconst 0, 1), (6, .istore_n 2, 1), (7, .aload_n 0, 1), (8, .invokevirtual 217, 3), (11, .ifCond .eq 55, 3), (14, .aload_n 0, 1), (15, .invokevirtual 245, 3), (18, .ifCond .eq 48, 3), (21, .aload_n 0, 1), (22, .getfield 208, 3), (25, .iload_n 1, 1), (26, .iconst 5, 1), (27, .iadd, 1), (28, .if_icmp .ne 12, 3), (31, .aload_n 0, 1), (32, .iconst 2, 1), (33, .aload_n 0, 1), (34, .getfield 208, 3), (37, .invokevirtual 230, 3), (40, .bipush 10, 2), (42, .iload_n 2, 1), (43, .imul, 1), (44, .aload_n 0, 1), (45, .invokevirtual 234, 3), (48, .iadd, 1), (49, .bipush 48, 2), (51, .isub, 1), (52, .istore_n 2, 1), (53, .aload_n 0, 1), (54, .dup, 1), (55, .getfield 208, 3), (58, .iconst 1, 1), (59, .iadd, 1), (60, .putfield 208, 3), (63, .goto (-56), 3), (66, .iload_n 2, 1), (67, .ireturn, 1)]
theorem dc_X8_reads : ∀ q ∈ cd_X8_reads, decode prog_10_method_26_code q.1 = .ok (q.2.1, q.2.2) := by decide +kernel
theorem d_X8_reads_0 : decode prog_10_method_26_code 0 = .ok (.aload_n 0, 1) := dc_X8_reads (0, .aload_n 0, 1) (List.mem_of_getElem? (i := 0) rfl)
theorem d_X8_reads_1 : decode prog_10_method_26_code 1 = .ok (.getfield 208, 3) := dc_X8_reads (1, .getfield 208, 3) (List.mem_of_getElem? (i := 1) rfl)
theorem d_X8_reads_4 : decode prog_10_method_26_code 4 = .ok (.istore_n 1, 1) := dc_X8_reads (4, .istore_n 1, 1) (List.mem_of_getElem? (i := 2) rfl)
theorem d_X8_reads_5 : decode prog_10_method_26_code 5 = .ok (.iconst 0, 1) := dc_X8_reads (5, .iconst 0, 1) (List.mem_of_getElem? (i := 3) rfl)
theorem d_X8_reads_6 : decode prog_10_method_26_code 6 = .ok (.istore_n 2, 1) := dc_X8_reads (6, .istore_n 2, 1) (List.mem_of_getElem? (i := 4) rfl)
theorem d_X8_reads_7 : decode prog_10_method_26_code 7 = .ok (.aload_n 0, 1) := dc_X8_reads (7, .aload_n 0, 1) (List.mem_of_getElem? (i := 5) rfl)
theorem d_X8_reads_8 : decode prog_10_method_26_code 8 = .ok (.invokevirtual 217, 3) := dc_X8_reads (8, .invokevirtual 217, 3) (List.mem_of_getElem? (i := 6) rfl)
theorem d_X8_reads_11 : decode prog_10_method_26_code 11 = .ok (.ifCond .eq 55, 3) := dc_X8_reads (11, .ifCond .eq 55, 3) (List.mem_of_getElem? (i := 7) rfl)
theorem d_X8_reads_14 : decode prog_10_method_26_code 14 = .ok (.aload_n 0, 1) := dc_X8_reads (14, .aload_n 0, 1) (List.mem_of_getElem? (i := 8) rfl)
theorem d_X8_reads_15 : decode prog_10_method_26_code 15 = .ok (.invokevirtual 245, 3) := dc_X8_reads (15, .invokevirtual 245, 3) (List.mem_of_getElem? (i := 9) rfl)
theorem d_X8_reads_18 : decode prog_10_method_26_code 18 = .ok (.ifCond .eq 48, 3) := dc_X8_reads (18, .ifCond .eq 48, 3) (List.mem_of_getElem? (i := 10) rfl)
theorem d_X8_reads_21 : decode prog_10_method_26_code 21 = .ok (.aload_n 0, 1) := dc_X8_reads (21, .aload_n 0, 1) (List.mem_of_getElem? (i := 11) rfl)
theorem d_X8_reads_22 : decode prog_10_method_26_code 22 = .ok (.getfield 208, 3) := dc_X8_reads (22, .getfield 208, 3) (List.mem_of_getElem? (i := 12) rfl)
theorem d_X8_reads_25 : decode prog_10_method_26_code 25 = .ok (.iload_n 1, 1) := dc_X8_reads (25, .iload_n 1, 1) (List.mem_of_getElem? (i := 13) rfl)
theorem d_X8_reads_26 : decode prog_10_method_26_code 26 = .ok (.iconst 5, 1) := dc_X8_reads (26, .iconst 5, 1) (List.mem_of_getElem? (i := 14) rfl)
theorem d_X8_reads_27 : decode prog_10_method_26_code 27 = .ok (.iadd, 1) := dc_X8_reads (27, .iadd, 1) (List.mem_of_getElem? (i := 15) rfl)
theorem d_X8_reads_28 : decode prog_10_method_26_code 28 = .ok (.if_icmp .ne 12, 3) := dc_X8_reads (28, .if_icmp .ne 12, 3) (List.mem_of_getElem? (i := 16) rfl)
theorem d_X8_reads_31 : decode prog_10_method_26_code 31 = .ok (.aload_n 0, 1) := dc_X8_reads (31, .aload_n 0, 1) (List.mem_of_getElem? (i := 17) rfl)
theorem d_X8_reads_32 : decode prog_10_method_26_code 32 = .ok (.iconst 2, 1) := dc_X8_reads (32, .iconst 2, 1) (List.mem_of_getElem? (i := 18) rfl)
theorem d_X8_reads_33 : decode prog_10_method_26_code 33 = .ok (.aload_n 0, 1) := dc_X8_reads (33, .aload_n 0, 1) (List.mem_of_getElem? (i := 19) rfl)
theorem d_X8_reads_34 : decode prog_10_method_26_code 34 = .ok (.getfield 208, 3) := dc_X8_reads (34, .getfield 208, 3) (List.mem_of_getElem? (i := 20) rfl)
theorem d_X8_reads_37 : decode prog_10_method_26_code 37 = .ok (.invokevirtual 230, 3) := dc_X8_reads (37, .invokevirtual 230, 3) (List.mem_of_getElem? (i := 21) rfl)
theorem d_X8_reads_40 : decode prog_10_method_26_code 40 = .ok (.bipush 10, 2) := dc_X8_reads (40, .bipush 10, 2) (List.mem_of_getElem? (i := 22) rfl)
theorem d_X8_reads_42 : decode prog_10_method_26_code 42 = .ok (.iload_n 2, 1) := dc_X8_reads (42, .iload_n 2, 1) (List.mem_of_getElem? (i := 23) rfl)
theorem d_X8_reads_43 : decode prog_10_method_26_code 43 = .ok (.imul, 1) := dc_X8_reads (43, .imul, 1) (List.mem_of_getElem? (i := 24) rfl)
theorem d_X8_reads_44 : decode prog_10_method_26_code 44 = .ok (.aload_n 0, 1) := dc_X8_reads (44, .aload_n 0, 1) (List.mem_of_getElem? (i := 25) rfl)
theorem d_X8_reads_45 : decode prog_10_method_26_code 45 = .ok (.invokevirtual 234, 3) := dc_X8_reads (45, .invokevirtual 234, 3) (List.mem_of_getElem? (i := 26) rfl)
theorem d_X8_reads_48 : decode prog_10_method_26_code 48 = .ok (.iadd, 1) := dc_X8_reads (48, .iadd, 1) (List.mem_of_getElem? (i := 27) rfl)
theorem d_X8_reads_49 : decode prog_10_method_26_code 49 = .ok (.bipush 48, 2) := dc_X8_reads (49, .bipush 48, 2) (List.mem_of_getElem? (i := 28) rfl)
theorem d_X8_reads_51 : decode prog_10_method_26_code 51 = .ok (.isub, 1) := dc_X8_reads (51, .isub, 1) (List.mem_of_getElem? (i := 29) rfl)
theorem d_X8_reads_52 : decode prog_10_method_26_code 52 = .ok (.istore_n 2, 1) := dc_X8_reads (52, .istore_n 2, 1) (List.mem_of_getElem? (i := 30) rfl)
theorem d_X8_reads_53 : decode prog_10_method_26_code 53 = .ok (.aload_n 0, 1) := dc_X8_reads (53, .aload_n 0, 1) (List.mem_of_getElem? (i := 31) rfl)
theorem d_X8_reads_54 : decode prog_10_method_26_code 54 = .ok (.dup, 1) := dc_X8_reads (54, .dup, 1) (List.mem_of_getElem? (i := 32) rfl)
theorem d_X8_reads_55 : decode prog_10_method_26_code 55 = .ok (.getfield 208, 3) := dc_X8_reads (55, .getfield 208, 3) (List.mem_of_getElem? (i := 33) rfl)
theorem d_X8_reads_58 : decode prog_10_method_26_code 58 = .ok (.iconst 1, 1) := dc_X8_reads (58, .iconst 1, 1) (List.mem_of_getElem? (i := 34) rfl)
theorem d_X8_reads_59 : decode prog_10_method_26_code 59 = .ok (.iadd, 1) := dc_X8_reads (59, .iadd, 1) (List.mem_of_getElem? (i := 35) rfl)
theorem d_X8_reads_60 : decode prog_10_method_26_code 60 = .ok (.putfield 208, 3) := dc_X8_reads (60, .putfield 208, 3) (List.mem_of_getElem? (i := 36) rfl)
theorem d_X8_reads_63 : decode prog_10_method_26_code 63 = .ok (.goto (-56), 3) := dc_X8_reads (63, .goto (-56), 3) (List.mem_of_getElem? (i := 37) rfl)
theorem d_X8_reads_66 : decode prog_10_method_26_code 66 = .ok (.iload_n 2, 1) := dc_X8_reads (66, .iload_n 2, 1) (List.mem_of_getElem? (i := 38) rfl)
theorem d_X8_reads_67 : decode prog_10_method_26_code 67 = .ok (.ireturn, 1) := dc_X8_reads (67, .ireturn, 1) (List.mem_of_getElem? (i := 39) rfl)
def cd_X8_isTimes : List (Nat × Instr × Nat) := [(0, .iload_n 0, 1), (1, .bipush 42, 2), (3, .if_icmp .eq 15, 3), (6, .iload_n 0, 1), (7, .bipush 47, 2), (9, .if_icmp .eq 9, 3), (12, .iload_n 0, 1), (13, .bipush 37, 2), (15, .if_icmp .ne 7, 3), (18, .iconst 1, 1), (19, .goto 4, 3), (22, .iconst 0, 1), (23, .ireturn, 1)]
theorem dc_X8_isTimes : ∀ q ∈ cd_X8_isTimes, decode prog_10_method_27_code q.1 = .ok (q.2.1, q.2.2) := by decide +kernel
theorem d_X8_isTimes_0 : decode prog_10_method_27_code 0 = .ok (.iload_n 0, 1) := dc_X8_isTimes (0, .iload_n 0, 1) (List.mem_of_getElem? (i := 0) rfl)
theorem d_X8_isTimes_1 : decode prog_10_method_27_code 1 = .ok (.bipush 42, 2) := dc_X8_isTimes (1, .bipush 42, 2) (List.mem_of_getElem? (i := 1) rfl)
theorem d_X8_isTimes_3 : decode prog_10_method_27_code 3 = .ok (.if_icmp .eq 15, 3) := dc_X8_isTimes (3, .if_icmp .eq 15, 3) (List.mem_of_getElem? (i := 2) rfl)
theorem d_X8_isTimes_6 : decode prog_10_method_27_code 6 = .ok (.iload_n 0, 1) := dc_X8_isTimes (6, .iload_n 0, 1) (List.mem_of_getElem? (i := 3) rfl)
theorem d_X8_isTimes_7 : decode prog_10_method_27_code 7 = .ok (.bipush 47, 2) := dc_X8_isTimes (7, .bipush 47, 2) (List.mem_of_getElem? (i := 4) rfl)
theorem d_X8_isTimes_9 : decode prog_10_method_27_code 9 = .ok (.if_icmp .eq 9, 3) := dc_X8_isTimes (9, .if_icmp .eq 9, 3) (List.mem_of_getElem? (i := 5) rfl)
theorem d_X8_isTimes_12 : decode prog_10_method_27_code 12 = .ok (.iload_n 0, 1) := dc_X8_isTimes (12, .iload_n 0, 1) (List.mem_of_getElem? (i := 6) rfl)
theorem d_X8_isTimes_13 : decode prog_10_method_27_code 13 = .ok (.bipush 37, 2) := dc_X8_isTimes (13, .bipush 37, 2) (List.mem_of_getElem? (i := 7) rfl)
theorem d_X8_isTimes_15 : decode prog_10_method_27_code 15 = .ok (.if_icmp .ne 7, 3) := dc_X8_isTimes (15, .if_icmp .ne 7, 3) (List.mem_of_getElem? (i := 8) rfl)
theorem d_X8_isTimes_18 : decode prog_10_method_27_code 18 = .ok (.iconst 1, 1) := dc_X8_isTimes (18, .iconst 1, 1) (List.mem_of_getElem? (i := 9) rfl)
theorem d_X8_isTimes_19 : decode prog_10_method_27_code 19 = .ok (.goto 4, 3) := dc_X8_isTimes (19, .goto 4, 3) (List.mem_of_getElem? (i := 10) rfl)
theorem d_X8_isTimes_22 : decode prog_10_method_27_code 22 = .ok (.iconst 0, 1) := dc_X8_isTimes (22, .iconst 0, 1) (List.mem_of_getElem? (i := 11) rfl)
theorem d_X8_isTimes_23 : decode prog_10_method_27_code 23 = .ok (.ireturn, 1) := dc_X8_isTimes (23, .ireturn, 1) (List.mem_of_getElem? (i := 12) rfl)
def cd_X8_isPlus : List (Nat × Instr × Nat) := [(0, .iload_n 0, 1), (1, .bipush 43, 2), (3, .if_icmp .eq 9, 3), (6, .iload_n 0, 1), (7, .bipush 45, 2), (9, .if_icmp .ne 7, 3), (12, .iconst 1, 1), (13, .goto 4, 3), (16, .iconst 0, 1), (17, .ireturn, 1)]
theorem dc_X8_isPlus : ∀ q ∈ cd_X8_isPlus, decode prog_10_method_28_code q.1 = .ok (q.2.1, q.2.2) := by decide +kernel
theorem d_X8_isPlus_0 : decode prog_10_method_28_code 0 = .ok (.iload_n 0, 1) := dc_X8_isPlus (0, .iload_n 0, 1) (List.mem_of_getElem? (i := 0) rfl)
theorem d_X8_isPlus_1 : decode prog_10_method_28_code 1 = .ok (.bipush 43, 2) := dc_X8_isPlus (1, .bipush 43, 2) (List.mem_of_getElem? (i := 1) rfl)
theorem d_X8_isPlus_3 : decode prog_10_method_28_code 3 = .ok (.if_icmp .eq 9, 3) := dc_X8_isPlus (3, .if_icmp .eq 9, 3) (List.mem_of_getElem? (i := 2) rfl)
theorem d_X8_isPlus_6 : decode prog_10_method_28_code 6 = .ok (.iload_n 0, 1) := dc_X8_isPlus (6, .iload_n 0, 1) (List.mem_of_getElem? (i := 3) rfl)
theorem d_X8_isPlus_7 : decode prog_10_method_28_code 7 = .ok (.bipush 45, 2) := dc_X8_isPlus (7, .bipush 45, 2) (List.mem_of_getElem? (i := 4) rfl)
theorem d_X8_isPlus_9 : decode prog_10_method_28_code 9 = .ok (.if_icmp .ne 7, 3) := dc_X8_isPlus (9, .if_icmp .ne 7, 3) (List.mem_of_getElem? (i := 5) rfl)
theorem d_X8_isPlus_12 : decode prog_10_method_28_code 12 = .ok (.iconst 1, 1) := dc_X8_isPlus (12, .iconst 1, 1) (List.mem_of_getElem? (i := 6) rfl)
theorem d_X8_isPlus_13 : decode prog_10_method_28_code 13 = .ok (.goto 4, 3) := dc_X8_isPlus (13, .goto 4, 3) (List.mem_of_getElem? (i := 7) rfl)
theorem d_X8_isPlus_16 : decode prog_10_method_28_code 16 = .ok (.iconst 0, 1) := dc_X8_isPlus (16, .iconst 0, 1) (List.mem_of_getElem? (i := 8) rfl)
theorem d_X8_isPlus_17 : decode prog_10_method_28_code 17 = .ok (.ireturn, 1) := dc_X8_isPlus (17, .ireturn, 1) (List.mem_of_getElem? (i := 9) rfl)
def cd_X8_isSign : List (Nat × Instr × Nat) := [(0, .iload_n 0, 1), (1, .bipush 60, 2), (3, .if_icmp .eq 15, 3), (6, .iload_n 0, 1), (7, .bipush 62, 2), (9, .if_icmp .eq 9, 3), (12, .iload_n 0, 1), (13, .bipush 61, 2), (15, .if_icmp .ne 7, 3), (18, .iconst 1, 1), (19, .goto 4, 3), (22, .iconst 0, 1), (23, .ireturn, 1)]
theorem dc_X8_isSign : ∀ q ∈ cd_X8_isSign, decode prog_10_method_29_code q.1 = .ok (q.2.1, q.2.2) := by decide +kernel
theorem d_X8_isSign_0 : decode prog_10_method_29_code 0 = .ok (.iload_n 0, 1) := dc_X8_isSign (0, .iload_n 0, 1) (List.mem_of_getElem? (i := 0) rfl)
theorem d_X8_isSign_1 : decode prog_10_method_29_code 1 = .ok (.bipush 60, 2) := dc_X8_isSign (1, .bipush 60, 2) (List.mem_of_getElem? (i := 1) rfl)
theorem d_X8_isSign_3 : decode prog_10_method_29_code 3 = .ok (.if_icmp .eq 15, 3) := dc_X8_isSign (3, .if_icmp .eq 15, 3) (List.mem_of_getElem? (i := 2) rfl)
theorem d_X8_isSign_6 : decode prog_10_method_29_code 6 = .ok (.iload_n 0, 1) := dc_X8_isSign (6, .iload_n 0, 1) (List.mem_of_getElem? (i := 3) rfl)
theorem d_X8_isSign_7 : decode prog_10_method_29_code 7 = .ok (.bipush 62, 2) := dc_X8_isSign (7, .bipush 62, 2) (List.mem_of_getElem? (i := 4) rfl)
theorem d_X8_isSign_9 : decode prog_10_method_29_code 9 = .ok (.if_icmp .eq 9, 3) := dc_X8_isSign (9, .if_icmp .eq 9, 3) (List.mem_of_getElem? (i := 5) rfl)
theorem d_X8_isSign_12 : decode prog_10_method_29_code 12 = .ok (.iload_n 0, 1) := dc_X8_isSign (12, .iload_n 0, 1) (List.mem_of_getElem? (i := 6) rfl)
theorem d_X8_isSign_13 : decode prog_10_method_29_code 13 = .ok (.bipush 61, 2) := dc_X8_isSign (13, .bipush 61, 2) (List.mem_of_getElem? (i := 7) rfl)
theorem d_X8_isSign_15 : decode prog_10_method_29_code 15 = .ok (.if_icmp .ne 7, 3) := dc_X8_isSign (15, .if_icmp .ne 7, 3) (List.mem_of_getElem? (i := 8) rfl)
theorem d_X8_isSign_18 : decode prog_10_method_29_code 18 = .ok (.iconst 1, 1) := dc_X8_isSign (18, .iconst 1, 1) (List.mem_of_getElem? (i := 9) rfl)
theorem d_X8_isSign_19 : decode prog_10_method_29_code 19 = .ok (.goto 4, 3) := dc_X8_isSign (19, .goto 4, 3) (List.mem_of_getElem? (i := 10) rfl)
theorem d_X8_isSign_22 : decode prog_10_method_29_code 22 = .ok (.iconst 0, 1) := dc_X8_isSign (22, .iconst 0, 1) (List.mem_of_getElem? (i := 11) rfl)
theorem d_X8_isSign_23 : decode prog_10_method_29_code 23 = .ok (.ireturn, 1) := dc_X8_isSign (23, .ireturn, 1) (List.mem_of_getElem? (i := 12) rfl)
def cd_X8_isOfYard : List (Nat × Instr × Nat) := [(0, .iload_n 0, 1), (1, .bipush 121, 2), (3, .if_icmp .eq 33, 3), (6, .iload_n 0, 1), (7, .bipush 100, 2), (9, .if_icmp .eq 27, 3), (12, .iload_n 0, 1), (13, .bipush 119, 2), (15, .if_icmp .eq 21, 3), (18, .iload_n 0, 1), (19, .bipush 99, 2), (21, .if_icmp .eq 15, 3), (24, .iload_n 0, 1), (25, .bipush 114, 2), (27, .if_icmp .eq 9, 3), (30, .iload_n 0, 1), (31, .bipush 116, 2), (33, .if_icmp .ne 7, 3), (36, .iconst 1, 1), (37, .goto 4, 3), (40, .iconst 0, 1), (41, .ireturn, 1)]
theorem dc_X8_isOfYard : ∀ q ∈ cd_X8_isOfYard, decode prog_10_method_30_code q.1 = .ok (q.2.1, q.2.2) := by decide +kernel
theorem d_X8_isOfYard_0 : decode prog_10_method_30_code 0 = .ok (.iload_n 0, 1) := dc_X8_isOfYard (0, .iload_n 0, 1) (List.mem_of_getElem? (i := 0) rfl)
theorem d_X8_isOfYard_1 : decode prog_10_method_30_code 1 = .ok (.bipush 121, 2) := dc_X8_isOfYard (1, .bipush 121, 2) (List.mem_of_getElem? (i := 1) rfl)
theorem d_X8_isOfYard_3 : decode prog_10_method_30_code 3 = .ok (.if_icmp .eq 33, 3) := dc_X8_isOfYard (3, .if_icmp .eq 33, 3) (List.mem_of_getElem? (i := 2) rfl)
theorem d_X8_isOfYard_6 : decode prog_10_method_30_code 6 = .ok (.iload_n 0, 1) := dc_X8_isOfYard (6, .iload_n 0, 1) (List.mem_of_getElem? (i := 3) rfl)
theorem d_X8_isOfYard_7 : decode prog_10_method_30_code 7 = .ok (.bipush 100, 2) := dc_X8_isOfYard (7, .bipush 100, 2) (List.mem_of_getElem? (i := 4) rfl)
theorem d_X8_isOfYard_9 : decode prog_10_method_30_code 9 = .ok (.if_icmp .eq 27, 3) := dc_X8_isOfYard (9, .if_icmp .eq 27, 3) (List.mem_of_getElem? (i := 5) rfl)
theorem d_X8_isOfYard_12 : decode prog_10_method_30_code 12 = .ok (.iload_n 0, 1) := dc_X8_isOfYard (12, .iload_n 0, 1) (List.mem_of_getElem? (i := 6) rfl)
theorem d_X8_isOfYard_13 : decode prog_10_method_30_code 13 = .ok (.bipush 119, 2) := dc_X8_isOfYard (13, .bipush 119, 2) (List.mem_of_getElem? (i := 7) rfl)
theorem d_X8_isOfYard_15 : decode prog_10_method_30_code 15 = .ok (.if_icmp .eq 21, 3) := dc_X8_isOfYard (15, .if_icmp .eq 21, 3) (List.mem_of_getElem? (i := 8) rfl)
theorem d_X8_isOfYard_18 : decode prog_10_method_30_code 18 = .ok (.iload_n 0, 1) := dc_X8_isOfYard (18, .iload_n 0, 1) (List.mem_of_getElem? (i := 9) rfl)
theorem d_X8_isOfYard_19 : decode prog_10_method_30_code 19 = .ok (.bipush 99, 2) := dc_X8_isOfYard (19, .bipush 99, 2) (List.mem_of_getElem? (i := 10) rfl)
theorem d_X8_isOfYard_21 : decode prog_10_method_30_code 21 = .ok (.if_icmp .eq 15, 3) := dc_X8_isOfYard (21, .if_icmp .eq 15, 3) (List.mem_of_getElem? (i := 11) rfl)
theorem d_X8_isOfYard_24 : decode prog_10_method_30_code 24 = .ok (.iload_n 0, 1) := dc_X8_isOfYard (24, .iload_n 0, 1) (List.mem_of_getElem? (i := 12) rfl)
theorem d_X8_isOfYard_25 : decode prog_10_method_30_code 25 = .ok (.bipush 114, 2) := dc_X8_isOfYard (25, .bipush 114, 2) (List.mem_of_getElem? (i := 13) rfl)
theorem d_X8_isOfYard_27 : decode prog_10_method_30_code 27 = .ok (.if_icmp .eq 9, 3) := dc_X8_isOfYard (27, .if_icmp .eq 9, 3) (List.mem_of_getElem? (i := 14) rfl)
theorem d_X8_isOfYard_30 : decode prog_10_method_30_code 30 = .ok (.iload_n 0, 1) := dc_X8_isOfYard (30, .iload_n 0, 1) (List.mem_of_getElem? (i := 15) rfl)
theorem d_X8_isOfYard_31 : decode prog_10_method_30_code 31 = .ok (.bipush 116, 2) := dc_X8_isOfYard (31, .bipush 116, 2) (List.mem_of_getElem? (i := 16) rfl)
theorem d_X8_isOfYard_33 : decode prog_10_method_30_code 33 = .ok (.if_icmp .ne 7, 3) := dc_X8_isOfYard (33, .if_icmp .ne 7, 3) (List.mem_of_getElem? (i := 17) rfl)
theorem d_X8_isOfYard_36 : decode prog_10_method_30_code 36 = .ok (.iconst 1, 1) := dc_X8_isOfYard (36, .iconst 1, 1) (List.mem_of_getElem? (i := 18) rfl)
theorem d_X8_isOfYard_37 : decode prog_10_method_30_code 37 = .ok (.goto 4, 3) := dc_X8_isOfYard (37, .goto 4, 3) (List.mem_of_getElem? (i := 19) rfl)
theorem d_X8_isOfYard_40 : decode prog_10_method_30_code 40 = .ok (.iconst 0, 1) := dc_X8_isOfYard (40, .iconst 0, 1) (List.mem_of_getElem? (i := 20) rfl)
theorem d_X8_isOfYard_41 : decode prog_10_method_30_code 41 = .ok (.ireturn, 1) := dc_X8_isOfYard (41, .ireturn, 1) (List.mem_of_getElem? (i := 21) rfl)
def cd_X8_isValue : List (Nat × Instr × Nat) := [(0, .iload_n 0, 1), (1, .invokestatic 248, 3), (4, .ifCond .ne 45, 3), (7, .iload_n 0, 1), (8, .bipush 112, 2), (10, .if_icmp .eq 39, 3), (13, .iload_n 0, 1), (14, .bipush 103, 2), (16, .if_icmp .eq 33, 3), (19, .iload_n 0, 1), (20, .bipush 105, 2), (22, .if_icmp .eq 27, 3), (25, .iload_n 0, 1), (26, .bipush 122, 2), (28, .if_icmp .eq 21, 3), (31, .iload_n 0, 1), (32, .bipush 110, 2), (34, .if_icmp .eq 15, 3), (37, .iload_n 0, 1), (38, .bipush 98, 2), (40, .if_icmp .eq 9, 3), (43, .iload_n 0, 1), (44, .bipush 113, 2), (46, .if_icmp .ne 7, 3), (49, .iconst 1, 1), (50, .goto 4, 3), (53, .iconst 0, 1), (54, .ireturn, 1)]
theorem dc_X8_isValue : ∀ q ∈ cd_X8_isValue, decode prog_10_method_31_code q.1 = .ok (q.2.1, q.2.2) := by decide +kernel
theorem d_X8_isValue_0 : decode prog_10_method_31_code 0 = .ok (.iload_n 0, 1) := dc_X8_isValue (0, .iload_n 0, 1) (List.mem_of_getElem? (i := 0) rfl)
theorem d_X8_isValue_1 : decode prog_10_method_31_code 1 = .ok (.invokestatic 248, 3) := dc_X8_isValue (1, .invokestatic 248, 3) (List.mem_of_getElem? (i := 1) rfl)
theorem d_X8_isValue_4 : decode prog_10_method_31_code 4 = .ok (.ifCond .ne 45, 3) := dc_X8_isValue (4, .ifCond .ne 45, 3) (List.mem_of_getElem? (i := 2) rfl)
theorem d_X8_isValue_7 : decode prog_10_method_31_code 7 = .ok (.iload_n 0, 1) := dc_X8_isValue (7, .iload_n 0, 1) (List.mem_of_getElem? (i := 3) rfl)
theorem d_X8_isValue_8 : decode prog_10_method_31_code 8 = .ok (.bipush 112, 2) := dc_X8_isValue (8, .bipush 112, 2) (List.mem_of_getElem? (i := 4) rfl)
theorem d_X8_isValue_10 : decode prog_10_method_31_code 10 = .ok (.if_icmp .eq 39, 3) := dc_X8_isValue (10, .if_icmp .eq 39, 3) (List.mem_of_getElem? (i := 5) rfl)
theorem d_X8_isValue_13 : decode prog_10_method_31_code 13 = .ok (.iload_n 0, 1) := dc_X8_isValue (13, .iload_n 0, 1) (List.mem_of_getElem? (i := 6) rfl)
theorem d_X8_isValue_14 : decode prog_10_method_31_code 14 = .ok (.bipush 103, 2) := dc_X8_isValue (14, .bipush 103, 2) (List.mem_of_getElem? (i := 7) rfl)
theorem d_X8_isValue_16 : decode prog_10_method_31_code 16 = .ok (.if_icmp .eq 33, 3) := dc_X8_isValue (16, .if_icmp .eq 33, 3) (List.mem_of_getElem? (i := 8) rfl)
theorem d_X8_isValue_19 : decode prog_10_method_31_code 19 = .ok (.iload_n 0, 1) := dc_X8_isValue (19, .iload_n 0, 1) (List.mem_of_getElem? (i := 9) rfl)
theorem d_X8_isValue_20 : decode prog_10_method_31_code 20 = .ok (.bipush 105, 2) := dc_X8_isValue (20, .bipush 105, 2) (List.mem_of_getElem? (i := 10) rfl)
theorem d_X8_isValue_22 : decode prog_10_method_31_code 22 = .ok (.if_icmp .eq 27, 3) := dc_X8_isValue (22, .if_icmp .eq 27, 3) (List.mem_of_getElem? (i := 11) rfl)
theorem d_X8_isValue_25 : decode prog_10_method_31_code 25 = .ok (.iload_n 0, 1) := dc_X8_isValue (25, .iload_n 0, 1) (List.mem_of_getElem? (i := 12) rfl)
theorem d_X8_isValue_26 : decode prog_10_method_31_code 26 = .ok (.bipush 122, 2) := dc_X8_isValue (26, .bipush 122, 2) (List.mem_of_getElem? (i := 13) rfl)
theorem d_X8_isValue_28 : decode prog_10_method_31_code 28 = .ok (.if_icmp .eq 21, 3) := dc_X8_isValue (28, .if_icmp .eq 21, 3) (List.mem_of_getElem? (i := 14) rfl)
theorem d_X8_isValue_31 : decode prog_10_method_31_code 31 = .ok (.iload_n 0, 1) := dc_X8_isValue (31, .iload_n 0, 1) (List.mem_of_getElem? (i := 15) rfl)
theorem d_X8_isValue_32 : decode prog_10_method_31_code 32 = .ok (.bipush 110, 2) := dc_X8_isValue (32, .bipush 110, 2) (List.mem_of_getElem? (i := 16) rfl)
theorem d_X8_isValue_34 : decode prog_10_method_31_code 34 = .ok (.if_icmp .eq 15, 3) := dc_X8_isValue (34, .if_icmp .eq 15, 3) (List.mem_of_getElem? (i := 17) rfl)
theorem d_X8_isValue_37 : decode prog_10_method_31_code 37 = .ok (.iload_n 0, 1) := dc_X8_isValue (37, .iload_n 0, 1) (List.mem_of_getElem? (i := 18) rfl)
theorem d_X8_isValue_38 : decode prog_10_method_31_code 38 = .ok (.bipush 98, 2) := dc_X8_isValue (38, .bipush 98, 2) (List.mem_of_getElem? (i := 19) rfl)
theorem d_X8_isValue_40 : decode prog_10_method_31_code 40 = .ok (.if_icmp .eq 9, 3) := dc_X8_isValue (40, .if_icmp .eq 9, 3) (List.mem_of_getElem? (i := 20) rfl)
theorem d_X8_isValue_43 : decode prog_10_method_31_code 43 = .ok (.iload_n 0, 1) := dc_X8_isValue (43, .iload_n 0, 1) (List.mem_of_getElem? (i := 21) rfl)
theorem d_X8_isValue_44 : decode prog_10_method_31_code 44 = .ok (.bipush 113, 2) := dc_X8_isValue (44, .bipush 113, 2) (List.mem_of_getElem? (i := 22) rfl)
theorem d_X8_isValue_46 : decode prog_10_method_31_code 46 = .ok (.if_icmp .ne 7, 3) := dc_X8_isValue (46, .if_icmp .ne 7, 3) (List.mem_of_getElem? (i := 23) rfl)
theorem d_X8_isValue_49 : decode prog_10_method_31_code 49 = .ok (.iconst 1, 1) := dc_X8_isValue (49, .iconst 1, 1) (List.mem_of_getElem? (i := 24) rfl)
theorem d_X8_isValue_50 : decode prog_10_method_31_code 50 = .ok (.goto 4, 3) := dc_X8_isValue (50, .goto 4, 3) (List.mem_of_getElem? (i := 25) rfl)
theorem d_X8_isValue_53 : decode prog_10_method_31_code 53 = .ok (.iconst 0, 1) := dc_X8_isValue (53, .iconst 0, 1) (List.mem_of_getElem? (i := 26) rfl)
theorem d_X8_isValue_54 : decode prog_10_method_31_code 54 = .ok (.ireturn, 1) := dc_X8_isValue (54, .ireturn, 1) (List.mem_of_getElem? (i := 27) rfl)
def cd_X8_sums : List (Nat × Instr × Nat) := [(0, .aload_n 0, 1), (1, .invokevirtual 251, 3), (4, .invokestatic 254, 3), (7, .ifCond .ne 17, 3), (10, .iload_n 1, 1), (11, .ifCond .eq 35, 3), (14, .aload_n 0, 1), (15, .invokevirtual 251, 3), (18, .invokestatic 257, 3), (21, .ifCond .eq 25, 3), (24, .aload_n 0, 1), (25, .aload_n 0, 1), (26, .invokevirtual 251, 3), (29, .iconst 0, 1), (30, .invokevirtual 260, 3), (33, .aload_n 0, 1), (34, .dup, 1), (35, .getfield 224, 3), (38, .iconst 1, 1), (39, .isub, 1), (40, .putfield 224, 3), (43, .goto (-43), 3), (46, .return_, 1)]
theorem dc_X8_sums : ∀ q ∈ cd_X8_sums, decode prog_10_method_32_code q.1 = .ok (q.2.1, q.2.2) := by decide +kernel
theorem d_X8_sums_0 : decode prog_10_method_32_code 0 = .ok (.aload_n 0, 1) := dc_X8_sums (0, .aload_n 0, 1) (List.mem_of_getElem? (i := 0) rfl)
theorem d_X8_sums_1 : decode prog_10_method_32_code 1 = .ok (.invokevirtual 251, 3) := dc_X8_sums (1, .invokevirtual 251, 3) (List.mem_of_getElem? (i := 1) rfl)
theorem d_X8_sums_4 : decode prog_10_method_32_code 4 = .ok (.invokestatic 254, 3) := dc_X8_sums (4, .invokestatic 254, 3) (List.mem_of_getElem? (i := 2) rfl)
theorem d_X8_sums_7 : decode prog_10_method_32_code 7 = .ok (.ifCond .ne 17, 3) := dc_X8_sums (7, .ifCond .ne 17, 3) (List.mem_of_getElem? (i := 3) rfl)
theorem d_X8_sums_10 : decode prog_10_method_32_code 10 = .ok (.iload_n 1, 1) := dc_X8_sums (10, .iload_n 1, 1) (List.mem_of_getElem? (i := 4) rfl)
theorem d_X8_sums_11 : decode prog_10_method_32_code 11 = .ok (.ifCond .eq 35, 3) := dc_X8_sums (11, .ifCond .eq 35, 3) (List.mem_of_getElem? (i := 5) rfl)
theorem d_X8_sums_14 : decode prog_10_method_32_code 14 = .ok (.aload_n 0, 1) := dc_X8_sums (14, .aload_n 0, 1) (List.mem_of_getElem? (i := 6) rfl)
theorem d_X8_sums_15 : decode prog_10_method_32_code 15 = .ok (.invokevirtual 251, 3) := dc_X8_sums (15, .invokevirtual 251, 3) (List.mem_of_getElem? (i := 7) rfl)
theorem d_X8_sums_18 : decode prog_10_method_32_code 18 = .ok (.invokestatic 257, 3) := dc_X8_sums (18, .invokestatic 257, 3) (List.mem_of_getElem? (i := 8) rfl)
theorem d_X8_sums_21 : decode prog_10_method_32_code 21 = .ok (.ifCond .eq 25, 3) := dc_X8_sums (21, .ifCond .eq 25, 3) (List.mem_of_getElem? (i := 9) rfl)
theorem d_X8_sums_24 : decode prog_10_method_32_code 24 = .ok (.aload_n 0, 1) := dc_X8_sums (24, .aload_n 0, 1) (List.mem_of_getElem? (i := 10) rfl)
theorem d_X8_sums_25 : decode prog_10_method_32_code 25 = .ok (.aload_n 0, 1) := dc_X8_sums (25, .aload_n 0, 1) (List.mem_of_getElem? (i := 11) rfl)
theorem d_X8_sums_26 : decode prog_10_method_32_code 26 = .ok (.invokevirtual 251, 3) := dc_X8_sums (26, .invokevirtual 251, 3) (List.mem_of_getElem? (i := 12) rfl)
theorem d_X8_sums_29 : decode prog_10_method_32_code 29 = .ok (.iconst 0, 1) := dc_X8_sums (29, .iconst 0, 1) (List.mem_of_getElem? (i := 13) rfl)
theorem d_X8_sums_30 : decode prog_10_method_32_code 30 = .ok (.invokevirtual 260, 3) := dc_X8_sums (30, .invokevirtual 260, 3) (List.mem_of_getElem? (i := 14) rfl)
theorem d_X8_sums_33 : decode prog_10_method_32_code 33 = .ok (.aload_n 0, 1) := dc_X8_sums (33, .aload_n 0, 1) (List.mem_of_getElem? (i := 15) rfl)
theorem d_X8_sums_34 : decode prog_10_method_32_code 34 = .ok (.dup, 1) := dc_X8_sums (34, .dup, 1) (List.mem_of_getElem? (i := 16) rfl)
theorem d_X8_sums_35 : decode prog_10_method_32_code 35 = .ok (.getfield 224, 3) := dc_X8_sums (35, .getfield 224, 3) (List.mem_of_getElem? (i := 17) rfl)
theorem d_X8_sums_38 : decode prog_10_method_32_code 38 = .ok (.iconst 1, 1) := dc_X8_sums (38, .iconst 1, 1) (List.mem_of_getElem? (i := 18) rfl)
theorem d_X8_sums_39 : decode prog_10_method_32_code 39 = .ok (.isub, 1) := dc_X8_sums (39, .isub, 1) (List.mem_of_getElem? (i := 19) rfl)
theorem d_X8_sums_40 : decode prog_10_method_32_code 40 = .ok (.putfield 224, 3) := dc_X8_sums (40, .putfield 224, 3) (List.mem_of_getElem? (i := 20) rfl)
theorem d_X8_sums_43 : decode prog_10_method_32_code 43 = .ok (.goto (-43), 3) := dc_X8_sums (43, .goto (-43), 3) (List.mem_of_getElem? (i := 21) rfl)
theorem d_X8_sums_46 : decode prog_10_method_32_code 46 = .ok (.return_, 1) := dc_X8_sums (46, .return_, 1) (List.mem_of_getElem? (i := 22) rfl)
def cd_X8_joins : List (Nat × Instr × Nat) := [(0, .aload_n 0, 1), (1, .invokevirtual 251, 3), (4, .bipush 38, 2), (6, .if_icmp .eq 16, 3), (9, .iload_n 1, 1), (10, .ifCond .eq 34, 3), (13, .aload_n 0, 1), (14, .invokevirtual 251, 3), (17, .bipush 124, 2), (19, .if_icmp .ne 25, 3), (22, .aload_n 0, 1), (23, .aload_n 0, 1), (24, .invokevirtual 251, 3), (27, .iconst 0, 1), (28, .invokevirtual 260, 3), (31, .aload_n 0, 1), (32, .dup, 1), (33, .getfield 224, 3), (36, .iconst 1, 1), (37, .isub, 1), (38, .putfield 224, 3), (41, .goto (-41), 3), (44, .return_, 1)]
theorem dc_X8_joins : ∀ q ∈ cd_X8_joins, decode prog_10_method_33_code q.1 = .ok (q.2.1, q.2.2) := by decide +kernel
theorem d_X8_joins_0 : decode prog_10_method_33_code 0 = .ok (.aload_n 0, 1) := dc_X8_joins (0, .aload_n 0, 1) (List.mem_of_getElem? (i := 0) rfl)
theorem d_X8_joins_1 : decode prog_10_method_33_code 1 = .ok (.invokevirtual 251, 3) := dc_X8_joins (1, .invokevirtual 251, 3) (List.mem_of_getElem? (i := 1) rfl)
theorem d_X8_joins_4 : decode prog_10_method_33_code 4 = .ok (.bipush 38, 2) := dc_X8_joins (4, .bipush 38, 2) (List.mem_of_getElem? (i := 2) rfl)
theorem d_X8_joins_6 : decode prog_10_method_33_code 6 = .ok (.if_icmp .eq 16, 3) := dc_X8_joins (6, .if_icmp .eq 16, 3) (List.mem_of_getElem? (i := 3) rfl)
theorem d_X8_joins_9 : decode prog_10_method_33_code 9 = .ok (.iload_n 1, 1) := dc_X8_joins (9, .iload_n 1, 1) (List.mem_of_getElem? (i := 4) rfl)
theorem d_X8_joins_10 : decode prog_10_method_33_code 10 = .ok (.ifCond .eq 34, 3) := dc_X8_joins (10, .ifCond .eq 34, 3) (List.mem_of_getElem? (i := 5) rfl)
theorem d_X8_joins_13 : decode prog_10_method_33_code 13 = .ok (.aload_n 0, 1) := dc_X8_joins (13, .aload_n 0, 1) (List.mem_of_getElem? (i := 6) rfl)
theorem d_X8_joins_14 : decode prog_10_method_33_code 14 = .ok (.invokevirtual 251, 3) := dc_X8_joins (14, .invokevirtual 251, 3) (List.mem_of_getElem? (i := 7) rfl)
theorem d_X8_joins_17 : decode prog_10_method_33_code 17 = .ok (.bipush 124, 2) := dc_X8_joins (17, .bipush 124, 2) (List.mem_of_getElem? (i := 8) rfl)
theorem d_X8_joins_19 : decode prog_10_method_33_code 19 = .ok (.if_icmp .ne 25, 3) := dc_X8_joins (19, .if_icmp .ne 25, 3) (List.mem_of_getElem? (i := 9) rfl)
theorem d_X8_joins_22 : decode prog_10_method_33_code 22 = .ok (.aload_n 0, 1) := dc_X8_joins (22, .aload_n 0, 1) (List.mem_of_getElem? (i := 10) rfl)
theorem d_X8_joins_23 : decode prog_10_method_33_code 23 = .ok (.aload_n 0, 1) := dc_X8_joins (23, .aload_n 0, 1) (List.mem_of_getElem? (i := 11) rfl)
theorem d_X8_joins_24 : decode prog_10_method_33_code 24 = .ok (.invokevirtual 251, 3) := dc_X8_joins (24, .invokevirtual 251, 3) (List.mem_of_getElem? (i := 12) rfl)
theorem d_X8_joins_27 : decode prog_10_method_33_code 27 = .ok (.iconst 0, 1) := dc_X8_joins (27, .iconst 0, 1) (List.mem_of_getElem? (i := 13) rfl)
theorem d_X8_joins_28 : decode prog_10_method_33_code 28 = .ok (.invokevirtual 260, 3) := dc_X8_joins (28, .invokevirtual 260, 3) (List.mem_of_getElem? (i := 14) rfl)
theorem d_X8_joins_31 : decode prog_10_method_33_code 31 = .ok (.aload_n 0, 1) := dc_X8_joins (31, .aload_n 0, 1) (List.mem_of_getElem? (i := 15) rfl)
theorem d_X8_joins_32 : decode prog_10_method_33_code 32 = .ok (.dup, 1) := dc_X8_joins (32, .dup, 1) (List.mem_of_getElem? (i := 16) rfl)
theorem d_X8_joins_33 : decode prog_10_method_33_code 33 = .ok (.getfield 224, 3) := dc_X8_joins (33, .getfield 224, 3) (List.mem_of_getElem? (i := 17) rfl)
theorem d_X8_joins_36 : decode prog_10_method_33_code 36 = .ok (.iconst 1, 1) := dc_X8_joins (36, .iconst 1, 1) (List.mem_of_getElem? (i := 18) rfl)
theorem d_X8_joins_37 : decode prog_10_method_33_code 37 = .ok (.isub, 1) := dc_X8_joins (37, .isub, 1) (List.mem_of_getElem? (i := 19) rfl)
theorem d_X8_joins_38 : decode prog_10_method_33_code 38 = .ok (.putfield 224, 3) := dc_X8_joins (38, .putfield 224, 3) (List.mem_of_getElem? (i := 20) rfl)
theorem d_X8_joins_41 : decode prog_10_method_33_code 41 = .ok (.goto (-41), 3) := dc_X8_joins (41, .goto (-41), 3) (List.mem_of_getElem? (i := 21) rfl)
theorem d_X8_joins_44 : decode prog_10_method_33_code 44 = .ok (.return_, 1) := dc_X8_joins (44, .return_, 1) (List.mem_of_getElem? (i := 22) rfl)
def cd_X8_ends : List (Nat × Instr × Nat) := [(0, .aload_n 0, 1), (1, .invokevirtual 251, 3), (4, .bipush 33, 2), (6, .if_icmp .ne 32, 3), (9, .aload_n 0, 1), (10, .iconst 2, 1), (11, .iconst 0, 1), (12, .invokevirtual 260, 3), (15, .aload_n 0, 1), (16, .dup, 1), (17, .getfield 224, 3), (20, .iconst 1, 1), (21, .isub, 1), (22, .putfield 224, 3), (25, .aload_n 0, 1), (26, .dup, 1), (27, .getfield 227, 3), (30, .iconst 1, 1), (31, .isub, 1), (32, .putfield 227, 3), (35, .goto (-35), 3), (38, .return_, 1)]
theorem dc_X8_ends : ∀ q ∈ cd_X8_ends, decode prog_10_method_34_code q.1 = .ok (q.2.1, q.2.2) := by decide +kernel
theorem d_X8_ends_0 : decode prog_10_method_34_code 0 = .ok (.aload_n 0, 1) := dc_X8_ends (0, .aload_n 0, 1) (List.mem_of_getElem? (i := 0) rfl)
theorem d_X8_ends_1 : decode prog_10_method_34_code 1 = .ok (.invokevirtual 251, 3) := dc_X8_ends (1, .invokevirtual 251, 3) (List.mem_of_getElem? (i := 1) rfl)
theorem d_X8_ends_4 : decode prog_10_method_34_code 4 = .ok (.bipush 33, 2) := dc_X8_ends (4, .bipush 33, 2) (List.mem_of_getElem? (i := 2) rfl)
theorem d_X8_ends_6 : decode prog_10_method_34_code 6 = .ok (.if_icmp .ne 32, 3) := dc_X8_ends (6, .if_icmp .ne 32, 3) (List.mem_of_getElem? (i := 3) rfl)
theorem d_X8_ends_9 : decode prog_10_method_34_code 9 = .ok (.aload_n 0, 1) := dc_X8_ends (9, .aload_n 0, 1) (List.mem_of_getElem? (i := 4) rfl)
theorem d_X8_ends_10 : decode prog_10_method_34_code 10 = .ok (.iconst 2, 1) := dc_X8_ends (10, .iconst 2, 1) (List.mem_of_getElem? (i := 5) rfl)
theorem d_X8_ends_11 : decode prog_10_method_34_code 11 = .ok (.iconst 0, 1) := dc_X8_ends (11, .iconst 0, 1) (List.mem_of_getElem? (i := 6) rfl)
theorem d_X8_ends_12 : decode prog_10_method_34_code 12 = .ok (.invokevirtual 260, 3) := dc_X8_ends (12, .invokevirtual 260, 3) (List.mem_of_getElem? (i := 7) rfl)
theorem d_X8_ends_15 : decode prog_10_method_34_code 15 = .ok (.aload_n 0, 1) := dc_X8_ends (15, .aload_n 0, 1) (List.mem_of_getElem? (i := 8) rfl)
theorem d_X8_ends_16 : decode prog_10_method_34_code 16 = .ok (.dup, 1) := dc_X8_ends (16, .dup, 1) (List.mem_of_getElem? (i := 9) rfl)
theorem d_X8_ends_17 : decode prog_10_method_34_code 17 = .ok (.getfield 224, 3) := dc_X8_ends (17, .getfield 224, 3) (List.mem_of_getElem? (i := 10) rfl)
theorem d_X8_ends_20 : decode prog_10_method_34_code 20 = .ok (.iconst 1, 1) := dc_X8_ends (20, .iconst 1, 1) (List.mem_of_getElem? (i := 11) rfl)
theorem d_X8_ends_21 : decode prog_10_method_34_code 21 = .ok (.isub, 1) := dc_X8_ends (21, .isub, 1) (List.mem_of_getElem? (i := 12) rfl)
theorem d_X8_ends_22 : decode prog_10_method_34_code 22 = .ok (.putfield 224, 3) := dc_X8_ends (22, .putfield 224, 3) (List.mem_of_getElem? (i := 13) rfl)
theorem d_X8_ends_25 : decode prog_10_method_34_code 25 = .ok (.aload_n 0, 1) := dc_X8_ends (25, .aload_n 0, 1) (List.mem_of_getElem? (i := 14) rfl)
theorem d_X8_ends_26 : decode prog_10_method_34_code 26 = .ok (.dup, 1) := dc_X8_ends (26, .dup, 1) (List.mem_of_getElem? (i := 15) rfl)
theorem d_X8_ends_27 : decode prog_10_method_34_code 27 = .ok (.getfield 227, 3) := dc_X8_ends (27, .getfield 227, 3) (List.mem_of_getElem? (i := 16) rfl)
theorem d_X8_ends_30 : decode prog_10_method_34_code 30 = .ok (.iconst 1, 1) := dc_X8_ends (30, .iconst 1, 1) (List.mem_of_getElem? (i := 17) rfl)
theorem d_X8_ends_31 : decode prog_10_method_34_code 31 = .ok (.isub, 1) := dc_X8_ends (31, .isub, 1) (List.mem_of_getElem? (i := 18) rfl)
theorem d_X8_ends_32 : decode prog_10_method_34_code 32 = .ok (.putfield 227, 3) := dc_X8_ends (32, .putfield 227, 3) (List.mem_of_getElem? (i := 19) rfl)
theorem d_X8_ends_35 : decode prog_10_method_34_code 35 = .ok (.goto (-35), 3) := dc_X8_ends (35, .goto (-35), 3) (List.mem_of_getElem? (i := 20) rfl)
theorem d_X8_ends_38 : decode prog_10_method_34_code 38 = .ok (.return_, 1) := dc_X8_ends (38, .return_, 1) (List.mem_of_getElem? (i := 21) rfl)
def cd_X8_factor : List (Nat × Instr × Nat) := [(0, .aload_n 0, 1), (1, .invokevirtual 217, 3), (4, .ifCond .eq 19, 3), (7, .aload_n 0, 1), (8, .invokevirtual 234, 3), (11, .bipush 91, 2), (13, .if_icmp .ne 10, 3), (16, .aload_n 0, 1), (17, .invokevirtual 263, 3), (20, .goto (-20), 3), (23, .aload_n 0, 1), (24, .invokevirtual 217, 3), (27, .ifCond .ne 4, 3), (30, .return_, 1), (31, .aload_n 0, 1), (32, .invokevirtual 245, 3), (35, .ifCond .eq 15, 3), (38, .aload_n 0, 1), (39, .iconst 0, 1), (40, .aload_n 0, 1), (41, .invokevirtual 266, 3), (44, .invokevirtual 260, 3), (47, .goto 44, 3), (50, .aload_n 0, 1), (51, .invokevirtual 234, 3), (54, .invokestatic 269, 3), (57, .ifCond .eq 25, 3), (60, .aload_n 0, 1), (61, .iconst 1, 1), (62, .aload_n 0, 1), (63, .invokevirtual 234, 3), (66, .invokevirtual 260, 3), (69, .aload_n 0, 1), (70, .dup, 1), (71, .getfield 208, 3), (74, .iconst 1, 1), (75, .iadd, 1), (76, .putfield 208, 3), (79, .goto 12, 3), (82, .aload_n 0, 1), (83, .iconst 1, 1), (84, .aload_n 0, 1), (85, .getfield 208, 3), (88, .invokevirtual 230, 3), (91, .return_, 1)]
theorem dc_X8_factor : ∀ q ∈ cd_X8_factor, decode prog_10_method_35_code q.1 = .ok (q.2.1, q.2.2) := by decide +kernel
theorem d_X8_factor_0 : decode prog_10_method_35_code 0 = .ok (.aload_n 0, 1) := dc_X8_factor (0, .aload_n 0, 1) (List.mem_of_getElem? (i := 0) rfl)
theorem d_X8_factor_1 : decode prog_10_method_35_code 1 = .ok (.invokevirtual 217, 3) := dc_X8_factor (1, .invokevirtual 217, 3) (List.mem_of_getElem? (i := 1) rfl)
theorem d_X8_factor_4 : decode prog_10_method_35_code 4 = .ok (.ifCond .eq 19, 3) := dc_X8_factor (4, .ifCond .eq 19, 3) (List.mem_of_getElem? (i := 2) rfl)
theorem d_X8_factor_7 : decode prog_10_method_35_code 7 = .ok (.aload_n 0, 1) := dc_X8_factor (7, .aload_n 0, 1) (List.mem_of_getElem? (i := 3) rfl)
theorem d_X8_factor_8 : decode prog_10_method_35_code 8 = .ok (.invokevirtual 234, 3) := dc_X8_factor (8, .invokevirtual 234, 3) (List.mem_of_getElem? (i := 4) rfl)
theorem d_X8_factor_11 : decode prog_10_method_35_code 11 = .ok (.bipush 91, 2) := dc_X8_factor (11, .bipush 91, 2) (List.mem_of_getElem? (i := 5) rfl)
theorem d_X8_factor_13 : decode prog_10_method_35_code 13 = .ok (.if_icmp .ne 10, 3) := dc_X8_factor (13, .if_icmp .ne 10, 3) (List.mem_of_getElem? (i := 6) rfl)
theorem d_X8_factor_16 : decode prog_10_method_35_code 16 = .ok (.aload_n 0, 1) := dc_X8_factor (16, .aload_n 0, 1) (List.mem_of_getElem? (i := 7) rfl)
theorem d_X8_factor_17 : decode prog_10_method_35_code 17 = .ok (.invokevirtual 263, 3) := dc_X8_factor (17, .invokevirtual 263, 3) (List.mem_of_getElem? (i := 8) rfl)
theorem d_X8_factor_20 : decode prog_10_method_35_code 20 = .ok (.goto (-20), 3) := dc_X8_factor (20, .goto (-20), 3) (List.mem_of_getElem? (i := 9) rfl)
theorem d_X8_factor_23 : decode prog_10_method_35_code 23 = .ok (.aload_n 0, 1) := dc_X8_factor (23, .aload_n 0, 1) (List.mem_of_getElem? (i := 10) rfl)
theorem d_X8_factor_24 : decode prog_10_method_35_code 24 = .ok (.invokevirtual 217, 3) := dc_X8_factor (24, .invokevirtual 217, 3) (List.mem_of_getElem? (i := 11) rfl)
theorem d_X8_factor_27 : decode prog_10_method_35_code 27 = .ok (.ifCond .ne 4, 3) := dc_X8_factor (27, .ifCond .ne 4, 3) (List.mem_of_getElem? (i := 12) rfl)
theorem d_X8_factor_30 : decode prog_10_method_35_code 30 = .ok (.return_, 1) := dc_X8_factor (30, .return_, 1) (List.mem_of_getElem? (i := 13) rfl)
theorem d_X8_factor_31 : decode prog_10_method_35_code 31 = .ok (.aload_n 0, 1) := dc_X8_factor (31, .aload_n 0, 1) (List.mem_of_getElem? (i := 14) rfl)
theorem d_X8_factor_32 : decode prog_10_method_35_code 32 = .ok (.invokevirtual 245, 3) := dc_X8_factor (32, .invokevirtual 245, 3) (List.mem_of_getElem? (i := 15) rfl)
theorem d_X8_factor_35 : decode prog_10_method_35_code 35 = .ok (.ifCond .eq 15, 3) := dc_X8_factor (35, .ifCond .eq 15, 3) (List.mem_of_getElem? (i := 16) rfl)
theorem d_X8_factor_38 : decode prog_10_method_35_code 38 = .ok (.aload_n 0, 1) := dc_X8_factor (38, .aload_n 0, 1) (List.mem_of_getElem? (i := 17) rfl)
theorem d_X8_factor_39 : decode prog_10_method_35_code 39 = .ok (.iconst 0, 1) := dc_X8_factor (39, .iconst 0, 1) (List.mem_of_getElem? (i := 18) rfl)
theorem d_X8_factor_40 : decode prog_10_method_35_code 40 = .ok (.aload_n 0, 1) := dc_X8_factor (40, .aload_n 0, 1) (List.mem_of_getElem? (i := 19) rfl)
theorem d_X8_factor_41 : decode prog_10_method_35_code 41 = .ok (.invokevirtual 266, 3) := dc_X8_factor (41, .invokevirtual 266, 3) (List.mem_of_getElem? (i := 20) rfl)
theorem d_X8_factor_44 : decode prog_10_method_35_code 44 = .ok (.invokevirtual 260, 3) := dc_X8_factor (44, .invokevirtual 260, 3) (List.mem_of_getElem? (i := 21) rfl)
theorem d_X8_factor_47 : decode prog_10_method_35_code 47 = .ok (.goto 44, 3) := dc_X8_factor (47, .goto 44, 3) (List.mem_of_getElem? (i := 22) rfl)
theorem d_X8_factor_50 : decode prog_10_method_35_code 50 = .ok (.aload_n 0, 1) := dc_X8_factor (50, .aload_n 0, 1) (List.mem_of_getElem? (i := 23) rfl)
theorem d_X8_factor_51 : decode prog_10_method_35_code 51 = .ok (.invokevirtual 234, 3) := dc_X8_factor (51, .invokevirtual 234, 3) (List.mem_of_getElem? (i := 24) rfl)
theorem d_X8_factor_54 : decode prog_10_method_35_code 54 = .ok (.invokestatic 269, 3) := dc_X8_factor (54, .invokestatic 269, 3) (List.mem_of_getElem? (i := 25) rfl)
theorem d_X8_factor_57 : decode prog_10_method_35_code 57 = .ok (.ifCond .eq 25, 3) := dc_X8_factor (57, .ifCond .eq 25, 3) (List.mem_of_getElem? (i := 26) rfl)
theorem d_X8_factor_60 : decode prog_10_method_35_code 60 = .ok (.aload_n 0, 1) := dc_X8_factor (60, .aload_n 0, 1) (List.mem_of_getElem? (i := 27) rfl)
theorem d_X8_factor_61 : decode prog_10_method_35_code 61 = .ok (.iconst 1, 1) := dc_X8_factor (61, .iconst 1, 1) (List.mem_of_getElem? (i := 28) rfl)
theorem d_X8_factor_62 : decode prog_10_method_35_code 62 = .ok (.aload_n 0, 1) := dc_X8_factor (62, .aload_n 0, 1) (List.mem_of_getElem? (i := 29) rfl)
theorem d_X8_factor_63 : decode prog_10_method_35_code 63 = .ok (.invokevirtual 234, 3) := dc_X8_factor (63, .invokevirtual 234, 3) (List.mem_of_getElem? (i := 30) rfl)
theorem d_X8_factor_66 : decode prog_10_method_35_code 66 = .ok (.invokevirtual 260, 3) := dc_X8_factor (66, .invokevirtual 260, 3) (List.mem_of_getElem? (i := 31) rfl)
theorem d_X8_factor_69 : decode prog_10_method_35_code 69 = .ok (.aload_n 0, 1) := dc_X8_factor (69, .aload_n 0, 1) (List.mem_of_getElem? (i := 32) rfl)
theorem d_X8_factor_70 : decode prog_10_method_35_code 70 = .ok (.dup, 1) := dc_X8_factor (70, .dup, 1) (List.mem_of_getElem? (i := 33) rfl)
theorem d_X8_factor_71 : decode prog_10_method_35_code 71 = .ok (.getfield 208, 3) := dc_X8_factor (71, .getfield 208, 3) (List.mem_of_getElem? (i := 34) rfl)
theorem d_X8_factor_74 : decode prog_10_method_35_code 74 = .ok (.iconst 1, 1) := dc_X8_factor (74, .iconst 1, 1) (List.mem_of_getElem? (i := 35) rfl)
theorem d_X8_factor_75 : decode prog_10_method_35_code 75 = .ok (.iadd, 1) := dc_X8_factor (75, .iadd, 1) (List.mem_of_getElem? (i := 36) rfl)
theorem d_X8_factor_76 : decode prog_10_method_35_code 76 = .ok (.putfield 208, 3) := dc_X8_factor (76, .putfield 208, 3) (List.mem_of_getElem? (i := 37) rfl)
theorem d_X8_factor_79 : decode prog_10_method_35_code 79 = .ok (.goto 12, 3) := dc_X8_factor (79, .goto 12, 3) (List.mem_of_getElem? (i := 38) rfl)
theorem d_X8_factor_82 : decode prog_10_method_35_code 82 = .ok (.aload_n 0, 1) := dc_X8_factor (82, .aload_n 0, 1) (List.mem_of_getElem? (i := 39) rfl)
theorem d_X8_factor_83 : decode prog_10_method_35_code 83 = .ok (.iconst 1, 1) := dc_X8_factor (83, .iconst 1, 1) (List.mem_of_getElem? (i := 40) rfl)
theorem d_X8_factor_84 : decode prog_10_method_35_code 84 = .ok (.aload_n 0, 1) := dc_X8_factor (84, .aload_n 0, 1) (List.mem_of_getElem? (i := 41) rfl)
theorem d_X8_factor_85 : decode prog_10_method_35_code 85 = .ok (.getfield 208, 3) := dc_X8_factor (85, .getfield 208, 3) (List.mem_of_getElem? (i := 42) rfl)
theorem d_X8_factor_88 : decode prog_10_method_35_code 88 = .ok (.invokevirtual 230, 3) := dc_X8_factor (88, .invokevirtual 230, 3) (List.mem_of_getElem? (i := 43) rfl)
theorem d_X8_factor_91 : decode prog_10_method_35_code 91 = .ok (.return_, 1) := dc_X8_factor (91, .return_, 1) (List.mem_of_getElem? (i := 44) rfl)
def cd_X8_stays : List (Nat × Instr × Nat) := [(0, .aload_n 0, 1), (1, .invokevirtual 234, 3), (4, .istore_n 1, 1), (5, .iload_n 1, 1), (6, .invokestatic 254, 3), (9, .ifCond .ne 10, 3), (12, .iload_n 1, 1), (13, .invokestatic 257, 3), (16, .ifCond .eq 18, 3), (19, .aload_n 0, 1), (20, .iload_n 1, 1), (21, .invokestatic 257, 3), (24, .invokevirtual 272, 3), (27, .aload_n 0, 1), (28, .iload_n 1, 1), (29, .invokevirtual 238, 3), (32, .iconst 1, 1), (33, .ireturn, 1), (34, .aload_n 0, 1), (35, .iconst 1, 1), (36, .invokevirtual 272, 3), (39, .iload_n 1, 1), (40, .bipush 93, 2), (42, .if_icmp .eq 5, 3), (45, .iconst 0, 1), (46, .ireturn, 1), (47, .aload_n 0, 1), (48, .invokevirtual 251, 3), (51, .bipush 91, 2), (53, .if_icmp .eq 14, 3), (56, .aload_n 0, 1), (57, .iconst 1, 1), (58, .aload_n 0, 1), (59, .getfield 208, 3), (62, .invokevirtual 230, 3), (65, .iconst 0, 1), (66, .ireturn, 1), (67, .aload_n 0, 1), (68, .dup, 1), (69, .getfield 224, 3), (72, .iconst 1, 1), (73, .isub, 1), (74, .putfield 224, 3), (77, .aload_n 0, 1), (78, .dup, 1), (79, .getfield 227, 3), (82, .iconst 1, 1), (83, .isub, 1), (84, .putfield 227, 3), (87, .aload_n 0, 1), (88, .dup, 1), (89, .getfield 208, 3), (92, .iconst 1, 1), (93, .iadd, 1), (94, .putfield 208, 3), (97, .aload_n 0, 1), (98, .iconst 1, 1), (99, .putfield 276, 3), (102, .iconst 1, 1), (103, .ireturn, 1)]
theorem dc_X8_stays : ∀ q ∈ cd_X8_stays, decode prog_10_method_36_code q.1 = .ok (q.2.1, q.2.2) := by decide +kernel
theorem d_X8_stays_0 : decode prog_10_method_36_code 0 = .ok (.aload_n 0, 1) := dc_X8_stays (0, .aload_n 0, 1) (List.mem_of_getElem? (i := 0) rfl)
theorem d_X8_stays_1 : decode prog_10_method_36_code 1 = .ok (.invokevirtual 234, 3) := dc_X8_stays (1, .invokevirtual 234, 3) (List.mem_of_getElem? (i := 1) rfl)
theorem d_X8_stays_4 : decode prog_10_method_36_code 4 = .ok (.istore_n 1, 1) := dc_X8_stays (4, .istore_n 1, 1) (List.mem_of_getElem? (i := 2) rfl)
theorem d_X8_stays_5 : decode prog_10_method_36_code 5 = .ok (.iload_n 1, 1) := dc_X8_stays (5, .iload_n 1, 1) (List.mem_of_getElem? (i := 3) rfl)
theorem d_X8_stays_6 : decode prog_10_method_36_code 6 = .ok (.invokestatic 254, 3) := dc_X8_stays (6, .invokestatic 254, 3) (List.mem_of_getElem? (i := 4) rfl)
theorem d_X8_stays_9 : decode prog_10_method_36_code 9 = .ok (.ifCond .ne 10, 3) := dc_X8_stays (9, .ifCond .ne 10, 3) (List.mem_of_getElem? (i := 5) rfl)
theorem d_X8_stays_12 : decode prog_10_method_36_code 12 = .ok (.iload_n 1, 1) := dc_X8_stays (12, .iload_n 1, 1) (List.mem_of_getElem? (i := 6) rfl)
theorem d_X8_stays_13 : decode prog_10_method_36_code 13 = .ok (.invokestatic 257, 3) := dc_X8_stays (13, .invokestatic 257, 3) (List.mem_of_getElem? (i := 7) rfl)
theorem d_X8_stays_16 : decode prog_10_method_36_code 16 = .ok (.ifCond .eq 18, 3) := dc_X8_stays (16, .ifCond .eq 18, 3) (List.mem_of_getElem? (i := 8) rfl)
theorem d_X8_stays_19 : decode prog_10_method_36_code 19 = .ok (.aload_n 0, 1) := dc_X8_stays (19, .aload_n 0, 1) (List.mem_of_getElem? (i := 9) rfl)
theorem d_X8_stays_20 : decode prog_10_method_36_code 20 = .ok (.iload_n 1, 1) := dc_X8_stays (20, .iload_n 1, 1) (List.mem_of_getElem? (i := 10) rfl)
theorem d_X8_stays_21 : decode prog_10_method_36_code 21 = .ok (.invokestatic 257, 3) := dc_X8_stays (21, .invokestatic 257, 3) (List.mem_of_getElem? (i := 11) rfl)
theorem d_X8_stays_24 : decode prog_10_method_36_code 24 = .ok (.invokevirtual 272, 3) := dc_X8_stays (24, .invokevirtual 272, 3) (List.mem_of_getElem? (i := 12) rfl)
theorem d_X8_stays_27 : decode prog_10_method_36_code 27 = .ok (.aload_n 0, 1) := dc_X8_stays (27, .aload_n 0, 1) (List.mem_of_getElem? (i := 13) rfl)
theorem d_X8_stays_28 : decode prog_10_method_36_code 28 = .ok (.iload_n 1, 1) := dc_X8_stays (28, .iload_n 1, 1) (List.mem_of_getElem? (i := 14) rfl)
theorem d_X8_stays_29 : decode prog_10_method_36_code 29 = .ok (.invokevirtual 238, 3) := dc_X8_stays (29, .invokevirtual 238, 3) (List.mem_of_getElem? (i := 15) rfl)
theorem d_X8_stays_32 : decode prog_10_method_36_code 32 = .ok (.iconst 1, 1) := dc_X8_stays (32, .iconst 1, 1) (List.mem_of_getElem? (i := 16) rfl)
theorem d_X8_stays_33 : decode prog_10_method_36_code 33 = .ok (.ireturn, 1) := dc_X8_stays (33, .ireturn, 1) (List.mem_of_getElem? (i := 17) rfl)
theorem d_X8_stays_34 : decode prog_10_method_36_code 34 = .ok (.aload_n 0, 1) := dc_X8_stays (34, .aload_n 0, 1) (List.mem_of_getElem? (i := 18) rfl)
theorem d_X8_stays_35 : decode prog_10_method_36_code 35 = .ok (.iconst 1, 1) := dc_X8_stays (35, .iconst 1, 1) (List.mem_of_getElem? (i := 19) rfl)
theorem d_X8_stays_36 : decode prog_10_method_36_code 36 = .ok (.invokevirtual 272, 3) := dc_X8_stays (36, .invokevirtual 272, 3) (List.mem_of_getElem? (i := 20) rfl)
theorem d_X8_stays_39 : decode prog_10_method_36_code 39 = .ok (.iload_n 1, 1) := dc_X8_stays (39, .iload_n 1, 1) (List.mem_of_getElem? (i := 21) rfl)
theorem d_X8_stays_40 : decode prog_10_method_36_code 40 = .ok (.bipush 93, 2) := dc_X8_stays (40, .bipush 93, 2) (List.mem_of_getElem? (i := 22) rfl)
theorem d_X8_stays_42 : decode prog_10_method_36_code 42 = .ok (.if_icmp .eq 5, 3) := dc_X8_stays (42, .if_icmp .eq 5, 3) (List.mem_of_getElem? (i := 23) rfl)
theorem d_X8_stays_45 : decode prog_10_method_36_code 45 = .ok (.iconst 0, 1) := dc_X8_stays (45, .iconst 0, 1) (List.mem_of_getElem? (i := 24) rfl)
theorem d_X8_stays_46 : decode prog_10_method_36_code 46 = .ok (.ireturn, 1) := dc_X8_stays (46, .ireturn, 1) (List.mem_of_getElem? (i := 25) rfl)
theorem d_X8_stays_47 : decode prog_10_method_36_code 47 = .ok (.aload_n 0, 1) := dc_X8_stays (47, .aload_n 0, 1) (List.mem_of_getElem? (i := 26) rfl)
theorem d_X8_stays_48 : decode prog_10_method_36_code 48 = .ok (.invokevirtual 251, 3) := dc_X8_stays (48, .invokevirtual 251, 3) (List.mem_of_getElem? (i := 27) rfl)
theorem d_X8_stays_51 : decode prog_10_method_36_code 51 = .ok (.bipush 91, 2) := dc_X8_stays (51, .bipush 91, 2) (List.mem_of_getElem? (i := 28) rfl)
theorem d_X8_stays_53 : decode prog_10_method_36_code 53 = .ok (.if_icmp .eq 14, 3) := dc_X8_stays (53, .if_icmp .eq 14, 3) (List.mem_of_getElem? (i := 29) rfl)
theorem d_X8_stays_56 : decode prog_10_method_36_code 56 = .ok (.aload_n 0, 1) := dc_X8_stays (56, .aload_n 0, 1) (List.mem_of_getElem? (i := 30) rfl)
theorem d_X8_stays_57 : decode prog_10_method_36_code 57 = .ok (.iconst 1, 1) := dc_X8_stays (57, .iconst 1, 1) (List.mem_of_getElem? (i := 31) rfl)
theorem d_X8_stays_58 : decode prog_10_method_36_code 58 = .ok (.aload_n 0, 1) := dc_X8_stays (58, .aload_n 0, 1) (List.mem_of_getElem? (i := 32) rfl)
theorem d_X8_stays_59 : decode prog_10_method_36_code 59 = .ok (.getfield 208, 3) := dc_X8_stays (59, .getfield 208, 3) (List.mem_of_getElem? (i := 33) rfl)
theorem d_X8_stays_62 : decode prog_10_method_36_code 62 = .ok (.invokevirtual 230, 3) := dc_X8_stays (62, .invokevirtual 230, 3) (List.mem_of_getElem? (i := 34) rfl)
theorem d_X8_stays_65 : decode prog_10_method_36_code 65 = .ok (.iconst 0, 1) := dc_X8_stays (65, .iconst 0, 1) (List.mem_of_getElem? (i := 35) rfl)
theorem d_X8_stays_66 : decode prog_10_method_36_code 66 = .ok (.ireturn, 1) := dc_X8_stays (66, .ireturn, 1) (List.mem_of_getElem? (i := 36) rfl)
theorem d_X8_stays_67 : decode prog_10_method_36_code 67 = .ok (.aload_n 0, 1) := dc_X8_stays (67, .aload_n 0, 1) (List.mem_of_getElem? (i := 37) rfl)
theorem d_X8_stays_68 : decode prog_10_method_36_code 68 = .ok (.dup, 1) := dc_X8_stays (68, .dup, 1) (List.mem_of_getElem? (i := 38) rfl)
theorem d_X8_stays_69 : decode prog_10_method_36_code 69 = .ok (.getfield 224, 3) := dc_X8_stays (69, .getfield 224, 3) (List.mem_of_getElem? (i := 39) rfl)
theorem d_X8_stays_72 : decode prog_10_method_36_code 72 = .ok (.iconst 1, 1) := dc_X8_stays (72, .iconst 1, 1) (List.mem_of_getElem? (i := 40) rfl)
theorem d_X8_stays_73 : decode prog_10_method_36_code 73 = .ok (.isub, 1) := dc_X8_stays (73, .isub, 1) (List.mem_of_getElem? (i := 41) rfl)
theorem d_X8_stays_74 : decode prog_10_method_36_code 74 = .ok (.putfield 224, 3) := dc_X8_stays (74, .putfield 224, 3) (List.mem_of_getElem? (i := 42) rfl)
theorem d_X8_stays_77 : decode prog_10_method_36_code 77 = .ok (.aload_n 0, 1) := dc_X8_stays (77, .aload_n 0, 1) (List.mem_of_getElem? (i := 43) rfl)
theorem d_X8_stays_78 : decode prog_10_method_36_code 78 = .ok (.dup, 1) := dc_X8_stays (78, .dup, 1) (List.mem_of_getElem? (i := 44) rfl)
theorem d_X8_stays_79 : decode prog_10_method_36_code 79 = .ok (.getfield 227, 3) := dc_X8_stays (79, .getfield 227, 3) (List.mem_of_getElem? (i := 45) rfl)
theorem d_X8_stays_82 : decode prog_10_method_36_code 82 = .ok (.iconst 1, 1) := dc_X8_stays (82, .iconst 1, 1) (List.mem_of_getElem? (i := 46) rfl)
theorem d_X8_stays_83 : decode prog_10_method_36_code 83 = .ok (.isub, 1) := dc_X8_stays (83, .isub, 1) (List.mem_of_getElem? (i := 47) rfl)
theorem d_X8_stays_84 : decode prog_10_method_36_code 84 = .ok (.putfield 227, 3) := dc_X8_stays (84, .putfield 227, 3) (List.mem_of_getElem? (i := 48) rfl)
theorem d_X8_stays_87 : decode prog_10_method_36_code 87 = .ok (.aload_n 0, 1) := dc_X8_stays (87, .aload_n 0, 1) (List.mem_of_getElem? (i := 49) rfl)
theorem d_X8_stays_88 : decode prog_10_method_36_code 88 = .ok (.dup, 1) := dc_X8_stays (88, .dup, 1) (List.mem_of_getElem? (i := 50) rfl)
theorem d_X8_stays_89 : decode prog_10_method_36_code 89 = .ok (.getfield 208, 3) := dc_X8_stays (89, .getfield 208, 3) (List.mem_of_getElem? (i := 51) rfl)
theorem d_X8_stays_92 : decode prog_10_method_36_code 92 = .ok (.iconst 1, 1) := dc_X8_stays (92, .iconst 1, 1) (List.mem_of_getElem? (i := 52) rfl)
theorem d_X8_stays_93 : decode prog_10_method_36_code 93 = .ok (.iadd, 1) := dc_X8_stays (93, .iadd, 1) (List.mem_of_getElem? (i := 53) rfl)
theorem d_X8_stays_94 : decode prog_10_method_36_code 94 = .ok (.putfield 208, 3) := dc_X8_stays (94, .putfield 208, 3) (List.mem_of_getElem? (i := 54) rfl)
theorem d_X8_stays_97 : decode prog_10_method_36_code 97 = .ok (.aload_n 0, 1) := dc_X8_stays (97, .aload_n 0, 1) (List.mem_of_getElem? (i := 55) rfl)
theorem d_X8_stays_98 : decode prog_10_method_36_code 98 = .ok (.iconst 1, 1) := dc_X8_stays (98, .iconst 1, 1) (List.mem_of_getElem? (i := 56) rfl)
theorem d_X8_stays_99 : decode prog_10_method_36_code 99 = .ok (.putfield 276, 3) := dc_X8_stays (99, .putfield 276, 3) (List.mem_of_getElem? (i := 57) rfl)
theorem d_X8_stays_102 : decode prog_10_method_36_code 102 = .ok (.iconst 1, 1) := dc_X8_stays (102, .iconst 1, 1) (List.mem_of_getElem? (i := 58) rfl)
theorem d_X8_stays_103 : decode prog_10_method_36_code 103 = .ok (.ireturn, 1) := dc_X8_stays (103, .ireturn, 1) (List.mem_of_getElem? (i := 59) rfl)
def cd_X8_value : List (Nat × Instr × Nat) := [(0, .iconst 1, 1), (1, .istore_n 1, 1), (2, .aload_n 0, 1), (3, .iconst 0, 1), (4, .putfield 276, 3), (7, .iload_n 1, 1), (8, .ifCond .eq 49, 3), (11, .aload_n 0, 1), (12, .invokevirtual 217, 3), (15, .ifCond .eq 42, 3), (18, .aload_n 0, 1), (19, .getfield 276, 3), (22, .ifCond .ne 7, 3), (25, .aload_n 0, 1), (26, .invokevirtual 280, 3), (29, .aload_n 0, 1), (30, .iconst 0, 1), (31, .putfield 276, 3), (34, .aload_n 0, 1), (35, .invokevirtual 217, 3), (38, .ifCond .eq 14, 3), (41, .aload_n 0, 1), (42, .invokevirtual 283, 3), (45, .ifCond .eq 7, 3), (48, .iconst 1, 1), (49, .goto 4, 3), (52, .iconst 0, 1), (53, .istore_n 1, 1), (54, .goto (-47), 3), (57, .aload_n 0, 1), (58, .invokevirtual 217, 3), (61, .ifCond .eq 21, 3), (64, .aload_n 0, 1), (65, .invokevirtual 251, 3), (68, .bipush 91, 2), (70, .if_icmp .ne 12, 3), (73, .aload_n 0, 1), (74, .iconst 1, 1), (75, .aload_n 0, 1), (76, .getfield 208, 3), (79, .invokevirtual 230, 3), (82, .return_, 1)]
theorem dc_X8_value : ∀ q ∈ cd_X8_value, decode prog_10_method_37_code q.1 = .ok (q.2.1, q.2.2) := by decide +kernel
theorem d_X8_value_0 : decode prog_10_method_37_code 0 = .ok (.iconst 1, 1) := dc_X8_value (0, .iconst 1, 1) (List.mem_of_getElem? (i := 0) rfl)
theorem d_X8_value_1 : decode prog_10_method_37_code 1 = .ok (.istore_n 1, 1) := dc_X8_value (1, .istore_n 1, 1) (List.mem_of_getElem? (i := 1) rfl)
theorem d_X8_value_2 : decode prog_10_method_37_code 2 = .ok (.aload_n 0, 1) := dc_X8_value (2, .aload_n 0, 1) (List.mem_of_getElem? (i := 2) rfl)
theorem d_X8_value_3 : decode prog_10_method_37_code 3 = .ok (.iconst 0, 1) := dc_X8_value (3, .iconst 0, 1) (List.mem_of_getElem? (i := 3) rfl)
theorem d_X8_value_4 : decode prog_10_method_37_code 4 = .ok (.putfield 276, 3) := dc_X8_value (4, .putfield 276, 3) (List.mem_of_getElem? (i := 4) rfl)
theorem d_X8_value_7 : decode prog_10_method_37_code 7 = .ok (.iload_n 1, 1) := dc_X8_value (7, .iload_n 1, 1) (List.mem_of_getElem? (i := 5) rfl)
theorem d_X8_value_8 : decode prog_10_method_37_code 8 = .ok (.ifCond .eq 49, 3) := dc_X8_value (8, .ifCond .eq 49, 3) (List.mem_of_getElem? (i := 6) rfl)
theorem d_X8_value_11 : decode prog_10_method_37_code 11 = .ok (.aload_n 0, 1) := dc_X8_value (11, .aload_n 0, 1) (List.mem_of_getElem? (i := 7) rfl)
theorem d_X8_value_12 : decode prog_10_method_37_code 12 = .ok (.invokevirtual 217, 3) := dc_X8_value (12, .invokevirtual 217, 3) (List.mem_of_getElem? (i := 8) rfl)
theorem d_X8_value_15 : decode prog_10_method_37_code 15 = .ok (.ifCond .eq 42, 3) := dc_X8_value (15, .ifCond .eq 42, 3) (List.mem_of_getElem? (i := 9) rfl)
theorem d_X8_value_18 : decode prog_10_method_37_code 18 = .ok (.aload_n 0, 1) := dc_X8_value (18, .aload_n 0, 1) (List.mem_of_getElem? (i := 10) rfl)
theorem d_X8_value_19 : decode prog_10_method_37_code 19 = .ok (.getfield 276, 3) := dc_X8_value (19, .getfield 276, 3) (List.mem_of_getElem? (i := 11) rfl)
theorem d_X8_value_22 : decode prog_10_method_37_code 22 = .ok (.ifCond .ne 7, 3) := dc_X8_value (22, .ifCond .ne 7, 3) (List.mem_of_getElem? (i := 12) rfl)
theorem d_X8_value_25 : decode prog_10_method_37_code 25 = .ok (.aload_n 0, 1) := dc_X8_value (25, .aload_n 0, 1) (List.mem_of_getElem? (i := 13) rfl)
theorem d_X8_value_26 : decode prog_10_method_37_code 26 = .ok (.invokevirtual 280, 3) := dc_X8_value (26, .invokevirtual 280, 3) (List.mem_of_getElem? (i := 14) rfl)
theorem d_X8_value_29 : decode prog_10_method_37_code 29 = .ok (.aload_n 0, 1) := dc_X8_value (29, .aload_n 0, 1) (List.mem_of_getElem? (i := 15) rfl)
theorem d_X8_value_30 : decode prog_10_method_37_code 30 = .ok (.iconst 0, 1) := dc_X8_value (30, .iconst 0, 1) (List.mem_of_getElem? (i := 16) rfl)
theorem d_X8_value_31 : decode prog_10_method_37_code 31 = .ok (.putfield 276, 3) := dc_X8_value (31, .putfield 276, 3) (List.mem_of_getElem? (i := 17) rfl)
theorem d_X8_value_34 : decode prog_10_method_37_code 34 = .ok (.aload_n 0, 1) := dc_X8_value (34, .aload_n 0, 1) (List.mem_of_getElem? (i := 18) rfl)
theorem d_X8_value_35 : decode prog_10_method_37_code 35 = .ok (.invokevirtual 217, 3) := dc_X8_value (35, .invokevirtual 217, 3) (List.mem_of_getElem? (i := 19) rfl)
theorem d_X8_value_38 : decode prog_10_method_37_code 38 = .ok (.ifCond .eq 14, 3) := dc_X8_value (38, .ifCond .eq 14, 3) (List.mem_of_getElem? (i := 20) rfl)
theorem d_X8_value_41 : decode prog_10_method_37_code 41 = .ok (.aload_n 0, 1) := dc_X8_value (41, .aload_n 0, 1) (List.mem_of_getElem? (i := 21) rfl)
theorem d_X8_value_42 : decode prog_10_method_37_code 42 = .ok (.invokevirtual 283, 3) := dc_X8_value (42, .invokevirtual 283, 3) (List.mem_of_getElem? (i := 22) rfl)
theorem d_X8_value_45 : decode prog_10_method_37_code 45 = .ok (.ifCond .eq 7, 3) := dc_X8_value (45, .ifCond .eq 7, 3) (List.mem_of_getElem? (i := 23) rfl)
theorem d_X8_value_48 : decode prog_10_method_37_code 48 = .ok (.iconst 1, 1) := dc_X8_value (48, .iconst 1, 1) (List.mem_of_getElem? (i := 24) rfl)
theorem d_X8_value_49 : decode prog_10_method_37_code 49 = .ok (.goto 4, 3) := dc_X8_value (49, .goto 4, 3) (List.mem_of_getElem? (i := 25) rfl)
theorem d_X8_value_52 : decode prog_10_method_37_code 52 = .ok (.iconst 0, 1) := dc_X8_value (52, .iconst 0, 1) (List.mem_of_getElem? (i := 26) rfl)
theorem d_X8_value_53 : decode prog_10_method_37_code 53 = .ok (.istore_n 1, 1) := dc_X8_value (53, .istore_n 1, 1) (List.mem_of_getElem? (i := 27) rfl)
theorem d_X8_value_54 : decode prog_10_method_37_code 54 = .ok (.goto (-47), 3) := dc_X8_value (54, .goto (-47), 3) (List.mem_of_getElem? (i := 28) rfl)
theorem d_X8_value_57 : decode prog_10_method_37_code 57 = .ok (.aload_n 0, 1) := dc_X8_value (57, .aload_n 0, 1) (List.mem_of_getElem? (i := 29) rfl)
theorem d_X8_value_58 : decode prog_10_method_37_code 58 = .ok (.invokevirtual 217, 3) := dc_X8_value (58, .invokevirtual 217, 3) (List.mem_of_getElem? (i := 30) rfl)
theorem d_X8_value_61 : decode prog_10_method_37_code 61 = .ok (.ifCond .eq 21, 3) := dc_X8_value (61, .ifCond .eq 21, 3) (List.mem_of_getElem? (i := 31) rfl)
theorem d_X8_value_64 : decode prog_10_method_37_code 64 = .ok (.aload_n 0, 1) := dc_X8_value (64, .aload_n 0, 1) (List.mem_of_getElem? (i := 32) rfl)
theorem d_X8_value_65 : decode prog_10_method_37_code 65 = .ok (.invokevirtual 251, 3) := dc_X8_value (65, .invokevirtual 251, 3) (List.mem_of_getElem? (i := 33) rfl)
theorem d_X8_value_68 : decode prog_10_method_37_code 68 = .ok (.bipush 91, 2) := dc_X8_value (68, .bipush 91, 2) (List.mem_of_getElem? (i := 34) rfl)
theorem d_X8_value_70 : decode prog_10_method_37_code 70 = .ok (.if_icmp .ne 12, 3) := dc_X8_value (70, .if_icmp .ne 12, 3) (List.mem_of_getElem? (i := 35) rfl)
theorem d_X8_value_73 : decode prog_10_method_37_code 73 = .ok (.aload_n 0, 1) := dc_X8_value (73, .aload_n 0, 1) (List.mem_of_getElem? (i := 36) rfl)
theorem d_X8_value_74 : decode prog_10_method_37_code 74 = .ok (.iconst 1, 1) := dc_X8_value (74, .iconst 1, 1) (List.mem_of_getElem? (i := 37) rfl)
theorem d_X8_value_75 : decode prog_10_method_37_code 75 = .ok (.aload_n 0, 1) := dc_X8_value (75, .aload_n 0, 1) (List.mem_of_getElem? (i := 38) rfl)
theorem d_X8_value_76 : decode prog_10_method_37_code 76 = .ok (.getfield 208, 3) := dc_X8_value (76, .getfield 208, 3) (List.mem_of_getElem? (i := 39) rfl)
theorem d_X8_value_79 : decode prog_10_method_37_code 79 = .ok (.invokevirtual 230, 3) := dc_X8_value (79, .invokevirtual 230, 3) (List.mem_of_getElem? (i := 40) rfl)
theorem d_X8_value_82 : decode prog_10_method_37_code 82 = .ok (.return_, 1) := dc_X8_value (82, .return_, 1) (List.mem_of_getElem? (i := 41) rfl)
def cd_X8_pieceOfC : List (Nat × Instr × Nat) := [(0, .aload_n 0, 1), (1, .invokevirtual 217, 3), (4, .ifCond .eq 28, 3), (7, .aload_n 0, 1), (8, .invokevirtual 234, 3), (11, .bipush 33, 2), (13, .if_icmp .eq 12, 3), (16, .aload_n 0, 1), (17, .invokevirtual 234, 3), (20, .bipush 40, 2), (22, .if_icmp .ne 10, 3), (25, .aload_n 0, 1), (26, .invokevirtual 263, 3), (29, .goto (-29), 3), (32, .aload_n 0, 1), (33, .invokevirtual 217, 3), (36, .ifCond .eq 7, 3), (39, .aload_n 0, 1), (40, .invokevirtual 286, 3), (43, .aload_n 0, 1), (44, .invokevirtual 217, 3), (47, .ifCond .ne 4, 3), (50, .return_, 1), (51, .aload_n 0, 1), (52, .invokevirtual 234, 3), (55, .istore_n 1, 1), (56, .iload_n 1, 1), (57, .invokestatic 289, 3), (60, .ifCond .ne 13, 3), (63, .aload_n 0, 1), (64, .iconst 1, 1), (65, .aload_n 0, 1), (66, .getfield 208, 3), (69, .invokevirtual 230, 3), (72, .return_, 1), (73, .aload_n 0, 1), (74, .iload_n 1, 1), (75, .invokevirtual 238, 3), (78, .aload_n 0, 1), (79, .invokevirtual 286, 3), (82, .aload_n 0, 1), (83, .invokevirtual 217, 3), (86, .ifCond .ne 4, 3), (89, .return_, 1), (90, .aload_n 0, 1), (91, .aload_n 0, 1), (92, .invokevirtual 251, 3), (95, .iconst 0, 1), (96, .invokevirtual 260, 3), (99, .aload_n 0, 1), (100, .dup, 1), (101, .getfield 224, 3), (104, .iconst 1, 1), (105, .isub, 1), (106, .putfield 224, 3), (109, .aload_n 0, 1), (110, .invokevirtual 292, 3), (113, .return_, 1)]
theorem dc_X8_pieceOfC : ∀ q ∈ cd_X8_pieceOfC, decode prog_10_method_38_code q.1 = .ok (q.2.1, q.2.2) := by decide +kernel
theorem d_X8_pieceOfC_0 : decode prog_10_method_38_code 0 = .ok (.aload_n 0, 1) := dc_X8_pieceOfC (0, .aload_n 0, 1) (List.mem_of_getElem? (i := 0) rfl)
theorem d_X8_pieceOfC_1 : decode prog_10_method_38_code 1 = .ok (.invokevirtual 217, 3) := dc_X8_pieceOfC (1, .invokevirtual 217, 3) (List.mem_of_getElem? (i := 1) rfl)
theorem d_X8_pieceOfC_4 : decode prog_10_method_38_code 4 = .ok (.ifCond .eq 28, 3) := dc_X8_pieceOfC (4, .ifCond .eq 28, 3) (List.mem_of_getElem? (i := 2) rfl)
theorem d_X8_pieceOfC_7 : decode prog_10_method_38_code 7 = .ok (.aload_n 0, 1) := dc_X8_pieceOfC (7, .aload_n 0, 1) (List.mem_of_getElem? (i := 3) rfl)
theorem d_X8_pieceOfC_8 : decode prog_10_method_38_code 8 = .ok (.invokevirtual 234, 3) := dc_X8_pieceOfC (8, .invokevirtual 234, 3) (List.mem_of_getElem? (i := 4) rfl)
theorem d_X8_pieceOfC_11 : decode prog_10_method_38_code 11 = .ok (.bipush 33, 2) := dc_X8_pieceOfC (11, .bipush 33, 2) (List.mem_of_getElem? (i := 5) rfl)
theorem d_X8_pieceOfC_13 : decode prog_10_method_38_code 13 = .ok (.if_icmp .eq 12, 3) := dc_X8_pieceOfC (13, .if_icmp .eq 12, 3) (List.mem_of_getElem? (i := 6) rfl)
theorem d_X8_pieceOfC_16 : decode prog_10_method_38_code 16 = .ok (.aload_n 0, 1) := dc_X8_pieceOfC (16, .aload_n 0, 1) (List.mem_of_getElem? (i := 7) rfl)
theorem d_X8_pieceOfC_17 : decode prog_10_method_38_code 17 = .ok (.invokevirtual 234, 3) := dc_X8_pieceOfC (17, .invokevirtual 234, 3) (List.mem_of_getElem? (i := 8) rfl)
theorem d_X8_pieceOfC_20 : decode prog_10_method_38_code 20 = .ok (.bipush 40, 2) := dc_X8_pieceOfC (20, .bipush 40, 2) (List.mem_of_getElem? (i := 9) rfl)
theorem d_X8_pieceOfC_22 : decode prog_10_method_38_code 22 = .ok (.if_icmp .ne 10, 3) := dc_X8_pieceOfC (22, .if_icmp .ne 10, 3) (List.mem_of_getElem? (i := 10) rfl)
theorem d_X8_pieceOfC_25 : decode prog_10_method_38_code 25 = .ok (.aload_n 0, 1) := dc_X8_pieceOfC (25, .aload_n 0, 1) (List.mem_of_getElem? (i := 11) rfl)
theorem d_X8_pieceOfC_26 : decode prog_10_method_38_code 26 = .ok (.invokevirtual 263, 3) := dc_X8_pieceOfC (26, .invokevirtual 263, 3) (List.mem_of_getElem? (i := 12) rfl)
theorem d_X8_pieceOfC_29 : decode prog_10_method_38_code 29 = .ok (.goto (-29), 3) := dc_X8_pieceOfC (29, .goto (-29), 3) (List.mem_of_getElem? (i := 13) rfl)
theorem d_X8_pieceOfC_32 : decode prog_10_method_38_code 32 = .ok (.aload_n 0, 1) := dc_X8_pieceOfC (32, .aload_n 0, 1) (List.mem_of_getElem? (i := 14) rfl)
theorem d_X8_pieceOfC_33 : decode prog_10_method_38_code 33 = .ok (.invokevirtual 217, 3) := dc_X8_pieceOfC (33, .invokevirtual 217, 3) (List.mem_of_getElem? (i := 15) rfl)
theorem d_X8_pieceOfC_36 : decode prog_10_method_38_code 36 = .ok (.ifCond .eq 7, 3) := dc_X8_pieceOfC (36, .ifCond .eq 7, 3) (List.mem_of_getElem? (i := 16) rfl)
theorem d_X8_pieceOfC_39 : decode prog_10_method_38_code 39 = .ok (.aload_n 0, 1) := dc_X8_pieceOfC (39, .aload_n 0, 1) (List.mem_of_getElem? (i := 17) rfl)
theorem d_X8_pieceOfC_40 : decode prog_10_method_38_code 40 = .ok (.invokevirtual 286, 3) := dc_X8_pieceOfC (40, .invokevirtual 286, 3) (List.mem_of_getElem? (i := 18) rfl)
theorem d_X8_pieceOfC_43 : decode prog_10_method_38_code 43 = .ok (.aload_n 0, 1) := dc_X8_pieceOfC (43, .aload_n 0, 1) (List.mem_of_getElem? (i := 19) rfl)
theorem d_X8_pieceOfC_44 : decode prog_10_method_38_code 44 = .ok (.invokevirtual 217, 3) := dc_X8_pieceOfC (44, .invokevirtual 217, 3) (List.mem_of_getElem? (i := 20) rfl)
theorem d_X8_pieceOfC_47 : decode prog_10_method_38_code 47 = .ok (.ifCond .ne 4, 3) := dc_X8_pieceOfC (47, .ifCond .ne 4, 3) (List.mem_of_getElem? (i := 21) rfl)
theorem d_X8_pieceOfC_50 : decode prog_10_method_38_code 50 = .ok (.return_, 1) := dc_X8_pieceOfC (50, .return_, 1) (List.mem_of_getElem? (i := 22) rfl)
theorem d_X8_pieceOfC_51 : decode prog_10_method_38_code 51 = .ok (.aload_n 0, 1) := dc_X8_pieceOfC (51, .aload_n 0, 1) (List.mem_of_getElem? (i := 23) rfl)
theorem d_X8_pieceOfC_52 : decode prog_10_method_38_code 52 = .ok (.invokevirtual 234, 3) := dc_X8_pieceOfC (52, .invokevirtual 234, 3) (List.mem_of_getElem? (i := 24) rfl)
theorem d_X8_pieceOfC_55 : decode prog_10_method_38_code 55 = .ok (.istore_n 1, 1) := dc_X8_pieceOfC (55, .istore_n 1, 1) (List.mem_of_getElem? (i := 25) rfl)
theorem d_X8_pieceOfC_56 : decode prog_10_method_38_code 56 = .ok (.iload_n 1, 1) := dc_X8_pieceOfC (56, .iload_n 1, 1) (List.mem_of_getElem? (i := 26) rfl)
theorem d_X8_pieceOfC_57 : decode prog_10_method_38_code 57 = .ok (.invokestatic 289, 3) := dc_X8_pieceOfC (57, .invokestatic 289, 3) (List.mem_of_getElem? (i := 27) rfl)
theorem d_X8_pieceOfC_60 : decode prog_10_method_38_code 60 = .ok (.ifCond .ne 13, 3) := dc_X8_pieceOfC (60, .ifCond .ne 13, 3) (List.mem_of_getElem? (i := 28) rfl)
theorem d_X8_pieceOfC_63 : decode prog_10_method_38_code 63 = .ok (.aload_n 0, 1) := dc_X8_pieceOfC (63, .aload_n 0, 1) (List.mem_of_getElem? (i := 29) rfl)
theorem d_X8_pieceOfC_64 : decode prog_10_method_38_code 64 = .ok (.iconst 1, 1) := dc_X8_pieceOfC (64, .iconst 1, 1) (List.mem_of_getElem? (i := 30) rfl)
theorem d_X8_pieceOfC_65 : decode prog_10_method_38_code 65 = .ok (.aload_n 0, 1) := dc_X8_pieceOfC (65, .aload_n 0, 1) (List.mem_of_getElem? (i := 31) rfl)
theorem d_X8_pieceOfC_66 : decode prog_10_method_38_code 66 = .ok (.getfield 208, 3) := dc_X8_pieceOfC (66, .getfield 208, 3) (List.mem_of_getElem? (i := 32) rfl)
theorem d_X8_pieceOfC_69 : decode prog_10_method_38_code 69 = .ok (.invokevirtual 230, 3) := dc_X8_pieceOfC (69, .invokevirtual 230, 3) (List.mem_of_getElem? (i := 33) rfl)
theorem d_X8_pieceOfC_72 : decode prog_10_method_38_code 72 = .ok (.return_, 1) := dc_X8_pieceOfC (72, .return_, 1) (List.mem_of_getElem? (i := 34) rfl)
theorem d_X8_pieceOfC_73 : decode prog_10_method_38_code 73 = .ok (.aload_n 0, 1) := dc_X8_pieceOfC (73, .aload_n 0, 1) (List.mem_of_getElem? (i := 35) rfl)
theorem d_X8_pieceOfC_74 : decode prog_10_method_38_code 74 = .ok (.iload_n 1, 1) := dc_X8_pieceOfC (74, .iload_n 1, 1) (List.mem_of_getElem? (i := 36) rfl)
theorem d_X8_pieceOfC_75 : decode prog_10_method_38_code 75 = .ok (.invokevirtual 238, 3) := dc_X8_pieceOfC (75, .invokevirtual 238, 3) (List.mem_of_getElem? (i := 37) rfl)
theorem d_X8_pieceOfC_78 : decode prog_10_method_38_code 78 = .ok (.aload_n 0, 1) := dc_X8_pieceOfC (78, .aload_n 0, 1) (List.mem_of_getElem? (i := 38) rfl)
theorem d_X8_pieceOfC_79 : decode prog_10_method_38_code 79 = .ok (.invokevirtual 286, 3) := dc_X8_pieceOfC (79, .invokevirtual 286, 3) (List.mem_of_getElem? (i := 39) rfl)
theorem d_X8_pieceOfC_82 : decode prog_10_method_38_code 82 = .ok (.aload_n 0, 1) := dc_X8_pieceOfC (82, .aload_n 0, 1) (List.mem_of_getElem? (i := 40) rfl)
theorem d_X8_pieceOfC_83 : decode prog_10_method_38_code 83 = .ok (.invokevirtual 217, 3) := dc_X8_pieceOfC (83, .invokevirtual 217, 3) (List.mem_of_getElem? (i := 41) rfl)
theorem d_X8_pieceOfC_86 : decode prog_10_method_38_code 86 = .ok (.ifCond .ne 4, 3) := dc_X8_pieceOfC (86, .ifCond .ne 4, 3) (List.mem_of_getElem? (i := 42) rfl)
theorem d_X8_pieceOfC_89 : decode prog_10_method_38_code 89 = .ok (.return_, 1) := dc_X8_pieceOfC (89, .return_, 1) (List.mem_of_getElem? (i := 43) rfl)
theorem d_X8_pieceOfC_90 : decode prog_10_method_38_code 90 = .ok (.aload_n 0, 1) := dc_X8_pieceOfC (90, .aload_n 0, 1) (List.mem_of_getElem? (i := 44) rfl)
theorem d_X8_pieceOfC_91 : decode prog_10_method_38_code 91 = .ok (.aload_n 0, 1) := dc_X8_pieceOfC (91, .aload_n 0, 1) (List.mem_of_getElem? (i := 45) rfl)
theorem d_X8_pieceOfC_92 : decode prog_10_method_38_code 92 = .ok (.invokevirtual 251, 3) := dc_X8_pieceOfC (92, .invokevirtual 251, 3) (List.mem_of_getElem? (i := 46) rfl)
theorem d_X8_pieceOfC_95 : decode prog_10_method_38_code 95 = .ok (.iconst 0, 1) := dc_X8_pieceOfC (95, .iconst 0, 1) (List.mem_of_getElem? (i := 47) rfl)
theorem d_X8_pieceOfC_96 : decode prog_10_method_38_code 96 = .ok (.invokevirtual 260, 3) := dc_X8_pieceOfC (96, .invokevirtual 260, 3) (List.mem_of_getElem? (i := 48) rfl)
theorem d_X8_pieceOfC_99 : decode prog_10_method_38_code 99 = .ok (.aload_n 0, 1) := dc_X8_pieceOfC (99, .aload_n 0, 1) (List.mem_of_getElem? (i := 49) rfl)
theorem d_X8_pieceOfC_100 : decode prog_10_method_38_code 100 = .ok (.dup, 1) := dc_X8_pieceOfC (100, .dup, 1) (List.mem_of_getElem? (i := 50) rfl)
theorem d_X8_pieceOfC_101 : decode prog_10_method_38_code 101 = .ok (.getfield 224, 3) := dc_X8_pieceOfC (101, .getfield 224, 3) (List.mem_of_getElem? (i := 51) rfl)
theorem d_X8_pieceOfC_104 : decode prog_10_method_38_code 104 = .ok (.iconst 1, 1) := dc_X8_pieceOfC (104, .iconst 1, 1) (List.mem_of_getElem? (i := 52) rfl)
theorem d_X8_pieceOfC_105 : decode prog_10_method_38_code 105 = .ok (.isub, 1) := dc_X8_pieceOfC (105, .isub, 1) (List.mem_of_getElem? (i := 53) rfl)
theorem d_X8_pieceOfC_106 : decode prog_10_method_38_code 106 = .ok (.putfield 224, 3) := dc_X8_pieceOfC (106, .putfield 224, 3) (List.mem_of_getElem? (i := 54) rfl)
theorem d_X8_pieceOfC_109 : decode prog_10_method_38_code 109 = .ok (.aload_n 0, 1) := dc_X8_pieceOfC (109, .aload_n 0, 1) (List.mem_of_getElem? (i := 55) rfl)
theorem d_X8_pieceOfC_110 : decode prog_10_method_38_code 110 = .ok (.invokevirtual 292, 3) := dc_X8_pieceOfC (110, .invokevirtual 292, 3) (List.mem_of_getElem? (i := 56) rfl)
theorem d_X8_pieceOfC_113 : decode prog_10_method_38_code 113 = .ok (.return_, 1) := dc_X8_pieceOfC (113, .return_, 1) (List.mem_of_getElem? (i := 57) rfl)
def cd_X8_goesBehind : List (Nat × Instr × Nat) := [(0, .aload_n 0, 1), (1, .invokevirtual 234, 3), (4, .istore_n 1, 1), (5, .iload_n 1, 1), (6, .bipush 38, 2), (8, .if_icmp .eq 9, 3), (11, .iload_n 1, 1), (12, .bipush 124, 2), (14, .if_icmp .ne 25, 3), (17, .aload_n 0, 1), (18, .iload_n 1, 1), (19, .bipush 124, 2), (21, .if_icmp .ne 7, 3), (24, .iconst 1, 1), (25, .goto 4, 3), (28, .iconst 0, 1), (29, .invokevirtual 295, 3), (32, .aload_n 0, 1), (33, .iload_n 1, 1), (34, .invokevirtual 238, 3), (37, .iconst 1, 1), (38, .ireturn, 1), (39, .iload_n 1, 1), (40, .bipush 41, 2), (42, .if_icmp .eq 14, 3), (45, .aload_n 0, 1), (46, .iconst 1, 1), (47, .aload_n 0, 1), (48, .getfield 208, 3), (51, .invokevirtual 230, 3), (54, .iconst 0, 1), (55, .ireturn, 1), (56, .aload_n 0, 1), (57, .iconst 1, 1), (58, .invokevirtual 295, 3), (61, .aload_n 0, 1), (62, .dup, 1), (63, .getfield 224, 3), (66, .iconst 1, 1), (67, .isub, 1), (68, .putfield 224, 3), (71, .aload_n 0, 1), (72, .dup, 1), (73, .getfield 227, 3), (76, .iconst 1, 1), (77, .isub, 1), (78, .putfield 227, 3), (81, .aload_n 0, 1), (82, .dup, 1), (83, .getfield 208, 3), (86, .iconst 1, 1), (87, .iadd, 1), (88, .putfield 208, 3), (91, .aload_n 0, 1), (92, .aload_n 0, 1), (93, .getfield 224, 3), (96, .ifCond .ne 7, 3), (99, .iconst 1, 1), (100, .goto 4, 3), (103, .iconst 0, 1), (104, .putfield 298, 3), (107, .aload_n 0, 1), (108, .getfield 298, 3), (111, .ifCond .ne 7, 3), (114, .aload_n 0, 1), (115, .invokevirtual 292, 3), (118, .iconst 0, 1), (119, .ireturn, 1)]
theorem dc_X8_goesBehind : ∀ q ∈ cd_X8_goesBehind, decode prog_10_method_39_code q.1 = .ok (q.2.1, q.2.2) := by decide +kernel
theorem d_X8_goesBehind_0 : decode prog_10_method_39_code 0 = .ok (.aload_n 0, 1) := dc_X8_goesBehind (0, .aload_n 0, 1) (List.mem_of_getElem? (i := 0) rfl)
theorem d_X8_goesBehind_1 : decode prog_10_method_39_code 1 = .ok (.invokevirtual 234, 3) := dc_X8_goesBehind (1, .invokevirtual 234, 3) (List.mem_of_getElem? (i := 1) rfl)
theorem d_X8_goesBehind_4 : decode prog_10_method_39_code 4 = .ok (.istore_n 1, 1) := dc_X8_goesBehind (4, .istore_n 1, 1) (List.mem_of_getElem? (i := 2) rfl)
theorem d_X8_goesBehind_5 : decode prog_10_method_39_code 5 = .ok (.iload_n 1, 1) := dc_X8_goesBehind (5, .iload_n 1, 1) (List.mem_of_getElem? (i := 3) rfl)
theorem d_X8_goesBehind_6 : decode prog_10_method_39_code 6 = .ok (.bipush 38, 2) := dc_X8_goesBehind (6, .bipush 38, 2) (List.mem_of_getElem? (i := 4) rfl)
theorem d_X8_goesBehind_8 : decode prog_10_method_39_code 8 = .ok (.if_icmp .eq 9, 3) := dc_X8_goesBehind (8, .if_icmp .eq 9, 3) (List.mem_of_getElem? (i := 5) rfl)
theorem d_X8_goesBehind_11 : decode prog_10_method_39_code 11 = .ok (.iload_n 1, 1) := dc_X8_goesBehind (11, .iload_n 1, 1) (List.mem_of_getElem? (i := 6) rfl)
theorem d_X8_goesBehind_12 : decode prog_10_method_39_code 12 = .ok (.bipush 124, 2) := dc_X8_goesBehind (12, .bipush 124, 2) (List.mem_of_getElem? (i := 7) rfl)
theorem d_X8_goesBehind_14 : decode prog_10_method_39_code 14 = .ok (.if_icmp .ne 25, 3) := dc_X8_goesBehind (14, .if_icmp .ne 25, 3) (List.mem_of_getElem? (i := 8) rfl)
theorem d_X8_goesBehind_17 : decode prog_10_method_39_code 17 = .ok (.aload_n 0, 1) := dc_X8_goesBehind (17, .aload_n 0, 1) (List.mem_of_getElem? (i := 9) rfl)
theorem d_X8_goesBehind_18 : decode prog_10_method_39_code 18 = .ok (.iload_n 1, 1) := dc_X8_goesBehind (18, .iload_n 1, 1) (List.mem_of_getElem? (i := 10) rfl)
theorem d_X8_goesBehind_19 : decode prog_10_method_39_code 19 = .ok (.bipush 124, 2) := dc_X8_goesBehind (19, .bipush 124, 2) (List.mem_of_getElem? (i := 11) rfl)
theorem d_X8_goesBehind_21 : decode prog_10_method_39_code 21 = .ok (.if_icmp .ne 7, 3) := dc_X8_goesBehind (21, .if_icmp .ne 7, 3) (List.mem_of_getElem? (i := 12) rfl)
theorem d_X8_goesBehind_24 : decode prog_10_method_39_code 24 = .ok (.iconst 1, 1) := dc_X8_goesBehind (24, .iconst 1, 1) (List.mem_of_getElem? (i := 13) rfl)
theorem d_X8_goesBehind_25 : decode prog_10_method_39_code 25 = .ok (.goto 4, 3) := dc_X8_goesBehind (25, .goto 4, 3) (List.mem_of_getElem? (i := 14) rfl)
theorem d_X8_goesBehind_28 : decode prog_10_method_39_code 28 = .ok (.iconst 0, 1) := dc_X8_goesBehind (28, .iconst 0, 1) (List.mem_of_getElem? (i := 15) rfl)
theorem d_X8_goesBehind_29 : decode prog_10_method_39_code 29 = .ok (.invokevirtual 295, 3) := dc_X8_goesBehind (29, .invokevirtual 295, 3) (List.mem_of_getElem? (i := 16) rfl)
theorem d_X8_goesBehind_32 : decode prog_10_method_39_code 32 = .ok (.aload_n 0, 1) := dc_X8_goesBehind (32, .aload_n 0, 1) (List.mem_of_getElem? (i := 17) rfl)
theorem d_X8_goesBehind_33 : decode prog_10_method_39_code 33 = .ok (.iload_n 1, 1) := dc_X8_goesBehind (33, .iload_n 1, 1) (List.mem_of_getElem? (i := 18) rfl)
theorem d_X8_goesBehind_34 : decode prog_10_method_39_code 34 = .ok (.invokevirtual 238, 3) := dc_X8_goesBehind (34, .invokevirtual 238, 3) (List.mem_of_getElem? (i := 19) rfl)
theorem d_X8_goesBehind_37 : decode prog_10_method_39_code 37 = .ok (.iconst 1, 1) := dc_X8_goesBehind (37, .iconst 1, 1) (List.mem_of_getElem? (i := 20) rfl)
theorem d_X8_goesBehind_38 : decode prog_10_method_39_code 38 = .ok (.ireturn, 1) := dc_X8_goesBehind (38, .ireturn, 1) (List.mem_of_getElem? (i := 21) rfl)
theorem d_X8_goesBehind_39 : decode prog_10_method_39_code 39 = .ok (.iload_n 1, 1) := dc_X8_goesBehind (39, .iload_n 1, 1) (List.mem_of_getElem? (i := 22) rfl)
theorem d_X8_goesBehind_40 : decode prog_10_method_39_code 40 = .ok (.bipush 41, 2) := dc_X8_goesBehind (40, .bipush 41, 2) (List.mem_of_getElem? (i := 23) rfl)
theorem d_X8_goesBehind_42 : decode prog_10_method_39_code 42 = .ok (.if_icmp .eq 14, 3) := dc_X8_goesBehind (42, .if_icmp .eq 14, 3) (List.mem_of_getElem? (i := 24) rfl)
theorem d_X8_goesBehind_45 : decode prog_10_method_39_code 45 = .ok (.aload_n 0, 1) := dc_X8_goesBehind (45, .aload_n 0, 1) (List.mem_of_getElem? (i := 25) rfl)
theorem d_X8_goesBehind_46 : decode prog_10_method_39_code 46 = .ok (.iconst 1, 1) := dc_X8_goesBehind (46, .iconst 1, 1) (List.mem_of_getElem? (i := 26) rfl)
theorem d_X8_goesBehind_47 : decode prog_10_method_39_code 47 = .ok (.aload_n 0, 1) := dc_X8_goesBehind (47, .aload_n 0, 1) (List.mem_of_getElem? (i := 27) rfl)
theorem d_X8_goesBehind_48 : decode prog_10_method_39_code 48 = .ok (.getfield 208, 3) := dc_X8_goesBehind (48, .getfield 208, 3) (List.mem_of_getElem? (i := 28) rfl)
theorem d_X8_goesBehind_51 : decode prog_10_method_39_code 51 = .ok (.invokevirtual 230, 3) := dc_X8_goesBehind (51, .invokevirtual 230, 3) (List.mem_of_getElem? (i := 29) rfl)
theorem d_X8_goesBehind_54 : decode prog_10_method_39_code 54 = .ok (.iconst 0, 1) := dc_X8_goesBehind (54, .iconst 0, 1) (List.mem_of_getElem? (i := 30) rfl)
theorem d_X8_goesBehind_55 : decode prog_10_method_39_code 55 = .ok (.ireturn, 1) := dc_X8_goesBehind (55, .ireturn, 1) (List.mem_of_getElem? (i := 31) rfl)
theorem d_X8_goesBehind_56 : decode prog_10_method_39_code 56 = .ok (.aload_n 0, 1) := dc_X8_goesBehind (56, .aload_n 0, 1) (List.mem_of_getElem? (i := 32) rfl)
theorem d_X8_goesBehind_57 : decode prog_10_method_39_code 57 = .ok (.iconst 1, 1) := dc_X8_goesBehind (57, .iconst 1, 1) (List.mem_of_getElem? (i := 33) rfl)
theorem d_X8_goesBehind_58 : decode prog_10_method_39_code 58 = .ok (.invokevirtual 295, 3) := dc_X8_goesBehind (58, .invokevirtual 295, 3) (List.mem_of_getElem? (i := 34) rfl)
theorem d_X8_goesBehind_61 : decode prog_10_method_39_code 61 = .ok (.aload_n 0, 1) := dc_X8_goesBehind (61, .aload_n 0, 1) (List.mem_of_getElem? (i := 35) rfl)
theorem d_X8_goesBehind_62 : decode prog_10_method_39_code 62 = .ok (.dup, 1) := dc_X8_goesBehind (62, .dup, 1) (List.mem_of_getElem? (i := 36) rfl)
theorem d_X8_goesBehind_63 : decode prog_10_method_39_code 63 = .ok (.getfield 224, 3) := dc_X8_goesBehind (63, .getfield 224, 3) (List.mem_of_getElem? (i := 37) rfl)
theorem d_X8_goesBehind_66 : decode prog_10_method_39_code 66 = .ok (.iconst 1, 1) := dc_X8_goesBehind (66, .iconst 1, 1) (List.mem_of_getElem? (i := 38) rfl)
theorem d_X8_goesBehind_67 : decode prog_10_method_39_code 67 = .ok (.isub, 1) := dc_X8_goesBehind (67, .isub, 1) (List.mem_of_getElem? (i := 39) rfl)
theorem d_X8_goesBehind_68 : decode prog_10_method_39_code 68 = .ok (.putfield 224, 3) := dc_X8_goesBehind (68, .putfield 224, 3) (List.mem_of_getElem? (i := 40) rfl)
theorem d_X8_goesBehind_71 : decode prog_10_method_39_code 71 = .ok (.aload_n 0, 1) := dc_X8_goesBehind (71, .aload_n 0, 1) (List.mem_of_getElem? (i := 41) rfl)
theorem d_X8_goesBehind_72 : decode prog_10_method_39_code 72 = .ok (.dup, 1) := dc_X8_goesBehind (72, .dup, 1) (List.mem_of_getElem? (i := 42) rfl)
theorem d_X8_goesBehind_73 : decode prog_10_method_39_code 73 = .ok (.getfield 227, 3) := dc_X8_goesBehind (73, .getfield 227, 3) (List.mem_of_getElem? (i := 43) rfl)
theorem d_X8_goesBehind_76 : decode prog_10_method_39_code 76 = .ok (.iconst 1, 1) := dc_X8_goesBehind (76, .iconst 1, 1) (List.mem_of_getElem? (i := 44) rfl)
theorem d_X8_goesBehind_77 : decode prog_10_method_39_code 77 = .ok (.isub, 1) := dc_X8_goesBehind (77, .isub, 1) (List.mem_of_getElem? (i := 45) rfl)
theorem d_X8_goesBehind_78 : decode prog_10_method_39_code 78 = .ok (.putfield 227, 3) := dc_X8_goesBehind (78, .putfield 227, 3) (List.mem_of_getElem? (i := 46) rfl)
theorem d_X8_goesBehind_81 : decode prog_10_method_39_code 81 = .ok (.aload_n 0, 1) := dc_X8_goesBehind (81, .aload_n 0, 1) (List.mem_of_getElem? (i := 47) rfl)
theorem d_X8_goesBehind_82 : decode prog_10_method_39_code 82 = .ok (.dup, 1) := dc_X8_goesBehind (82, .dup, 1) (List.mem_of_getElem? (i := 48) rfl)
theorem d_X8_goesBehind_83 : decode prog_10_method_39_code 83 = .ok (.getfield 208, 3) := dc_X8_goesBehind (83, .getfield 208, 3) (List.mem_of_getElem? (i := 49) rfl)
theorem d_X8_goesBehind_86 : decode prog_10_method_39_code 86 = .ok (.iconst 1, 1) := dc_X8_goesBehind (86, .iconst 1, 1) (List.mem_of_getElem? (i := 50) rfl)
theorem d_X8_goesBehind_87 : decode prog_10_method_39_code 87 = .ok (.iadd, 1) := dc_X8_goesBehind (87, .iadd, 1) (List.mem_of_getElem? (i := 51) rfl)
theorem d_X8_goesBehind_88 : decode prog_10_method_39_code 88 = .ok (.putfield 208, 3) := dc_X8_goesBehind (88, .putfield 208, 3) (List.mem_of_getElem? (i := 52) rfl)
theorem d_X8_goesBehind_91 : decode prog_10_method_39_code 91 = .ok (.aload_n 0, 1) := dc_X8_goesBehind (91, .aload_n 0, 1) (List.mem_of_getElem? (i := 53) rfl)
theorem d_X8_goesBehind_92 : decode prog_10_method_39_code 92 = .ok (.aload_n 0, 1) := dc_X8_goesBehind (92, .aload_n 0, 1) (List.mem_of_getElem? (i := 54) rfl)
theorem d_X8_goesBehind_93 : decode prog_10_method_39_code 93 = .ok (.getfield 224, 3) := dc_X8_goesBehind (93, .getfield 224, 3) (List.mem_of_getElem? (i := 55) rfl)
theorem d_X8_goesBehind_96 : decode prog_10_method_39_code 96 = .ok (.ifCond .ne 7, 3) := dc_X8_goesBehind (96, .ifCond .ne 7, 3) (List.mem_of_getElem? (i := 56) rfl)
theorem d_X8_goesBehind_99 : decode prog_10_method_39_code 99 = .ok (.iconst 1, 1) := dc_X8_goesBehind (99, .iconst 1, 1) (List.mem_of_getElem? (i := 57) rfl)
theorem d_X8_goesBehind_100 : decode prog_10_method_39_code 100 = .ok (.goto 4, 3) := dc_X8_goesBehind (100, .goto 4, 3) (List.mem_of_getElem? (i := 58) rfl)
theorem d_X8_goesBehind_103 : decode prog_10_method_39_code 103 = .ok (.iconst 0, 1) := dc_X8_goesBehind (103, .iconst 0, 1) (List.mem_of_getElem? (i := 59) rfl)
theorem d_X8_goesBehind_104 : decode prog_10_method_39_code 104 = .ok (.putfield 298, 3) := dc_X8_goesBehind (104, .putfield 298, 3) (List.mem_of_getElem? (i := 60) rfl)
theorem d_X8_goesBehind_107 : decode prog_10_method_39_code 107 = .ok (.aload_n 0, 1) := dc_X8_goesBehind (107, .aload_n 0, 1) (List.mem_of_getElem? (i := 61) rfl)
theorem d_X8_goesBehind_108 : decode prog_10_method_39_code 108 = .ok (.getfield 298, 3) := dc_X8_goesBehind (108, .getfield 298, 3) (List.mem_of_getElem? (i := 62) rfl)
theorem d_X8_goesBehind_111 : decode prog_10_method_39_code 111 = .ok (.ifCond .ne 7, 3) := dc_X8_goesBehind (111, .ifCond .ne 7, 3) (List.mem_of_getElem? (i := 63) rfl)
theorem d_X8_goesBehind_114 : decode prog_10_method_39_code 114 = .ok (.aload_n 0, 1) := dc_X8_goesBehind (114, .aload_n 0, 1) (List.mem_of_getElem? (i := 64) rfl)
theorem d_X8_goesBehind_115 : decode prog_10_method_39_code 115 = .ok (.invokevirtual 292, 3) := dc_X8_goesBehind (115, .invokevirtual 292, 3) (List.mem_of_getElem? (i := 65) rfl)
theorem d_X8_goesBehind_118 : decode prog_10_method_39_code 118 = .ok (.iconst 0, 1) := dc_X8_goesBehind (118, .iconst 0, 1) (List.mem_of_getElem? (i := 66) rfl)
theorem d_X8_goesBehind_119 : decode prog_10_method_39_code 119 = .ok (.ireturn, 1) := dc_X8_goesBehind (119, .ireturn, 1) (List.mem_of_getElem? (i := 67) rfl)
def cd_X8_condition : List (Nat × Instr × Nat) := [(0, .aload_n 0, 1), (1, .iconst 0, 1), (2, .putfield 298, 3), (5, .aload_n 0, 1), (6, .invokevirtual 234, 3), (9, .bipush 40, 2), (11, .if_icmp .eq 12, 3), (14, .aload_n 0, 1), (15, .iconst 1, 1), (16, .aload_n 0, 1), (17, .getfield 208, 3), (20, .invokevirtual 230, 3), (23, .aload_n 0, 1), (24, .invokevirtual 217, 3), (27, .ifCond .ne 4, 3), (30, .return_, 1), (31, .aload_n 0, 1), (32, .invokevirtual 263, 3), (35, .iconst 1, 1), (36, .istore_n 1, 1), (37, .aload_n 0, 1), (38, .invokevirtual 217, 3), (41, .ifCond .eq 33, 3), (44, .aload_n 0, 1), (45, .getfield 298, 3), (48, .ifCond .ne 26, 3), (51, .iload_n 1, 1), (52, .ifCond .eq 7, 3), (55, .aload_n 0, 1), (56, .invokevirtual 301, 3), (59, .aload_n 0, 1), (60, .invokevirtual 217, 3), (63, .ifCond .eq (-26), 3), (66, .aload_n 0, 1), (67, .invokevirtual 304, 3), (70, .istore_n 1, 1), (71, .goto (-34), 3), (74, .return_, 1)]
theorem dc_X8_condition : ∀ q ∈ cd_X8_condition, decode prog_10_method_40_code q.1 = .ok (q.2.1, q.2.2) := by decide +kernel
theorem d_X8_condition_0 : decode prog_10_method_40_code 0 = .ok (.aload_n 0, 1) := dc_X8_condition (0, .aload_n 0, 1) (List.mem_of_getElem? (i := 0) rfl)
theorem d_X8_condition_1 : decode prog_10_method_40_code 1 = .ok (.iconst 0, 1) := dc_X8_condition (1, .iconst 0, 1) (List.mem_of_getElem? (i := 1) rfl)
theorem d_X8_condition_2 : decode prog_10_method_40_code 2 = .ok (.putfield 298, 3) := dc_X8_condition (2, .putfield 298, 3) (List.mem_of_getElem? (i := 2) rfl)
theorem d_X8_condition_5 : decode prog_10_method_40_code 5 = .ok (.aload_n 0, 1) := dc_X8_condition (5, .aload_n 0, 1) (List.mem_of_getElem? (i := 3) rfl)
theorem d_X8_condition_6 : decode prog_10_method_40_code 6 = .ok (.invokevirtual 234, 3) := dc_X8_condition (6, .invokevirtual 234, 3) (List.mem_of_getElem? (i := 4) rfl)
theorem d_X8_condition_9 : decode prog_10_method_40_code 9 = .ok (.bipush 40, 2) := dc_X8_condition (9, .bipush 40, 2) (List.mem_of_getElem? (i := 5) rfl)
theorem d_X8_condition_11 : decode prog_10_method_40_code 11 = .ok (.if_icmp .eq 12, 3) := dc_X8_condition (11, .if_icmp .eq 12, 3) (List.mem_of_getElem? (i := 6) rfl)
theorem d_X8_condition_14 : decode prog_10_method_40_code 14 = .ok (.aload_n 0, 1) := dc_X8_condition (14, .aload_n 0, 1) (List.mem_of_getElem? (i := 7) rfl)
theorem d_X8_condition_15 : decode prog_10_method_40_code 15 = .ok (.iconst 1, 1) := dc_X8_condition (15, .iconst 1, 1) (List.mem_of_getElem? (i := 8) rfl)
theorem d_X8_condition_16 : decode prog_10_method_40_code 16 = .ok (.aload_n 0, 1) := dc_X8_condition (16, .aload_n 0, 1) (List.mem_of_getElem? (i := 9) rfl)
theorem d_X8_condition_17 : decode prog_10_method_40_code 17 = .ok (.getfield 208, 3) := dc_X8_condition (17, .getfield 208, 3) (List.mem_of_getElem? (i := 10) rfl)
theorem d_X8_condition_20 : decode prog_10_method_40_code 20 = .ok (.invokevirtual 230, 3) := dc_X8_condition (20, .invokevirtual 230, 3) (List.mem_of_getElem? (i := 11) rfl)
theorem d_X8_condition_23 : decode prog_10_method_40_code 23 = .ok (.aload_n 0, 1) := dc_X8_condition (23, .aload_n 0, 1) (List.mem_of_getElem? (i := 12) rfl)
theorem d_X8_condition_24 : decode prog_10_method_40_code 24 = .ok (.invokevirtual 217, 3) := dc_X8_condition (24, .invokevirtual 217, 3) (List.mem_of_getElem? (i := 13) rfl)
theorem d_X8_condition_27 : decode prog_10_method_40_code 27 = .ok (.ifCond .ne 4, 3) := dc_X8_condition (27, .ifCond .ne 4, 3) (List.mem_of_getElem? (i := 14) rfl)
theorem d_X8_condition_30 : decode prog_10_method_40_code 30 = .ok (.return_, 1) := dc_X8_condition (30, .return_, 1) (List.mem_of_getElem? (i := 15) rfl)
theorem d_X8_condition_31 : decode prog_10_method_40_code 31 = .ok (.aload_n 0, 1) := dc_X8_condition (31, .aload_n 0, 1) (List.mem_of_getElem? (i := 16) rfl)
theorem d_X8_condition_32 : decode prog_10_method_40_code 32 = .ok (.invokevirtual 263, 3) := dc_X8_condition (32, .invokevirtual 263, 3) (List.mem_of_getElem? (i := 17) rfl)
theorem d_X8_condition_35 : decode prog_10_method_40_code 35 = .ok (.iconst 1, 1) := dc_X8_condition (35, .iconst 1, 1) (List.mem_of_getElem? (i := 18) rfl)
theorem d_X8_condition_36 : decode prog_10_method_40_code 36 = .ok (.istore_n 1, 1) := dc_X8_condition (36, .istore_n 1, 1) (List.mem_of_getElem? (i := 19) rfl)
theorem d_X8_condition_37 : decode prog_10_method_40_code 37 = .ok (.aload_n 0, 1) := dc_X8_condition (37, .aload_n 0, 1) (List.mem_of_getElem? (i := 20) rfl)
theorem d_X8_condition_38 : decode prog_10_method_40_code 38 = .ok (.invokevirtual 217, 3) := dc_X8_condition (38, .invokevirtual 217, 3) (List.mem_of_getElem? (i := 21) rfl)
theorem d_X8_condition_41 : decode prog_10_method_40_code 41 = .ok (.ifCond .eq 33, 3) := dc_X8_condition (41, .ifCond .eq 33, 3) (List.mem_of_getElem? (i := 22) rfl)
theorem d_X8_condition_44 : decode prog_10_method_40_code 44 = .ok (.aload_n 0, 1) := dc_X8_condition (44, .aload_n 0, 1) (List.mem_of_getElem? (i := 23) rfl)
theorem d_X8_condition_45 : decode prog_10_method_40_code 45 = .ok (.getfield 298, 3) := dc_X8_condition (45, .getfield 298, 3) (List.mem_of_getElem? (i := 24) rfl)
theorem d_X8_condition_48 : decode prog_10_method_40_code 48 = .ok (.ifCond .ne 26, 3) := dc_X8_condition (48, .ifCond .ne 26, 3) (List.mem_of_getElem? (i := 25) rfl)
theorem d_X8_condition_51 : decode prog_10_method_40_code 51 = .ok (.iload_n 1, 1) := dc_X8_condition (51, .iload_n 1, 1) (List.mem_of_getElem? (i := 26) rfl)
theorem d_X8_condition_52 : decode prog_10_method_40_code 52 = .ok (.ifCond .eq 7, 3) := dc_X8_condition (52, .ifCond .eq 7, 3) (List.mem_of_getElem? (i := 27) rfl)
theorem d_X8_condition_55 : decode prog_10_method_40_code 55 = .ok (.aload_n 0, 1) := dc_X8_condition (55, .aload_n 0, 1) (List.mem_of_getElem? (i := 28) rfl)
theorem d_X8_condition_56 : decode prog_10_method_40_code 56 = .ok (.invokevirtual 301, 3) := dc_X8_condition (56, .invokevirtual 301, 3) (List.mem_of_getElem? (i := 29) rfl)
theorem d_X8_condition_59 : decode prog_10_method_40_code 59 = .ok (.aload_n 0, 1) := dc_X8_condition (59, .aload_n 0, 1) (List.mem_of_getElem? (i := 30) rfl)
theorem d_X8_condition_60 : decode prog_10_method_40_code 60 = .ok (.invokevirtual 217, 3) := dc_X8_condition (60, .invokevirtual 217, 3) (List.mem_of_getElem? (i := 31) rfl)
theorem d_X8_condition_63 : decode prog_10_method_40_code 63 = .ok (.ifCond .eq (-26), 3) := dc_X8_condition (63, .ifCond .eq (-26), 3) (List.mem_of_getElem? (i := 32) rfl)
theorem d_X8_condition_66 : decode prog_10_method_40_code 66 = .ok (.aload_n 0, 1) := dc_X8_condition (66, .aload_n 0, 1) (List.mem_of_getElem? (i := 33) rfl)
theorem d_X8_condition_67 : decode prog_10_method_40_code 67 = .ok (.invokevirtual 304, 3) := dc_X8_condition (67, .invokevirtual 304, 3) (List.mem_of_getElem? (i := 34) rfl)
theorem d_X8_condition_70 : decode prog_10_method_40_code 70 = .ok (.istore_n 1, 1) := dc_X8_condition (70, .istore_n 1, 1) (List.mem_of_getElem? (i := 35) rfl)
theorem d_X8_condition_71 : decode prog_10_method_40_code 71 = .ok (.goto (-34), 3) := dc_X8_condition (71, .goto (-34), 3) (List.mem_of_getElem? (i := 36) rfl)
theorem d_X8_condition_74 : decode prog_10_method_40_code 74 = .ok (.return_, 1) := dc_X8_condition (74, .return_, 1) (List.mem_of_getElem? (i := 37) rfl)
def cd_X8_clause : List (Nat × Instr × Nat) := [(0, .aload_n 0, 1), (1, .invokevirtual 234, 3), (4, .istore_n 1, 1), (5, .iload_n 1, 1), (6, .bipush 108, 2), (8, .if_icmp .eq 33, 3), (11, .iload_n 1, 1), (12, .bipush 109, 2), (14, .if_icmp .eq 27, 3), (17, .iload_n 1, 1), (18, .bipush 107, 2), (20, .if_icmp .eq 21, 3), (23, .iload_n 1, 1), (24, .bipush 115, 2), (26, .if_icmp .eq 15, 3), (29, .aload_n 0, 1), (30, .iconst 1, 1), (31, .aload_n 0, 1), (32, .getfield 208, 3), (35, .invokevirtual 230, 3), (38, .goto 21, 3), (41, .aload_n 0, 1), (42, .getfield 307, 3), (45, .bipush 14, 2), (47, .if_icmp .ne 12, 3), (50, .aload_n 0, 1), (51, .iconst 4, 1), (52, .aload_n 0, 1), (53, .getfield 208, 3), (56, .invokevirtual 230, 3), (59, .aload_n 0, 1), (60, .invokevirtual 217, 3), (63, .ifCond .ne 4, 3), (66, .return_, 1), (67, .aload_n 0, 1), (68, .getfield 76, 3), (71, .aload_n 0, 1), (72, .getfield 307, 3), (75, .iload_n 1, 1), (76, .iastore, 1), (77, .aload_n 0, 1), (78, .getfield 79, 3), (81, .aload_n 0, 1), (82, .getfield 307, 3), (85, .aload_n 0, 1), (86, .getfield 221, 3), (89, .iastore, 1), (90, .aload_n 0, 1), (91, .dup, 1), (92, .getfield 208, 3), (95, .iconst 1, 1), (96, .iadd, 1), (97, .putfield 208, 3), (100, .aload_n 0, 1), (101, .iconst 0, 1), (102, .putfield 224, 3), (105, .aload_n 0, 1), (106, .iconst 0, 1), (107, .putfield 227, 3), (110, .aload_n 0, 1), (111, .invokevirtual 286, 3), (114, .aload_n 0, 1), (115, .getfield 82, 3), (118, .aload_n 0, 1), (119, .getfield 307, 3), (122, .aload_n 0, 1), (123, .getfield 221, 3), (126, .iastore, 1), (127, .aload_n 0, 1), (128, .invokevirtual 217, 3), (131, .ifCond .eq 7, 3), (134, .aload_n 0, 1), (135, .invokevirtual 310, 3), (138, .aload_n 0, 1), (139, .getfield 85, 3), (142, .aload_n 0, 1), (143, .getfield 307, 3), (146, .aload_n 0, 1), (147, .getfield 221, 3), (150, .iastore, 1), (151, .aload_n 0, 1), (152, .dup, 1), (153, .getfield 307, 3), (156, .iconst 1, 1), (157, .iadd, 1), (158, .putfield 307, 3), (161, .return_, 1)]
theorem dc_X8_clause : ∀ q ∈ cd_X8_clause, decode prog_10_method_41_code q.1 = .ok (q.2.1, q.2.2) := by decide +kernel
theorem d_X8_clause_0 : decode prog_10_method_41_code 0 = .ok (.aload_n 0, 1) := dc_X8_clause (0, .aload_n 0, 1) (List.mem_of_getElem? (i := 0) rfl)
theorem d_X8_clause_1 : decode prog_10_method_41_code 1 = .ok (.invokevirtual 234, 3) := dc_X8_clause (1, .invokevirtual 234, 3) (List.mem_of_getElem? (i := 1) rfl)
theorem d_X8_clause_4 : decode prog_10_method_41_code 4 = .ok (.istore_n 1, 1) := dc_X8_clause (4, .istore_n 1, 1) (List.mem_of_getElem? (i := 2) rfl)
theorem d_X8_clause_5 : decode prog_10_method_41_code 5 = .ok (.iload_n 1, 1) := dc_X8_clause (5, .iload_n 1, 1) (List.mem_of_getElem? (i := 3) rfl)
theorem d_X8_clause_6 : decode prog_10_method_41_code 6 = .ok (.bipush 108, 2) := dc_X8_clause (6, .bipush 108, 2) (List.mem_of_getElem? (i := 4) rfl)
theorem d_X8_clause_8 : decode prog_10_method_41_code 8 = .ok (.if_icmp .eq 33, 3) := dc_X8_clause (8, .if_icmp .eq 33, 3) (List.mem_of_getElem? (i := 5) rfl)
theorem d_X8_clause_11 : decode prog_10_method_41_code 11 = .ok (.iload_n 1, 1) := dc_X8_clause (11, .iload_n 1, 1) (List.mem_of_getElem? (i := 6) rfl)
theorem d_X8_clause_12 : decode prog_10_method_41_code 12 = .ok (.bipush 109, 2) := dc_X8_clause (12, .bipush 109, 2) (List.mem_of_getElem? (i := 7) rfl)
theorem d_X8_clause_14 : decode prog_10_method_41_code 14 = .ok (.if_icmp .eq 27, 3) := dc_X8_clause (14, .if_icmp .eq 27, 3) (List.mem_of_getElem? (i := 8) rfl)
theorem d_X8_clause_17 : decode prog_10_method_41_code 17 = .ok (.iload_n 1, 1) := dc_X8_clause (17, .iload_n 1, 1) (List.mem_of_getElem? (i := 9) rfl)
theorem d_X8_clause_18 : decode prog_10_method_41_code 18 = .ok (.bipush 107, 2) := dc_X8_clause (18, .bipush 107, 2) (List.mem_of_getElem? (i := 10) rfl)
theorem d_X8_clause_20 : decode prog_10_method_41_code 20 = .ok (.if_icmp .eq 21, 3) := dc_X8_clause (20, .if_icmp .eq 21, 3) (List.mem_of_getElem? (i := 11) rfl)
theorem d_X8_clause_23 : decode prog_10_method_41_code 23 = .ok (.iload_n 1, 1) := dc_X8_clause (23, .iload_n 1, 1) (List.mem_of_getElem? (i := 12) rfl)
theorem d_X8_clause_24 : decode prog_10_method_41_code 24 = .ok (.bipush 115, 2) := dc_X8_clause (24, .bipush 115, 2) (List.mem_of_getElem? (i := 13) rfl)
theorem d_X8_clause_26 : decode prog_10_method_41_code 26 = .ok (.if_icmp .eq 15, 3) := dc_X8_clause (26, .if_icmp .eq 15, 3) (List.mem_of_getElem? (i := 14) rfl)
theorem d_X8_clause_29 : decode prog_10_method_41_code 29 = .ok (.aload_n 0, 1) := dc_X8_clause (29, .aload_n 0, 1) (List.mem_of_getElem? (i := 15) rfl)
theorem d_X8_clause_30 : decode prog_10_method_41_code 30 = .ok (.iconst 1, 1) := dc_X8_clause (30, .iconst 1, 1) (List.mem_of_getElem? (i := 16) rfl)
theorem d_X8_clause_31 : decode prog_10_method_41_code 31 = .ok (.aload_n 0, 1) := dc_X8_clause (31, .aload_n 0, 1) (List.mem_of_getElem? (i := 17) rfl)
theorem d_X8_clause_32 : decode prog_10_method_41_code 32 = .ok (.getfield 208, 3) := dc_X8_clause (32, .getfield 208, 3) (List.mem_of_getElem? (i := 18) rfl)
theorem d_X8_clause_35 : decode prog_10_method_41_code 35 = .ok (.invokevirtual 230, 3) := dc_X8_clause (35, .invokevirtual 230, 3) (List.mem_of_getElem? (i := 19) rfl)
theorem d_X8_clause_38 : decode prog_10_method_41_code 38 = .ok (.goto 21, 3) := dc_X8_clause (38, .goto 21, 3) (List.mem_of_getElem? (i := 20) rfl)
theorem d_X8_clause_41 : decode prog_10_method_41_code 41 = .ok (.aload_n 0, 1) := dc_X8_clause (41, .aload_n 0, 1) (List.mem_of_getElem? (i := 21) rfl)
theorem d_X8_clause_42 : decode prog_10_method_41_code 42 = .ok (.getfield 307, 3) := dc_X8_clause (42, .getfield 307, 3) (List.mem_of_getElem? (i := 22) rfl)
theorem d_X8_clause_45 : decode prog_10_method_41_code 45 = .ok (.bipush 14, 2) := dc_X8_clause (45, .bipush 14, 2) (List.mem_of_getElem? (i := 23) rfl)
theorem d_X8_clause_47 : decode prog_10_method_41_code 47 = .ok (.if_icmp .ne 12, 3) := dc_X8_clause (47, .if_icmp .ne 12, 3) (List.mem_of_getElem? (i := 24) rfl)
theorem d_X8_clause_50 : decode prog_10_method_41_code 50 = .ok (.aload_n 0, 1) := dc_X8_clause (50, .aload_n 0, 1) (List.mem_of_getElem? (i := 25) rfl)
theorem d_X8_clause_51 : decode prog_10_method_41_code 51 = .ok (.iconst 4, 1) := dc_X8_clause (51, .iconst 4, 1) (List.mem_of_getElem? (i := 26) rfl)
theorem d_X8_clause_52 : decode prog_10_method_41_code 52 = .ok (.aload_n 0, 1) := dc_X8_clause (52, .aload_n 0, 1) (List.mem_of_getElem? (i := 27) rfl)
theorem d_X8_clause_53 : decode prog_10_method_41_code 53 = .ok (.getfield 208, 3) := dc_X8_clause (53, .getfield 208, 3) (List.mem_of_getElem? (i := 28) rfl)
theorem d_X8_clause_56 : decode prog_10_method_41_code 56 = .ok (.invokevirtual 230, 3) := dc_X8_clause (56, .invokevirtual 230, 3) (List.mem_of_getElem? (i := 29) rfl)
theorem d_X8_clause_59 : decode prog_10_method_41_code 59 = .ok (.aload_n 0, 1) := dc_X8_clause (59, .aload_n 0, 1) (List.mem_of_getElem? (i := 30) rfl)
theorem d_X8_clause_60 : decode prog_10_method_41_code 60 = .ok (.invokevirtual 217, 3) := dc_X8_clause (60, .invokevirtual 217, 3) (List.mem_of_getElem? (i := 31) rfl)
theorem d_X8_clause_63 : decode prog_10_method_41_code 63 = .ok (.ifCond .ne 4, 3) := dc_X8_clause (63, .ifCond .ne 4, 3) (List.mem_of_getElem? (i := 32) rfl)
theorem d_X8_clause_66 : decode prog_10_method_41_code 66 = .ok (.return_, 1) := dc_X8_clause (66, .return_, 1) (List.mem_of_getElem? (i := 33) rfl)
theorem d_X8_clause_67 : decode prog_10_method_41_code 67 = .ok (.aload_n 0, 1) := dc_X8_clause (67, .aload_n 0, 1) (List.mem_of_getElem? (i := 34) rfl)
theorem d_X8_clause_68 : decode prog_10_method_41_code 68 = .ok (.getfield 76, 3) := dc_X8_clause (68, .getfield 76, 3) (List.mem_of_getElem? (i := 35) rfl)
theorem d_X8_clause_71 : decode prog_10_method_41_code 71 = .ok (.aload_n 0, 1) := dc_X8_clause (71, .aload_n 0, 1) (List.mem_of_getElem? (i := 36) rfl)
theorem d_X8_clause_72 : decode prog_10_method_41_code 72 = .ok (.getfield 307, 3) := dc_X8_clause (72, .getfield 307, 3) (List.mem_of_getElem? (i := 37) rfl)
theorem d_X8_clause_75 : decode prog_10_method_41_code 75 = .ok (.iload_n 1, 1) := dc_X8_clause (75, .iload_n 1, 1) (List.mem_of_getElem? (i := 38) rfl)
theorem d_X8_clause_76 : decode prog_10_method_41_code 76 = .ok (.iastore, 1) := dc_X8_clause (76, .iastore, 1) (List.mem_of_getElem? (i := 39) rfl)
theorem d_X8_clause_77 : decode prog_10_method_41_code 77 = .ok (.aload_n 0, 1) := dc_X8_clause (77, .aload_n 0, 1) (List.mem_of_getElem? (i := 40) rfl)
theorem d_X8_clause_78 : decode prog_10_method_41_code 78 = .ok (.getfield 79, 3) := dc_X8_clause (78, .getfield 79, 3) (List.mem_of_getElem? (i := 41) rfl)
theorem d_X8_clause_81 : decode prog_10_method_41_code 81 = .ok (.aload_n 0, 1) := dc_X8_clause (81, .aload_n 0, 1) (List.mem_of_getElem? (i := 42) rfl)
theorem d_X8_clause_82 : decode prog_10_method_41_code 82 = .ok (.getfield 307, 3) := dc_X8_clause (82, .getfield 307, 3) (List.mem_of_getElem? (i := 43) rfl)
theorem d_X8_clause_85 : decode prog_10_method_41_code 85 = .ok (.aload_n 0, 1) := dc_X8_clause (85, .aload_n 0, 1) (List.mem_of_getElem? (i := 44) rfl)
theorem d_X8_clause_86 : decode prog_10_method_41_code 86 = .ok (.getfield 221, 3) := dc_X8_clause (86, .getfield 221, 3) (List.mem_of_getElem? (i := 45) rfl)
theorem d_X8_clause_89 : decode prog_10_method_41_code 89 = .ok (.iastore, 1) := dc_X8_clause (89, .iastore, 1) (List.mem_of_getElem? (i := 46) rfl)
theorem d_X8_clause_90 : decode prog_10_method_41_code 90 = .ok (.aload_n 0, 1) := dc_X8_clause (90, .aload_n 0, 1) (List.mem_of_getElem? (i := 47) rfl)
theorem d_X8_clause_91 : decode prog_10_method_41_code 91 = .ok (.dup, 1) := dc_X8_clause (91, .dup, 1) (List.mem_of_getElem? (i := 48) rfl)
theorem d_X8_clause_92 : decode prog_10_method_41_code 92 = .ok (.getfield 208, 3) := dc_X8_clause (92, .getfield 208, 3) (List.mem_of_getElem? (i := 49) rfl)
theorem d_X8_clause_95 : decode prog_10_method_41_code 95 = .ok (.iconst 1, 1) := dc_X8_clause (95, .iconst 1, 1) (List.mem_of_getElem? (i := 50) rfl)
theorem d_X8_clause_96 : decode prog_10_method_41_code 96 = .ok (.iadd, 1) := dc_X8_clause (96, .iadd, 1) (List.mem_of_getElem? (i := 51) rfl)
theorem d_X8_clause_97 : decode prog_10_method_41_code 97 = .ok (.putfield 208, 3) := dc_X8_clause (97, .putfield 208, 3) (List.mem_of_getElem? (i := 52) rfl)
theorem d_X8_clause_100 : decode prog_10_method_41_code 100 = .ok (.aload_n 0, 1) := dc_X8_clause (100, .aload_n 0, 1) (List.mem_of_getElem? (i := 53) rfl)
theorem d_X8_clause_101 : decode prog_10_method_41_code 101 = .ok (.iconst 0, 1) := dc_X8_clause (101, .iconst 0, 1) (List.mem_of_getElem? (i := 54) rfl)
theorem d_X8_clause_102 : decode prog_10_method_41_code 102 = .ok (.putfield 224, 3) := dc_X8_clause (102, .putfield 224, 3) (List.mem_of_getElem? (i := 55) rfl)
theorem d_X8_clause_105 : decode prog_10_method_41_code 105 = .ok (.aload_n 0, 1) := dc_X8_clause (105, .aload_n 0, 1) (List.mem_of_getElem? (i := 56) rfl)
theorem d_X8_clause_106 : decode prog_10_method_41_code 106 = .ok (.iconst 0, 1) := dc_X8_clause (106, .iconst 0, 1) (List.mem_of_getElem? (i := 57) rfl)
theorem d_X8_clause_107 : decode prog_10_method_41_code 107 = .ok (.putfield 227, 3) := dc_X8_clause (107, .putfield 227, 3) (List.mem_of_getElem? (i := 58) rfl)
theorem d_X8_clause_110 : decode prog_10_method_41_code 110 = .ok (.aload_n 0, 1) := dc_X8_clause (110, .aload_n 0, 1) (List.mem_of_getElem? (i := 59) rfl)
theorem d_X8_clause_111 : decode prog_10_method_41_code 111 = .ok (.invokevirtual 286, 3) := dc_X8_clause (111, .invokevirtual 286, 3) (List.mem_of_getElem? (i := 60) rfl)
theorem d_X8_clause_114 : decode prog_10_method_41_code 114 = .ok (.aload_n 0, 1) := dc_X8_clause (114, .aload_n 0, 1) (List.mem_of_getElem? (i := 61) rfl)
theorem d_X8_clause_115 : decode prog_10_method_41_code 115 = .ok (.getfield 82, 3) := dc_X8_clause (115, .getfield 82, 3) (List.mem_of_getElem? (i := 62) rfl)
theorem d_X8_clause_118 : decode prog_10_method_41_code 118 = .ok (.aload_n 0, 1) := dc_X8_clause (118, .aload_n 0, 1) (List.mem_of_getElem? (i := 63) rfl)
theorem d_X8_clause_119 : decode prog_10_method_41_code 119 = .ok (.getfield 307, 3) := dc_X8_clause (119, .getfield 307, 3) (List.mem_of_getElem? (i := 64) rfl)
theorem d_X8_clause_122 : decode prog_10_method_41_code 122 = .ok (.aload_n 0, 1) := dc_X8_clause (122, .aload_n 0, 1) (List.mem_of_getElem? (i := 65) rfl)
theorem d_X8_clause_123 : decode prog_10_method_41_code 123 = .ok (.getfield 221, 3) := dc_X8_clause (123, .getfield 221, 3) (List.mem_of_getElem? (i := 66) rfl)
theorem d_X8_clause_126 : decode prog_10_method_41_code 126 = .ok (.iastore, 1) := dc_X8_clause (126, .iastore, 1) (List.mem_of_getElem? (i := 67) rfl)
theorem d_X8_clause_127 : decode prog_10_method_41_code 127 = .ok (.aload_n 0, 1) := dc_X8_clause (127, .aload_n 0, 1) (List.mem_of_getElem? (i := 68) rfl)
theorem d_X8_clause_128 : decode prog_10_method_41_code 128 = .ok (.invokevirtual 217, 3) := dc_X8_clause (128, .invokevirtual 217, 3) (List.mem_of_getElem? (i := 69) rfl)
theorem d_X8_clause_131 : decode prog_10_method_41_code 131 = .ok (.ifCond .eq 7, 3) := dc_X8_clause (131, .ifCond .eq 7, 3) (List.mem_of_getElem? (i := 70) rfl)
theorem d_X8_clause_134 : decode prog_10_method_41_code 134 = .ok (.aload_n 0, 1) := dc_X8_clause (134, .aload_n 0, 1) (List.mem_of_getElem? (i := 71) rfl)
theorem d_X8_clause_135 : decode prog_10_method_41_code 135 = .ok (.invokevirtual 310, 3) := dc_X8_clause (135, .invokevirtual 310, 3) (List.mem_of_getElem? (i := 72) rfl)
theorem d_X8_clause_138 : decode prog_10_method_41_code 138 = .ok (.aload_n 0, 1) := dc_X8_clause (138, .aload_n 0, 1) (List.mem_of_getElem? (i := 73) rfl)
theorem d_X8_clause_139 : decode prog_10_method_41_code 139 = .ok (.getfield 85, 3) := dc_X8_clause (139, .getfield 85, 3) (List.mem_of_getElem? (i := 74) rfl)
theorem d_X8_clause_142 : decode prog_10_method_41_code 142 = .ok (.aload_n 0, 1) := dc_X8_clause (142, .aload_n 0, 1) (List.mem_of_getElem? (i := 75) rfl)
theorem d_X8_clause_143 : decode prog_10_method_41_code 143 = .ok (.getfield 307, 3) := dc_X8_clause (143, .getfield 307, 3) (List.mem_of_getElem? (i := 76) rfl)
theorem d_X8_clause_146 : decode prog_10_method_41_code 146 = .ok (.aload_n 0, 1) := dc_X8_clause (146, .aload_n 0, 1) (List.mem_of_getElem? (i := 77) rfl)
theorem d_X8_clause_147 : decode prog_10_method_41_code 147 = .ok (.getfield 221, 3) := dc_X8_clause (147, .getfield 221, 3) (List.mem_of_getElem? (i := 78) rfl)
theorem d_X8_clause_150 : decode prog_10_method_41_code 150 = .ok (.iastore, 1) := dc_X8_clause (150, .iastore, 1) (List.mem_of_getElem? (i := 79) rfl)
theorem d_X8_clause_151 : decode prog_10_method_41_code 151 = .ok (.aload_n 0, 1) := dc_X8_clause (151, .aload_n 0, 1) (List.mem_of_getElem? (i := 80) rfl)
theorem d_X8_clause_152 : decode prog_10_method_41_code 152 = .ok (.dup, 1) := dc_X8_clause (152, .dup, 1) (List.mem_of_getElem? (i := 81) rfl)
theorem d_X8_clause_153 : decode prog_10_method_41_code 153 = .ok (.getfield 307, 3) := dc_X8_clause (153, .getfield 307, 3) (List.mem_of_getElem? (i := 82) rfl)
theorem d_X8_clause_156 : decode prog_10_method_41_code 156 = .ok (.iconst 1, 1) := dc_X8_clause (156, .iconst 1, 1) (List.mem_of_getElem? (i := 83) rfl)
theorem d_X8_clause_157 : decode prog_10_method_41_code 157 = .ok (.iadd, 1) := dc_X8_clause (157, .iadd, 1) (List.mem_of_getElem? (i := 84) rfl)
theorem d_X8_clause_158 : decode prog_10_method_41_code 158 = .ok (.putfield 307, 3) := dc_X8_clause (158, .putfield 307, 3) (List.mem_of_getElem? (i := 85) rfl)
theorem d_X8_clause_161 : decode prog_10_method_41_code 161 = .ok (.return_, 1) := dc_X8_clause (161, .return_, 1) (List.mem_of_getElem? (i := 86) rfl)
def cd_X8_law : List (Nat × Instr × Nat) := [(0, .iload_n 1, 1), (1, .i2l, 1), (2, .lconst 1, 1), (3, .ldc2_w 313, 3), (6, .invokestatic 168, 3), (9, .ifCond .eq 11, 3), (12, .iload_n 1, 1), (13, .aload_n 0, 1), (14, .getfield 201, 3), (17, .if_icmp .le 5, 3), (20, .iconst (-1), 1), (21, .ireturn, 1), (22, .aload_n 0, 1), (23, .iconst 0, 1), (24, .putfield 201, 3), (27, .aload_n 0, 1), (28, .iconst 0, 1), (29, .putfield 208, 3), (32, .aload_n 0, 1), (33, .iload_n 1, 1), (34, .putfield 211, 3), (37, .aload_n 0, 1), (38, .iconst 0, 1), (39, .putfield 214, 3), (42, .aload_n 0, 1), (43, .iconst 0, 1), (44, .putfield 307, 3), (47, .aload_n 0, 1), (48, .iconst 0, 1), (49, .putfield 221, 3), (52, .iconst 1, 1), (53, .istore_n 2, 1), (54, .iload_n 2, 1), (55, .ifCond .eq 73, 3), (58, .aload_n 0, 1), (59, .invokevirtual 217, 3), (62, .ifCond .eq 66, 3), (65, .aload_n 0, 1), (66, .invokevirtual 315, 3), (69, .aload_n 0, 1), (70, .invokevirtual 217, 3), (73, .ifCond .eq 18, 3), (76, .aload_n 0, 1), (77, .getfield 208, 3), (80, .aload_n 0, 1), (81, .getfield 211, 3), (84, .if_icmp .ge 7, 3), (87, .iconst 1, 1), (88, .goto 4, 3), (91, .iconst 0, 1), (92, .istore_n 2, 1), (93, .iload_n 2, 1), (94, .ifCond .eq (-40), 3), (97, .aload_n 0, 1), (98, .invokevirtual 234, 3), (101, .bipush 59, 2), (103, .if_icmp .eq 12, 3), (106, .aload_n 0, 1), (107, .iconst 1, 1), (108, .aload_n 0, 1), (109, .getfield 208, 3), (112, .invokevirtual 230, 3), (115, .aload_n 0, 1), (116, .dup, 1), (117, .getfield 208, 3), (120, .iconst 1, 1), (121, .iadd, 1), (122, .putfield 208, 3), (125, .goto (-71), 3), (128, .aload_n 0, 1), (129, .getfield 214, 3), (132, .ifCond .ge 8, 3), (135, .aload_n 0, 1), (136, .getfield 214, 3), (139, .ireturn, 1), (140, .iconst 0, 1), (141, .istore_n 3, 1), (142, .iload_n 3, 1), (143, .aload_n 0, 1), (144, .getfield 307, 3), (147, .if_icmp .ge 57, 3), (150, .aload_n 0, 1), (151, .getfield 58, 3), (154, .iload_n 3, 1), (155, .aload_n 0, 1), (156, .getfield 76, 3), (159, .iload_n 3, 1), (160, .iaload, 1), (161, .iastore, 1), (162, .aload_n 0, 1), (163, .getfield 61, 3), (166, .iload_n 3, 1), (167, .aload_n 0, 1), (168, .getfield 79, 3), (171, .iload_n 3, 1), (172, .iaload, 1), (173, .iastore, 1), (174, .aload_n 0, 1), (175, .getfield 64, 3), (178, .iload_n 3, 1), (179, .aload_n 0, 1), (180, .getfield 82, 3), (183, .iload_n 3, 1), (184, .iaload, 1), (185, .iastore, 1), (186, .aload_n 0, 1), (187, .getfield 67, 3), (190, .iload_n 3, 1), (191, .aload_n 0, 1), (192, .getfield 85, 3), (195, .iload_n 3, 1), (196, .iaload, 1), (197, .iastore, 1), (198, .iinc 3 1, 3), (201, .goto (-59), 3), (204, .iconst 0, 1), (205, .istore_n 3, 1), (206, .iload_n 3, 1), (207, .aload_n 0, 1), (208, .getfield 221, 3), (211, .if_icmp .ge 33, 3), (214, .aload_n 0, 1), (215, .getfield 70, 3), (218, .iload_n 3, 1), (219, .aload_n 0, 1), (220, .getfield 88, 3), (223, .iload_n 3, 1), (224, .iaload, 1), (225, .iastore, 1), (226, .aload_n 0, 1), (227, .getfield 73, 3), (230, .iload_n 3, 1), (231, .aload_n 0, 1), (232, .getfield 91, 3), (235, .iload_n 3, 1), (236, .iaload, 1), (237, .iastore, 1), (238, .iinc 3 1, 3), (241, .goto (-35), 3), (244, .aload_n 0, 1), (245, .aload_n 0, 1), (246, .getfield 307, 3), (249, .putfield 318, 3), (252, .aload_n 0, 1), (253, .getfield 318, 3), (256, .ireturn, 1)]
theorem dc_X8_law : ∀ q ∈ cd_X8_law, decode prog_10_method_42_code q.1 = .ok (q.2.1, q.2.2) := by decide +kernel
theorem d_X8_law_0 : decode prog_10_method_42_code 0 = .ok (.iload_n 1, 1) := dc_X8_law (0, .iload_n 1, 1) (List.mem_of_getElem? (i := 0) rfl)
theorem d_X8_law_1 : decode prog_10_method_42_code 1 = .ok (.i2l, 1) := dc_X8_law (1, .i2l, 1) (List.mem_of_getElem? (i := 1) rfl)
theorem d_X8_law_2 : decode prog_10_method_42_code 2 = .ok (.lconst 1, 1) := dc_X8_law (2, .lconst 1, 1) (List.mem_of_getElem? (i := 2) rfl)
theorem d_X8_law_3 : decode prog_10_method_42_code 3 = .ok (.ldc2_w 313, 3) := dc_X8_law (3, .ldc2_w 313, 3) (List.mem_of_getElem? (i := 3) rfl)
theorem d_X8_law_6 : decode prog_10_method_42_code 6 = .ok (.invokestatic 168, 3) := dc_X8_law (6, .invokestatic 168, 3) (List.mem_of_getElem? (i := 4) rfl)
theorem d_X8_law_9 : decode prog_10_method_42_code 9 = .ok (.ifCond .eq 11, 3) := dc_X8_law (9, .ifCond .eq 11, 3) (List.mem_of_getElem? (i := 5) rfl)
theorem d_X8_law_12 : decode prog_10_method_42_code 12 = .ok (.iload_n 1, 1) := dc_X8_law (12, .iload_n 1, 1) (List.mem_of_getElem? (i := 6) rfl)
theorem d_X8_law_13 : decode prog_10_method_42_code 13 = .ok (.aload_n 0, 1) := dc_X8_law (13, .aload_n 0, 1) (List.mem_of_getElem? (i := 7) rfl)
theorem d_X8_law_14 : decode prog_10_method_42_code 14 = .ok (.getfield 201, 3) := dc_X8_law (14, .getfield 201, 3) (List.mem_of_getElem? (i := 8) rfl)
theorem d_X8_law_17 : decode prog_10_method_42_code 17 = .ok (.if_icmp .le 5, 3) := dc_X8_law (17, .if_icmp .le 5, 3) (List.mem_of_getElem? (i := 9) rfl)
theorem d_X8_law_20 : decode prog_10_method_42_code 20 = .ok (.iconst (-1), 1) := dc_X8_law (20, .iconst (-1), 1) (List.mem_of_getElem? (i := 10) rfl)
theorem d_X8_law_21 : decode prog_10_method_42_code 21 = .ok (.ireturn, 1) := dc_X8_law (21, .ireturn, 1) (List.mem_of_getElem? (i := 11) rfl)
theorem d_X8_law_22 : decode prog_10_method_42_code 22 = .ok (.aload_n 0, 1) := dc_X8_law (22, .aload_n 0, 1) (List.mem_of_getElem? (i := 12) rfl)
theorem d_X8_law_23 : decode prog_10_method_42_code 23 = .ok (.iconst 0, 1) := dc_X8_law (23, .iconst 0, 1) (List.mem_of_getElem? (i := 13) rfl)
theorem d_X8_law_24 : decode prog_10_method_42_code 24 = .ok (.putfield 201, 3) := dc_X8_law (24, .putfield 201, 3) (List.mem_of_getElem? (i := 14) rfl)
theorem d_X8_law_27 : decode prog_10_method_42_code 27 = .ok (.aload_n 0, 1) := dc_X8_law (27, .aload_n 0, 1) (List.mem_of_getElem? (i := 15) rfl)
theorem d_X8_law_28 : decode prog_10_method_42_code 28 = .ok (.iconst 0, 1) := dc_X8_law (28, .iconst 0, 1) (List.mem_of_getElem? (i := 16) rfl)
theorem d_X8_law_29 : decode prog_10_method_42_code 29 = .ok (.putfield 208, 3) := dc_X8_law (29, .putfield 208, 3) (List.mem_of_getElem? (i := 17) rfl)
theorem d_X8_law_32 : decode prog_10_method_42_code 32 = .ok (.aload_n 0, 1) := dc_X8_law (32, .aload_n 0, 1) (List.mem_of_getElem? (i := 18) rfl)
theorem d_X8_law_33 : decode prog_10_method_42_code 33 = .ok (.iload_n 1, 1) := dc_X8_law (33, .iload_n 1, 1) (List.mem_of_getElem? (i := 19) rfl)
theorem d_X8_law_34 : decode prog_10_method_42_code 34 = .ok (.putfield 211, 3) := dc_X8_law (34, .putfield 211, 3) (List.mem_of_getElem? (i := 20) rfl)
theorem d_X8_law_37 : decode prog_10_method_42_code 37 = .ok (.aload_n 0, 1) := dc_X8_law (37, .aload_n 0, 1) (List.mem_of_getElem? (i := 21) rfl)
theorem d_X8_law_38 : decode prog_10_method_42_code 38 = .ok (.iconst 0, 1) := dc_X8_law (38, .iconst 0, 1) (List.mem_of_getElem? (i := 22) rfl)
theorem d_X8_law_39 : decode prog_10_method_42_code 39 = .ok (.putfield 214, 3) := dc_X8_law (39, .putfield 214, 3) (List.mem_of_getElem? (i := 23) rfl)
theorem d_X8_law_42 : decode prog_10_method_42_code 42 = .ok (.aload_n 0, 1) := dc_X8_law (42, .aload_n 0, 1) (List.mem_of_getElem? (i := 24) rfl)
theorem d_X8_law_43 : decode prog_10_method_42_code 43 = .ok (.iconst 0, 1) := dc_X8_law (43, .iconst 0, 1) (List.mem_of_getElem? (i := 25) rfl)
theorem d_X8_law_44 : decode prog_10_method_42_code 44 = .ok (.putfield 307, 3) := dc_X8_law (44, .putfield 307, 3) (List.mem_of_getElem? (i := 26) rfl)
theorem d_X8_law_47 : decode prog_10_method_42_code 47 = .ok (.aload_n 0, 1) := dc_X8_law (47, .aload_n 0, 1) (List.mem_of_getElem? (i := 27) rfl)
theorem d_X8_law_48 : decode prog_10_method_42_code 48 = .ok (.iconst 0, 1) := dc_X8_law (48, .iconst 0, 1) (List.mem_of_getElem? (i := 28) rfl)
theorem d_X8_law_49 : decode prog_10_method_42_code 49 = .ok (.putfield 221, 3) := dc_X8_law (49, .putfield 221, 3) (List.mem_of_getElem? (i := 29) rfl)
theorem d_X8_law_52 : decode prog_10_method_42_code 52 = .ok (.iconst 1, 1) := dc_X8_law (52, .iconst 1, 1) (List.mem_of_getElem? (i := 30) rfl)
theorem d_X8_law_53 : decode prog_10_method_42_code 53 = .ok (.istore_n 2, 1) := dc_X8_law (53, .istore_n 2, 1) (List.mem_of_getElem? (i := 31) rfl)
theorem d_X8_law_54 : decode prog_10_method_42_code 54 = .ok (.iload_n 2, 1) := dc_X8_law (54, .iload_n 2, 1) (List.mem_of_getElem? (i := 32) rfl)
theorem d_X8_law_55 : decode prog_10_method_42_code 55 = .ok (.ifCond .eq 73, 3) := dc_X8_law (55, .ifCond .eq 73, 3) (List.mem_of_getElem? (i := 33) rfl)
theorem d_X8_law_58 : decode prog_10_method_42_code 58 = .ok (.aload_n 0, 1) := dc_X8_law (58, .aload_n 0, 1) (List.mem_of_getElem? (i := 34) rfl)
theorem d_X8_law_59 : decode prog_10_method_42_code 59 = .ok (.invokevirtual 217, 3) := dc_X8_law (59, .invokevirtual 217, 3) (List.mem_of_getElem? (i := 35) rfl)
theorem d_X8_law_62 : decode prog_10_method_42_code 62 = .ok (.ifCond .eq 66, 3) := dc_X8_law (62, .ifCond .eq 66, 3) (List.mem_of_getElem? (i := 36) rfl)
theorem d_X8_law_65 : decode prog_10_method_42_code 65 = .ok (.aload_n 0, 1) := dc_X8_law (65, .aload_n 0, 1) (List.mem_of_getElem? (i := 37) rfl)
theorem d_X8_law_66 : decode prog_10_method_42_code 66 = .ok (.invokevirtual 315, 3) := dc_X8_law (66, .invokevirtual 315, 3) (List.mem_of_getElem? (i := 38) rfl)
theorem d_X8_law_69 : decode prog_10_method_42_code 69 = .ok (.aload_n 0, 1) := dc_X8_law (69, .aload_n 0, 1) (List.mem_of_getElem? (i := 39) rfl)
theorem d_X8_law_70 : decode prog_10_method_42_code 70 = .ok (.invokevirtual 217, 3) := dc_X8_law (70, .invokevirtual 217, 3) (List.mem_of_getElem? (i := 40) rfl)
theorem d_X8_law_73 : decode prog_10_method_42_code 73 = .ok (.ifCond .eq 18, 3) := dc_X8_law (73, .ifCond .eq 18, 3) (List.mem_of_getElem? (i := 41) rfl)
theorem d_X8_law_76 : decode prog_10_method_42_code 76 = .ok (.aload_n 0, 1) := dc_X8_law (76, .aload_n 0, 1) (List.mem_of_getElem? (i := 42) rfl)
theorem d_X8_law_77 : decode prog_10_method_42_code 77 = .ok (.getfield 208, 3) := dc_X8_law (77, .getfield 208, 3) (List.mem_of_getElem? (i := 43) rfl)
theorem d_X8_law_80 : decode prog_10_method_42_code 80 = .ok (.aload_n 0, 1) := dc_X8_law (80, .aload_n 0, 1) (List.mem_of_getElem? (i := 44) rfl)
theorem d_X8_law_81 : decode prog_10_method_42_code 81 = .ok (.getfield 211, 3) := dc_X8_law (81, .getfield 211, 3) (List.mem_of_getElem? (i := 45) rfl)
theorem d_X8_law_84 : decode prog_10_method_42_code 84 = .ok (.if_icmp .ge 7, 3) := dc_X8_law (84, .if_icmp .ge 7, 3) (List.mem_of_getElem? (i := 46) rfl)
theorem d_X8_law_87 : decode prog_10_method_42_code 87 = .ok (.iconst 1, 1) := dc_X8_law (87, .iconst 1, 1) (List.mem_of_getElem? (i := 47) rfl)
theorem d_X8_law_88 : decode prog_10_method_42_code 88 = .ok (.goto 4, 3) := dc_X8_law (88, .goto 4, 3) (List.mem_of_getElem? (i := 48) rfl)
theorem d_X8_law_91 : decode prog_10_method_42_code 91 = .ok (.iconst 0, 1) := dc_X8_law (91, .iconst 0, 1) (List.mem_of_getElem? (i := 49) rfl)
theorem d_X8_law_92 : decode prog_10_method_42_code 92 = .ok (.istore_n 2, 1) := dc_X8_law (92, .istore_n 2, 1) (List.mem_of_getElem? (i := 50) rfl)
theorem d_X8_law_93 : decode prog_10_method_42_code 93 = .ok (.iload_n 2, 1) := dc_X8_law (93, .iload_n 2, 1) (List.mem_of_getElem? (i := 51) rfl)
theorem d_X8_law_94 : decode prog_10_method_42_code 94 = .ok (.ifCond .eq (-40), 3) := dc_X8_law (94, .ifCond .eq (-40), 3) (List.mem_of_getElem? (i := 52) rfl)
theorem d_X8_law_97 : decode prog_10_method_42_code 97 = .ok (.aload_n 0, 1) := dc_X8_law (97, .aload_n 0, 1) (List.mem_of_getElem? (i := 53) rfl)
theorem d_X8_law_98 : decode prog_10_method_42_code 98 = .ok (.invokevirtual 234, 3) := dc_X8_law (98, .invokevirtual 234, 3) (List.mem_of_getElem? (i := 54) rfl)
theorem d_X8_law_101 : decode prog_10_method_42_code 101 = .ok (.bipush 59, 2) := dc_X8_law (101, .bipush 59, 2) (List.mem_of_getElem? (i := 55) rfl)
theorem d_X8_law_103 : decode prog_10_method_42_code 103 = .ok (.if_icmp .eq 12, 3) := dc_X8_law (103, .if_icmp .eq 12, 3) (List.mem_of_getElem? (i := 56) rfl)
theorem d_X8_law_106 : decode prog_10_method_42_code 106 = .ok (.aload_n 0, 1) := dc_X8_law (106, .aload_n 0, 1) (List.mem_of_getElem? (i := 57) rfl)
theorem d_X8_law_107 : decode prog_10_method_42_code 107 = .ok (.iconst 1, 1) := dc_X8_law (107, .iconst 1, 1) (List.mem_of_getElem? (i := 58) rfl)
theorem d_X8_law_108 : decode prog_10_method_42_code 108 = .ok (.aload_n 0, 1) := dc_X8_law (108, .aload_n 0, 1) (List.mem_of_getElem? (i := 59) rfl)
theorem d_X8_law_109 : decode prog_10_method_42_code 109 = .ok (.getfield 208, 3) := dc_X8_law (109, .getfield 208, 3) (List.mem_of_getElem? (i := 60) rfl)
theorem d_X8_law_112 : decode prog_10_method_42_code 112 = .ok (.invokevirtual 230, 3) := dc_X8_law (112, .invokevirtual 230, 3) (List.mem_of_getElem? (i := 61) rfl)
theorem d_X8_law_115 : decode prog_10_method_42_code 115 = .ok (.aload_n 0, 1) := dc_X8_law (115, .aload_n 0, 1) (List.mem_of_getElem? (i := 62) rfl)
theorem d_X8_law_116 : decode prog_10_method_42_code 116 = .ok (.dup, 1) := dc_X8_law (116, .dup, 1) (List.mem_of_getElem? (i := 63) rfl)
theorem d_X8_law_117 : decode prog_10_method_42_code 117 = .ok (.getfield 208, 3) := dc_X8_law (117, .getfield 208, 3) (List.mem_of_getElem? (i := 64) rfl)
theorem d_X8_law_120 : decode prog_10_method_42_code 120 = .ok (.iconst 1, 1) := dc_X8_law (120, .iconst 1, 1) (List.mem_of_getElem? (i := 65) rfl)
theorem d_X8_law_121 : decode prog_10_method_42_code 121 = .ok (.iadd, 1) := dc_X8_law (121, .iadd, 1) (List.mem_of_getElem? (i := 66) rfl)
theorem d_X8_law_122 : decode prog_10_method_42_code 122 = .ok (.putfield 208, 3) := dc_X8_law (122, .putfield 208, 3) (List.mem_of_getElem? (i := 67) rfl)
theorem d_X8_law_125 : decode prog_10_method_42_code 125 = .ok (.goto (-71), 3) := dc_X8_law (125, .goto (-71), 3) (List.mem_of_getElem? (i := 68) rfl)
theorem d_X8_law_128 : decode prog_10_method_42_code 128 = .ok (.aload_n 0, 1) := dc_X8_law (128, .aload_n 0, 1) (List.mem_of_getElem? (i := 69) rfl)
theorem d_X8_law_129 : decode prog_10_method_42_code 129 = .ok (.getfield 214, 3) := dc_X8_law (129, .getfield 214, 3) (List.mem_of_getElem? (i := 70) rfl)
theorem d_X8_law_132 : decode prog_10_method_42_code 132 = .ok (.ifCond .ge 8, 3) := dc_X8_law (132, .ifCond .ge 8, 3) (List.mem_of_getElem? (i := 71) rfl)
theorem d_X8_law_135 : decode prog_10_method_42_code 135 = .ok (.aload_n 0, 1) := dc_X8_law (135, .aload_n 0, 1) (List.mem_of_getElem? (i := 72) rfl)
theorem d_X8_law_136 : decode prog_10_method_42_code 136 = .ok (.getfield 214, 3) := dc_X8_law (136, .getfield 214, 3) (List.mem_of_getElem? (i := 73) rfl)
theorem d_X8_law_139 : decode prog_10_method_42_code 139 = .ok (.ireturn, 1) := dc_X8_law (139, .ireturn, 1) (List.mem_of_getElem? (i := 74) rfl)
theorem d_X8_law_140 : decode prog_10_method_42_code 140 = .ok (.iconst 0, 1) := dc_X8_law (140, .iconst 0, 1) (List.mem_of_getElem? (i := 75) rfl)
theorem d_X8_law_141 : decode prog_10_method_42_code 141 = .ok (.istore_n 3, 1) := dc_X8_law (141, .istore_n 3, 1) (List.mem_of_getElem? (i := 76) rfl)
theorem d_X8_law_142 : decode prog_10_method_42_code 142 = .ok (.iload_n 3, 1) := dc_X8_law (142, .iload_n 3, 1) (List.mem_of_getElem? (i := 77) rfl)
theorem d_X8_law_143 : decode prog_10_method_42_code 143 = .ok (.aload_n 0, 1) := dc_X8_law (143, .aload_n 0, 1) (List.mem_of_getElem? (i := 78) rfl)
theorem d_X8_law_144 : decode prog_10_method_42_code 144 = .ok (.getfield 307, 3) := dc_X8_law (144, .getfield 307, 3) (List.mem_of_getElem? (i := 79) rfl)
theorem d_X8_law_147 : decode prog_10_method_42_code 147 = .ok (.if_icmp .ge 57, 3) := dc_X8_law (147, .if_icmp .ge 57, 3) (List.mem_of_getElem? (i := 80) rfl)
theorem d_X8_law_150 : decode prog_10_method_42_code 150 = .ok (.aload_n 0, 1) := dc_X8_law (150, .aload_n 0, 1) (List.mem_of_getElem? (i := 81) rfl)
theorem d_X8_law_151 : decode prog_10_method_42_code 151 = .ok (.getfield 58, 3) := dc_X8_law (151, .getfield 58, 3) (List.mem_of_getElem? (i := 82) rfl)
theorem d_X8_law_154 : decode prog_10_method_42_code 154 = .ok (.iload_n 3, 1) := dc_X8_law (154, .iload_n 3, 1) (List.mem_of_getElem? (i := 83) rfl)
theorem d_X8_law_155 : decode prog_10_method_42_code 155 = .ok (.aload_n 0, 1) := dc_X8_law (155, .aload_n 0, 1) (List.mem_of_getElem? (i := 84) rfl)
theorem d_X8_law_156 : decode prog_10_method_42_code 156 = .ok (.getfield 76, 3) := dc_X8_law (156, .getfield 76, 3) (List.mem_of_getElem? (i := 85) rfl)
theorem d_X8_law_159 : decode prog_10_method_42_code 159 = .ok (.iload_n 3, 1) := dc_X8_law (159, .iload_n 3, 1) (List.mem_of_getElem? (i := 86) rfl)
theorem d_X8_law_160 : decode prog_10_method_42_code 160 = .ok (.iaload, 1) := dc_X8_law (160, .iaload, 1) (List.mem_of_getElem? (i := 87) rfl)
theorem d_X8_law_161 : decode prog_10_method_42_code 161 = .ok (.iastore, 1) := dc_X8_law (161, .iastore, 1) (List.mem_of_getElem? (i := 88) rfl)
theorem d_X8_law_162 : decode prog_10_method_42_code 162 = .ok (.aload_n 0, 1) := dc_X8_law (162, .aload_n 0, 1) (List.mem_of_getElem? (i := 89) rfl)
theorem d_X8_law_163 : decode prog_10_method_42_code 163 = .ok (.getfield 61, 3) := dc_X8_law (163, .getfield 61, 3) (List.mem_of_getElem? (i := 90) rfl)
theorem d_X8_law_166 : decode prog_10_method_42_code 166 = .ok (.iload_n 3, 1) := dc_X8_law (166, .iload_n 3, 1) (List.mem_of_getElem? (i := 91) rfl)
theorem d_X8_law_167 : decode prog_10_method_42_code 167 = .ok (.aload_n 0, 1) := dc_X8_law (167, .aload_n 0, 1) (List.mem_of_getElem? (i := 92) rfl)
theorem d_X8_law_168 : decode prog_10_method_42_code 168 = .ok (.getfield 79, 3) := dc_X8_law (168, .getfield 79, 3) (List.mem_of_getElem? (i := 93) rfl)
theorem d_X8_law_171 : decode prog_10_method_42_code 171 = .ok (.iload_n 3, 1) := dc_X8_law (171, .iload_n 3, 1) (List.mem_of_getElem? (i := 94) rfl)
theorem d_X8_law_172 : decode prog_10_method_42_code 172 = .ok (.iaload, 1) := dc_X8_law (172, .iaload, 1) (List.mem_of_getElem? (i := 95) rfl)
theorem d_X8_law_173 : decode prog_10_method_42_code 173 = .ok (.iastore, 1) := dc_X8_law (173, .iastore, 1) (List.mem_of_getElem? (i := 96) rfl)
theorem d_X8_law_174 : decode prog_10_method_42_code 174 = .ok (.aload_n 0, 1) := dc_X8_law (174, .aload_n 0, 1) (List.mem_of_getElem? (i := 97) rfl)
theorem d_X8_law_175 : decode prog_10_method_42_code 175 = .ok (.getfield 64, 3) := dc_X8_law (175, .getfield 64, 3) (List.mem_of_getElem? (i := 98) rfl)
theorem d_X8_law_178 : decode prog_10_method_42_code 178 = .ok (.iload_n 3, 1) := dc_X8_law (178, .iload_n 3, 1) (List.mem_of_getElem? (i := 99) rfl)
theorem d_X8_law_179 : decode prog_10_method_42_code 179 = .ok (.aload_n 0, 1) := dc_X8_law (179, .aload_n 0, 1) (List.mem_of_getElem? (i := 100) rfl)
theorem d_X8_law_180 : decode prog_10_method_42_code 180 = .ok (.getfield 82, 3) := dc_X8_law (180, .getfield 82, 3) (List.mem_of_getElem? (i := 101) rfl)
theorem d_X8_law_183 : decode prog_10_method_42_code 183 = .ok (.iload_n 3, 1) := dc_X8_law (183, .iload_n 3, 1) (List.mem_of_getElem? (i := 102) rfl)
theorem d_X8_law_184 : decode prog_10_method_42_code 184 = .ok (.iaload, 1) := dc_X8_law (184, .iaload, 1) (List.mem_of_getElem? (i := 103) rfl)
theorem d_X8_law_185 : decode prog_10_method_42_code 185 = .ok (.iastore, 1) := dc_X8_law (185, .iastore, 1) (List.mem_of_getElem? (i := 104) rfl)
theorem d_X8_law_186 : decode prog_10_method_42_code 186 = .ok (.aload_n 0, 1) := dc_X8_law (186, .aload_n 0, 1) (List.mem_of_getElem? (i := 105) rfl)
theorem d_X8_law_187 : decode prog_10_method_42_code 187 = .ok (.getfield 67, 3) := dc_X8_law (187, .getfield 67, 3) (List.mem_of_getElem? (i := 106) rfl)
theorem d_X8_law_190 : decode prog_10_method_42_code 190 = .ok (.iload_n 3, 1) := dc_X8_law (190, .iload_n 3, 1) (List.mem_of_getElem? (i := 107) rfl)
theorem d_X8_law_191 : decode prog_10_method_42_code 191 = .ok (.aload_n 0, 1) := dc_X8_law (191, .aload_n 0, 1) (List.mem_of_getElem? (i := 108) rfl)
theorem d_X8_law_192 : decode prog_10_method_42_code 192 = .ok (.getfield 85, 3) := dc_X8_law (192, .getfield 85, 3) (List.mem_of_getElem? (i := 109) rfl)
theorem d_X8_law_195 : decode prog_10_method_42_code 195 = .ok (.iload_n 3, 1) := dc_X8_law (195, .iload_n 3, 1) (List.mem_of_getElem? (i := 110) rfl)
theorem d_X8_law_196 : decode prog_10_method_42_code 196 = .ok (.iaload, 1) := dc_X8_law (196, .iaload, 1) (List.mem_of_getElem? (i := 111) rfl)
theorem d_X8_law_197 : decode prog_10_method_42_code 197 = .ok (.iastore, 1) := dc_X8_law (197, .iastore, 1) (List.mem_of_getElem? (i := 112) rfl)
theorem d_X8_law_198 : decode prog_10_method_42_code 198 = .ok (.iinc 3 1, 3) := dc_X8_law (198, .iinc 3 1, 3) (List.mem_of_getElem? (i := 113) rfl)
theorem d_X8_law_201 : decode prog_10_method_42_code 201 = .ok (.goto (-59), 3) := dc_X8_law (201, .goto (-59), 3) (List.mem_of_getElem? (i := 114) rfl)
theorem d_X8_law_204 : decode prog_10_method_42_code 204 = .ok (.iconst 0, 1) := dc_X8_law (204, .iconst 0, 1) (List.mem_of_getElem? (i := 115) rfl)
theorem d_X8_law_205 : decode prog_10_method_42_code 205 = .ok (.istore_n 3, 1) := dc_X8_law (205, .istore_n 3, 1) (List.mem_of_getElem? (i := 116) rfl)
theorem d_X8_law_206 : decode prog_10_method_42_code 206 = .ok (.iload_n 3, 1) := dc_X8_law (206, .iload_n 3, 1) (List.mem_of_getElem? (i := 117) rfl)
theorem d_X8_law_207 : decode prog_10_method_42_code 207 = .ok (.aload_n 0, 1) := dc_X8_law (207, .aload_n 0, 1) (List.mem_of_getElem? (i := 118) rfl)
theorem d_X8_law_208 : decode prog_10_method_42_code 208 = .ok (.getfield 221, 3) := dc_X8_law (208, .getfield 221, 3) (List.mem_of_getElem? (i := 119) rfl)
theorem d_X8_law_211 : decode prog_10_method_42_code 211 = .ok (.if_icmp .ge 33, 3) := dc_X8_law (211, .if_icmp .ge 33, 3) (List.mem_of_getElem? (i := 120) rfl)
theorem d_X8_law_214 : decode prog_10_method_42_code 214 = .ok (.aload_n 0, 1) := dc_X8_law (214, .aload_n 0, 1) (List.mem_of_getElem? (i := 121) rfl)
theorem d_X8_law_215 : decode prog_10_method_42_code 215 = .ok (.getfield 70, 3) := dc_X8_law (215, .getfield 70, 3) (List.mem_of_getElem? (i := 122) rfl)
theorem d_X8_law_218 : decode prog_10_method_42_code 218 = .ok (.iload_n 3, 1) := dc_X8_law (218, .iload_n 3, 1) (List.mem_of_getElem? (i := 123) rfl)
theorem d_X8_law_219 : decode prog_10_method_42_code 219 = .ok (.aload_n 0, 1) := dc_X8_law (219, .aload_n 0, 1) (List.mem_of_getElem? (i := 124) rfl)
theorem d_X8_law_220 : decode prog_10_method_42_code 220 = .ok (.getfield 88, 3) := dc_X8_law (220, .getfield 88, 3) (List.mem_of_getElem? (i := 125) rfl)
theorem d_X8_law_223 : decode prog_10_method_42_code 223 = .ok (.iload_n 3, 1) := dc_X8_law (223, .iload_n 3, 1) (List.mem_of_getElem? (i := 126) rfl)
theorem d_X8_law_224 : decode prog_10_method_42_code 224 = .ok (.iaload, 1) := dc_X8_law (224, .iaload, 1) (List.mem_of_getElem? (i := 127) rfl)
theorem d_X8_law_225 : decode prog_10_method_42_code 225 = .ok (.iastore, 1) := dc_X8_law (225, .iastore, 1) (List.mem_of_getElem? (i := 128) rfl)
theorem d_X8_law_226 : decode prog_10_method_42_code 226 = .ok (.aload_n 0, 1) := dc_X8_law (226, .aload_n 0, 1) (List.mem_of_getElem? (i := 129) rfl)
theorem d_X8_law_227 : decode prog_10_method_42_code 227 = .ok (.getfield 73, 3) := dc_X8_law (227, .getfield 73, 3) (List.mem_of_getElem? (i := 130) rfl)
theorem d_X8_law_230 : decode prog_10_method_42_code 230 = .ok (.iload_n 3, 1) := dc_X8_law (230, .iload_n 3, 1) (List.mem_of_getElem? (i := 131) rfl)
theorem d_X8_law_231 : decode prog_10_method_42_code 231 = .ok (.aload_n 0, 1) := dc_X8_law (231, .aload_n 0, 1) (List.mem_of_getElem? (i := 132) rfl)
theorem d_X8_law_232 : decode prog_10_method_42_code 232 = .ok (.getfield 91, 3) := dc_X8_law (232, .getfield 91, 3) (List.mem_of_getElem? (i := 133) rfl)
theorem d_X8_law_235 : decode prog_10_method_42_code 235 = .ok (.iload_n 3, 1) := dc_X8_law (235, .iload_n 3, 1) (List.mem_of_getElem? (i := 134) rfl)
theorem d_X8_law_236 : decode prog_10_method_42_code 236 = .ok (.iaload, 1) := dc_X8_law (236, .iaload, 1) (List.mem_of_getElem? (i := 135) rfl)
theorem d_X8_law_237 : decode prog_10_method_42_code 237 = .ok (.iastore, 1) := dc_X8_law (237, .iastore, 1) (List.mem_of_getElem? (i := 136) rfl)
theorem d_X8_law_238 : decode prog_10_method_42_code 238 = .ok (.iinc 3 1, 3) := dc_X8_law (238, .iinc 3 1, 3) (List.mem_of_getElem? (i := 137) rfl)
theorem d_X8_law_241 : decode prog_10_method_42_code 241 = .ok (.goto (-35), 3) := dc_X8_law (241, .goto (-35), 3) (List.mem_of_getElem? (i := 138) rfl)
theorem d_X8_law_244 : decode prog_10_method_42_code 244 = .ok (.aload_n 0, 1) := dc_X8_law (244, .aload_n 0, 1) (List.mem_of_getElem? (i := 139) rfl)
theorem d_X8_law_245 : decode prog_10_method_42_code 245 = .ok (.aload_n 0, 1) := dc_X8_law (245, .aload_n 0, 1) (List.mem_of_getElem? (i := 140) rfl)
theorem d_X8_law_246 : decode prog_10_method_42_code 246 = .ok (.getfield 307, 3) := dc_X8_law (246, .getfield 307, 3) (List.mem_of_getElem? (i := 141) rfl)
theorem d_X8_law_249 : decode prog_10_method_42_code 249 = .ok (.putfield 318, 3) := dc_X8_law (249, .putfield 318, 3) (List.mem_of_getElem? (i := 142) rfl)
theorem d_X8_law_252 : decode prog_10_method_42_code 252 = .ok (.aload_n 0, 1) := dc_X8_law (252, .aload_n 0, 1) (List.mem_of_getElem? (i := 143) rfl)
theorem d_X8_law_253 : decode prog_10_method_42_code 253 = .ok (.getfield 318, 3) := dc_X8_law (253, .getfield 318, 3) (List.mem_of_getElem? (i := 144) rfl)
theorem d_X8_law_256 : decode prog_10_method_42_code 256 = .ok (.ireturn, 1) := dc_X8_law (256, .ireturn, 1) (List.mem_of_getElem? (i := 145) rfl)
