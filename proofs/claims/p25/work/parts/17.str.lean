/-! STRINGS: indexOf over a constant text; what it answers lies between -1 and 12 -/
def yJ0_coder_7d493 : MethodName := ⟨"java/lang/String", "coder", "()B"⟩
def yJ0_isLatin1_aae02 : MethodName := ⟨"java/lang/String", "isLatin1", "()Z"⟩
def yJ0_length_8abf5 : MethodName := ⟨"java/lang/String", "length", "()I"⟩
def yJ1_canEncode_9a6ad : MethodName := ⟨"java/lang/StringLatin1", "canEncode", "(I)Z"⟩
def yJ1_indexOfChar_4cfef : MethodName := ⟨"java/lang/StringLatin1", "indexOfChar", "([BIII)I"⟩
def yJ1_indexOf_4cfef : MethodName := ⟨"java/lang/StringLatin1", "indexOf", "([BIII)I"⟩
def yJ0_indexOf_7cf53 : MethodName := ⟨"java/lang/String", "indexOf", "(II)I"⟩
def yJ0_indexOf_0f7a4 : MethodName := ⟨"java/lang/String", "indexOf", "(I)I"⟩
def RJ0 : String := "java/lang/String"
def RJ1 : String := "java/lang/StringLatin1"
set_option maxRecDepth 20000 in
theorem wz_str_0 : Jvm.Cond.code yJ0_coder_7d493 prog_14_method_152_code 1 (some .byte) ∈ fm_Ts := fm_t2 182 rfl rfl
set_option maxRecDepth 20000 in
theorem wz_str_1 : Jvm.Cond.instanceMethod yJ0_coder_7d493 ∈ fm_Ts := fm_t2 180 rfl rfl
set_option maxRecDepth 20000 in
theorem wz_str_2 : Jvm.Cond.selects "java/lang/String" yJ0_coder_7d493 yJ0_coder_7d493 ∈ fm_Ts := fm_t2 181 rfl rfl
theorem wz_str_3 : Jvm.Cond.initialized "java/lang/String" ∈ fm_Ts := fm_t1 11 rfl rfl
set_option maxRecDepth 20000 in
theorem wz_str_4 : Jvm.Cond.code yJ0_isLatin1_aae02 prog_14_method_154_code 1 (some .boolean) ∈ fm_Ts := fm_t2 172 rfl rfl
set_option maxRecDepth 20000 in
theorem wz_str_5 : Jvm.Cond.instanceMethod yJ0_isLatin1_aae02 ∈ fm_Ts := fm_t2 170 rfl rfl
set_option maxRecDepth 20000 in
theorem wz_str_6 : Jvm.Cond.selects "java/lang/String" yJ0_isLatin1_aae02 yJ0_isLatin1_aae02 ∈ fm_Ts := fm_t2 171 rfl rfl
set_option maxRecDepth 20000 in
theorem wz_str_7 : Jvm.Cond.code yJ0_length_8abf5 prog_14_method_54_code 1 (some .int) ∈ fm_Ts := fm_t2 178 rfl rfl
set_option maxRecDepth 20000 in
theorem wz_str_8 : Jvm.Cond.instanceMethod yJ0_length_8abf5 ∈ fm_Ts := fm_t2 176 rfl rfl
set_option maxRecDepth 20000 in
theorem wz_str_9 : Jvm.Cond.selects "java/lang/String" yJ0_length_8abf5 yJ0_length_8abf5 ∈ fm_Ts := fm_t2 177 rfl rfl
set_option maxRecDepth 20000 in
theorem wz_str_10 : Jvm.Cond.code yJ1_canEncode_9a6ad prog_15_method_4_code 1 (some .boolean) ∈ fm_Ts := fm_t2 188 rfl rfl
set_option maxRecDepth 20000 in
theorem wz_str_11 : Jvm.Cond.static yJ1_canEncode_9a6ad ∈ fm_Ts := fm_t2 187 rfl rfl
theorem wz_str_12 : Jvm.Cond.initialized yJ1_canEncode_9a6ad.cls ∈ fm_Ts := fm_t1 12 rfl rfl
set_option maxRecDepth 20000 in
theorem wz_str_13 : Jvm.Cond.code yJ1_indexOfChar_4cfef prog_15_method_23_code 6 (some .int) ∈ fm_Ts := fm_t2 197 rfl rfl
set_option maxRecDepth 20000 in
theorem wz_str_14 : Jvm.Cond.static yJ1_indexOfChar_4cfef ∈ fm_Ts := fm_t2 196 rfl rfl
theorem wz_str_15 : Jvm.Cond.initialized yJ1_indexOfChar_4cfef.cls ∈ fm_Ts := fm_t1 12 rfl rfl
set_option maxRecDepth 20000 in
theorem wz_str_16 : Jvm.Cond.code yJ1_indexOf_4cfef prog_15_method_22_code 4 (some .int) ∈ fm_Ts := fm_t2 185 rfl rfl
set_option maxRecDepth 20000 in
theorem wz_str_17 : Jvm.Cond.static yJ1_indexOf_4cfef ∈ fm_Ts := fm_t2 184 rfl rfl
theorem wz_str_18 : Jvm.Cond.initialized yJ1_indexOf_4cfef.cls ∈ fm_Ts := fm_t1 12 rfl rfl
set_option maxRecDepth 20000 in
theorem wz_str_19 : Jvm.Cond.code yJ0_indexOf_7cf53 prog_14_method_80_code 3 (some .int) ∈ fm_Ts := fm_t2 168 rfl rfl
set_option maxRecDepth 20000 in
theorem wz_str_20 : Jvm.Cond.instanceMethod yJ0_indexOf_7cf53 ∈ fm_Ts := fm_t2 166 rfl rfl
set_option maxRecDepth 20000 in
theorem wz_str_21 : Jvm.Cond.selects "java/lang/String" yJ0_indexOf_7cf53 yJ0_indexOf_7cf53 ∈ fm_Ts := fm_t2 167 rfl rfl
set_option maxRecDepth 20000 in
theorem wz_str_22 : Jvm.Cond.code yJ0_indexOf_0f7a4 prog_14_method_79_code 2 (some .int) ∈ fm_Ts := fm_t2 164 rfl rfl
set_option maxRecDepth 20000 in
theorem wz_str_23 : Jvm.Cond.instanceMethod yJ0_indexOf_0f7a4 ∈ fm_Ts := fm_t2 162 rfl rfl
set_option maxRecDepth 20000 in
theorem wz_str_24 : Jvm.Cond.selects "java/lang/String" yJ0_indexOf_0f7a4 yJ0_indexOf_0f7a4 ∈ fm_Ts := fm_t2 163 rfl rfl
set_option maxRecDepth 20000 in
theorem wz_str_25 : Jvm.Cond.methodLink RJ0 335 yJ0_coder_7d493 ∈ fm_Ts := fm_t2 179 rfl rfl
set_option maxRecDepth 20000 in
theorem wz_str_26 : Jvm.Cond.methodLink RJ1 88 yJ1_canEncode_9a6ad ∈ fm_Ts := fm_t2 186 rfl rfl
set_option maxRecDepth 20000 in
theorem wz_str_27 : Jvm.Cond.methodLink RJ1 92 yJ9_max_7cf53 ∈ fm_Ts := fm_t2 189 rfl rfl
set_option maxRecDepth 20000 in
theorem wz_str_28 : Jvm.Cond.methodLink RJ1 38 yJ9_min_7cf53 ∈ fm_Ts := fm_t2 192 rfl rfl
set_option maxRecDepth 20000 in
theorem wz_str_29 : Jvm.Cond.methodLink RJ1 95 yJ1_indexOfChar_4cfef ∈ fm_Ts := fm_t2 195 rfl rfl
set_option maxRecDepth 20000 in
theorem wz_str_30 : Jvm.Cond.methodLink RJ0 492 yJ0_isLatin1_aae02 ∈ fm_Ts := fm_t2 169 rfl rfl
set_option maxRecDepth 20000 in
theorem wz_str_31 : Jvm.Cond.methodLink RJ0 505 yJ0_length_8abf5 ∈ fm_Ts := fm_t2 175 rfl rfl
set_option maxRecDepth 20000 in
theorem wz_str_32 : Jvm.Cond.methodLink RJ0 637 yJ1_indexOf_4cfef ∈ fm_Ts := fm_t2 183 rfl rfl
set_option maxRecDepth 20000 in
theorem wz_str_33 : Jvm.Cond.methodLink RJ0 633 yJ0_indexOf_7cf53 ∈ fm_Ts := fm_t2 165 rfl rfl
set_option maxRecDepth 20000 in
theorem wz_str_34 : Jvm.Cond.methodLink RX3 58 yJ0_indexOf_0f7a4 ∈ fm_Ts := fm_t2 161 rfl rfl
theorem wm_J0_coder_7d493 : Jvm.Cond.instanceMethod yJ0_coder_7d493 ∈ fm_Ts ∧ Jvm.Cond.selects "java/lang/String" yJ0_coder_7d493 yJ0_coder_7d493 ∈ fm_Ts ∧ Jvm.Cond.initialized "java/lang/String" ∈ fm_Ts ∧ Jvm.Cond.code yJ0_coder_7d493 prog_14_method_152_code 1 (some .byte) ∈ fm_Ts := ⟨wz_str_1, wz_str_2, wz_str_3, wz_str_0⟩
theorem wyd_str_0 : (parseMethodDescriptor "()B").map (fun d => d.parameters.length) = some 0 := by decide +kernel
theorem wyc_str_1 : "java/lang/String" ≠ "java/lang/invoke/MethodHandle" ∧ "java/lang/String" ≠ "java/lang/invoke/VarHandle" := by decide +kernel
theorem wy_J0_coder_7d493 : yJ0_coder_7d493.cls = "java/lang/String" ∧ yJ0_coder_7d493.cls ≠ "java/lang/invoke/MethodHandle" ∧ yJ0_coder_7d493.cls ≠ "java/lang/invoke/VarHandle" ∧ (parseMethodDescriptor yJ0_coder_7d493.desc).map (fun d => d.parameters.length) = some 0 := ⟨rfl, wyc_str_1.1, wyc_str_1.2, wyd_str_0⟩
theorem wm_J0_isLatin1_aae02 : Jvm.Cond.instanceMethod yJ0_isLatin1_aae02 ∈ fm_Ts ∧ Jvm.Cond.selects "java/lang/String" yJ0_isLatin1_aae02 yJ0_isLatin1_aae02 ∈ fm_Ts ∧ Jvm.Cond.initialized "java/lang/String" ∈ fm_Ts ∧ Jvm.Cond.code yJ0_isLatin1_aae02 prog_14_method_154_code 1 (some .boolean) ∈ fm_Ts := ⟨wz_str_5, wz_str_6, wz_str_3, wz_str_4⟩
theorem wyd_str_2 : (parseMethodDescriptor "()Z").map (fun d => d.parameters.length) = some 0 := by decide +kernel
theorem wy_J0_isLatin1_aae02 : yJ0_isLatin1_aae02.cls = "java/lang/String" ∧ yJ0_isLatin1_aae02.cls ≠ "java/lang/invoke/MethodHandle" ∧ yJ0_isLatin1_aae02.cls ≠ "java/lang/invoke/VarHandle" ∧ (parseMethodDescriptor yJ0_isLatin1_aae02.desc).map (fun d => d.parameters.length) = some 0 := ⟨rfl, wyc_str_1.1, wyc_str_1.2, wyd_str_2⟩
theorem wm_J0_length_8abf5 : Jvm.Cond.instanceMethod yJ0_length_8abf5 ∈ fm_Ts ∧ Jvm.Cond.selects "java/lang/String" yJ0_length_8abf5 yJ0_length_8abf5 ∈ fm_Ts ∧ Jvm.Cond.initialized "java/lang/String" ∈ fm_Ts ∧ Jvm.Cond.code yJ0_length_8abf5 prog_14_method_54_code 1 (some .int) ∈ fm_Ts := ⟨wz_str_8, wz_str_9, wz_str_3, wz_str_7⟩
theorem wyd_str_3 : (parseMethodDescriptor "()I").map (fun d => d.parameters.length) = some 0 := by decide +kernel
theorem wy_J0_length_8abf5 : yJ0_length_8abf5.cls = "java/lang/String" ∧ yJ0_length_8abf5.cls ≠ "java/lang/invoke/MethodHandle" ∧ yJ0_length_8abf5.cls ≠ "java/lang/invoke/VarHandle" ∧ (parseMethodDescriptor yJ0_length_8abf5.desc).map (fun d => d.parameters.length) = some 0 := ⟨rfl, wyc_str_1.1, wyc_str_1.2, wyd_str_3⟩
theorem wm_J1_canEncode_9a6ad : Jvm.Cond.static yJ1_canEncode_9a6ad ∈ fm_Ts ∧ Jvm.Cond.initialized yJ1_canEncode_9a6ad.cls ∈ fm_Ts ∧ Jvm.Cond.code yJ1_canEncode_9a6ad prog_15_method_4_code 1 (some .boolean) ∈ fm_Ts := ⟨wz_str_11, wz_str_12, wz_str_10⟩
theorem wyd_str_4 : (parseMethodDescriptor "(I)Z").map (fun d => d.parameters.length) = some 1 := by decide +kernel
theorem wyc_str_5 : "java/lang/StringLatin1" ≠ "java/lang/invoke/MethodHandle" ∧ "java/lang/StringLatin1" ≠ "java/lang/invoke/VarHandle" := by decide +kernel
theorem wy_J1_canEncode_9a6ad : yJ1_canEncode_9a6ad.cls ≠ "java/lang/invoke/MethodHandle" ∧ yJ1_canEncode_9a6ad.cls ≠ "java/lang/invoke/VarHandle" ∧ (parseMethodDescriptor yJ1_canEncode_9a6ad.desc).map (fun d => d.parameters.length) = some 1 := ⟨wyc_str_5.1, wyc_str_5.2, wyd_str_4⟩
theorem wm_J1_indexOfChar_4cfef : Jvm.Cond.static yJ1_indexOfChar_4cfef ∈ fm_Ts ∧ Jvm.Cond.initialized yJ1_indexOfChar_4cfef.cls ∈ fm_Ts ∧ Jvm.Cond.code yJ1_indexOfChar_4cfef prog_15_method_23_code 6 (some .int) ∈ fm_Ts := ⟨wz_str_14, wz_str_15, wz_str_13⟩
theorem wyd_str_6 : (parseMethodDescriptor "([BIII)I").map (fun d => d.parameters.length) = some 4 := by decide +kernel
theorem wy_J1_indexOfChar_4cfef : yJ1_indexOfChar_4cfef.cls ≠ "java/lang/invoke/MethodHandle" ∧ yJ1_indexOfChar_4cfef.cls ≠ "java/lang/invoke/VarHandle" ∧ (parseMethodDescriptor yJ1_indexOfChar_4cfef.desc).map (fun d => d.parameters.length) = some 4 := ⟨wyc_str_5.1, wyc_str_5.2, wyd_str_6⟩
theorem wm_J1_indexOf_4cfef : Jvm.Cond.static yJ1_indexOf_4cfef ∈ fm_Ts ∧ Jvm.Cond.initialized yJ1_indexOf_4cfef.cls ∈ fm_Ts ∧ Jvm.Cond.code yJ1_indexOf_4cfef prog_15_method_22_code 4 (some .int) ∈ fm_Ts := ⟨wz_str_17, wz_str_18, wz_str_16⟩
theorem wy_J1_indexOf_4cfef : yJ1_indexOf_4cfef.cls ≠ "java/lang/invoke/MethodHandle" ∧ yJ1_indexOf_4cfef.cls ≠ "java/lang/invoke/VarHandle" ∧ (parseMethodDescriptor yJ1_indexOf_4cfef.desc).map (fun d => d.parameters.length) = some 4 := ⟨wyc_str_5.1, wyc_str_5.2, wyd_str_6⟩
theorem wm_J0_indexOf_7cf53 : Jvm.Cond.instanceMethod yJ0_indexOf_7cf53 ∈ fm_Ts ∧ Jvm.Cond.selects "java/lang/String" yJ0_indexOf_7cf53 yJ0_indexOf_7cf53 ∈ fm_Ts ∧ Jvm.Cond.initialized "java/lang/String" ∈ fm_Ts ∧ Jvm.Cond.code yJ0_indexOf_7cf53 prog_14_method_80_code 3 (some .int) ∈ fm_Ts := ⟨wz_str_20, wz_str_21, wz_str_3, wz_str_19⟩
theorem wyd_str_7 : (parseMethodDescriptor "(II)I").map (fun d => d.parameters.length) = some 2 := by decide +kernel
theorem wy_J0_indexOf_7cf53 : yJ0_indexOf_7cf53.cls = "java/lang/String" ∧ yJ0_indexOf_7cf53.cls ≠ "java/lang/invoke/MethodHandle" ∧ yJ0_indexOf_7cf53.cls ≠ "java/lang/invoke/VarHandle" ∧ (parseMethodDescriptor yJ0_indexOf_7cf53.desc).map (fun d => d.parameters.length) = some 2 := ⟨rfl, wyc_str_1.1, wyc_str_1.2, wyd_str_7⟩
theorem wm_J0_indexOf_0f7a4 : Jvm.Cond.instanceMethod yJ0_indexOf_0f7a4 ∈ fm_Ts ∧ Jvm.Cond.selects "java/lang/String" yJ0_indexOf_0f7a4 yJ0_indexOf_0f7a4 ∈ fm_Ts ∧ Jvm.Cond.initialized "java/lang/String" ∈ fm_Ts ∧ Jvm.Cond.code yJ0_indexOf_0f7a4 prog_14_method_79_code 2 (some .int) ∈ fm_Ts := ⟨wz_str_23, wz_str_24, wz_str_3, wz_str_22⟩
theorem wyd_str_8 : (parseMethodDescriptor "(I)I").map (fun d => d.parameters.length) = some 1 := by decide +kernel
theorem wy_J0_indexOf_0f7a4 : yJ0_indexOf_0f7a4.cls = "java/lang/String" ∧ yJ0_indexOf_0f7a4.cls ≠ "java/lang/invoke/MethodHandle" ∧ yJ0_indexOf_0f7a4.cls ≠ "java/lang/invoke/VarHandle" ∧ (parseMethodDescriptor yJ0_indexOf_0f7a4.desc).map (fun d => d.parameters.length) = some 1 := ⟨rfl, wyc_str_1.1, wyc_str_1.2, wyd_str_8⟩
theorem wl_J0_335 : Jvm.Cond.methodLink RJ0 335 yJ0_coder_7d493 ∈ fm_Ts := wz_str_25
theorem wl_J1_88 : Jvm.Cond.methodLink RJ1 88 yJ1_canEncode_9a6ad ∈ fm_Ts := wz_str_26
theorem wl_J1_92 : Jvm.Cond.methodLink RJ1 92 yJ9_max_7cf53 ∈ fm_Ts := wz_str_27
theorem wl_J1_38 : Jvm.Cond.methodLink RJ1 38 yJ9_min_7cf53 ∈ fm_Ts := wz_str_28
theorem wl_J1_95 : Jvm.Cond.methodLink RJ1 95 yJ1_indexOfChar_4cfef ∈ fm_Ts := wz_str_29
theorem wl_J0_492 : Jvm.Cond.methodLink RJ0 492 yJ0_isLatin1_aae02 ∈ fm_Ts := wz_str_30
theorem wl_J0_505 : Jvm.Cond.methodLink RJ0 505 yJ0_length_8abf5 ∈ fm_Ts := wz_str_31
theorem wl_J0_637 : Jvm.Cond.methodLink RJ0 637 yJ1_indexOf_4cfef ∈ fm_Ts := wz_str_32
theorem wl_J0_633 : Jvm.Cond.methodLink RJ0 633 yJ0_indexOf_7cf53 ∈ fm_Ts := wz_str_33
theorem wl_X3_58 : Jvm.Cond.methodLink RX3 58 yJ0_indexOf_0f7a4 ∈ fm_Ts := wz_str_34

theorem wf_J0_38 : Jvm.Cond.fieldLink "java/lang/String" 38 "java/lang/String" "COMPACT_STRINGS" "Z" ∈ fm_Ts := fm_t2 173 rfl rfl
theorem wf_J0_15 : Jvm.Cond.fieldLink "java/lang/String" 15 "java/lang/String" "coder" "B" ∈ fm_Ts := fm_t7 76 rfl rfl
theorem wf_J0_9 : Jvm.Cond.fieldLink "java/lang/String" 9 "java/lang/String" "value" "[B" ∈ fm_Ts := fm_t7 77 rfl rfl
theorem d_coder_0 : decode prog_14_method_152_code 0 = .ok (.getstatic 38, 3) := by decide +kernel
theorem d_coder_3 : decode prog_14_method_152_code 3 = .ok (.ifCond .eq 10, 3) := by decide +kernel
theorem d_coder_6 : decode prog_14_method_152_code 6 = .ok (.aload_n 0, 1) := by decide +kernel
theorem d_coder_7 : decode prog_14_method_152_code 7 = .ok (.getfield 15, 3) := by decide +kernel
theorem d_coder_10 : decode prog_14_method_152_code 10 = .ok (.goto 4, 3) := by decide +kernel
theorem d_coder_13 : decode prog_14_method_152_code 13 = .ok (.iconst 1, 1) := by decide +kernel
theorem d_coder_14 : decode prog_14_method_152_code 14 = .ok (.ireturn, 1) := by decide +kernel
theorem d_isLatin1_0 : decode prog_14_method_154_code 0 = .ok (.getstatic 38, 3) := by decide +kernel
theorem d_isLatin1_3 : decode prog_14_method_154_code 3 = .ok (.ifCond .eq 14, 3) := by decide +kernel
theorem d_isLatin1_6 : decode prog_14_method_154_code 6 = .ok (.aload_n 0, 1) := by decide +kernel
theorem d_isLatin1_7 : decode prog_14_method_154_code 7 = .ok (.getfield 15, 3) := by decide +kernel
theorem d_isLatin1_10 : decode prog_14_method_154_code 10 = .ok (.ifCond .ne 7, 3) := by decide +kernel
theorem d_isLatin1_13 : decode prog_14_method_154_code 13 = .ok (.iconst 1, 1) := by decide +kernel
theorem d_isLatin1_14 : decode prog_14_method_154_code 14 = .ok (.goto 4, 3) := by decide +kernel
theorem d_isLatin1_17 : decode prog_14_method_154_code 17 = .ok (.iconst 0, 1) := by decide +kernel
theorem d_isLatin1_18 : decode prog_14_method_154_code 18 = .ok (.ireturn, 1) := by decide +kernel
theorem d_length_0 : decode prog_14_method_54_code 0 = .ok (.aload_n 0, 1) := by decide +kernel
theorem d_length_1 : decode prog_14_method_54_code 1 = .ok (.getfield 9, 3) := by decide +kernel
theorem d_length_4 : decode prog_14_method_54_code 4 = .ok (.arraylength, 1) := by decide +kernel
theorem d_length_5 : decode prog_14_method_54_code 5 = .ok (.aload_n 0, 1) := by decide +kernel
theorem d_length_6 : decode prog_14_method_54_code 6 = .ok (.invokevirtual 335, 3) := by decide +kernel
theorem d_length_9 : decode prog_14_method_54_code 9 = .ok (.ishr, 1) := by decide +kernel
theorem d_length_10 : decode prog_14_method_54_code 10 = .ok (.ireturn, 1) := by decide +kernel
theorem d_canEncode_0 : decode prog_15_method_4_code 0 = .ok (.iload_n 0, 1) := by decide +kernel
theorem d_canEncode_1 : decode prog_15_method_4_code 1 = .ok (.ifCond .lt 14, 3) := by decide +kernel
theorem d_canEncode_4 : decode prog_15_method_4_code 4 = .ok (.iload_n 0, 1) := by decide +kernel
theorem d_canEncode_5 : decode prog_15_method_4_code 5 = .ok (.sipush 255, 3) := by decide +kernel
theorem d_canEncode_8 : decode prog_15_method_4_code 8 = .ok (.if_icmp .gt 7, 3) := by decide +kernel
theorem d_canEncode_11 : decode prog_15_method_4_code 11 = .ok (.iconst 1, 1) := by decide +kernel
theorem d_canEncode_12 : decode prog_15_method_4_code 12 = .ok (.goto 4, 3) := by decide +kernel
theorem d_canEncode_15 : decode prog_15_method_4_code 15 = .ok (.iconst 0, 1) := by decide +kernel
theorem d_canEncode_16 : decode prog_15_method_4_code 16 = .ok (.ireturn, 1) := by decide +kernel
theorem d_indexOfChar_0 : decode prog_15_method_23_code 0 = .ok (.iload_n 1, 1) := by decide +kernel
theorem d_indexOfChar_1 : decode prog_15_method_23_code 1 = .ok (.i2b, 1) := by decide +kernel
theorem d_indexOfChar_2 : decode prog_15_method_23_code 2 = .ok (.istore 4, 2) := by decide +kernel
theorem d_indexOfChar_4 : decode prog_15_method_23_code 4 = .ok (.iload_n 2, 1) := by decide +kernel
theorem d_indexOfChar_5 : decode prog_15_method_23_code 5 = .ok (.istore 5, 2) := by decide +kernel
theorem d_indexOfChar_7 : decode prog_15_method_23_code 7 = .ok (.iload 5, 2) := by decide +kernel
theorem d_indexOfChar_9 : decode prog_15_method_23_code 9 = .ok (.iload_n 3, 1) := by decide +kernel
theorem d_indexOfChar_10 : decode prog_15_method_23_code 10 = .ok (.if_icmp .ge 21, 3) := by decide +kernel
theorem d_indexOfChar_13 : decode prog_15_method_23_code 13 = .ok (.aload_n 0, 1) := by decide +kernel
theorem d_indexOfChar_14 : decode prog_15_method_23_code 14 = .ok (.iload 5, 2) := by decide +kernel
theorem d_indexOfChar_16 : decode prog_15_method_23_code 16 = .ok (.baload, 1) := by decide +kernel
theorem d_indexOfChar_17 : decode prog_15_method_23_code 17 = .ok (.iload 4, 2) := by decide +kernel
theorem d_indexOfChar_19 : decode prog_15_method_23_code 19 = .ok (.if_icmp .ne 6, 3) := by decide +kernel
theorem d_indexOfChar_22 : decode prog_15_method_23_code 22 = .ok (.iload 5, 2) := by decide +kernel
theorem d_indexOfChar_24 : decode prog_15_method_23_code 24 = .ok (.ireturn, 1) := by decide +kernel
theorem d_indexOfChar_25 : decode prog_15_method_23_code 25 = .ok (.iinc 5 1, 3) := by decide +kernel
theorem d_indexOfChar_28 : decode prog_15_method_23_code 28 = .ok (.goto (-21), 3) := by decide +kernel
theorem d_indexOfChar_31 : decode prog_15_method_23_code 31 = .ok (.iconst (-1), 1) := by decide +kernel
theorem d_indexOfChar_32 : decode prog_15_method_23_code 32 = .ok (.ireturn, 1) := by decide +kernel
theorem d_indexOf1_0 : decode prog_15_method_22_code 0 = .ok (.iload_n 1, 1) := by decide +kernel
theorem d_indexOf1_1 : decode prog_15_method_22_code 1 = .ok (.invokestatic 88, 3) := by decide +kernel
theorem d_indexOf1_4 : decode prog_15_method_22_code 4 = .ok (.ifCond .ne 5, 3) := by decide +kernel
theorem d_indexOf1_7 : decode prog_15_method_22_code 7 = .ok (.iconst (-1), 1) := by decide +kernel
theorem d_indexOf1_8 : decode prog_15_method_22_code 8 = .ok (.ireturn, 1) := by decide +kernel
theorem d_indexOf1_9 : decode prog_15_method_22_code 9 = .ok (.iload_n 2, 1) := by decide +kernel
theorem d_indexOf1_10 : decode prog_15_method_22_code 10 = .ok (.iconst 0, 1) := by decide +kernel
theorem d_indexOf1_11 : decode prog_15_method_22_code 11 = .ok (.invokestatic 92, 3) := by decide +kernel
theorem d_indexOf1_14 : decode prog_15_method_22_code 14 = .ok (.istore_n 2, 1) := by decide +kernel
theorem d_indexOf1_15 : decode prog_15_method_22_code 15 = .ok (.iload_n 3, 1) := by decide +kernel
theorem d_indexOf1_16 : decode prog_15_method_22_code 16 = .ok (.aload_n 0, 1) := by decide +kernel
theorem d_indexOf1_17 : decode prog_15_method_22_code 17 = .ok (.arraylength, 1) := by decide +kernel
theorem d_indexOf1_18 : decode prog_15_method_22_code 18 = .ok (.invokestatic 38, 3) := by decide +kernel
theorem d_indexOf1_21 : decode prog_15_method_22_code 21 = .ok (.istore_n 3, 1) := by decide +kernel
theorem d_indexOf1_22 : decode prog_15_method_22_code 22 = .ok (.iload_n 2, 1) := by decide +kernel
theorem d_indexOf1_23 : decode prog_15_method_22_code 23 = .ok (.iload_n 3, 1) := by decide +kernel
theorem d_indexOf1_24 : decode prog_15_method_22_code 24 = .ok (.if_icmp .lt 5, 3) := by decide +kernel
theorem d_indexOf1_27 : decode prog_15_method_22_code 27 = .ok (.iconst (-1), 1) := by decide +kernel
theorem d_indexOf1_28 : decode prog_15_method_22_code 28 = .ok (.ireturn, 1) := by decide +kernel
theorem d_indexOf1_29 : decode prog_15_method_22_code 29 = .ok (.aload_n 0, 1) := by decide +kernel
theorem d_indexOf1_30 : decode prog_15_method_22_code 30 = .ok (.iload_n 1, 1) := by decide +kernel
theorem d_indexOf1_31 : decode prog_15_method_22_code 31 = .ok (.iload_n 2, 1) := by decide +kernel
theorem d_indexOf1_32 : decode prog_15_method_22_code 32 = .ok (.iload_n 3, 1) := by decide +kernel
theorem d_indexOf1_33 : decode prog_15_method_22_code 33 = .ok (.invokestatic 95, 3) := by decide +kernel
theorem d_indexOf1_36 : decode prog_15_method_22_code 36 = .ok (.ireturn, 1) := by decide +kernel
theorem d_indexOf2_0 : decode prog_14_method_80_code 0 = .ok (.aload_n 0, 1) := by decide +kernel
theorem d_indexOf2_1 : decode prog_14_method_80_code 1 = .ok (.invokevirtual 492, 3) := by decide +kernel
theorem d_indexOf2_4 : decode prog_14_method_80_code 4 = .ok (.ifCond .eq 19, 3) := by decide +kernel
theorem d_indexOf2_7 : decode prog_14_method_80_code 7 = .ok (.aload_n 0, 1) := by decide +kernel
theorem d_indexOf2_8 : decode prog_14_method_80_code 8 = .ok (.getfield 9, 3) := by decide +kernel
theorem d_indexOf2_11 : decode prog_14_method_80_code 11 = .ok (.iload_n 1, 1) := by decide +kernel
theorem d_indexOf2_12 : decode prog_14_method_80_code 12 = .ok (.iload_n 2, 1) := by decide +kernel
theorem d_indexOf2_13 : decode prog_14_method_80_code 13 = .ok (.aload_n 0, 1) := by decide +kernel
theorem d_indexOf2_14 : decode prog_14_method_80_code 14 = .ok (.invokevirtual 505, 3) := by decide +kernel
theorem d_indexOf2_17 : decode prog_14_method_80_code 17 = .ok (.invokestatic 637, 3) := by decide +kernel
theorem d_indexOf2_20 : decode prog_14_method_80_code 20 = .ok (.goto 16, 3) := by decide +kernel
theorem d_indexOf2_23 : decode prog_14_method_80_code 23 = .ok (.aload_n 0, 1) := by decide +kernel
theorem d_indexOf2_24 : decode prog_14_method_80_code 24 = .ok (.getfield 9, 3) := by decide +kernel
theorem d_indexOf2_27 : decode prog_14_method_80_code 27 = .ok (.iload_n 1, 1) := by decide +kernel
theorem d_indexOf2_28 : decode prog_14_method_80_code 28 = .ok (.iload_n 2, 1) := by decide +kernel
theorem d_indexOf2_29 : decode prog_14_method_80_code 29 = .ok (.aload_n 0, 1) := by decide +kernel
theorem d_indexOf2_30 : decode prog_14_method_80_code 30 = .ok (.invokevirtual 505, 3) := by decide +kernel
theorem d_indexOf2_33 : decode prog_14_method_80_code 33 = .ok (.invokestatic 640, 3) := by decide +kernel
theorem d_indexOf2_36 : decode prog_14_method_80_code 36 = .ok (.ireturn, 1) := by decide +kernel
theorem d_indexOf_0 : decode prog_14_method_79_code 0 = .ok (.aload_n 0, 1) := by decide +kernel
theorem d_indexOf_1 : decode prog_14_method_79_code 1 = .ok (.iload_n 1, 1) := by decide +kernel
theorem d_indexOf_2 : decode prog_14_method_79_code 2 = .ok (.iconst 0, 1) := by decide +kernel
theorem d_indexOf_3 : decode prog_14_method_79_code 3 = .ok (.invokevirtual 633, 3) := by decide +kernel
theorem d_indexOf_6 : decode prog_14_method_79_code 6 = .ok (.ireturn, 1) := by decide +kernel
theorem d_max_0 : decode prog_13_method_65_code 0 = .ok (.iload_n 0, 1) := by decide +kernel
theorem d_max_1 : decode prog_13_method_65_code 1 = .ok (.iload_n 1, 1) := by decide +kernel
theorem d_max_2 : decode prog_13_method_65_code 2 = .ok (.if_icmp .lt 7, 3) := by decide +kernel
theorem d_max_5 : decode prog_13_method_65_code 5 = .ok (.iload_n 0, 1) := by decide +kernel
theorem d_max_6 : decode prog_13_method_65_code 6 = .ok (.goto 4, 3) := by decide +kernel
theorem d_max_9 : decode prog_13_method_65_code 9 = .ok (.iload_n 1, 1) := by decide +kernel
theorem d_max_10 : decode prog_13_method_65_code 10 = .ok (.ireturn, 1) := by decide +kernel
theorem d_min_0 : decode prog_13_method_69_code 0 = .ok (.iload_n 0, 1) := by decide +kernel
theorem d_min_1 : decode prog_13_method_69_code 1 = .ok (.iload_n 1, 1) := by decide +kernel
theorem d_min_2 : decode prog_13_method_69_code 2 = .ok (.if_icmp .gt 7, 3) := by decide +kernel
theorem d_min_5 : decode prog_13_method_69_code 5 = .ok (.iload_n 0, 1) := by decide +kernel
theorem d_min_6 : decode prog_13_method_69_code 6 = .ok (.goto 4, 3) := by decide +kernel
theorem d_min_9 : decode prog_13_method_69_code 9 = .ok (.iload_n 1, 1) := by decide +kernel
theorem d_min_10 : decode prog_13_method_69_code 10 = .ok (.ireturn, 1) := by decide +kernel
section STR
variable {p : Program} {l : Launch} {e : Env} {R : Room} {s : State} {m : MethodId} {args : Array Value} {below : List Frame} {meth : Method} {c : Code} {Q : State → Prop} {cc : ByteArray} {own : String} {D : va_G} {cl : List vw_C} {tm : List fm_C} {ad : Nat → Nat} {cy : Nat → ClassId} {A : Nat → Prop} {Ts : List Jvm.Cond} {nL : Nat}
variable {pc : Nat} {ls : Array Slot} {rest : List Value} {V : fm_V} {nt : fm_Nt} {Z : State → Heap → Prop} {po : Option Value → fm_V → Prop}
theorem fs_getf (X : fm_X p s m args c cc own D cl tm ad cy A Ts nL) {o n d : String} {index q : Nat} {v : Value} (hE : va_OF o n d v q A s s.heap) (hl : Jvm.Cond.fieldLink own index o n d ∈ Ts) (hd : decode cc pc = .ok (.getfield index, 3)) (kk : fm_W p l e R s m args below meth c Q D cl tm ad cy A V (pc + 3) ls (v :: rest)) : fm_W p l e R s m args below meth c Q D cl tm ad cy A V pc ls (.ref q :: rest) := by
  obtain ⟨hx, hb, hown, hts, -⟩ := X
  intro H locs hP hS
  exact vk_getf hx hb hE hS hown (hts _ hl) (fun _ h => h) hd (kk H locs hP hS)
theorem fs_gets (X : fm_X p s m args c cc own D cl tm ad cy A Ts nL) {o n d : String} {index : Nat} {v : Value} (hE : va_Z o n d v A s s.heap) (hl : Jvm.Cond.fieldLink own index o n d ∈ Ts) (hd : decode cc pc = .ok (.getstatic index, 3)) (kk : fm_W p l e R s m args below meth c Q D cl tm ad cy A V (pc + 3) ls (v :: rest)) : fm_W p l e R s m args below meth c Q D cl tm ad cy A V pc ls (rest) := by
  obtain ⟨hx, hb, hown, hts, -⟩ := X
  intro H locs hP hS
  exact va_gets hx hb hE hS hown (hts _ hl) (fun _ h => h) hd (kk H locs hP hS)
theorem fs_tlen (X : fm_X p s m args c cc own D cl tm ad cy A Ts nL) {t N : Nat} {f : Nat → Value} (hT : va_T .byte t N f A s s.heap) (hd : decode cc pc = .ok (.arraylength, 1)) (kk : fm_W p l e R s m args below meth c Q D cl tm ad cy A V (pc + 1) ls (.int (Int32.ofNat N) :: rest)) : fm_W p l e R s m args below meth c Q D cl tm ad cy A V pc ls (.ref t :: rest) := by
  obtain ⟨hx, hb, hown, hts, -⟩ := X
  intro H locs hP hS
  exact va_tlen hx hb hT hS rfl hd (kk H locs hP hS)
theorem fs_tb (X : fm_X p s m args c cc own D cl tm ad cy A Ts nL) {t N : Nat} {f : Nat → Int32} {j : Int32} (hT : va_T .byte t N (fun k => .int (f k)) A s s.heap) (hin : vp_in j N) (hd : decode cc pc = .ok (.baload, 1)) (kk : fm_W p l e R s m args below meth c Q D cl tm ad cy A V (pc + 1) ls (.int (f j.toNatClampNeg) :: rest)) : fm_W p l e R s m args below meth c Q D cl tm ad cy A V pc ls (.int j :: .ref t :: rest) := by
  obtain ⟨hx, hb, hown, hts, -⟩ := X
  intro H locs hP hS
  exact va_tb hx hb hT hS hin rfl hd (kk H locs hP hS)
theorem fs_ldcS (X : fm_X p s m args c cc own D cl tm ad cy A Ts nL) {tx : String} {index q : Nat} (hZ : vk_R own index tx q s) (hd : decode cc pc = .ok (.ldc index, 2)) (kk : fm_W p l e R s m args below meth c Q D cl tm ad cy A V (pc + 2) ls (.ref q :: rest)) : fm_W p l e R s m args below meth c Q D cl tm ad cy A V pc ls (rest) := by
  obtain ⟨hx, hb, hown, hts, -⟩ := X
  intro H locs hP hS
  exact va_ldcS hx hb hown hZ hd (kk H locs hP hS)
theorem fs_i2b (X : fm_X p s m args c cc own D cl tm ad cy A Ts nL) {x : Int32} (hd : decode cc pc = .ok (.i2b, 1)) (kk : fm_W p l e R s m args below meth c Q D cl tm ad cy A V (pc + 1) ls (.int x.toInt8.toInt32 :: rest)) : fm_W p l e R s m args below meth c Q D cl tm ad cy A V pc ls (.int x :: rest) := by
  obtain ⟨hx, hb, hown, hts, -⟩ := X
  intro H locs hP hS
  exact lv_i2b hx hb hd rfl (kk H locs hP hS)
theorem fs_i2c (X : fm_X p s m args c cc own D cl tm ad cy A Ts nL) {x : Int32} (hd : decode cc pc = .ok (.i2c, 1)) (kk : fm_W p l e R s m args below meth c Q D cl tm ad cy A V (pc + 1) ls (.int (x.toUInt32 % 65536).toInt32 :: rest)) : fm_W p l e R s m args below meth c Q D cl tm ad cy A V pc ls (.int x :: rest) := by
  obtain ⟨hx, hb, hown, hts, -⟩ := X
  intro H locs hP hS
  exact lv_i2c hx hb hd rfl (kk H locs hP hS)
theorem zj_inc {x : Int32} {n : Int} (h1 : -2147483648 ≤ x.toInt + n) (h2 : x.toInt + n ≤ 2147483647) (h3 : -2147483648 ≤ n) (h4 : n ≤ 2147483647) : (x + Int32.ofInt n).toInt = x.toInt + n := by
  have e : (Int32.ofInt n).toInt = n := Int32.toInt_ofInt_of_le h3 (by omega)
  rw [Int32.toInt_add, e]
  exact Int.bmod_eq_of_le (by omega) (by omega)
theorem rv_lokI {k : Nat} {a : rv_A} (h1 : a.1 = 1) (h : rv_lok ad ls k a) : ∃ y : Int32, ls[k]? = some (.val (.int y)) ∧ rv_l a ≤ y.toInt ∧ y.toInt ≤ rv_h a ∧ (a.2.1 = 1 → y.toInt ≠ 0) := by
  unfold rv_lok at h
  rw [if_pos h1] at h
  exact h
theorem rv_G_set {V0 : fm_V} {st : List Value} {G : rv_S} {k : Nat} {a : rv_A} (h : rv_G ad V0 V ls st G) (ha : rv_lok ad ls k a) : rv_G ad V0 V ls st (G.1.set k a, G.2) := by
  refine ⟨fun j b hj => ?_, h.2⟩
  rw [List.getElem?_set] at hj
  by_cases hk : k = j
  · subst hk
    rw [if_pos rfl] at hj
    by_cases hl : k < G.1.length
    · rw [if_pos hl] at hj
      cases hj
      exact ha
    · rw [if_neg hl] at hj
      cases hj
  · rw [if_neg hk] at hj
    exact h.1 j b hj
theorem gm_callVS (X : fm_X p s m args c cc own D cl tm ad cy A Ts nL) (Y : fm_Y s nt Z tm ad A) (hg : fm_Good Ts) {y : MethodName} {C : String} {idx maxL n : Nat} {bytes : ByteArray} {ret : Option FieldType} {rm : Room} (hd : decode cc pc = .ok (.invokevirtual idx, 3)) {a : Nat} {vs st0 : List Value} (hM : gm_M l D cl tm ad cy nt Z y (.code y bytes maxL ret :: Ts) rm V (.ref a :: vs) po)
    (hl : Jvm.Cond.methodLink own idx y ∈ Ts) (hw : Jvm.Cond.instanceMethod y ∈ Ts ∧ Jvm.Cond.selects C y y ∈ Ts ∧ Jvm.Cond.initialized C ∈ Ts ∧ Jvm.Cond.code y bytes maxL ret ∈ Ts) (hy : y.cls = C ∧ y.cls ≠ "java/lang/invoke/MethodHandle" ∧ y.cls ≠ "java/lang/invoke/VarHandle" ∧ (parseMethodDescriptor y.desc).map (fun d => d.parameters.length) = some n)
    (hrm : (rm.cells = 0 ∧ rm.slots = 0) ∧ rm.frames + 1 ≤ R.frames ∧ 8 + (maxL + 11) + rm.locals ≤ R.locals) (hrec : va_O C a A s s.heap) (hst : st0 = vs.reverse ++ .ref a :: rest) (hlen : vs.length = n) (hls : ls.size = nL) (hcat : (rest.map fun v => v.category).sum ≤ 8)
    (kk : ∀ r V', po r V' → fm_W p l e R s m args below meth c Q D cl tm ad cy A V' (pc + 3) ls (r.toList ++ rest)) : fm_W p l e R s m args below meth c Q D cl tm ad cy A V pc ls st0 := by
  obtain ⟨hx, hb, hown, hts, hKk, hD, hml⟩ := id X
  obtain ⟨hZ, hAA, hA, hN, hZ0⟩ := Y
  subst hst
  intro H locs hP hS
  refine fm_callW (a := (Value.ref a :: vs).toArray) (rest := rest) (va_runV (As := vs) (rest := rest) (C := C) (n := n) ⟨hx, hb, hml, hown, hts⟩ hM (cwV n hts (hg.of (fun w hw' => ?_)) rfl hrm.1.1 hrm.1.2 hy hrm.2) ⟨rv_Pc_blind hZ, ?_, fun U hU hW => ⟨rfl, fm_Wd_of hZ hAA hKk hN hZ0 hP hS hU hW⟩⟩ rfl hlen hls rfl (lv_room hcat) hd ⟨Nat.zero_le _, Nat.zero_le _⟩) hS hA kk
  · unfold wsV at hw'
    rcases List.mem_append.mp hw' with hw' | hw'
    · simp only [List.mem_cons, List.not_mem_nil, or_false] at hw'
      rcases hw' with rfl | rfl | rfl | rfl
      · exact hl
      · exact hw.1
      · exact hw.2.1
      · exact hw.2.2.1
    · rcases List.mem_cons.mp hw' with rfl | hw'
      · exact hw.2.2.2
      · exact hw'
  · obtain ⟨cell, h1, h2, h3, -⟩ := hrec.kept hS.2.1
    exact ⟨cell, h1, h2, h3⟩
theorem gm_atF {avs : List Value} {y : MethodName} {bytes : ByteArray} {ret : Option FieldType} {rm : Room} (hAd : fm_Ad tm ad) (hZ : fm_Zk (fm_A tm ad) Z) (hy : plainFor y = true) (hlen : (lg_sl avs).length ≤ nL)
    (hbody : ∀ (p : Program) (e : Env) (s : State) (m : MethodId) (args : Array Value) (below : List Frame) (meth : Method) (c : Code) (ls : Array Slot), meth.sig.returnType = ret → meth.locks = false → fm_X p s m args c bytes y.cls D cl tm ad cy (fm_A tm ad) Ts nL → fm_Y s nt Z tm ad (fm_A tm ad) → lv_has ls nL (lv_args 0 avs) → fm_W p l e rm s m args below meth c (MQ below (rv_Qc D cl tm ad cy nt Z po) args s 0 0 (fm_A tm ad)) D cl tm ad cy (fm_A tm ad) V 0 ls []) :
    gm_M l D cl tm ad cy nt Z y (.code y bytes nL ret :: Ts) rm V avs po := by
  refine va_MetF (cc := bytes) (maxL := nL) (ret := ret) hy rfl ?_
  intro p e s m args below meth c s₁ B hml hv
  obtain ⟨rfl, hP, hK, hN, hZ0⟩ := hv
  have hts := atoms_spec (ws := Jvm.Cond.code y bytes nL ret :: Ts) B.pre
  have hown : s.vm.findClass y.cls = some m.cls := findClass_of_methodNamed B.named
  have X : fm_X p s m avs.toArray c bytes y.cls D cl tm ad cy (fm_A tm ad) Ts nL := ⟨B.exec, B.bytes, hown, fun w hw => hts w (List.mem_cons_of_mem _ hw), hK, fun V => fm_D hAd cy V, hml⟩
  have Y : fm_Y s nt Z tm ad (fm_A tm ad) := ⟨hZ, fun q _ h => h, fun q h => h, hN, hZ0⟩
  have hl := lv_entry avs (n := nL) hlen
  rw [lg_entry_eq]
  generalize (lg_sl avs ++ List.replicate (nL - (lg_sl avs).length) Slot.unset).toArray = ls at hl ⊢
  exact hbody p e s m avs.toArray below meth c ls B.returns B.notSynchronized X Y hl s.heap [] hP va_S.rf
theorem gs_bret (X : fm_X p s m args c cc own D cl tm ad cy (fm_A tm ad) Ts nL) (Y : fm_Y s nt Z tm ad (fm_A tm ad)) (hr : meth.sig.returnType = some .byte) (hlocks : meth.locks = false) (hd : decode cc pc = .ok (.ireturn, 1)) (hp : po (some (.int 0)) V) :
    fm_W p l e R s m args below meth c (MQ below (rv_Qc D cl tm ad cy nt Z po) args s 0 0 (fm_A tm ad)) D cl tm ad cy (fm_A tm ad) V pc ls [.int 0] := by
  obtain ⟨hx, hb, hown, hts, hKk, hD, hml⟩ := X
  obtain ⟨hZ, hAA, hA, hN, hZ0⟩ := Y
  intro H locs hP hS
  exact W.zret (v := 0) (ty := .byte) hx hb hr rfl (fun t ht hW => ⟨⟨_, V, rfl, hp, fm_Wd_of hZ hAA hKk hN hZ0 hP hS ht hW⟩, hS.F ht⟩) hS.2.2 hd hlocks
end STR
theorem gs_coder {l : Launch} {D : va_G} {ad : Nat → Nat} {cy : Nat → ClassId} {adK adV : Nat → Nat} (hAd : fm_Ad fm_tm ad) {V : fm_V} {i : Nat} (hi : i < 2) : gm_M l D fm_cl fm_tm ad cy fm_nt (sk_Z (fm_A fm_tm ad) adK adV) yJ0_coder_7d493 (.code yJ0_coder_7d493 prog_14_method_152_code 1 (some .byte) :: fm_Ts) { frames := 0, cells := 0, slots := 0, locals := 0 } V [.ref (adK i)] (fun r V1 => V = V1 ∧ r = some (.int 0)) := by
  refine gm_at hAd sk_Zk (by decide +kernel) (by simp [lg_sl, Value.category]) ?_
  intro p e s m args below meth c ls hr hlk X Y hl
  have hl0 : ls[0]? = some (.val (.ref (adK i))) := hl.2.2 (0, .ref (adK i)) (by simp [lv_args, Value.category])
  have hs := hl.1
  have hw := hl.2.1
  clear hl
  have hz := Y.2.2.2.2
  refine fs_gets X hz.1 wf_J0_38 d_coder_0 ?_
  refine fm_if_eq X (tgt := 13) d_coder_3 (by decide) (fun h => absurd h (by decide)) (fun _ => ?_)
  refine fm_aload_n X d_coder_6 rfl hl0 ?_
  refine fs_getf X (hz.2.1.1 i hi).2.1 wf_J0_15 d_coder_7 ?_
  refine fz_goto X 14 d_coder_10 (by decide) ?_
  exact gs_bret X Y hr hlk d_coder_14 ⟨rfl, rfl⟩
theorem gs_isLatin1 {l : Launch} {D : va_G} {ad : Nat → Nat} {cy : Nat → ClassId} {adK adV : Nat → Nat} (hAd : fm_Ad fm_tm ad) {V : fm_V} {i : Nat} (hi : i < 2) : gm_M l D fm_cl fm_tm ad cy fm_nt (sk_Z (fm_A fm_tm ad) adK adV) yJ0_isLatin1_aae02 (.code yJ0_isLatin1_aae02 prog_14_method_154_code 1 (some .boolean) :: fm_Ts) { frames := 0, cells := 0, slots := 0, locals := 0 } V [.ref (adK i)] (fun r V1 => V = V1 ∧ r = some (.int 1)) := by
  refine gm_at hAd sk_Zk (by decide +kernel) (by simp [lg_sl, Value.category]) ?_
  intro p e s m args below meth c ls hr hlk X Y hl
  have hl0 : ls[0]? = some (.val (.ref (adK i))) := hl.2.2 (0, .ref (adK i)) (by simp [lv_args, Value.category])
  have hs := hl.1
  have hw := hl.2.1
  clear hl
  have hz := Y.2.2.2.2
  refine fs_gets X hz.1 wf_J0_38 d_isLatin1_0 ?_
  refine fm_if_eq X (tgt := 17) d_isLatin1_3 (by decide) (fun h => absurd h (by decide)) (fun _ => ?_)
  refine fm_aload_n X d_isLatin1_6 rfl hl0 ?_
  refine fs_getf X (hz.2.1.1 i hi).2.1 wf_J0_15 d_isLatin1_7 ?_
  refine fm_if_ne X (tgt := 17) d_isLatin1_10 (by decide) (fun h => absurd rfl h) (fun _ => ?_)
  refine fm_iconst X d_isLatin1_13 (v := 1) rfl ?_
  refine fz_goto X 18 d_isLatin1_14 (by decide) ?_
  exact gm_zret X Y hr hlk (Or.inr rfl) d_isLatin1_18 ⟨rfl, rfl⟩
theorem gs_length {l : Launch} {D : va_G} {ad : Nat → Nat} {cy : Nat → ClassId} {adK adV : Nat → Nat} (hAd : fm_Ad fm_tm ad) {V : fm_V} {i : Nat} (hi : i < 2) : gm_M l D fm_cl fm_tm ad cy fm_nt (sk_Z (fm_A fm_tm ad) adK adV) yJ0_length_8abf5 (.code yJ0_length_8abf5 prog_14_method_54_code 1 (some .int) :: fm_Ts) { frames := 1, cells := 0, slots := 0, locals := 100 } V [.ref (adK i)] (fun r V1 => V = V1 ∧ ∃ x : Int32, r = some (.int x) ∧ x.toInt = ((sk_len.getD i 0 : Nat) : Int)) := by
  refine gm_at hAd sk_Zk (by decide +kernel) (by simp [lg_sl, Value.category]) ?_
  intro p e s m args below meth c ls hr hlk X Y hl
  have hl0 : ls[0]? = some (.val (.ref (adK i))) := hl.2.2 (0, .ref (adK i)) (by simp [lv_args, Value.category])
  have hs := hl.1
  have hw := hl.2.1
  clear hl
  have hz := Y.2.2.2.2
  refine fm_aload_n X d_length_0 rfl hl0 ?_
  refine fs_getf X (hz.2.1.1 i hi).2.2.1 wf_J0_9 d_length_1 ?_
  refine fs_tlen X (hz.2.1.1 i hi).2.2.2 d_length_4 ?_
  refine fm_aload_n X d_length_5 rfl hl0 ?_
  refine gm_callVS X Y fm_Ts_good d_length_6 (gs_coder hAd (V := V) hi) wl_J0_335 wm_J0_coder_7d493 wy_J0_coder_7d493 ⟨⟨rfl, rfl⟩, by decide, by decide⟩ (hz.2.1.1 i hi).1 (rest := [.int (Int32.ofNat (sk_len.getD i 0))]) rfl rfl hs (by simp [Value.category]) (fun r V2 hp => ?_)
  obtain ⟨rfl, rfl⟩ := hp
  refine fm_ishr X d_length_9 ?_
  refine gm_iret X Y hr hlk d_length_10 ⟨rfl, _, rfl, ?_⟩
  have : i = 0 ∨ i = 1 := by omega
  rcases this with rfl | rfl <;> decide +kernel
theorem gs_canEncode {l : Launch} {D : va_G} {ad : Nat → Nat} {cy : Nat → ClassId} {adK adV : Nat → Nat} (hAd : fm_Ad fm_tm ad) {V : fm_V} {x1 : Int32} : gm_M l D fm_cl fm_tm ad cy fm_nt (sk_Z (fm_A fm_tm ad) adK adV) yJ1_canEncode_9a6ad (.code yJ1_canEncode_9a6ad prog_15_method_4_code 1 (some .boolean) :: fm_Ts) { frames := 0, cells := 0, slots := 0, locals := 0 } V [.int x1] (fun r V1 => V = V1 ∧ ∃ x : Int32, r = some (.int x)) := by
  refine gm_at hAd sk_Zk (by decide +kernel) (by simp [lg_sl, Value.category]) ?_
  intro p e s m args below meth c ls hr hlk X Y hl
  have hl0 : ls[0]? = some (.val (.int x1)) := hl.2.2 (0, .int x1) (by simp [lv_args, Value.category])
  have hs := hl.1
  have hw := hl.2.1
  clear hl
  have hz := Y.2.2.2.2
  refine fm_iload_n X d_canEncode_0 rfl hl0 ?_
  have hn : fm_W p l e { frames := 0, cells := 0, slots := 0, locals := 0 } s m args below meth c (MQ below (rv_Qc D fm_cl fm_tm ad cy fm_nt (sk_Z (fm_A fm_tm ad) adK adV) (fun r V1 => V = V1 ∧ ∃ x : Int32, r = some (.int x))) args s 0 0 (fm_A fm_tm ad)) D fm_cl fm_tm ad cy (fm_A fm_tm ad) V 15 ls [] := by
    refine fm_iconst X d_canEncode_15 (v := 0) rfl ?_
    exact gm_zret X Y hr hlk (Or.inl rfl) d_canEncode_16 ⟨rfl, _, rfl⟩
  refine fz_if_lt X 15 d_canEncode_1 (by decide) (fun _ => hn) (fun _ => ?_)
  refine fm_iload_n X d_canEncode_4 rfl hl0 ?_
  refine fz_sipush X d_canEncode_5 (by decide) (fun v hv => ?_)
  refine fz_icmp_gt X 15 d_canEncode_8 (by decide) (fun _ => hn) (fun _ => ?_)
  refine fm_iconst X d_canEncode_11 (v := 1) rfl ?_
  refine fz_goto X 16 d_canEncode_12 (by decide) ?_
  exact gm_zret X Y hr hlk (Or.inr rfl) d_canEncode_16 ⟨rfl, _, rfl⟩
theorem gs_max {l : Launch} {D : va_G} {ad : Nat → Nat} {cy : Nat → ClassId} {adK adV : Nat → Nat} (hAd : fm_Ad fm_tm ad) {V : fm_V} {x1 x2 : Int32} : gm_M l D fm_cl fm_tm ad cy fm_nt (sk_Z (fm_A fm_tm ad) adK adV) yJ9_max_7cf53 (.code yJ9_max_7cf53 prog_13_method_65_code 2 (some .int) :: fm_Ts) { frames := 0, cells := 0, slots := 0, locals := 0 } V [.int x1, .int x2] (fun r V1 => V = V1 ∧ ∃ x : Int32, r = some (.int x) ∧ (x1.toInt ≤ x.toInt ∧ x2.toInt ≤ x.toInt) ∧ (x.toInt = x1.toInt ∨ x.toInt = x2.toInt)) := by
  refine gm_atF hAd sk_Zk (by decide +kernel) (by simp [lg_sl, Value.category]) ?_
  intro p e s m args below meth c ls hr hlk X Y hl
  have hl0 : ls[0]? = some (.val (.int x1)) := hl.2.2 (0, .int x1) (by simp [lv_args, Value.category])
  have hl1 : ls[1]? = some (.val (.int x2)) := hl.2.2 (1, .int x2) (by simp [lv_args, Value.category])
  have hs := hl.1
  have hw := hl.2.1
  clear hl
  have hz := Y.2.2.2.2
  refine fm_iload_n X d_max_0 rfl hl0 ?_
  refine fm_iload_n X d_max_1 rfl hl1 ?_
  refine fz_icmp_lt X 9 d_max_2 (by decide) (fun h => ?_) (fun h => ?_)
  · refine fm_iload_n X d_max_9 rfl hl1 ?_
    exact gm_iret X Y hr hlk d_max_10 ⟨rfl, _, rfl, by omega, Or.inr rfl⟩
  · refine fm_iload_n X d_max_5 rfl hl0 ?_
    refine fz_goto X 10 d_max_6 (by decide) ?_
    exact gm_iret X Y hr hlk d_max_10 ⟨rfl, _, rfl, by omega, Or.inl rfl⟩
theorem gs_min {l : Launch} {D : va_G} {ad : Nat → Nat} {cy : Nat → ClassId} {adK adV : Nat → Nat} (hAd : fm_Ad fm_tm ad) {V : fm_V} {x1 x2 : Int32} : gm_M l D fm_cl fm_tm ad cy fm_nt (sk_Z (fm_A fm_tm ad) adK adV) yJ9_min_7cf53 (.code yJ9_min_7cf53 prog_13_method_69_code 2 (some .int) :: fm_Ts) { frames := 0, cells := 0, slots := 0, locals := 0 } V [.int x1, .int x2] (fun r V1 => V = V1 ∧ ∃ x : Int32, r = some (.int x) ∧ (x.toInt ≤ x1.toInt ∧ x.toInt ≤ x2.toInt) ∧ (x.toInt = x1.toInt ∨ x.toInt = x2.toInt)) := by
  refine gm_atF hAd sk_Zk (by decide +kernel) (by simp [lg_sl, Value.category]) ?_
  intro p e s m args below meth c ls hr hlk X Y hl
  have hl0 : ls[0]? = some (.val (.int x1)) := hl.2.2 (0, .int x1) (by simp [lv_args, Value.category])
  have hl1 : ls[1]? = some (.val (.int x2)) := hl.2.2 (1, .int x2) (by simp [lv_args, Value.category])
  have hs := hl.1
  have hw := hl.2.1
  clear hl
  have hz := Y.2.2.2.2
  refine fm_iload_n X d_min_0 rfl hl0 ?_
  refine fm_iload_n X d_min_1 rfl hl1 ?_
  refine fz_icmp_gt X 9 d_min_2 (by decide) (fun h => ?_) (fun h => ?_)
  · refine fm_iload_n X d_min_9 rfl hl1 ?_
    exact gm_iret X Y hr hlk d_min_10 ⟨rfl, _, rfl, by omega, Or.inr rfl⟩
  · refine fm_iload_n X d_min_5 rfl hl0 ?_
    refine fz_goto X 10 d_min_6 (by decide) ?_
    exact gm_iret X Y hr hlk d_min_10 ⟨rfl, _, rfl, by omega, Or.inl rfl⟩
theorem sk_len_le {i : Nat} (hi : i < 2) : sk_len.getD i 0 ≤ 13 := by
  have : i = 0 ∨ i = 1 := by omega
  rcases this with rfl | rfl <;> decide
theorem gs_indexOfChar {l : Launch} {D : va_G} {ad : Nat → Nat} {cy : Nat → ClassId} {adK adV : Nat → Nat} (hAd : fm_Ad fm_tm ad) {V : fm_V} {i : Nat} (hi : i < 2) {x1 x2 x3 : Int32} (f1 : 0 ≤ x2.toInt) (f2 : x3.toInt ≤ ((sk_len.getD i 0 : Nat) : Int)) : gm_M l D fm_cl fm_tm ad cy fm_nt (sk_Z (fm_A fm_tm ad) adK adV) yJ1_indexOfChar_4cfef (.code yJ1_indexOfChar_4cfef prog_15_method_23_code 6 (some .int) :: fm_Ts) { frames := 0, cells := 0, slots := 0, locals := 0 } V [.ref (adV i), .int x1, .int x2, .int x3] (fun r V1 => V = V1 ∧ ∃ x : Int32, r = some (.int x) ∧ -1 ≤ x.toInt ∧ x.toInt ≤ 12) := by
  refine gm_at hAd sk_Zk (by decide +kernel) (by simp [lg_sl, Value.category]) ?_
  intro p e s m args below meth c ls hr hlk X Y hl
  have hl0 : ls[0]? = some (.val (.ref (adV i))) := hl.2.2 (0, .ref (adV i)) (by simp [lv_args, Value.category])
  have hl1 : ls[1]? = some (.val (.int x1)) := hl.2.2 (1, .int x1) (by simp [lv_args, Value.category])
  have hl2 : ls[2]? = some (.val (.int x2)) := hl.2.2 (2, .int x2) (by simp [lv_args, Value.category])
  have hl3 : ls[3]? = some (.val (.int x3)) := hl.2.2 (3, .int x3) (by simp [lv_args, Value.category])
  have hs := hl.1
  have hw := hl.2.1
  clear hl
  have hz := Y.2.2.2.2
  have hln := sk_len_le hi
  refine fm_iload_n X d_indexOfChar_0 rfl hl1 ?_
  refine fs_i2b X d_indexOfChar_1 ?_
  refine fm_istore X d_indexOfChar_2 hs hw (by decide) (fun ls hst => ?_)
  have hl0 := hst.2.2.2.1 0 _ (by decide) hl0 rfl
  have hl2 := hst.2.2.2.1 2 _ (by decide) hl2 rfl
  have hl3 := hst.2.2.2.1 3 _ (by decide) hl3 rfl
  have hl4 := hst.2.2.1
  have hs := hst.1.trans hs
  have hw := hst.2.1
  clear hst
  refine fm_iload_n X d_indexOfChar_4 rfl hl2 ?_
  refine fm_istore X d_indexOfChar_5 hs hw (by decide) (fun ls hst => ?_)
  have hl0 := hst.2.2.2.1 0 _ (by decide) hl0 rfl
  have hl3 := hst.2.2.2.1 3 _ (by decide) hl3 rfl
  have hl4 := hst.2.2.2.1 4 _ (by decide) hl4 rfl
  have hl5 := hst.2.2.1
  have hs := hst.1.trans hs
  have hw := hst.2.1
  clear hst
  have loop : ∀ (N : Nat) (ls : Array Slot) (j : Int32), (x3.toInt - j.toInt).toNat < N → 0 ≤ j.toInt → ls.size = 6 → lv_wf ls → ls[0]? = some (.val (.ref (adV i))) → ls[3]? = some (.val (.int x3)) → ls[4]? = some (.val (.int x1.toInt8.toInt32)) → ls[5]? = some (.val (.int j)) → fm_W p l e { frames := 0, cells := 0, slots := 0, locals := 0 } s m args below meth c (MQ below (rv_Qc D fm_cl fm_tm ad cy fm_nt (sk_Z (fm_A fm_tm ad) adK adV) (fun r V1 => V = V1 ∧ ∃ x : Int32, r = some (.int x) ∧ -1 ≤ x.toInt ∧ x.toInt ≤ 12)) args s 0 0 (fm_A fm_tm ad)) D fm_cl fm_tm ad cy (fm_A fm_tm ad) V 7 ls [] := by
    intro N
    induction N with
    | zero => intro ls j h; omega
    | succ N ih =>
      intro ls j hN hj hs hw hl0 hl3 hl4 hl5
      refine fm_iload X d_indexOfChar_7 hl5 ?_
      refine fm_iload_n X d_indexOfChar_9 rfl hl3 ?_
      refine fz_icmp_ge X 31 d_indexOfChar_10 (by decide) (fun h => ?_) (fun h => ?_)
      · refine fz_iconst X d_indexOfChar_31 (by decide) (fun v hv => ?_)
        exact gm_iret X Y hr hlk d_indexOfChar_32 ⟨rfl, _, rfl, by omega, by omega⟩
      · refine fm_aload_n X d_indexOfChar_13 rfl hl0 ?_
        refine fm_iload X d_indexOfChar_14 hl5 ?_
        refine fs_tb X (hz.2.1.1 i hi).2.2.2 (zi_in hj (by omega)) d_indexOfChar_16 ?_
        refine fm_iload X d_indexOfChar_17 hl4 ?_
        refine fz_icmp_ne X 25 d_indexOfChar_19 (by decide) (fun _ => ?_) (fun _ => ?_)
        · refine fm_iinc X d_indexOfChar_25 hl5 hs hw (by decide) (fun ls hst => ?_)
          have hl0 := hst.2.2.2.1 0 _ (by decide) hl0 rfl
          have hl3 := hst.2.2.2.1 3 _ (by decide) hl3 rfl
          have hl4 := hst.2.2.2.1 4 _ (by decide) hl4 rfl
          refine fz_goto X 7 d_indexOfChar_28 (by decide) ?_
          have hz1 := zj_inc (x := j) (n := 1) (by omega) (by omega) (by decide) (by decide)
          exact ih ls _ (by omega) (by omega) (hst.1.trans hs) hst.2.1 hl0 hl3 hl4 hst.2.2.1
        · refine fm_iload X d_indexOfChar_22 hl5 ?_
          exact gm_iret X Y hr hlk d_indexOfChar_24 ⟨rfl, _, rfl, by omega, by omega⟩
  exact loop _ ls x2 (Nat.lt_succ_self _) f1 hs hw hl0 hl3 hl4 hl5
theorem gs_indexOf1 {l : Launch} {D : va_G} {ad : Nat → Nat} {cy : Nat → ClassId} {adK adV : Nat → Nat} (hAd : fm_Ad fm_tm ad) {V : fm_V} {i : Nat} (hi : i < 2) {x1 x2 x3 : Int32} (f1 : x2.toInt = 0) (f2 : x3.toInt = ((sk_len.getD i 0 : Nat) : Int)) : gm_M l D fm_cl fm_tm ad cy fm_nt (sk_Z (fm_A fm_tm ad) adK adV) yJ1_indexOf_4cfef (.code yJ1_indexOf_4cfef prog_15_method_22_code 4 (some .int) :: fm_Ts) { frames := 1, cells := 0, slots := 0, locals := 100 } V [.ref (adV i), .int x1, .int x2, .int x3] (fun r V1 => V = V1 ∧ ∃ x : Int32, r = some (.int x) ∧ -1 ≤ x.toInt ∧ x.toInt ≤ 12) := by
  refine gm_at hAd sk_Zk (by decide +kernel) (by simp [lg_sl, Value.category]) ?_
  intro p e s m args below meth c ls hr hlk X Y hl
  have hl0 : ls[0]? = some (.val (.ref (adV i))) := hl.2.2 (0, .ref (adV i)) (by simp [lv_args, Value.category])
  have hl1 : ls[1]? = some (.val (.int x1)) := hl.2.2 (1, .int x1) (by simp [lv_args, Value.category])
  have hl2 : ls[2]? = some (.val (.int x2)) := hl.2.2 (2, .int x2) (by simp [lv_args, Value.category])
  have hl3 : ls[3]? = some (.val (.int x3)) := hl.2.2 (3, .int x3) (by simp [lv_args, Value.category])
  have hs := hl.1
  have hw := hl.2.1
  clear hl
  have hz := Y.2.2.2.2
  have hln := sk_len_le hi
  refine fm_iload_n X d_indexOf1_0 rfl hl1 ?_
  refine gm_callS X Y fm_Ts_good d_indexOf1_1 (gs_canEncode hAd (V := V) (x1 := x1)) wl_J1_88 wm_J1_canEncode_9a6ad wy_J1_canEncode_9a6ad ⟨⟨rfl, rfl⟩, by decide, by decide⟩ (rest := []) rfl rfl hs (by simp [Value.category]) (fun r V2 hp => ?_)
  obtain ⟨rfl, x, rfl⟩ := hp
  refine fz_if_ne X 9 d_indexOf1_4 (by decide) (fun _ => ?_) (fun _ => ?_)
  rotate_left
  · refine fz_iconst X d_indexOf1_7 (by decide) (fun v hv => ?_)
    exact gm_iret X Y hr hlk d_indexOf1_8 ⟨rfl, _, rfl, by omega, by omega⟩
  refine fm_iload_n X d_indexOf1_9 rfl hl2 ?_
  refine fz_iconst X d_indexOf1_10 (by decide) (fun v0 hv0 => ?_)
  refine gm_callS X Y fm_Ts_good d_indexOf1_11 (gs_max hAd (V := V) (x1 := x2) (x2 := v0)) wl_J1_92 wm_J9_max_7cf53 wy_J9_max_7cf53 ⟨⟨rfl, rfl⟩, by decide, by decide⟩ (rest := []) rfl rfl hs (by simp [Value.category]) (fun r V2 hp => ?_)
  obtain ⟨rfl, a, rfl, ⟨a1, a2⟩, a3⟩ := hp
  refine fm_istore_n X d_indexOf1_14 hs hw (by decide) (fun ls hst => ?_)
  have hl0 := hst.2.2.2.1 0 _ (by decide) hl0 rfl
  have hl1 := hst.2.2.2.1 1 _ (by decide) hl1 rfl
  have hl3 := hst.2.2.2.1 3 _ (by decide) hl3 rfl
  have hl2 := hst.2.2.1
  have hs := hst.1.trans hs
  have hw := hst.2.1
  clear hst
  refine fm_iload_n X d_indexOf1_15 rfl hl3 ?_
  refine fm_aload_n X d_indexOf1_16 rfl hl0 ?_
  refine fs_tlen X (hz.2.1.1 i hi).2.2.2 d_indexOf1_17 ?_
  have hle : (Int32.ofNat (sk_len.getD i 0)).toInt = ((sk_len.getD i 0 : Nat) : Int) := by
    have : i = 0 ∨ i = 1 := by omega
    rcases this with rfl | rfl <;> decide +kernel
  refine gm_callS X Y fm_Ts_good d_indexOf1_18 (gs_min hAd (V := V) (x1 := x3) (x2 := Int32.ofNat (sk_len.getD i 0))) wl_J1_38 wm_J9_min_7cf53 wy_J9_min_7cf53 ⟨⟨rfl, rfl⟩, by decide, by decide⟩ (rest := []) rfl rfl hs (by simp [Value.category]) (fun r V2 hp => ?_)
  obtain ⟨rfl, b, rfl, ⟨b1, b2⟩, b3⟩ := hp
  refine fm_istore_n X d_indexOf1_21 hs hw (by decide) (fun ls hst => ?_)
  have hl0 := hst.2.2.2.1 0 _ (by decide) hl0 rfl
  have hl1 := hst.2.2.2.1 1 _ (by decide) hl1 rfl
  have hl2 := hst.2.2.2.1 2 _ (by decide) hl2 rfl
  have hl3 := hst.2.2.1
  have hs := hst.1.trans hs
  have hw := hst.2.1
  clear hst
  refine fm_iload_n X d_indexOf1_22 rfl hl2 ?_
  refine fm_iload_n X d_indexOf1_23 rfl hl3 ?_
  refine fz_icmp_lt X 29 d_indexOf1_24 (by decide) (fun _ => ?_) (fun _ => ?_)
  rotate_left
  · refine fz_iconst X d_indexOf1_27 (by decide) (fun v hv => ?_)
    exact gm_iret X Y hr hlk d_indexOf1_28 ⟨rfl, _, rfl, by omega, by omega⟩
  refine fm_aload_n X d_indexOf1_29 rfl hl0 ?_
  refine fm_iload_n X d_indexOf1_30 rfl hl1 ?_
  refine fm_iload_n X d_indexOf1_31 rfl hl2 ?_
  refine fm_iload_n X d_indexOf1_32 rfl hl3 ?_
  refine gm_callS X Y fm_Ts_good d_indexOf1_33 (gs_indexOfChar hAd (V := V) hi (x1 := x1) (x2 := a) (x3 := b) (by omega) (by omega)) wl_J1_95 wm_J1_indexOfChar_4cfef wy_J1_indexOfChar_4cfef ⟨⟨rfl, rfl⟩, by decide, by decide⟩ (rest := []) rfl rfl hs (by simp [Value.category]) (fun r V2 hp => ?_)
  obtain ⟨rfl, z, rfl, z1, z2⟩ := hp
  exact gm_iret X Y hr hlk d_indexOf1_36 ⟨rfl, _, rfl, z1, z2⟩
theorem gs_indexOf2 {l : Launch} {D : va_G} {ad : Nat → Nat} {cy : Nat → ClassId} {adK adV : Nat → Nat} (hAd : fm_Ad fm_tm ad) {V : fm_V} {i : Nat} (hi : i < 2) {x1 x2 : Int32} (f1 : x2.toInt = 0) : gm_M l D fm_cl fm_tm ad cy fm_nt (sk_Z (fm_A fm_tm ad) adK adV) yJ0_indexOf_7cf53 (.code yJ0_indexOf_7cf53 prog_14_method_80_code 3 (some .int) :: fm_Ts) { frames := 2, cells := 0, slots := 0, locals := 200 } V [.ref (adK i), .int x1, .int x2] (fun r V1 => V = V1 ∧ ∃ x : Int32, r = some (.int x) ∧ -1 ≤ x.toInt ∧ x.toInt ≤ 12) := by
  refine gm_at hAd sk_Zk (by decide +kernel) (by simp [lg_sl, Value.category]) ?_
  intro p e s m args below meth c ls hr hlk X Y hl
  have hl0 : ls[0]? = some (.val (.ref (adK i))) := hl.2.2 (0, .ref (adK i)) (by simp [lv_args, Value.category])
  have hl1 : ls[1]? = some (.val (.int x1)) := hl.2.2 (1, .int x1) (by simp [lv_args, Value.category])
  have hl2 : ls[2]? = some (.val (.int x2)) := hl.2.2 (2, .int x2) (by simp [lv_args, Value.category])
  have hs := hl.1
  have hw := hl.2.1
  clear hl
  have hz := Y.2.2.2.2
  refine fm_aload_n X d_indexOf2_0 rfl hl0 ?_
  refine gm_callVS X Y fm_Ts_good d_indexOf2_1 (gs_isLatin1 hAd (V := V) hi) wl_J0_492 wm_J0_isLatin1_aae02 wy_J0_isLatin1_aae02 ⟨⟨rfl, rfl⟩, by decide, by decide⟩ (hz.2.1.1 i hi).1 (rest := []) rfl rfl hs (by simp [Value.category]) (fun r V2 hp => ?_)
  obtain ⟨rfl, rfl⟩ := hp
  refine fm_if_eq X (tgt := 23) d_indexOf2_4 (by decide) (fun h => absurd h (by decide)) (fun _ => ?_)
  refine fm_aload_n X d_indexOf2_7 rfl hl0 ?_
  refine fs_getf X (hz.2.1.1 i hi).2.2.1 wf_J0_9 d_indexOf2_8 ?_
  refine fm_iload_n X d_indexOf2_11 rfl hl1 ?_
  refine fm_iload_n X d_indexOf2_12 rfl hl2 ?_
  refine fm_aload_n X d_indexOf2_13 rfl hl0 ?_
  refine gm_callVS X Y fm_Ts_good d_indexOf2_14 (gs_length hAd (V := V) hi) wl_J0_505 wm_J0_length_8abf5 wy_J0_length_8abf5 ⟨⟨rfl, rfl⟩, by decide, by decide⟩ (hz.2.1.1 i hi).1 (rest := [.int x2, .int x1, .ref (adV i)]) rfl rfl hs (by simp [Value.category]) (fun r V2 hp => ?_)
  obtain ⟨rfl, y, rfl, hy⟩ := hp
  refine gm_callS X Y fm_Ts_good d_indexOf2_17 (gs_indexOf1 hAd (V := V) hi (x1 := x1) (x2 := x2) (x3 := y) f1 hy) wl_J0_637 wm_J1_indexOf_4cfef wy_J1_indexOf_4cfef ⟨⟨rfl, rfl⟩, by decide, by decide⟩ (rest := []) rfl rfl hs (by simp [Value.category]) (fun r V2 hp => ?_)
  obtain ⟨rfl, z, rfl, z1, z2⟩ := hp
  refine fz_goto X 36 d_indexOf2_20 (by decide) ?_
  exact gm_iret X Y hr hlk d_indexOf2_36 ⟨rfl, _, rfl, z1, z2⟩
theorem gs_indexOf {l : Launch} {D : va_G} {ad : Nat → Nat} {cy : Nat → ClassId} {adK adV : Nat → Nat} (hAd : fm_Ad fm_tm ad) {V : fm_V} {i : Nat} (hi : i < 2) {x1 : Int32} : gm_M l D fm_cl fm_tm ad cy fm_nt (sk_Z (fm_A fm_tm ad) adK adV) yJ0_indexOf_0f7a4 (.code yJ0_indexOf_0f7a4 prog_14_method_79_code 2 (some .int) :: fm_Ts) { frames := 3, cells := 0, slots := 0, locals := 300 } V [.ref (adK i), .int x1] (fun r V1 => V = V1 ∧ ∃ x : Int32, r = some (.int x) ∧ -1 ≤ x.toInt ∧ x.toInt ≤ 12) := by
  refine gm_at hAd sk_Zk (by decide +kernel) (by simp [lg_sl, Value.category]) ?_
  intro p e s m args below meth c ls hr hlk X Y hl
  have hl0 : ls[0]? = some (.val (.ref (adK i))) := hl.2.2 (0, .ref (adK i)) (by simp [lv_args, Value.category])
  have hl1 : ls[1]? = some (.val (.int x1)) := hl.2.2 (1, .int x1) (by simp [lv_args, Value.category])
  have hs := hl.1
  have hw := hl.2.1
  clear hl
  have hz := Y.2.2.2.2
  refine fm_aload_n X d_indexOf_0 rfl hl0 ?_
  refine fm_iload_n X d_indexOf_1 rfl hl1 ?_
  refine fz_iconst X d_indexOf_2 (by decide) (fun v0 hv0 => ?_)
  refine gm_callVS X Y fm_Ts_good d_indexOf_3 (gs_indexOf2 hAd (V := V) hi (x1 := x1) (x2 := v0) hv0) wl_J0_633 wm_J0_indexOf_7cf53 wy_J0_indexOf_7cf53 ⟨⟨rfl, rfl⟩, by decide, by decide⟩ (hz.2.1.1 i hi).1 (rest := []) rfl rfl hs (by simp [Value.category]) (fun r V2 hp => ?_)
  obtain ⟨rfl, z, rfl, z1, z2⟩ := hp
  exact gm_iret X Y hr hlk d_indexOf_6 ⟨rfl, _, rfl, z1, z2⟩
/-- the reader's step: a constant text, a letter, indexOf -/
theorem fs_index {p : Program} {l : Launch} {e : Env} {R : Room} {s : State} {m : MethodId} {args : Array Value} {below : List Frame} {meth : Method} {c : Code} {Q : State → Prop} {cc : ByteArray} {own : String} {D : va_G} {ad : Nat → Nat} {cy : Nat → ClassId} {nL : Nat} {pc : Nat} {ls : Array Slot} {V : fm_V} {Z : State → Heap → Prop} (hAd : fm_Ad fm_tm ad) (X : fm_X p s m args c cc own D fm_cl fm_tm ad cy (fm_A fm_tm ad) fm_Ts nL) (Y : fm_Y s fm_nt Z fm_tm ad (fm_A fm_tm ad)) (hown : own = RX3) {i k : Nat} {tx : String} (hi : i < 2) (hk : ∀ adK adV, sk_Z (fm_A fm_tm ad) adK adV s s.heap → vk_R RX3 k tx (adK i) s) {j : Fin 4} {jj : Nat} {x : Int32} (hj : (j : Nat) = jj) (hl : ls[jj]? = some (.val (.int x))) (hs : ls.size = nL) (hR : 4 ≤ R.frames ∧ 321 ≤ R.locals)
    (d1 : decode cc pc = .ok (.ldc k, 2)) (d2 : decode cc (pc + 2) = .ok (.iload_n j, 1)) (d3 : decode cc (pc + 2 + 1) = .ok (.i2c, 1)) (d4 : decode cc (pc + 2 + 1 + 1) = .ok (.invokevirtual 58, 3)) (kk : ∀ z : Int32, -1 ≤ z.toInt → z.toInt ≤ 12 → fm_W p l e R s m args below meth c Q D fm_cl fm_tm ad cy (fm_A fm_tm ad) V (pc + 2 + 1 + 1 + 3) ls [.int z]) : fm_W p l e R s m args below meth c Q D fm_cl fm_tm ad cy (fm_A fm_tm ad) V pc ls [] := by
  subst hown
  obtain ⟨adK, adV, hz⟩ := Y.1.2.2.2 _ _ Y.2.2.2.2
  have Y' : fm_Y s fm_nt (sk_Z (fm_A fm_tm ad) adK adV) fm_tm ad (fm_A fm_tm ad) := ⟨sk_Zk, Y.2.1, Y.2.2.1, Y.2.2.2.1, hz⟩
  refine fs_ldcS X (hk adK adV hz) d1 ?_
  refine fm_iload_n X d2 hj hl ?_
  refine fs_i2c X d3 ?_
  refine gm_callVS X Y' fm_Ts_good d4 (gs_indexOf hAd (V := V) hi (x1 := (x.toUInt32 % 65536).toInt32)) wl_X3_58 wm_J0_indexOf_0f7a4 wy_J0_indexOf_0f7a4 ⟨⟨rfl, rfl⟩, hR.1, hR.2⟩ (hz.2.1.1 i hi).1 (rest := []) rfl rfl hs (by simp [Value.category]) (fun r V2 hp => ?_)
  obtain ⟨rfl, z, rfl, z1, z2⟩ := hp
  exact kk z z1 z2
