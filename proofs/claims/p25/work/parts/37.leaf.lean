/-! the reader, its small methods -/
theorem g_here {l : Launch} {D : va_G} {ad : Nat → Nat} {cy : Nat → ClassId} {Z : State → Heap → Prop} (hAd : fm_Ad fm_tm ad) (hZ : fm_Zk (fm_A fm_tm ad) Z) {V : fm_V}  (h0 : 0 ≤ (V 80 33).toInt) (h1 : (V 80 34).toInt ≤ 200) : gm_M l D fm_cl fm_tm ad cy fm_nt Z yX8_here (.code yX8_here prog_10_method_18_code 1 (some .int) :: fm_Ts) { frames := 0, cells := 0, slots := 0, locals := 0 } V [.ref (ad 80)] (fun r V1 => V = V1 ∧ ∃ x : Int32, r = some (.int x) ∧ x.toInt = hr_ V) := by
  refine gm_at hAd hZ (by decide +kernel) (by simp [lg_sl, Value.category]) ?_
  intro p e s m args below meth c ls hr hlk X Y hl
  have hl0 : ls[0]? = some (.val (.ref (ad 80))) := hl.2.2 (0, .ref (ad 80)) (by simp [lv_args, Value.category])
  have hs := hl.1
  have hw := hl.2.1
  clear hl
  refine fm_aload_n X d_X8_here_0 rfl hl0 ?_
  refine fz_getI X 80 d_X8_here_1 lkX8_208 rfl rfl ?_
  refine fm_aload_n X d_X8_here_4 rfl hl0 ?_
  refine fz_getI X 80 d_X8_here_5 lkX8_211 rfl rfl ?_
  refine fz_icmp_ge X 27 d_X8_here_8 (by decide) (fun h11 => ?_) (fun h11 => ?_)
  · skip
    refine fz_iconst X d_X8_here_27 (by decide) (fun v12 hv12 => ?_)
    refine gm_iret X Y hr hlk d_X8_here_28 ⟨rfl, _, rfl, ?_⟩
    unfold hr_
    rw [if_neg (by omega)]
    exact hv12
  · skip
    refine fm_aload_n X d_X8_here_11 rfl hl0 ?_
    refine fz_getR X 80 d_X8_here_12 lkX8_7 rfl rfl ?_
    refine fm_aload_n X d_X8_here_15 rfl hl0 ?_
    refine fz_getI X 80 d_X8_here_16 lkX8_208 rfl rfl ?_
    refine fz_baloadB X 81 d_X8_here_19 rfl (by constructor <;> omega) ?_
    refine fz_sipush X d_X8_here_20 (by decide) (fun v13 hv13 => ?_)
    refine fm_iand X d_X8_here_23 ?_
    refine fz_goto X 28 d_X8_here_24 (by decide) ?_
    refine gm_iret X Y hr hlk d_X8_here_28 ⟨rfl, _, rfl, ?_⟩
    unfold hr_
    rw [if_pos (by omega), show v13 = 255 from zi_inj hv13]
theorem g_isGood {l : Launch} {D : va_G} {ad : Nat → Nat} {cy : Nat → ClassId} {Z : State → Heap → Prop} (hAd : fm_Ad fm_tm ad) (hZ : fm_Zk (fm_A fm_tm ad) Z) {V : fm_V}   : gm_M l D fm_cl fm_tm ad cy fm_nt Z yX8_isGood (.code yX8_isGood prog_10_method_20_code 1 (some .boolean) :: fm_Ts) { frames := 0, cells := 0, slots := 0, locals := 0 } V [.ref (ad 80)] (fun r V1 => V = V1 ∧ ∃ x : Int32, r = some (.int x) ∧ (x = 0 ∨ x = 1) ∧ (x.toInt ≠ 0 ↔ (V 80 35).toInt = 0)) := by
  refine gm_at hAd hZ (by decide +kernel) (by simp [lg_sl, Value.category]) ?_
  intro p e s m args below meth c ls hr hlk X Y hl
  have hl0 : ls[0]? = some (.val (.ref (ad 80))) := hl.2.2 (0, .ref (ad 80)) (by simp [lv_args, Value.category])
  have hs := hl.1
  have hw := hl.2.1
  clear hl
  refine fm_aload_n X d_X8_isGood_0 rfl hl0 ?_
  refine fz_getI X 80 d_X8_isGood_1 lkX8_214 rfl rfl ?_
  refine fz_if_ne X 11 d_X8_isGood_4 (by decide) (fun h11 => ?_) (fun h11 => ?_)
  · skip
    refine fz_iconst X d_X8_isGood_11 (by decide) (fun v12 hv12 => ?_)
    refine gm_zret X Y hr hlk (by first | exact Or.inl (zi_inj hv12) | exact Or.inr (zi_inj hv12) | assumption) d_X8_isGood_12 ⟨rfl, _, rfl, (by first | exact Or.inl (zi_inj hv12) | exact Or.inr (zi_inj hv12)), by omega⟩
  · skip
    refine fz_iconst X d_X8_isGood_7 (by decide) (fun v13 hv13 => ?_)
    refine fz_goto X 12 d_X8_isGood_8 (by decide) ?_
    refine gm_zret X Y hr hlk (by first | exact Or.inl (zi_inj hv13) | exact Or.inr (zi_inj hv13) | assumption) d_X8_isGood_12 ⟨rfl, _, rfl, (by first | exact Or.inl (zi_inj hv13) | exact Or.inr (zi_inj hv13)), by omega⟩
theorem g_isTimes {l : Launch} {D : va_G} {ad : Nat → Nat} {cy : Nat → ClassId} {Z : State → Heap → Prop} (hAd : fm_Ad fm_tm ad) (hZ : fm_Zk (fm_A fm_tm ad) Z) {V : fm_V} {x1 : Int32}  : gm_M l D fm_cl fm_tm ad cy fm_nt Z yX8_isTimes (.code yX8_isTimes prog_10_method_27_code 1 (some .boolean) :: fm_Ts) { frames := 0, cells := 0, slots := 0, locals := 0 } V [.int x1] (fun r V1 => V = V1 ∧ ∃ x : Int32, r = some (.int x) ∧ (x = 0 ∨ x = 1) ∧ (x.toInt ≠ 0 ↔ x1.toInt = 42 ∨ x1.toInt = 47 ∨ x1.toInt = 37)) := by
  refine gm_at hAd hZ (by decide +kernel) (by simp [lg_sl, Value.category]) ?_
  intro p e s m args below meth c ls hr hlk X Y hl
  have hl0 : ls[0]? = some (.val (.int x1)) := hl.2.2 (0, .int x1) (by simp [lv_args, Value.category])
  have hs := hl.1
  have hw := hl.2.1
  clear hl
  refine fm_iload_n X d_X8_isTimes_0 rfl hl0 ?_
  refine fz_bipush X d_X8_isTimes_1 (by decide) (fun v11 hv11 => ?_)
  refine fz_icmp_eq X 18 d_X8_isTimes_3 (by decide) (fun h12 => ?_) (fun h12 => ?_)
  · skip
    refine fz_iconst X d_X8_isTimes_18 (by decide) (fun v13 hv13 => ?_)
    refine fz_goto X 23 d_X8_isTimes_19 (by decide) ?_
    refine gm_zret X Y hr hlk (by first | exact Or.inl (zi_inj hv13) | exact Or.inr (zi_inj hv13) | assumption) d_X8_isTimes_23 ⟨rfl, _, rfl, (by first | exact Or.inl (zi_inj hv13) | exact Or.inr (zi_inj hv13)), by omega⟩
  · skip
    refine fm_iload_n X d_X8_isTimes_6 rfl hl0 ?_
    refine fz_bipush X d_X8_isTimes_7 (by decide) (fun v14 hv14 => ?_)
    refine fz_icmp_eq X 18 d_X8_isTimes_9 (by decide) (fun h15 => ?_) (fun h15 => ?_)
    · skip
      refine fz_iconst X d_X8_isTimes_18 (by decide) (fun v16 hv16 => ?_)
      refine fz_goto X 23 d_X8_isTimes_19 (by decide) ?_
      refine gm_zret X Y hr hlk (by first | exact Or.inl (zi_inj hv16) | exact Or.inr (zi_inj hv16) | assumption) d_X8_isTimes_23 ⟨rfl, _, rfl, (by first | exact Or.inl (zi_inj hv16) | exact Or.inr (zi_inj hv16)), by omega⟩
    · skip
      refine fm_iload_n X d_X8_isTimes_12 rfl hl0 ?_
      refine fz_bipush X d_X8_isTimes_13 (by decide) (fun v17 hv17 => ?_)
      refine fz_icmp_ne X 22 d_X8_isTimes_15 (by decide) (fun h18 => ?_) (fun h18 => ?_)
      · skip
        refine fz_iconst X d_X8_isTimes_22 (by decide) (fun v19 hv19 => ?_)
        refine gm_zret X Y hr hlk (by first | exact Or.inl (zi_inj hv19) | exact Or.inr (zi_inj hv19) | assumption) d_X8_isTimes_23 ⟨rfl, _, rfl, (by first | exact Or.inl (zi_inj hv19) | exact Or.inr (zi_inj hv19)), by omega⟩
      · skip
        refine fz_iconst X d_X8_isTimes_18 (by decide) (fun v20 hv20 => ?_)
        refine fz_goto X 23 d_X8_isTimes_19 (by decide) ?_
        refine gm_zret X Y hr hlk (by first | exact Or.inl (zi_inj hv20) | exact Or.inr (zi_inj hv20) | assumption) d_X8_isTimes_23 ⟨rfl, _, rfl, (by first | exact Or.inl (zi_inj hv20) | exact Or.inr (zi_inj hv20)), by omega⟩
theorem g_isPlus {l : Launch} {D : va_G} {ad : Nat → Nat} {cy : Nat → ClassId} {Z : State → Heap → Prop} (hAd : fm_Ad fm_tm ad) (hZ : fm_Zk (fm_A fm_tm ad) Z) {V : fm_V} {x1 : Int32}  : gm_M l D fm_cl fm_tm ad cy fm_nt Z yX8_isPlus (.code yX8_isPlus prog_10_method_28_code 1 (some .boolean) :: fm_Ts) { frames := 0, cells := 0, slots := 0, locals := 0 } V [.int x1] (fun r V1 => V = V1 ∧ ∃ x : Int32, r = some (.int x) ∧ (x = 0 ∨ x = 1) ∧ (x.toInt ≠ 0 ↔ x1.toInt = 43 ∨ x1.toInt = 45)) := by
  refine gm_at hAd hZ (by decide +kernel) (by simp [lg_sl, Value.category]) ?_
  intro p e s m args below meth c ls hr hlk X Y hl
  have hl0 : ls[0]? = some (.val (.int x1)) := hl.2.2 (0, .int x1) (by simp [lv_args, Value.category])
  have hs := hl.1
  have hw := hl.2.1
  clear hl
  refine fm_iload_n X d_X8_isPlus_0 rfl hl0 ?_
  refine fz_bipush X d_X8_isPlus_1 (by decide) (fun v11 hv11 => ?_)
  refine fz_icmp_eq X 12 d_X8_isPlus_3 (by decide) (fun h12 => ?_) (fun h12 => ?_)
  · skip
    refine fz_iconst X d_X8_isPlus_12 (by decide) (fun v13 hv13 => ?_)
    refine fz_goto X 17 d_X8_isPlus_13 (by decide) ?_
    refine gm_zret X Y hr hlk (by first | exact Or.inl (zi_inj hv13) | exact Or.inr (zi_inj hv13) | assumption) d_X8_isPlus_17 ⟨rfl, _, rfl, (by first | exact Or.inl (zi_inj hv13) | exact Or.inr (zi_inj hv13)), by omega⟩
  · skip
    refine fm_iload_n X d_X8_isPlus_6 rfl hl0 ?_
    refine fz_bipush X d_X8_isPlus_7 (by decide) (fun v14 hv14 => ?_)
    refine fz_icmp_ne X 16 d_X8_isPlus_9 (by decide) (fun h15 => ?_) (fun h15 => ?_)
    · skip
      refine fz_iconst X d_X8_isPlus_16 (by decide) (fun v16 hv16 => ?_)
      refine gm_zret X Y hr hlk (by first | exact Or.inl (zi_inj hv16) | exact Or.inr (zi_inj hv16) | assumption) d_X8_isPlus_17 ⟨rfl, _, rfl, (by first | exact Or.inl (zi_inj hv16) | exact Or.inr (zi_inj hv16)), by omega⟩
    · skip
      refine fz_iconst X d_X8_isPlus_12 (by decide) (fun v17 hv17 => ?_)
      refine fz_goto X 17 d_X8_isPlus_13 (by decide) ?_
      refine gm_zret X Y hr hlk (by first | exact Or.inl (zi_inj hv17) | exact Or.inr (zi_inj hv17) | assumption) d_X8_isPlus_17 ⟨rfl, _, rfl, (by first | exact Or.inl (zi_inj hv17) | exact Or.inr (zi_inj hv17)), by omega⟩
theorem g_isSign {l : Launch} {D : va_G} {ad : Nat → Nat} {cy : Nat → ClassId} {Z : State → Heap → Prop} (hAd : fm_Ad fm_tm ad) (hZ : fm_Zk (fm_A fm_tm ad) Z) {V : fm_V} {x1 : Int32}  : gm_M l D fm_cl fm_tm ad cy fm_nt Z yX8_isSign (.code yX8_isSign prog_10_method_29_code 1 (some .boolean) :: fm_Ts) { frames := 0, cells := 0, slots := 0, locals := 0 } V [.int x1] (fun r V1 => V = V1 ∧ ∃ x : Int32, r = some (.int x) ∧ (x = 0 ∨ x = 1) ∧ (x.toInt ≠ 0 ↔ x1.toInt = 60 ∨ x1.toInt = 62 ∨ x1.toInt = 61)) := by
  refine gm_at hAd hZ (by decide +kernel) (by simp [lg_sl, Value.category]) ?_
  intro p e s m args below meth c ls hr hlk X Y hl
  have hl0 : ls[0]? = some (.val (.int x1)) := hl.2.2 (0, .int x1) (by simp [lv_args, Value.category])
  have hs := hl.1
  have hw := hl.2.1
  clear hl
  refine fm_iload_n X d_X8_isSign_0 rfl hl0 ?_
  refine fz_bipush X d_X8_isSign_1 (by decide) (fun v11 hv11 => ?_)
  refine fz_icmp_eq X 18 d_X8_isSign_3 (by decide) (fun h12 => ?_) (fun h12 => ?_)
  · skip
    refine fz_iconst X d_X8_isSign_18 (by decide) (fun v13 hv13 => ?_)
    refine fz_goto X 23 d_X8_isSign_19 (by decide) ?_
    refine gm_zret X Y hr hlk (by first | exact Or.inl (zi_inj hv13) | exact Or.inr (zi_inj hv13) | assumption) d_X8_isSign_23 ⟨rfl, _, rfl, (by first | exact Or.inl (zi_inj hv13) | exact Or.inr (zi_inj hv13)), by omega⟩
  · skip
    refine fm_iload_n X d_X8_isSign_6 rfl hl0 ?_
    refine fz_bipush X d_X8_isSign_7 (by decide) (fun v14 hv14 => ?_)
    refine fz_icmp_eq X 18 d_X8_isSign_9 (by decide) (fun h15 => ?_) (fun h15 => ?_)
    · skip
      refine fz_iconst X d_X8_isSign_18 (by decide) (fun v16 hv16 => ?_)
      refine fz_goto X 23 d_X8_isSign_19 (by decide) ?_
      refine gm_zret X Y hr hlk (by first | exact Or.inl (zi_inj hv16) | exact Or.inr (zi_inj hv16) | assumption) d_X8_isSign_23 ⟨rfl, _, rfl, (by first | exact Or.inl (zi_inj hv16) | exact Or.inr (zi_inj hv16)), by omega⟩
    · skip
      refine fm_iload_n X d_X8_isSign_12 rfl hl0 ?_
      refine fz_bipush X d_X8_isSign_13 (by decide) (fun v17 hv17 => ?_)
      refine fz_icmp_ne X 22 d_X8_isSign_15 (by decide) (fun h18 => ?_) (fun h18 => ?_)
      · skip
        refine fz_iconst X d_X8_isSign_22 (by decide) (fun v19 hv19 => ?_)
        refine gm_zret X Y hr hlk (by first | exact Or.inl (zi_inj hv19) | exact Or.inr (zi_inj hv19) | assumption) d_X8_isSign_23 ⟨rfl, _, rfl, (by first | exact Or.inl (zi_inj hv19) | exact Or.inr (zi_inj hv19)), by omega⟩
      · skip
        refine fz_iconst X d_X8_isSign_18 (by decide) (fun v20 hv20 => ?_)
        refine fz_goto X 23 d_X8_isSign_19 (by decide) ?_
        refine gm_zret X Y hr hlk (by first | exact Or.inl (zi_inj hv20) | exact Or.inr (zi_inj hv20) | assumption) d_X8_isSign_23 ⟨rfl, _, rfl, (by first | exact Or.inl (zi_inj hv20) | exact Or.inr (zi_inj hv20)), by omega⟩
theorem g_isOfYard {l : Launch} {D : va_G} {ad : Nat → Nat} {cy : Nat → ClassId} {Z : State → Heap → Prop} (hAd : fm_Ad fm_tm ad) (hZ : fm_Zk (fm_A fm_tm ad) Z) {V : fm_V} {x1 : Int32}  : gm_M l D fm_cl fm_tm ad cy fm_nt Z yX8_isOfYard (.code yX8_isOfYard prog_10_method_30_code 1 (some .boolean) :: fm_Ts) { frames := 0, cells := 0, slots := 0, locals := 0 } V [.int x1] (fun r V1 => V = V1 ∧ ∃ x : Int32, r = some (.int x) ∧ (x = 0 ∨ x = 1) ∧ (x.toInt ≠ 0 ↔ x1.toInt = 121 ∨ x1.toInt = 100 ∨ x1.toInt = 119 ∨ x1.toInt = 99 ∨ x1.toInt = 114 ∨ x1.toInt = 116)) := by
  refine gm_at hAd hZ (by decide +kernel) (by simp [lg_sl, Value.category]) ?_
  intro p e s m args below meth c ls hr hlk X Y hl
  have hl0 : ls[0]? = some (.val (.int x1)) := hl.2.2 (0, .int x1) (by simp [lv_args, Value.category])
  have hs := hl.1
  have hw := hl.2.1
  clear hl
  refine fm_iload_n X d_X8_isOfYard_0 rfl hl0 ?_
  refine fz_bipush X d_X8_isOfYard_1 (by decide) (fun v11 hv11 => ?_)
  refine fz_icmp_eq X 36 d_X8_isOfYard_3 (by decide) (fun h12 => ?_) (fun h12 => ?_)
  · skip
    refine fz_iconst X d_X8_isOfYard_36 (by decide) (fun v13 hv13 => ?_)
    refine fz_goto X 41 d_X8_isOfYard_37 (by decide) ?_
    refine gm_zret X Y hr hlk (by first | exact Or.inl (zi_inj hv13) | exact Or.inr (zi_inj hv13) | assumption) d_X8_isOfYard_41 ⟨rfl, _, rfl, (by first | exact Or.inl (zi_inj hv13) | exact Or.inr (zi_inj hv13)), by omega⟩
  · skip
    refine fm_iload_n X d_X8_isOfYard_6 rfl hl0 ?_
    refine fz_bipush X d_X8_isOfYard_7 (by decide) (fun v14 hv14 => ?_)
    refine fz_icmp_eq X 36 d_X8_isOfYard_9 (by decide) (fun h15 => ?_) (fun h15 => ?_)
    · skip
      refine fz_iconst X d_X8_isOfYard_36 (by decide) (fun v16 hv16 => ?_)
      refine fz_goto X 41 d_X8_isOfYard_37 (by decide) ?_
      refine gm_zret X Y hr hlk (by first | exact Or.inl (zi_inj hv16) | exact Or.inr (zi_inj hv16) | assumption) d_X8_isOfYard_41 ⟨rfl, _, rfl, (by first | exact Or.inl (zi_inj hv16) | exact Or.inr (zi_inj hv16)), by omega⟩
    · skip
      refine fm_iload_n X d_X8_isOfYard_12 rfl hl0 ?_
      refine fz_bipush X d_X8_isOfYard_13 (by decide) (fun v17 hv17 => ?_)
      refine fz_icmp_eq X 36 d_X8_isOfYard_15 (by decide) (fun h18 => ?_) (fun h18 => ?_)
      · skip
        refine fz_iconst X d_X8_isOfYard_36 (by decide) (fun v19 hv19 => ?_)
        refine fz_goto X 41 d_X8_isOfYard_37 (by decide) ?_
        refine gm_zret X Y hr hlk (by first | exact Or.inl (zi_inj hv19) | exact Or.inr (zi_inj hv19) | assumption) d_X8_isOfYard_41 ⟨rfl, _, rfl, (by first | exact Or.inl (zi_inj hv19) | exact Or.inr (zi_inj hv19)), by omega⟩
      · skip
        refine fm_iload_n X d_X8_isOfYard_18 rfl hl0 ?_
        refine fz_bipush X d_X8_isOfYard_19 (by decide) (fun v20 hv20 => ?_)
        refine fz_icmp_eq X 36 d_X8_isOfYard_21 (by decide) (fun h21 => ?_) (fun h21 => ?_)
        · skip
          refine fz_iconst X d_X8_isOfYard_36 (by decide) (fun v22 hv22 => ?_)
          refine fz_goto X 41 d_X8_isOfYard_37 (by decide) ?_
          refine gm_zret X Y hr hlk (by first | exact Or.inl (zi_inj hv22) | exact Or.inr (zi_inj hv22) | assumption) d_X8_isOfYard_41 ⟨rfl, _, rfl, (by first | exact Or.inl (zi_inj hv22) | exact Or.inr (zi_inj hv22)), by omega⟩
        · skip
          refine fm_iload_n X d_X8_isOfYard_24 rfl hl0 ?_
          refine fz_bipush X d_X8_isOfYard_25 (by decide) (fun v23 hv23 => ?_)
          refine fz_icmp_eq X 36 d_X8_isOfYard_27 (by decide) (fun h24 => ?_) (fun h24 => ?_)
          · skip
            refine fz_iconst X d_X8_isOfYard_36 (by decide) (fun v25 hv25 => ?_)
            refine fz_goto X 41 d_X8_isOfYard_37 (by decide) ?_
            refine gm_zret X Y hr hlk (by first | exact Or.inl (zi_inj hv25) | exact Or.inr (zi_inj hv25) | assumption) d_X8_isOfYard_41 ⟨rfl, _, rfl, (by first | exact Or.inl (zi_inj hv25) | exact Or.inr (zi_inj hv25)), by omega⟩
          · skip
            refine fm_iload_n X d_X8_isOfYard_30 rfl hl0 ?_
            refine fz_bipush X d_X8_isOfYard_31 (by decide) (fun v26 hv26 => ?_)
            refine fz_icmp_ne X 40 d_X8_isOfYard_33 (by decide) (fun h27 => ?_) (fun h27 => ?_)
            · skip
              refine fz_iconst X d_X8_isOfYard_40 (by decide) (fun v28 hv28 => ?_)
              refine gm_zret X Y hr hlk (by first | exact Or.inl (zi_inj hv28) | exact Or.inr (zi_inj hv28) | assumption) d_X8_isOfYard_41 ⟨rfl, _, rfl, (by first | exact Or.inl (zi_inj hv28) | exact Or.inr (zi_inj hv28)), by omega⟩
            · skip
              refine fz_iconst X d_X8_isOfYard_36 (by decide) (fun v29 hv29 => ?_)
              refine fz_goto X 41 d_X8_isOfYard_37 (by decide) ?_
              refine gm_zret X Y hr hlk (by first | exact Or.inl (zi_inj hv29) | exact Or.inr (zi_inj hv29) | assumption) d_X8_isOfYard_41 ⟨rfl, _, rfl, (by first | exact Or.inl (zi_inj hv29) | exact Or.inr (zi_inj hv29)), by omega⟩
theorem g_isValue {l : Launch} {D : va_G} {ad : Nat → Nat} {cy : Nat → ClassId} {Z : State → Heap → Prop} (hAd : fm_Ad fm_tm ad) (hZ : fm_Zk (fm_A fm_tm ad) Z) {V : fm_V} {x1 : Int32}  : gm_M l D fm_cl fm_tm ad cy fm_nt Z yX8_isValue (.code yX8_isValue prog_10_method_31_code 1 (some .boolean) :: fm_Ts) { frames := 1, cells := 0, slots := 0, locals := 100 } V [.int x1] (fun r V1 => V = V1 ∧ ∃ x : Int32, r = some (.int x) ∧ (x = 0 ∨ x = 1) ∧ (x.toInt ≠ 0 → x1.toInt ≠ 0)) := by
  refine gm_at hAd hZ (by decide +kernel) (by simp [lg_sl, Value.category]) ?_
  intro p e s m args below meth c ls hr hlk X Y hl
  have hl0 : ls[0]? = some (.val (.int x1)) := hl.2.2 (0, .int x1) (by simp [lv_args, Value.category])
  have hs := hl.1
  have hw := hl.2.1
  clear hl
  refine fm_iload_n X d_X8_isValue_0 rfl hl0 ?_
  refine gm_callS X Y fm_Ts_good d_X8_isValue_1 (g_isOfYard hAd hZ) wl_X8_248 wm_X8_isOfYard wy_X8_isOfYard (by decide) (rest := []) rfl rfl hs (by simp [Value.category]) (fun r V11 hp => ?_)
  obtain ⟨rfl, x12, rfl, hzx12, hx12⟩ := hp
  show fm_W p l e { frames := 1, cells := 0, slots := 0, locals := 100 } s m args below meth c (MQ below (rv_Qc D fm_cl fm_tm ad cy fm_nt Z (fun r V1 => V = V1 ∧ ∃ x : Int32, r = some (.int x) ∧ (x = 0 ∨ x = 1) ∧ (x.toInt ≠ 0 → x1.toInt ≠ 0))) args s 0 0 (fm_A fm_tm ad)) D fm_cl fm_tm ad cy (fm_A fm_tm ad) V 4 ls [.int x12]
  refine fz_if_ne X 49 d_X8_isValue_4 (by decide) (fun h13 => ?_) (fun h13 => ?_)
  · skip
    refine fz_iconst X d_X8_isValue_49 (by decide) (fun v14 hv14 => ?_)
    refine fz_goto X 54 d_X8_isValue_50 (by decide) ?_
    refine gm_zret X Y hr hlk (by first | exact Or.inl (zi_inj hv14) | exact Or.inr (zi_inj hv14) | assumption) d_X8_isValue_54 ⟨rfl, _, rfl, (by first | exact Or.inl (zi_inj hv14) | exact Or.inr (zi_inj hv14)), by omega⟩
  · skip
    refine fm_iload_n X d_X8_isValue_7 rfl hl0 ?_
    refine fz_bipush X d_X8_isValue_8 (by decide) (fun v15 hv15 => ?_)
    refine fz_icmp_eq X 49 d_X8_isValue_10 (by decide) (fun h16 => ?_) (fun h16 => ?_)
    · skip
      refine fz_iconst X d_X8_isValue_49 (by decide) (fun v17 hv17 => ?_)
      refine fz_goto X 54 d_X8_isValue_50 (by decide) ?_
      refine gm_zret X Y hr hlk (by first | exact Or.inl (zi_inj hv17) | exact Or.inr (zi_inj hv17) | assumption) d_X8_isValue_54 ⟨rfl, _, rfl, (by first | exact Or.inl (zi_inj hv17) | exact Or.inr (zi_inj hv17)), by omega⟩
    · skip
      refine fm_iload_n X d_X8_isValue_13 rfl hl0 ?_
      refine fz_bipush X d_X8_isValue_14 (by decide) (fun v18 hv18 => ?_)
      refine fz_icmp_eq X 49 d_X8_isValue_16 (by decide) (fun h19 => ?_) (fun h19 => ?_)
      · skip
        refine fz_iconst X d_X8_isValue_49 (by decide) (fun v20 hv20 => ?_)
        refine fz_goto X 54 d_X8_isValue_50 (by decide) ?_
        refine gm_zret X Y hr hlk (by first | exact Or.inl (zi_inj hv20) | exact Or.inr (zi_inj hv20) | assumption) d_X8_isValue_54 ⟨rfl, _, rfl, (by first | exact Or.inl (zi_inj hv20) | exact Or.inr (zi_inj hv20)), by omega⟩
      · skip
        refine fm_iload_n X d_X8_isValue_19 rfl hl0 ?_
        refine fz_bipush X d_X8_isValue_20 (by decide) (fun v21 hv21 => ?_)
        refine fz_icmp_eq X 49 d_X8_isValue_22 (by decide) (fun h22 => ?_) (fun h22 => ?_)
        · skip
          refine fz_iconst X d_X8_isValue_49 (by decide) (fun v23 hv23 => ?_)
          refine fz_goto X 54 d_X8_isValue_50 (by decide) ?_
          refine gm_zret X Y hr hlk (by first | exact Or.inl (zi_inj hv23) | exact Or.inr (zi_inj hv23) | assumption) d_X8_isValue_54 ⟨rfl, _, rfl, (by first | exact Or.inl (zi_inj hv23) | exact Or.inr (zi_inj hv23)), by omega⟩
        · skip
          refine fm_iload_n X d_X8_isValue_25 rfl hl0 ?_
          refine fz_bipush X d_X8_isValue_26 (by decide) (fun v24 hv24 => ?_)
          refine fz_icmp_eq X 49 d_X8_isValue_28 (by decide) (fun h25 => ?_) (fun h25 => ?_)
          · skip
            refine fz_iconst X d_X8_isValue_49 (by decide) (fun v26 hv26 => ?_)
            refine fz_goto X 54 d_X8_isValue_50 (by decide) ?_
            refine gm_zret X Y hr hlk (by first | exact Or.inl (zi_inj hv26) | exact Or.inr (zi_inj hv26) | assumption) d_X8_isValue_54 ⟨rfl, _, rfl, (by first | exact Or.inl (zi_inj hv26) | exact Or.inr (zi_inj hv26)), by omega⟩
          · skip
            refine fm_iload_n X d_X8_isValue_31 rfl hl0 ?_
            refine fz_bipush X d_X8_isValue_32 (by decide) (fun v27 hv27 => ?_)
            refine fz_icmp_eq X 49 d_X8_isValue_34 (by decide) (fun h28 => ?_) (fun h28 => ?_)
            · skip
              refine fz_iconst X d_X8_isValue_49 (by decide) (fun v29 hv29 => ?_)
              refine fz_goto X 54 d_X8_isValue_50 (by decide) ?_
              refine gm_zret X Y hr hlk (by first | exact Or.inl (zi_inj hv29) | exact Or.inr (zi_inj hv29) | assumption) d_X8_isValue_54 ⟨rfl, _, rfl, (by first | exact Or.inl (zi_inj hv29) | exact Or.inr (zi_inj hv29)), by omega⟩
            · skip
              refine fm_iload_n X d_X8_isValue_37 rfl hl0 ?_
              refine fz_bipush X d_X8_isValue_38 (by decide) (fun v30 hv30 => ?_)
              refine fz_icmp_eq X 49 d_X8_isValue_40 (by decide) (fun h31 => ?_) (fun h31 => ?_)
              · skip
                refine fz_iconst X d_X8_isValue_49 (by decide) (fun v32 hv32 => ?_)
                refine fz_goto X 54 d_X8_isValue_50 (by decide) ?_
                refine gm_zret X Y hr hlk (by first | exact Or.inl (zi_inj hv32) | exact Or.inr (zi_inj hv32) | assumption) d_X8_isValue_54 ⟨rfl, _, rfl, (by first | exact Or.inl (zi_inj hv32) | exact Or.inr (zi_inj hv32)), by omega⟩
              · skip
                refine fm_iload_n X d_X8_isValue_43 rfl hl0 ?_
                refine fz_bipush X d_X8_isValue_44 (by decide) (fun v33 hv33 => ?_)
                refine fz_icmp_ne X 53 d_X8_isValue_46 (by decide) (fun h34 => ?_) (fun h34 => ?_)
                · skip
                  refine fz_iconst X d_X8_isValue_53 (by decide) (fun v35 hv35 => ?_)
                  refine gm_zret X Y hr hlk (by first | exact Or.inl (zi_inj hv35) | exact Or.inr (zi_inj hv35) | assumption) d_X8_isValue_54 ⟨rfl, _, rfl, (by first | exact Or.inl (zi_inj hv35) | exact Or.inr (zi_inj hv35)), by omega⟩
                · skip
                  refine fz_iconst X d_X8_isValue_49 (by decide) (fun v36 hv36 => ?_)
                  refine fz_goto X 54 d_X8_isValue_50 (by decide) ?_
                  refine gm_zret X Y hr hlk (by first | exact Or.inl (zi_inj hv36) | exact Or.inr (zi_inj hv36) | assumption) d_X8_isValue_54 ⟨rfl, _, rfl, (by first | exact Or.inl (zi_inj hv36) | exact Or.inr (zi_inj hv36)), by omega⟩
theorem g_top {l : Launch} {D : va_G} {ad : Nat → Nat} {cy : Nat → ClassId} {Z : State → Heap → Prop} (hAd : fm_Ad fm_tm ad) (hZ : fm_Zk (fm_A fm_tm ad) Z) {V : fm_V}  (h0 : 0 ≤ (V 80 39).toInt) (h1 : (V 80 39).toInt ≤ 240) : gm_M l D fm_cl fm_tm ad cy fm_nt Z yX8_top (.code yX8_top prog_10_method_22_code 1 (some .int) :: fm_Ts) { frames := 0, cells := 0, slots := 0, locals := 0 } V [.ref (ad 80)] (fun r V1 => V = V1 ∧ ∃ x : Int32, r = some (.int x) ∧ x.toInt = tp_ V) := by
  refine gm_at hAd hZ (by decide +kernel) (by simp [lg_sl, Value.category]) ?_
  intro p e s m args below meth c ls hr hlk X Y hl
  have hl0 : ls[0]? = some (.val (.ref (ad 80))) := hl.2.2 (0, .ref (ad 80)) (by simp [lv_args, Value.category])
  have hs := hl.1
  have hw := hl.2.1
  clear hl
  refine fm_aload_n X d_X8_top_0 rfl hl0 ?_
  refine fz_getI X 80 d_X8_top_1 lkX8_224 rfl rfl ?_
  refine fz_if_le X 21 d_X8_top_4 (by decide) (fun h11 => ?_) (fun h11 => ?_)
  · skip
    refine fz_iconst X d_X8_top_21 (by decide) (fun v12 hv12 => ?_)
    refine gm_iret X Y hr hlk d_X8_top_22 ⟨rfl, _, rfl, ?_⟩
    unfold tp_
    rw [if_neg (by omega)]
    exact hv12
  · skip
    refine fm_aload_n X d_X8_top_7 rfl hl0 ?_
    refine fz_getR X 80 d_X8_top_8 lkX8_94 rfl rfl ?_
    refine fm_aload_n X d_X8_top_11 rfl hl0 ?_
    refine fz_getI X 80 d_X8_top_12 lkX8_224 rfl rfl ?_
    refine fz_iconst X d_X8_top_15 (by decide) (fun v13 hv13 => ?_)
    refine fz_isub X d_X8_top_16 (by constructor <;> omega) (fun z14 hz14 => ?_)
    refine fz_ialoadZ X 107 d_X8_top_17 rfl (by constructor <;> omega) ?_
    refine fz_goto X 22 d_X8_top_18 (by decide) ?_
    refine gm_iret X Y hr hlk d_X8_top_22 ⟨rfl, _, rfl, ?_⟩
    unfold tp_
    rw [if_pos (by omega), show ((V 80 39).toInt - 1).toNat = (z14).toInt.toNat by omega]
theorem g_wrongs {l : Launch} {D : va_G} {ad : Nat → Nat} {cy : Nat → ClassId} {Z : State → Heap → Prop} (hAd : fm_Ad fm_tm ad) (hZ : fm_Zk (fm_A fm_tm ad) Z) {V : fm_V} {x1 x2 : Int32} (h1 : 1 ≤ x1.toInt ∧ x1.toInt ≤ 5) (h2 : 0 ≤ x2.toInt ∧ x2.toInt ≤ 200) (h3 : (V 80 35).toInt ≤ 0) : gm_M l D fm_cl fm_tm ad cy fm_nt Z yX8_wrongs (.code yX8_wrongs prog_10_method_19_code 3 none :: fm_Ts) { frames := 0, cells := 0, slots := 0, locals := 0 } V [.ref (ad 80), .int x1, .int x2] (fun r V1 => r = none ∧ ∃ y : Int32, y.toInt < 0 ∧ V1 = fm_up V 80 35 y) := by
  refine gm_at hAd hZ (by decide +kernel) (by simp [lg_sl, Value.category]) ?_
  intro p e s m args below meth c ls hr hlk X Y hl
  have hl0 : ls[0]? = some (.val (.ref (ad 80))) := hl.2.2 (0, .ref (ad 80)) (by simp [lv_args, Value.category])
  have hl1 : ls[1]? = some (.val (.int x1)) := hl.2.2 (1, .int x1) (by simp [lv_args, Value.category])
  have hl2 : ls[2]? = some (.val (.int x2)) := hl.2.2 (2, .int x2) (by simp [lv_args, Value.category])
  have hs := hl.1
  have hw := hl.2.1
  clear hl
  refine fm_aload_n X d_X8_wrongs_0 rfl hl0 ?_
  refine fm_aload_n X d_X8_wrongs_1 rfl hl0 ?_
  refine fz_getI X 80 d_X8_wrongs_2 lkX8_214 rfl rfl ?_
  refine fz_if_ge X 15 d_X8_wrongs_5 (by decide) (fun h11 => ?_) (fun h11 => ?_)
  · skip
    refine fz_sipush X d_X8_wrongs_15 (by decide) (fun v12 hv12 => ?_)
    refine fm_iload_n X d_X8_wrongs_18 rfl hl1 ?_
    refine fm_imul X d_X8_wrongs_19 ?_
    refine fm_iload_n X d_X8_wrongs_20 rfl hl2 ?_
    refine fm_isub X d_X8_wrongs_21 ?_
    refine fz_put X 80 d_X8_wrongs_22 lkX8_214 wr_8_35 rfl rfl (by first | exact Or.inl rfl | (refine Or.inr ?_; constructor <;> omega)) (fun V13 hV13 => ?_)
    refine gm_vret X Y hr hlk d_X8_wrongs_25 ⟨rfl, _, ?_, hV13⟩
    obtain ⟨k1, e1⟩ := zi_mul v12 x1
    obtain ⟨k2, e2⟩ := zi_sub (v12 * x1) x2
    have r1 := zi_rng (v12 * x1)
    have r2 := zi_rng (v12 * x1 - x2)
    rw [hv12] at e1
    have e3 : k1 = 0 := by omega
    subst e3
    have e4 : k2 = 0 := by omega
    omega
  · skip
    refine fm_aload_n X d_X8_wrongs_8 rfl hl0 ?_
    refine fz_getI X 80 d_X8_wrongs_9 lkX8_214 rfl rfl ?_
    refine fz_goto X 22 d_X8_wrongs_12 (by decide) ?_
    refine fz_put X 80 d_X8_wrongs_22 lkX8_214 wr_8_35 rfl rfl (by first | exact Or.inl rfl | (refine Or.inr ?_; constructor <;> omega)) (fun V14 hV14 => ?_)
    refine gm_vret X Y hr hlk d_X8_wrongs_25 ⟨rfl, _, ?_, hV14⟩
    omega
theorem g_emit {l : Launch} {D : va_G} {ad : Nat → Nat} {cy : Nat → ClassId} {Z : State → Heap → Prop} (hAd : fm_Ad fm_tm ad) (hZ : fm_Zk (fm_A fm_tm ad) Z) {V : fm_V} {x1 x2 : Int32} (h1 : (V 80 35).toInt = 0 → 0 ≤ (V 80 37).toInt ∧ (V 80 37).toInt < 200) : gm_M l D fm_cl fm_tm ad cy fm_nt Z yX8_emit (.code yX8_emit prog_10_method_21_code 3 none :: fm_Ts) { frames := 1, cells := 0, slots := 0, locals := 100 } V [.ref (ad 80), .int x1, .int x2] (fun r V1 => r = none ∧ (((V 80 35).toInt ≠ 0 ∧ V = V1) ∨ ((V 80 35).toInt = 0 ∧ ∃ y : Int32, y.toInt = (V 80 37).toInt + 1 ∧ V1 = u_emit V x1 x2 y))) := by
  refine gm_at hAd hZ (by decide +kernel) (by simp [lg_sl, Value.category]) ?_
  intro p e s m args below meth c ls hr hlk X Y hl
  have hl0 : ls[0]? = some (.val (.ref (ad 80))) := hl.2.2 (0, .ref (ad 80)) (by simp [lv_args, Value.category])
  have hl1 : ls[1]? = some (.val (.int x1)) := hl.2.2 (1, .int x1) (by simp [lv_args, Value.category])
  have hl2 : ls[2]? = some (.val (.int x2)) := hl.2.2 (2, .int x2) (by simp [lv_args, Value.category])
  have hs := hl.1
  have hw := hl.2.1
  clear hl
  refine fm_aload_n X d_X8_emit_0 rfl hl0 ?_
  refine gm_callV X Y fm_Ts_good d_X8_emit_1 (g_isGood hAd hZ) wl_X8_217 wm_X8_isGood wy_X8_isGood (by decide) ⟨rfl, rfl⟩ (rest := []) rfl rfl hs (by simp [Value.category]) (fun r V11 hp => ?_)
  obtain ⟨rfl, x12, rfl, hzx12, hx12⟩ := hp
  show fm_W p l e { frames := 1, cells := 0, slots := 0, locals := 100 } s m args below meth c (MQ below (rv_Qc D fm_cl fm_tm ad cy fm_nt Z (fun r V1 => r = none ∧ (((V 80 35).toInt ≠ 0 ∧ V = V1) ∨ ((V 80 35).toInt = 0 ∧ ∃ y : Int32, y.toInt = (V 80 37).toInt + 1 ∧ V1 = u_emit V x1 x2 y)))) args s 0 0 (fm_A fm_tm ad)) D fm_cl fm_tm ad cy (fm_A fm_tm ad) V 4 ls [.int x12]
  refine fz_if_ne X 8 d_X8_emit_4 (by decide) (fun h13 => ?_) (fun h13 => ?_)
  · skip
    refine fm_aload_n X d_X8_emit_8 rfl hl0 ?_
    refine fz_getR X 80 d_X8_emit_9 lkX8_88 rfl rfl ?_
    refine fm_aload_n X d_X8_emit_12 rfl hl0 ?_
    refine fz_getI X 80 d_X8_emit_13 lkX8_221 rfl rfl ?_
    refine fm_iload_n X d_X8_emit_16 rfl hl1 ?_
    refine fz_iastore X 105 d_X8_emit_17 rfl (by constructor <;> omega) (fun V14 hV14 => ?_)
    have tV14_35 : (V14 80 35).toInt = (V 80 35).toInt := by rw [hV14, fm_up_ne (fun q => absurd q.1 (by decide))]
    have tV14_37 : (V14 80 37).toInt = (V 80 37).toInt := by rw [hV14, fm_up_ne (fun q => absurd q.1 (by decide))]
    refine fm_aload_n X d_X8_emit_18 rfl hl0 ?_
    refine fz_getR X 80 d_X8_emit_19 lkX8_91 rfl rfl ?_
    refine fm_aload_n X d_X8_emit_22 rfl hl0 ?_
    refine fz_getI X 80 d_X8_emit_23 lkX8_221 rfl rfl ?_
    refine fm_iload_n X d_X8_emit_26 rfl hl2 ?_
    refine fz_iastore X 106 d_X8_emit_27 rfl (by constructor <;> omega) (fun V15 hV15 => ?_)
    have tV15_35 : (V15 80 35).toInt = (V14 80 35).toInt := by rw [hV15, fm_up_ne (fun q => absurd q.1 (by decide))]
    have tV15_37 : (V15 80 37).toInt = (V14 80 37).toInt := by rw [hV15, fm_up_ne (fun q => absurd q.1 (by decide))]
    refine fm_aload_n X d_X8_emit_28 rfl hl0 ?_
    refine fm_dup X d_X8_emit_29 rfl ?_
    refine fz_getI X 80 d_X8_emit_30 lkX8_221 rfl rfl ?_
    refine fz_iconst X d_X8_emit_33 (by decide) (fun v16 hv16 => ?_)
    refine fz_iadd X d_X8_emit_34 (by constructor <;> omega) (fun z17 hz17 => ?_)
    refine fz_put X 80 d_X8_emit_35 lkX8_221 wr_8_37 rfl rfl (by first | exact Or.inl rfl | (refine Or.inr ?_; constructor <;> omega)) (fun V18 hV18 => ?_)
    have tV18_35 : (V18 80 35).toInt = (V15 80 35).toInt := by rw [hV18, fm_up_ne (by decide)]
    have tV18_37 : (V18 80 37).toInt = (z17).toInt := by rw [hV18, fm_up_self]
    refine gm_vret X Y hr hlk d_X8_emit_38 ⟨rfl, Or.inr ⟨by omega, z17, ?_, ?_⟩⟩
    rotate_left
    · rw [hV18, hV15, hV14]; unfold u_emit; simp only [show (fm_up V 105 (V 80 37).toInt.toNat x1) 80 37 = V 80 37 from fm_up_ne (fun q => absurd q.1 (by decide))]
    · omega
  · skip
    refine gm_vret X Y hr hlk d_X8_emit_7 ⟨rfl, Or.inl ⟨by omega, rfl⟩⟩
theorem g_puts {l : Launch} {D : va_G} {ad : Nat → Nat} {cy : Nat → ClassId} {Z : State → Heap → Prop} (hAd : fm_Ad fm_tm ad) (hZ : fm_Zk (fm_A fm_tm ad) Z) {V : fm_V} {x1 : Int32} (h1 : 0 ≤ (V 80 39).toInt ∧ (V 80 39).toInt < 240) (h2 : 0 ≤ (V 80 33).toInt ∧ (V 80 33).toInt ≤ 200) : gm_M l D fm_cl fm_tm ad cy fm_nt Z yX8_puts (.code yX8_puts prog_10_method_23_code 2 none :: fm_Ts) { frames := 0, cells := 0, slots := 0, locals := 0 } V [.ref (ad 80), .int x1] (fun r V1 => r = none ∧ ∃ y z : Int32, y.toInt = (V 80 39).toInt + 1 ∧ z.toInt = (V 80 33).toInt + 1 ∧ V1 = u_puts V x1 y z) := by
  refine gm_at hAd hZ (by decide +kernel) (by simp [lg_sl, Value.category]) ?_
  intro p e s m args below meth c ls hr hlk X Y hl
  have hl0 : ls[0]? = some (.val (.ref (ad 80))) := hl.2.2 (0, .ref (ad 80)) (by simp [lv_args, Value.category])
  have hl1 : ls[1]? = some (.val (.int x1)) := hl.2.2 (1, .int x1) (by simp [lv_args, Value.category])
  have hs := hl.1
  have hw := hl.2.1
  clear hl
  refine fm_aload_n X d_X8_puts_0 rfl hl0 ?_
  refine fz_getR X 80 d_X8_puts_1 lkX8_94 rfl rfl ?_
  refine fm_aload_n X d_X8_puts_4 rfl hl0 ?_
  refine fz_getI X 80 d_X8_puts_5 lkX8_224 rfl rfl ?_
  refine fm_iload_n X d_X8_puts_8 rfl hl1 ?_
  refine fz_iastore X 107 d_X8_puts_9 rfl (by constructor <;> omega) (fun V11 hV11 => ?_)
  have tV11_33 : (V11 80 33).toInt = (V 80 33).toInt := by rw [hV11, fm_up_ne (fun q => absurd q.1 (by decide))]
  have tV11_39 : (V11 80 39).toInt = (V 80 39).toInt := by rw [hV11, fm_up_ne (fun q => absurd q.1 (by decide))]
  refine fm_aload_n X d_X8_puts_10 rfl hl0 ?_
  refine fm_dup X d_X8_puts_11 rfl ?_
  refine fz_getI X 80 d_X8_puts_12 lkX8_224 rfl rfl ?_
  refine fz_iconst X d_X8_puts_15 (by decide) (fun v12 hv12 => ?_)
  refine fz_iadd X d_X8_puts_16 (by constructor <;> omega) (fun z13 hz13 => ?_)
  refine fz_put X 80 d_X8_puts_17 lkX8_224 wr_8_39 rfl rfl (by first | exact Or.inl rfl | (refine Or.inr ?_; constructor <;> omega)) (fun V14 hV14 => ?_)
  have tV14_33 : (V14 80 33).toInt = (V11 80 33).toInt := by rw [hV14, fm_up_ne (by decide)]
  have tV14_39 : (V14 80 39).toInt = (z13).toInt := by rw [hV14, fm_up_self]
  refine fm_aload_n X d_X8_puts_20 rfl hl0 ?_
  refine fm_dup X d_X8_puts_21 rfl ?_
  refine fz_getI X 80 d_X8_puts_22 lkX8_208 rfl rfl ?_
  refine fz_iconst X d_X8_puts_25 (by decide) (fun v15 hv15 => ?_)
  refine fz_iadd X d_X8_puts_26 (by constructor <;> omega) (fun z16 hz16 => ?_)
  refine fz_put X 80 d_X8_puts_27 lkX8_208 wr_8_33 rfl rfl (by first | exact Or.inl rfl | (refine Or.inr ?_; constructor <;> omega)) (fun V17 hV17 => ?_)
  have tV17_33 : (V17 80 33).toInt = (z16).toInt := by rw [hV17, fm_up_self]
  have tV17_39 : (V17 80 39).toInt = (V14 80 39).toInt := by rw [hV17, fm_up_ne (by decide)]
  refine gm_vret X Y hr hlk d_X8_puts_30 ⟨rfl, z13, z16, ?_, ?_, ?_⟩
  rotate_left 2
  · rw [hV17, hV14, hV11]; rfl
  · omega
  · omega
theorem g_lies {l : Launch} {D : va_G} {ad : Nat → Nat} {cy : Nat → ClassId} {Z : State → Heap → Prop} (hAd : fm_Ad fm_tm ad) (hZ : fm_Zk (fm_A fm_tm ad) Z) {V : fm_V} {x1 x2 x3 : Int64}  : gm_M l D fm_cl fm_tm ad cy fm_nt Z yX8_lies (.code yX8_lies prog_10_method_2_code 6 (some .boolean) :: fm_Ts) { frames := 0, cells := 0, slots := 0, locals := 0 } V [.long x1, .long x2, .long x3] (fun r V1 => V = V1 ∧ ∃ x : Int32, r = some (.int x) ∧ (x = 0 ∨ x = 1) ∧ (x.toInt ≠ 0 ↔ x2.toInt ≤ x1.toInt ∧ x1.toInt ≤ x3.toInt)) := by
  refine gm_at hAd hZ (by decide +kernel) (by simp [lg_sl, Value.category]) ?_
  intro p e s m args below meth c ls hr hlk X Y hl
  have hl0 : ls[0]? = some (.val (.long x1)) := hl.2.2 (0, .long x1) (by simp [lv_args, Value.category])
  have hl2 : ls[2]? = some (.val (.long x2)) := hl.2.2 (2, .long x2) (by simp [lv_args, Value.category])
  have hl4 : ls[4]? = some (.val (.long x3)) := hl.2.2 (4, .long x3) (by simp [lv_args, Value.category])
  have hs := hl.1
  have hw := hl.2.1
  clear hl
  refine fm_lload_n X d_X8_lies_0 rfl hl0 ?_
  refine fm_lload_n X d_X8_lies_1 rfl hl2 ?_
  refine fm_lcmp X d_X8_lies_2 ?_
  refine fm_if_lt X (tgt := 17) d_X8_lies_3 (by decide) (fun c1 => ?_) (fun c1 => ?_)
  · have a1 : x1 < x2 := (lg_cmp_lt x1 x2).mp c1
    rw [Int64.lt_iff_toInt_lt] at a1
    refine fm_iconst X d_X8_lies_17 (v := 0) rfl ?_
    exact gm_zret X Y hr hlk (Or.inl rfl) d_X8_lies_18 ⟨rfl, 0, rfl, Or.inl rfl, ⟨fun w => absurd rfl w, fun w => by omega⟩⟩
  · have a1 : ¬ x1 < x2 := fun w => c1 ((lg_cmp_lt x1 x2).mpr w)
    rw [Int64.lt_iff_toInt_lt] at a1
    refine fm_lload_n X d_X8_lies_6 rfl hl0 ?_
    refine fm_lload X d_X8_lies_7 hl4 ?_
    refine fm_lcmp X d_X8_lies_9 ?_
    refine fm_if_gt X (tgt := 17) d_X8_lies_10 (by decide) (fun c2 => ?_) (fun c2 => ?_)
    · have a2 : x3 < x1 := (lg_cmp_gt x1 x3).mp c2
      rw [Int64.lt_iff_toInt_lt] at a2
      refine fm_iconst X d_X8_lies_17 (v := 0) rfl ?_
      exact gm_zret X Y hr hlk (Or.inl rfl) d_X8_lies_18 ⟨rfl, 0, rfl, Or.inl rfl, ⟨fun w => absurd rfl w, fun w => by omega⟩⟩
    · have a2 : ¬ x3 < x1 := fun w => c2 ((lg_cmp_gt x1 x3).mpr w)
      rw [Int64.lt_iff_toInt_lt] at a2
      refine fm_iconst X d_X8_lies_13 (v := 1) rfl ?_
      refine fm_goto X (tgt := 18) d_X8_lies_14 (by decide) ?_
      exact gm_zret X Y hr hlk (Or.inr rfl) d_X8_lies_18 ⟨rfl, 1, rfl, Or.inr rfl, ⟨fun w => by omega, fun w => by decide⟩⟩
theorem g_seesDigit {l : Launch} {D : va_G} {ad : Nat → Nat} {cy : Nat → ClassId} {Z : State → Heap → Prop} (hAd : fm_Ad fm_tm ad) (hZ : fm_Zk (fm_A fm_tm ad) Z) {V : fm_V}  (h0 : 0 ≤ (V 80 33).toInt) (h1 : (V 80 34).toInt ≤ 200) : gm_M l D fm_cl fm_tm ad cy fm_nt Z yX8_seesDigit (.code yX8_seesDigit prog_10_method_25_code 1 (some .boolean) :: fm_Ts) { frames := 1, cells := 0, slots := 0, locals := 100 } V [.ref (ad 80)] (fun r V1 => V = V1 ∧ ∃ x : Int32, r = some (.int x) ∧ (x = 0 ∨ x = 1) ∧ (x.toInt ≠ 0 ↔ 48 ≤ hr_ V ∧ hr_ V ≤ 57)) := by
  refine gm_at hAd hZ (by decide +kernel) (by simp [lg_sl, Value.category]) ?_
  intro p e s m args below meth c ls hr hlk X Y hl
  have hl0 : ls[0]? = some (.val (.ref (ad 80))) := hl.2.2 (0, .ref (ad 80)) (by simp [lv_args, Value.category])
  have hs := hl.1
  have hw := hl.2.1
  clear hl
  refine fm_aload_n X d_X8_seesDigit_0 rfl hl0 ?_
  refine gm_callV X Y fm_Ts_good d_X8_seesDigit_1 (g_here hAd hZ (V := V) (by omega) (by omega)) wl_X8_234 wm_X8_here wy_X8_here (by decide) ⟨rfl, rfl⟩ (rest := []) rfl rfl hs (by simp [Value.category]) (fun r V11 hp => ?_)
  obtain ⟨rfl, x12, rfl, hx12⟩ := hp
  show fm_W p l e { frames := 1, cells := 0, slots := 0, locals := 100 } s m args below meth c (MQ below (rv_Qc D fm_cl fm_tm ad cy fm_nt Z (fun r V1 => V = V1 ∧ ∃ x : Int32, r = some (.int x) ∧ (x = 0 ∨ x = 1) ∧ (x.toInt ≠ 0 ↔ 48 ≤ hr_ V ∧ hr_ V ≤ 57))) args s 0 0 (fm_A fm_tm ad)) D fm_cl fm_tm ad cy (fm_A fm_tm ad) V 4 ls [.int x12]
  refine fz_i2l X d_X8_seesDigit_4 (fun z13 hz13 => ?_)
  refine fz_ldc2 X d_X8_seesDigit_5 (klX8_ok (241, 48) (List.mem_of_getElem? (i := 9) rfl)) (fun z14 hz14 => ?_)
  refine fz_ldc2 X d_X8_seesDigit_8 (klX8_ok (243, 57) (List.mem_of_getElem? (i := 10) rfl)) (fun z15 hz15 => ?_)
  refine gm_callS X Y fm_Ts_good d_X8_seesDigit_11 (g_lies hAd hZ) wl_X8_168 wm_X8_lies wy_X8_lies (by decide) (rest := []) rfl rfl hs (by simp [Value.category]) (fun r V16 hp => ?_)
  obtain ⟨rfl, x17, rfl, hzx17, hx17⟩ := hp
  show fm_W p l e { frames := 1, cells := 0, slots := 0, locals := 100 } s m args below meth c (MQ below (rv_Qc D fm_cl fm_tm ad cy fm_nt Z (fun r V1 => V = V1 ∧ ∃ x : Int32, r = some (.int x) ∧ (x = 0 ∨ x = 1) ∧ (x.toInt ≠ 0 ↔ 48 ≤ hr_ V ∧ hr_ V ≤ 57))) args s 0 0 (fm_A fm_tm ad)) D fm_cl fm_tm ad cy (fm_A fm_tm ad) V 14 ls [.int x17]
  refine gm_zret X Y hr hlk hzx17 d_X8_seesDigit_14 ⟨rfl, _, rfl, hzx17, by omega⟩
