/-! the reader: values -/
theorem g_factor {l : Launch} {D : va_G} {ad : Nat → Nat} {cy : Nat → ClassId} {Z : State → Heap → Prop} (hAd : fm_Ad fm_tm ad) (hZ : fm_Zk (fm_A fm_tm ad) Z) {V : fm_V} {V0 : fm_V} {h g : Nat} {S : Int → Prop} (hI : pz_I V0 V h S g 0) (hg : (V 80 35).toInt = 0) (hS : S 91) : gm_M l D fm_cl fm_tm ad cy fm_nt Z yX8_factor (.code yX8_factor prog_10_method_35_code 1 none :: fm_Ts) { frames := 3, cells := 0, slots := 0, locals := 300 } V [.ref (ad 80)] (fun r V1 => r = none ∧ pz_I V0 V1 h S g 1 ∧ (V 80 33).toInt ≤ (V1 80 33).toInt) := by
  refine gm_at hAd hZ (by decide +kernel) (by simp [lg_sl, Value.category]) ?_
  intro p e s m args below meth c ls hr hlk X Y hl
  have hl0 : ls[0]? = some (.val (.ref (ad 80))) := hl.2.2 (0, .ref (ad 80)) (by simp [lv_args, Value.category])
  have hs := hl.1
  have hw := hl.2.1
  clear hl
  have tail : ∀ (W : fm_V) (ls : Array Slot), pz_I V0 W h S g 0 → (V 80 33).toInt ≤ (W 80 33).toInt → ls.size = 1 → lv_wf ls → ls[0]? = some (.val (.ref (ad 80))) → fm_W p l e { frames := 3, cells := 0, slots := 0, locals := 300 } s m args below meth c (MQ below (rv_Qc D fm_cl fm_tm ad cy fm_nt Z (fun r V1 => r = none ∧ pz_I V0 V1 h S g 1 ∧ (V 80 33).toInt ≤ (V1 80 33).toInt)) args s 0 0 (fm_A fm_tm ad)) D fm_cl fm_tm ad cy (fm_A fm_tm ad) W 23 ls [] := by
    intro W ls hI f1 hs hw hl0
    obtain ⟨q1, q2, q3, q4, q5, q6, q7⟩ := hI.B
    have q8 := hI.pl
    have q9 := hI.c0
    have q10 := hI.hk
    have q11 := hI.en
    refine fm_aload_n X d_X8_factor_23 rfl hl0 ?_
    refine gm_callV X Y fm_Ts_good d_X8_factor_24 (g_isGood hAd hZ (V := W)) wl_X8_217 wm_X8_isGood wy_X8_isGood (by decide) ⟨rfl, rfl⟩ (rest := []) rfl rfl hs (by simp [Value.category]) (fun r V11 hp => ?_)
    obtain ⟨rfl, x12, rfl, hzx12, hx12⟩ := hp
    show fm_W p l e { frames := 3, cells := 0, slots := 0, locals := 300 } s m args below meth c (MQ below (rv_Qc D fm_cl fm_tm ad cy fm_nt Z (fun r V1 => r = none ∧ pz_I V0 V1 h S g 1 ∧ (V 80 33).toInt ≤ (V1 80 33).toInt)) args s 0 0 (fm_A fm_tm ad)) D fm_cl fm_tm ad cy (fm_A fm_tm ad) W 27 ls [.int x12]
    refine fz_if_ne X 31 d_X8_factor_27 (by decide) (fun h13 => ?_) (fun h13 => ?_)
    · skip
      refine fm_aload_n X d_X8_factor_31 rfl hl0 ?_
      refine gm_callV X Y fm_Ts_good d_X8_factor_32 (g_seesDigit hAd hZ (V := W) (by omega) (by omega)) wl_X8_245 wm_X8_seesDigit wy_X8_seesDigit (by decide) ⟨rfl, rfl⟩ (rest := []) rfl rfl hs (by simp [Value.category]) (fun r V14 hp => ?_)
      obtain ⟨rfl, x15, rfl, hzx15, hx15⟩ := hp
      show fm_W p l e { frames := 3, cells := 0, slots := 0, locals := 300 } s m args below meth c (MQ below (rv_Qc D fm_cl fm_tm ad cy fm_nt Z (fun r V1 => r = none ∧ pz_I V0 V1 h S g 1 ∧ (V 80 33).toInt ≤ (V1 80 33).toInt)) args s 0 0 (fm_A fm_tm ad)) D fm_cl fm_tm ad cy (fm_A fm_tm ad) W 35 ls [.int x15]
      refine fz_if_eq X 50 d_X8_factor_35 (by decide) (fun h16 => ?_) (fun h16 => ?_)
      · skip
        refine fm_aload_n X d_X8_factor_50 rfl hl0 ?_
        refine gm_callV X Y fm_Ts_good d_X8_factor_51 (g_here hAd hZ (V := W) (by omega) (by omega)) wl_X8_234 wm_X8_here wy_X8_here (by decide) ⟨rfl, rfl⟩ (rest := []) rfl rfl hs (by simp [Value.category]) (fun r V17 hp => ?_)
        obtain ⟨rfl, x18, rfl, hx18⟩ := hp
        show fm_W p l e { frames := 3, cells := 0, slots := 0, locals := 300 } s m args below meth c (MQ below (rv_Qc D fm_cl fm_tm ad cy fm_nt Z (fun r V1 => r = none ∧ pz_I V0 V1 h S g 1 ∧ (V 80 33).toInt ≤ (V1 80 33).toInt)) args s 0 0 (fm_A fm_tm ad)) D fm_cl fm_tm ad cy (fm_A fm_tm ad) W 54 ls [.int x18]
        refine gm_callS X Y fm_Ts_good d_X8_factor_54 (g_isValue hAd hZ) wl_X8_269 wm_X8_isValue wy_X8_isValue (by decide) (rest := []) rfl rfl hs (by simp [Value.category]) (fun r V19 hp => ?_)
        obtain ⟨rfl, x20, rfl, hzx20, hx20⟩ := hp
        show fm_W p l e { frames := 3, cells := 0, slots := 0, locals := 300 } s m args below meth c (MQ below (rv_Qc D fm_cl fm_tm ad cy fm_nt Z (fun r V1 => r = none ∧ pz_I V0 V1 h S g 1 ∧ (V 80 33).toInt ≤ (V1 80 33).toInt)) args s 0 0 (fm_A fm_tm ad)) D fm_cl fm_tm ad cy (fm_A fm_tm ad) W 57 ls [.int x20]
        refine fz_if_eq X 82 d_X8_factor_57 (by decide) (fun h21 => ?_) (fun h21 => ?_)
        · skip
          refine fm_aload_n X d_X8_factor_82 rfl hl0 ?_
          refine fz_iconst X d_X8_factor_83 (by decide) (fun v22 hv22 => ?_)
          refine fm_aload_n X d_X8_factor_84 rfl hl0 ?_
          refine fz_getI X 80 d_X8_factor_85 lkX8_208 rfl rfl ?_
          refine gm_callV X Y fm_Ts_good d_X8_factor_88 (g_wrongs hAd hZ (V := W) (by omega) (by omega) (by omega)) wl_X8_230 wm_X8_wrongs wy_X8_wrongs (by decide) ⟨rfl, rfl⟩ (rest := []) rfl rfl hs (by simp [Value.category]) (fun r V23 hp => ?_)
          obtain ⟨rfl, yx24, hyx24, hV23⟩ := hp
          have tV23_33 : (V23 80 33).toInt = (W 80 33).toInt := by rw [hV23, fm_up_ne (by decide)]
          have tV23_34 : (V23 80 34).toInt = (W 80 34).toInt := by rw [hV23, fm_up_ne (by decide)]
          have tV23_35 : (V23 80 35).toInt = (yx24).toInt := by rw [hV23, fm_up_self]
          have tV23_37 : (V23 80 37).toInt = (W 80 37).toInt := by rw [hV23, fm_up_ne (by decide)]
          have tV23_38 : (V23 80 38).toInt = (W 80 38).toInt := by rw [hV23, fm_up_ne (by decide)]
          have tV23_39 : (V23 80 39).toInt = (W 80 39).toInt := by rw [hV23, fm_up_ne (by decide)]
          have tV23_40 : (V23 80 40).toInt = (W 80 40).toInt := by rw [hV23, fm_up_ne (by decide)]
          have tV23_41 : (V23 80 41).toInt = (W 80 41).toInt := by rw [hV23, fm_up_ne (by decide)]
          show fm_W p l e { frames := 3, cells := 0, slots := 0, locals := 300 } s m args below meth c (MQ below (rv_Qc D fm_cl fm_tm ad cy fm_nt Z (fun r V1 => r = none ∧ pz_I V0 V1 h S g 1 ∧ (V 80 33).toInt ≤ (V1 80 33).toInt)) args s 0 0 (fm_A fm_tm ad)) D fm_cl fm_tm ad cy (fm_A fm_tm ad) V23 91 ls []
          have hI : pz_I V0 V23 h S g 1 := by rw [hV23]; exact hI.bad hyx24
          refine gm_vret X Y hr hlk d_X8_factor_91 ⟨rfl, hI, by omega⟩
        · skip
          have hE : (W 80 33).toInt < (W 80 34).toInt := hr_pos (by omega)
          refine fm_aload_n X d_X8_factor_60 rfl hl0 ?_
          refine fz_iconst X d_X8_factor_61 (by decide) (fun v25 hv25 => ?_)
          refine fm_aload_n X d_X8_factor_62 rfl hl0 ?_
          refine gm_callV X Y fm_Ts_good d_X8_factor_63 (g_here hAd hZ (V := W) (by omega) (by omega)) wl_X8_234 wm_X8_here wy_X8_here (by decide) ⟨rfl, rfl⟩ (rest := [.int v25, .ref (ad 80)]) rfl rfl hs (by simp [Value.category]) (fun r V26 hp => ?_)
          obtain ⟨rfl, x27, rfl, hx27⟩ := hp
          show fm_W p l e { frames := 3, cells := 0, slots := 0, locals := 300 } s m args below meth c (MQ below (rv_Qc D fm_cl fm_tm ad cy fm_nt Z (fun r V1 => r = none ∧ pz_I V0 V1 h S g 1 ∧ (V 80 33).toInt ≤ (V1 80 33).toInt)) args s 0 0 (fm_A fm_tm ad)) D fm_cl fm_tm ad cy (fm_A fm_tm ad) W 66 ls [.int x27, .int v25, .ref (ad 80)]
          refine gm_callV X Y fm_Ts_good d_X8_factor_66 (g_emit hAd hZ (V := W) (fun _ => by omega)) wl_X8_260 wm_X8_emit wy_X8_emit (by decide) ⟨rfl, rfl⟩ (rest := []) rfl rfl hs (by simp [Value.category]) (fun r V28 hp => ?_)
          obtain ⟨rfl, ⟨hq, rfl⟩ | ⟨-, yx29, hyx29, hV28⟩⟩ := hp
          · omega
          have tV28_33 : (V28 80 33).toInt = (W 80 33).toInt := by rw [hV28, u_emit_f]; rfl
          have tV28_34 : (V28 80 34).toInt = (W 80 34).toInt := by rw [hV28, u_emit_f]; rfl
          have tV28_35 : (V28 80 35).toInt = (W 80 35).toInt := by rw [hV28, u_emit_f]; rfl
          have tV28_37 : (V28 80 37).toInt = (yx29).toInt := by rw [hV28, u_emit_f]; rfl
          have tV28_38 : (V28 80 38).toInt = (W 80 38).toInt := by rw [hV28, u_emit_f]; rfl
          have tV28_39 : (V28 80 39).toInt = (W 80 39).toInt := by rw [hV28, u_emit_f]; rfl
          have tV28_40 : (V28 80 40).toInt = (W 80 40).toInt := by rw [hV28, u_emit_f]; rfl
          have tV28_41 : (V28 80 41).toInt = (W 80 41).toInt := by rw [hV28, u_emit_f]; rfl
          show fm_W p l e { frames := 3, cells := 0, slots := 0, locals := 300 } s m args below meth c (MQ below (rv_Qc D fm_cl fm_tm ad cy fm_nt Z (fun r V1 => r = none ∧ pz_I V0 V1 h S g 1 ∧ (V 80 33).toInt ≤ (V1 80 33).toInt)) args s 0 0 (fm_A fm_tm ad)) D fm_cl fm_tm ad cy (fm_A fm_tm ad) V28 69 ls []
          refine fm_aload_n X d_X8_factor_69 rfl hl0 ?_
          refine fm_dup X d_X8_factor_70 rfl ?_
          refine fz_getI X 80 d_X8_factor_71 lkX8_208 rfl rfl ?_
          refine fz_iconst X d_X8_factor_74 (by decide) (fun v30 hv30 => ?_)
          refine fz_iadd X d_X8_factor_75 (by constructor <;> omega) (fun z31 hz31 => ?_)
          refine fz_put X 80 d_X8_factor_76 lkX8_208 wr_8_33 rfl rfl (by first | exact Or.inl rfl | (refine Or.inr ?_; constructor <;> omega)) (fun V32 hV32 => ?_)
          have tV32_33 : (V32 80 33).toInt = (z31).toInt := by rw [hV32, fm_up_self]
          have tV32_34 : (V32 80 34).toInt = (V28 80 34).toInt := by rw [hV32, fm_up_ne (by decide)]
          have tV32_35 : (V32 80 35).toInt = (V28 80 35).toInt := by rw [hV32, fm_up_ne (by decide)]
          have tV32_37 : (V32 80 37).toInt = (V28 80 37).toInt := by rw [hV32, fm_up_ne (by decide)]
          have tV32_38 : (V32 80 38).toInt = (V28 80 38).toInt := by rw [hV32, fm_up_ne (by decide)]
          have tV32_39 : (V32 80 39).toInt = (V28 80 39).toInt := by rw [hV32, fm_up_ne (by decide)]
          have tV32_40 : (V32 80 40).toInt = (V28 80 40).toInt := by rw [hV32, fm_up_ne (by decide)]
          have tV32_41 : (V32 80 41).toInt = (V28 80 41).toInt := by rw [hV32, fm_up_ne (by decide)]
          have hI : pz_I V0 V32 h S g 1 := by
            have hI := (hI.step (z := z31) (by omega) (by omega)).operand (c := v25) (a := x27) (y := yx29) (by rw [fm_up_ne (by decide)]; omega) (by rw [fm_up_ne (by decide), fm_up_ne (by decide), fm_up_self]; omega) (by rw [fm_up_ne (by decide)]; omega) (by omega) (by rw [fm_up_ne (by decide)]; omega)
            rw [hV32, hV28]
            have e : fm_up (u_emit W v25 x27 yx29) 80 33 z31 = u_emit (fm_up W 80 33 z31) v25 x27 yx29 := by
              unfold u_emit
              rw [show (fm_up W 80 33 z31) 80 37 = W 80 37 from fm_up_ne (by decide)]
              funext i k
              unfold fm_up
              by_cases e1 : i = 80 <;> by_cases e2 : k = 33 <;> by_cases e3 : k = 37 <;> simp_all
            rw [e]
            exact hI
          refine fz_goto X 91 d_X8_factor_79 (by decide) ?_
          refine gm_vret X Y hr hlk d_X8_factor_91 ⟨rfl, hI, by omega⟩
      · skip
        refine fm_aload_n X d_X8_factor_38 rfl hl0 ?_
        refine fz_iconst X d_X8_factor_39 (by decide) (fun v33 hv33 => ?_)
        refine fm_aload_n X d_X8_factor_40 rfl hl0 ?_
        refine gm_callV X Y fm_Ts_good d_X8_factor_41 (g_reads hAd hZ (V := W) hI.fr.1 (by omega) (by omega) (by omega)) wl_X8_266 wm_X8_reads wy_X8_reads (by decide) ⟨rfl, rfl⟩ (rest := [.int v33, .ref (ad 80)]) rfl rfl hs (by simp [Value.category]) (fun r V34 hp => ?_)
        obtain ⟨⟨x35, rfl⟩, hF, g1, g2, g3⟩ := hp
        have hI := hI.move hF (by omega) (by omega) (by omega) (by omega)
        have t39 : (V34 80 39).toInt = (W 80 39).toInt := by rw [hF.2 80 39 (by decide)]
        have t37 : (V34 80 37).toInt = (W 80 37).toInt := by rw [hF.2 80 37 (by decide)]
        show fm_W p l e { frames := 3, cells := 0, slots := 0, locals := 300 } s m args below meth c (MQ below (rv_Qc D fm_cl fm_tm ad cy fm_nt Z (fun r V1 => r = none ∧ pz_I V0 V1 h S g 1 ∧ (V 80 33).toInt ≤ (V1 80 33).toInt)) args s 0 0 (fm_A fm_tm ad)) D fm_cl fm_tm ad cy (fm_A fm_tm ad) V34 44 ls [.int x35, .int v33, .ref (ad 80)]
        obtain ⟨q1, q2, q3, q4, q5, q6, q7⟩ := hI.B
        have q8 := hI.pl
        have q9 := hI.c0
        have q10 := hI.hk
        have q11 := hI.en
        refine gm_callV X Y fm_Ts_good d_X8_factor_44 (g_emit hAd hZ (V := V34) (fun _ => by omega)) wl_X8_260 wm_X8_emit wy_X8_emit (by decide) ⟨rfl, rfl⟩ (rest := []) rfl rfl hs (by simp [Value.category]) (fun r V36 hp => ?_)
        obtain ⟨rfl, ⟨hq, rfl⟩ | ⟨hq, yx37, hyx37, hV36⟩⟩ := hp
        · show fm_W p l e { frames := 3, cells := 0, slots := 0, locals := 300 } s m args below meth c (MQ below (rv_Qc D fm_cl fm_tm ad cy fm_nt Z (fun r V1 => r = none ∧ pz_I V0 V1 h S g 1 ∧ (V 80 33).toInt ≤ (V1 80 33).toInt)) args s 0 0 (fm_A fm_tm ad)) D fm_cl fm_tm ad cy (fm_A fm_tm ad) V34 47 ls []
          refine fz_goto X 91 d_X8_factor_47 (by decide) ?_
          exact gm_vret X Y hr hlk d_X8_factor_91 ⟨rfl, hI.any (by omega), by omega⟩
        · show fm_W p l e { frames := 3, cells := 0, slots := 0, locals := 300 } s m args below meth c (MQ below (rv_Qc D fm_cl fm_tm ad cy fm_nt Z (fun r V1 => r = none ∧ pz_I V0 V1 h S g 1 ∧ (V 80 33).toInt ≤ (V1 80 33).toInt)) args s 0 0 (fm_A fm_tm ad)) D fm_cl fm_tm ad cy (fm_A fm_tm ad) V36 47 ls []
          have hI : pz_I V0 V36 h S g 1 := by rw [hV36]; exact hI.operand (by omega) (by omega) hyx37 (by omega) (by omega)
          have t33 : (V36 80 33).toInt = (V34 80 33).toInt := by rw [hV36, u_emit_f]; rfl
          refine fz_goto X 91 d_X8_factor_47 (by decide) ?_
          exact gm_vret X Y hr hlk d_X8_factor_91 ⟨rfl, hI, by omega⟩
    · skip
      refine gm_vret X Y hr hlk d_X8_factor_30 ⟨rfl, hI.any (by omega), by omega⟩
  have loop : ∀ (N : Nat), ∀ (W : fm_V) (ls : Array Slot), ((W 80 34).toInt - (W 80 33).toInt).toNat < N → pz_I V0 W h S g 0 → (V 80 33).toInt ≤ (W 80 33).toInt → ls.size = 1 → lv_wf ls → ls[0]? = some (.val (.ref (ad 80))) → fm_W p l e { frames := 3, cells := 0, slots := 0, locals := 300 } s m args below meth c (MQ below (rv_Qc D fm_cl fm_tm ad cy fm_nt Z (fun r V1 => r = none ∧ pz_I V0 V1 h S g 1 ∧ (V 80 33).toInt ≤ (V1 80 33).toInt)) args s 0 0 (fm_A fm_tm ad)) D fm_cl fm_tm ad cy (fm_A fm_tm ad) W 0 ls [] := by
    intro N
    induction N with
    | zero => intro W ls h; omega
    | succ N ih =>
      intro W ls hN hI f1 hs hw hl0
      obtain ⟨q1, q2, q3, q4, q5, q6, q7⟩ := hI.B
      have q8 := hI.pl
      have q9 := hI.c0
      have q10 := hI.hk
      have q11 := hI.en
      refine fm_aload_n X d_X8_factor_0 rfl hl0 ?_
      refine gm_callV X Y fm_Ts_good d_X8_factor_1 (g_isGood hAd hZ (V := W)) wl_X8_217 wm_X8_isGood wy_X8_isGood (by decide) ⟨rfl, rfl⟩ (rest := []) rfl rfl hs (by simp [Value.category]) (fun r V38 hp => ?_)
      obtain ⟨rfl, x39, rfl, hzx39, hx39⟩ := hp
      show fm_W p l e { frames := 3, cells := 0, slots := 0, locals := 300 } s m args below meth c (MQ below (rv_Qc D fm_cl fm_tm ad cy fm_nt Z (fun r V1 => r = none ∧ pz_I V0 V1 h S g 1 ∧ (V 80 33).toInt ≤ (V1 80 33).toInt)) args s 0 0 (fm_A fm_tm ad)) D fm_cl fm_tm ad cy (fm_A fm_tm ad) W 4 ls [.int x39]
      refine fz_if_eq X 23 d_X8_factor_4 (by decide) (fun h40 => ?_) (fun h40 => ?_)
      · skip
        exact tail W ls hI f1 hs hw hl0
      · skip
        refine fm_aload_n X d_X8_factor_7 rfl hl0 ?_
        refine gm_callV X Y fm_Ts_good d_X8_factor_8 (g_here hAd hZ (V := W) (by omega) (by omega)) wl_X8_234 wm_X8_here wy_X8_here (by decide) ⟨rfl, rfl⟩ (rest := []) rfl rfl hs (by simp [Value.category]) (fun r V41 hp => ?_)
        obtain ⟨rfl, x42, rfl, hx42⟩ := hp
        show fm_W p l e { frames := 3, cells := 0, slots := 0, locals := 300 } s m args below meth c (MQ below (rv_Qc D fm_cl fm_tm ad cy fm_nt Z (fun r V1 => r = none ∧ pz_I V0 V1 h S g 1 ∧ (V 80 33).toInt ≤ (V1 80 33).toInt)) args s 0 0 (fm_A fm_tm ad)) D fm_cl fm_tm ad cy (fm_A fm_tm ad) W 11 ls [.int x42]
        refine fz_bipush X d_X8_factor_11 (by decide) (fun v43 hv43 => ?_)
        refine fz_icmp_ne X 23 d_X8_factor_13 (by decide) (fun h44 => ?_) (fun h44 => ?_)
        · skip
          exact tail W ls hI f1 hs hw hl0
        · skip
          refine fm_aload_n X d_X8_factor_16 rfl hl0 ?_
          have hE : (W 80 33).toInt < (W 80 34).toInt := hr_pos (by omega)
          have e91 : hr_ W = 91 := by omega
          refine gm_callV X Y fm_Ts_good d_X8_factor_17 (g_opens hAd hZ (V := W) hI (by omega) (by rw [e91]; rfl) (by rw [e91]; exact hS)) wl_X8_263 wm_X8_opens wy_X8_opens (by decide) ⟨rfl, rfl⟩ (rest := []) rfl rfl hs (by simp [Value.category]) (fun r V45 hp => ?_)
          obtain ⟨rfl, hI, g1, g2, g3⟩ := hp
          have g4 := hI.en
          show fm_W p l e { frames := 3, cells := 0, slots := 0, locals := 300 } s m args below meth c (MQ below (rv_Qc D fm_cl fm_tm ad cy fm_nt Z (fun r V1 => r = none ∧ pz_I V0 V1 h S g 1 ∧ (V 80 33).toInt ≤ (V1 80 33).toInt)) args s 0 0 (fm_A fm_tm ad)) D fm_cl fm_tm ad cy (fm_A fm_tm ad) V45 20 ls []
          refine fz_goto X 0 d_X8_factor_20 (by decide) ?_
          exact ih V45 ls (by omega) hI (by omega) hs hw hl0
  exact loop _ V ls (Nat.lt_succ_self _) hI (by omega) hs hw hl0
theorem g_stays {l : Launch} {D : va_G} {ad : Nat → Nat} {cy : Nat → ClassId} {Z : State → Heap → Prop} (hAd : fm_Ad fm_tm ad) (hZ : fm_Zk (fm_A fm_tm ad) Z) {V : fm_V} {V0 : fm_V} {h g : Nat} {S : Int → Prop} (hI : pz_I V0 V h S g 1) (hg : (V 80 35).toInt = 0) (hsn : 0 < h → ¬ ar_ (V0 107 (h - 1)).toInt ∧ (V0 107 (h - 1)).toInt ≠ 91) (hSa : ∀ x, ar_ x → S x) (h41 : (V 80 41).toInt = 0) : gm_M l D fm_cl fm_tm ad cy fm_nt Z yX8_stays (.code yX8_stays prog_10_method_36_code 2 (some .boolean) :: fm_Ts) { frames := 3, cells := 0, slots := 0, locals := 300 } V [.ref (ad 80)] (fun r V1 => ∃ x : Int32, r = some (.int x) ∧ (V 80 33).toInt ≤ (V1 80 33).toInt ∧ (x.toInt ≠ 0 → (V1 80 35).toInt = 0 ∧ (V 80 33).toInt < (V1 80 33).toInt ∧ (((V1 80 41).toInt = 0 ∧ pz_I V0 V1 h S g 0) ∨ ((V1 80 41).toInt ≠ 0 ∧ pz_I V0 V1 h S g 1))) ∧ (x.toInt = 0 → pz_I V0 V1 h S g 1 ∧ ((V1 80 35).toInt = 0 → ¬ ar_ (tp_ V1)))) := by
  refine gm_at hAd hZ (by decide +kernel) (by simp [lg_sl, Value.category]) ?_
  intro p e s m args below meth c ls hr hlk X Y hl
  have hl0 : ls[0]? = some (.val (.ref (ad 80))) := hl.2.2 (0, .ref (ad 80)) (by simp [lv_args, Value.category])
  have hs := hl.1
  have hw := hl.2.1
  clear hl
  obtain ⟨q1, q2, q3, q4, q5, q6, q7⟩ := hI.B
  have q8 := hI.pl
  have q9 := hI.c0
  have q10 := hI.hk
  have q11 := hI.en
  have hI0 := hI
  refine fm_aload_n X d_X8_stays_0 rfl hl0 ?_
  refine gm_callV X Y fm_Ts_good d_X8_stays_1 (g_here hAd hZ (V := V) (by omega) (by omega)) wl_X8_234 wm_X8_here wy_X8_here (by decide) ⟨rfl, rfl⟩ (rest := []) rfl rfl hs (by simp [Value.category]) (fun r V11 hp => ?_)
  obtain ⟨rfl, x12, rfl, hx12⟩ := hp
  show fm_W p l e { frames := 3, cells := 0, slots := 0, locals := 300 } s m args below meth c (MQ below (rv_Qc D fm_cl fm_tm ad cy fm_nt Z (fun r V1 => ∃ x : Int32, r = some (.int x) ∧ (V 80 33).toInt ≤ (V1 80 33).toInt ∧ (x.toInt ≠ 0 → (V1 80 35).toInt = 0 ∧ (V 80 33).toInt < (V1 80 33).toInt ∧ (((V1 80 41).toInt = 0 ∧ pz_I V0 V1 h S g 0) ∨ ((V1 80 41).toInt ≠ 0 ∧ pz_I V0 V1 h S g 1))) ∧ (x.toInt = 0 → pz_I V0 V1 h S g 1 ∧ ((V1 80 35).toInt = 0 → ¬ ar_ (tp_ V1))))) args s 0 0 (fm_A fm_tm ad)) D fm_cl fm_tm ad cy (fm_A fm_tm ad) V 4 ls [.int x12]
  refine fm_istore_n X d_X8_stays_4 hs hw (by decide) (fun ls hst => ?_)
  have hl0 := hst.2.2.2.1 0 _ (by decide) hl0 rfl
  have hl1 := hst.2.2.1
  have hs := hst.1.trans hs
  have hw := hst.2.1
  clear hst
  refine fm_iload_n X d_X8_stays_5 rfl hl1 ?_
  refine gm_callS X Y fm_Ts_good d_X8_stays_6 (g_isTimes hAd hZ) wl_X8_254 wm_X8_isTimes wy_X8_isTimes (by decide) (rest := []) rfl rfl hs (by simp [Value.category]) (fun r V14 hp => ?_)
  obtain ⟨rfl, x15, rfl, hzx15, hx15⟩ := hp
  show fm_W p l e { frames := 3, cells := 0, slots := 0, locals := 300 } s m args below meth c (MQ below (rv_Qc D fm_cl fm_tm ad cy fm_nt Z (fun r V1 => ∃ x : Int32, r = some (.int x) ∧ (V 80 33).toInt ≤ (V1 80 33).toInt ∧ (x.toInt ≠ 0 → (V1 80 35).toInt = 0 ∧ (V 80 33).toInt < (V1 80 33).toInt ∧ (((V1 80 41).toInt = 0 ∧ pz_I V0 V1 h S g 0) ∨ ((V1 80 41).toInt ≠ 0 ∧ pz_I V0 V1 h S g 1))) ∧ (x.toInt = 0 → pz_I V0 V1 h S g 1 ∧ ((V1 80 35).toInt = 0 → ¬ ar_ (tp_ V1))))) args s 0 0 (fm_A fm_tm ad)) D fm_cl fm_tm ad cy (fm_A fm_tm ad) V 9 ls [.int x15]
  refine fz_if_ne X 19 d_X8_stays_9 (by decide) (fun h16 => ?_) (fun h16 => ?_)
  · skip
    refine fm_aload_n X d_X8_stays_19 rfl hl0 ?_
    refine fm_iload_n X d_X8_stays_20 rfl hl1 ?_
    refine gm_callS X Y fm_Ts_good d_X8_stays_21 (g_isPlus hAd hZ) wl_X8_257 wm_X8_isPlus wy_X8_isPlus (by decide) (rest := [.ref (ad 80)]) rfl rfl hs (by simp [Value.category]) (fun r V17 hp => ?_)
    obtain ⟨rfl, x18, rfl, hzx18, hx18⟩ := hp
    show fm_W p l e { frames := 3, cells := 0, slots := 0, locals := 300 } s m args below meth c (MQ below (rv_Qc D fm_cl fm_tm ad cy fm_nt Z (fun r V1 => ∃ x : Int32, r = some (.int x) ∧ (V 80 33).toInt ≤ (V1 80 33).toInt ∧ (x.toInt ≠ 0 → (V1 80 35).toInt = 0 ∧ (V 80 33).toInt < (V1 80 33).toInt ∧ (((V1 80 41).toInt = 0 ∧ pz_I V0 V1 h S g 0) ∨ ((V1 80 41).toInt ≠ 0 ∧ pz_I V0 V1 h S g 1))) ∧ (x.toInt = 0 → pz_I V0 V1 h S g 1 ∧ ((V1 80 35).toInt = 0 → ¬ ar_ (tp_ V1))))) args s 0 0 (fm_A fm_tm ad)) D fm_cl fm_tm ad cy (fm_A fm_tm ad) V 24 ls [.int x18, .ref (ad 80)]
    have hE : (V 80 33).toInt < (V 80 34).toInt := hr_pos (by omega)
    refine gm_callV X Y fm_Ts_good d_X8_stays_24 (g_sums hAd hZ (V := V) (x1 := x18) hI hg (fun h0 => (hsn h0).1)) wl_X8_272 wm_X8_sums wy_X8_sums (by decide) ⟨rfl, rfl⟩ (rest := []) rfl rfl hs (by simp [Value.category]) (fun r V19 hp => ?_)
    obtain ⟨rfl, hI, hg, g1, g2, g2b, g3, g4⟩ := hp
    show fm_W p l e { frames := 3, cells := 0, slots := 0, locals := 300 } s m args below meth c (MQ below (rv_Qc D fm_cl fm_tm ad cy fm_nt Z (fun r V1 => ∃ x : Int32, r = some (.int x) ∧ (V 80 33).toInt ≤ (V1 80 33).toInt ∧ (x.toInt ≠ 0 → (V1 80 35).toInt = 0 ∧ (V 80 33).toInt < (V1 80 33).toInt ∧ (((V1 80 41).toInt = 0 ∧ pz_I V0 V1 h S g 0) ∨ ((V1 80 41).toInt ≠ 0 ∧ pz_I V0 V1 h S g 1))) ∧ (x.toInt = 0 → pz_I V0 V1 h S g 1 ∧ ((V1 80 35).toInt = 0 → ¬ ar_ (tp_ V1))))) args s 0 0 (fm_A fm_tm ad)) D fm_cl fm_tm ad cy (fm_A fm_tm ad) V19 27 ls []
    obtain ⟨q1, q2, q3, q4, q5, q6, q7⟩ := hI.B
    have q8 := hI.pl
    have q9 := hI.c0
    have q10 := hI.hk
    have q11 := hI.en
    have hrE : hr_ V19 = hr_ V := hr_same hI0 hI (by omega)
    refine fm_aload_n X d_X8_stays_27 rfl hl0 ?_
    refine fm_iload_n X d_X8_stays_28 rfl hl1 ?_
    have hAr : ar_ (x12).toInt := by unfold ar_; omega
    refine gm_callV X Y fm_Ts_good d_X8_stays_29 (g_puts hAd hZ (V := V19) (by omega) (by omega)) wl_X8_238 wm_X8_puts wy_X8_puts (by decide) ⟨rfl, rfl⟩ (rest := []) rfl rfl hs (by simp [Value.category]) (fun r V21 hp => ?_)
    obtain ⟨rfl, yx22, zx22, hyx22, hzx22, hV21⟩ := hp
    have tV21_33 : (V21 80 33).toInt = (zx22).toInt := by rw [hV21, u_puts_f]; rfl
    have tV21_34 : (V21 80 34).toInt = (V19 80 34).toInt := by rw [hV21, u_puts_f]; rfl
    have tV21_35 : (V21 80 35).toInt = (V19 80 35).toInt := by rw [hV21, u_puts_f]; rfl
    have tV21_37 : (V21 80 37).toInt = (V19 80 37).toInt := by rw [hV21, u_puts_f]; rfl
    have tV21_38 : (V21 80 38).toInt = (V19 80 38).toInt := by rw [hV21, u_puts_f]; rfl
    have tV21_39 : (V21 80 39).toInt = (yx22).toInt := by rw [hV21, u_puts_f]; rfl
    have tV21_40 : (V21 80 40).toInt = (V19 80 40).toInt := by rw [hV21, u_puts_f]; rfl
    have tV21_41 : (V21 80 41).toInt = (V19 80 41).toInt := by rw [hV21, u_puts_f]; rfl
    show fm_W p l e { frames := 3, cells := 0, slots := 0, locals := 300 } s m args below meth c (MQ below (rv_Qc D fm_cl fm_tm ad cy fm_nt Z (fun r V1 => ∃ x : Int32, r = some (.int x) ∧ (V 80 33).toInt ≤ (V1 80 33).toInt ∧ (x.toInt ≠ 0 → (V1 80 35).toInt = 0 ∧ (V 80 33).toInt < (V1 80 33).toInt ∧ (((V1 80 41).toInt = 0 ∧ pz_I V0 V1 h S g 0) ∨ ((V1 80 41).toInt ≠ 0 ∧ pz_I V0 V1 h S g 1))) ∧ (x.toInt = 0 → pz_I V0 V1 h S g 1 ∧ ((V1 80 35).toInt = 0 → ¬ ar_ (tp_ V1))))) args s 0 0 (fm_A fm_tm ad)) D fm_cl fm_tm ad cy (fm_A fm_tm ad) V21 32 ls []
    have hI : pz_I V0 V21 h S g 0 := by rw [hV21]; exact hI.puts (by omega) hyx22 hzx22 (fun _ => hSa _ hAr) (by rw [bo_ar hAr]; rfl)
    refine fz_iconst X d_X8_stays_32 (by decide) (fun v23 hv23 => ?_)
    refine gm_zret X Y hr hlk (by first | exact Or.inl (zi_inj hv23) | exact Or.inr (zi_inj hv23) | assumption) d_X8_stays_33 ⟨_, rfl, by omega, fun _ => ⟨by omega, by omega, Or.inl ⟨by omega, hI⟩⟩, fun q => by omega⟩
  · skip
    refine fm_iload_n X d_X8_stays_12 rfl hl1 ?_
    refine gm_callS X Y fm_Ts_good d_X8_stays_13 (g_isPlus hAd hZ) wl_X8_257 wm_X8_isPlus wy_X8_isPlus (by decide) (rest := []) rfl rfl hs (by simp [Value.category]) (fun r V24 hp => ?_)
    obtain ⟨rfl, x25, rfl, hzx25, hx25⟩ := hp
    show fm_W p l e { frames := 3, cells := 0, slots := 0, locals := 300 } s m args below meth c (MQ below (rv_Qc D fm_cl fm_tm ad cy fm_nt Z (fun r V1 => ∃ x : Int32, r = some (.int x) ∧ (V 80 33).toInt ≤ (V1 80 33).toInt ∧ (x.toInt ≠ 0 → (V1 80 35).toInt = 0 ∧ (V 80 33).toInt < (V1 80 33).toInt ∧ (((V1 80 41).toInt = 0 ∧ pz_I V0 V1 h S g 0) ∨ ((V1 80 41).toInt ≠ 0 ∧ pz_I V0 V1 h S g 1))) ∧ (x.toInt = 0 → pz_I V0 V1 h S g 1 ∧ ((V1 80 35).toInt = 0 → ¬ ar_ (tp_ V1))))) args s 0 0 (fm_A fm_tm ad)) D fm_cl fm_tm ad cy (fm_A fm_tm ad) V 16 ls [.int x25]
    refine fz_if_eq X 34 d_X8_stays_16 (by decide) (fun h26 => ?_) (fun h26 => ?_)
    · skip
      refine fm_aload_n X d_X8_stays_34 rfl hl0 ?_
      refine fz_iconst X d_X8_stays_35 (by decide) (fun v27 hv27 => ?_)
      refine gm_callV X Y fm_Ts_good d_X8_stays_36 (g_sums hAd hZ (V := V) (x1 := v27) hI hg (fun h0 => (hsn h0).1)) wl_X8_272 wm_X8_sums wy_X8_sums (by decide) ⟨rfl, rfl⟩ (rest := []) rfl rfl hs (by simp [Value.category]) (fun r V28 hp => ?_)
      obtain ⟨rfl, hI, hg, g1, g2, g2b, g3, g4⟩ := hp
      show fm_W p l e { frames := 3, cells := 0, slots := 0, locals := 300 } s m args below meth c (MQ below (rv_Qc D fm_cl fm_tm ad cy fm_nt Z (fun r V1 => ∃ x : Int32, r = some (.int x) ∧ (V 80 33).toInt ≤ (V1 80 33).toInt ∧ (x.toInt ≠ 0 → (V1 80 35).toInt = 0 ∧ (V 80 33).toInt < (V1 80 33).toInt ∧ (((V1 80 41).toInt = 0 ∧ pz_I V0 V1 h S g 0) ∨ ((V1 80 41).toInt ≠ 0 ∧ pz_I V0 V1 h S g 1))) ∧ (x.toInt = 0 → pz_I V0 V1 h S g 1 ∧ ((V1 80 35).toInt = 0 → ¬ ar_ (tp_ V1))))) args s 0 0 (fm_A fm_tm ad)) D fm_cl fm_tm ad cy (fm_A fm_tm ad) V28 39 ls []
      obtain ⟨q1, q2, q3, q4, q5, q6, q7⟩ := hI.B
      have q8 := hI.pl
      have q9 := hI.c0
      have q10 := hI.hk
      have q11 := hI.en
      have hrE : hr_ V28 = hr_ V := hr_same hI0 hI (by omega)
      refine fm_iload_n X d_X8_stays_39 rfl hl1 ?_
      refine fz_bipush X d_X8_stays_40 (by decide) (fun v30 hv30 => ?_)
      refine fz_icmp_eq X 47 d_X8_stays_42 (by decide) (fun h31 => ?_) (fun h31 => ?_)
      · skip
        refine fm_aload_n X d_X8_stays_47 rfl hl0 ?_
        refine gm_callV X Y fm_Ts_good d_X8_stays_48 (g_top hAd hZ (V := V28) (by omega) (by omega)) wl_X8_251 wm_X8_top wy_X8_top (by decide) ⟨rfl, rfl⟩ (rest := []) rfl rfl hs (by simp [Value.category]) (fun r V32 hp => ?_)
        obtain ⟨rfl, x33, rfl, hx33⟩ := hp
        show fm_W p l e { frames := 3, cells := 0, slots := 0, locals := 300 } s m args below meth c (MQ below (rv_Qc D fm_cl fm_tm ad cy fm_nt Z (fun r V1 => ∃ x : Int32, r = some (.int x) ∧ (V 80 33).toInt ≤ (V1 80 33).toInt ∧ (x.toInt ≠ 0 → (V1 80 35).toInt = 0 ∧ (V 80 33).toInt < (V1 80 33).toInt ∧ (((V1 80 41).toInt = 0 ∧ pz_I V0 V1 h S g 0) ∨ ((V1 80 41).toInt ≠ 0 ∧ pz_I V0 V1 h S g 1))) ∧ (x.toInt = 0 → pz_I V0 V1 h S g 1 ∧ ((V1 80 35).toInt = 0 → ¬ ar_ (tp_ V1))))) args s 0 0 (fm_A fm_tm ad)) D fm_cl fm_tm ad cy (fm_A fm_tm ad) V28 51 ls [.int x33]
        refine fz_bipush X d_X8_stays_51 (by decide) (fun v34 hv34 => ?_)
        refine fz_icmp_eq X 67 d_X8_stays_53 (by decide) (fun h35 => ?_) (fun h35 => ?_)
        · skip
          have hE : (V 80 33).toInt < (V 80 34).toInt := hr_pos (by omega)
          refine fm_aload_n X d_X8_stays_67 rfl hl0 ?_
          refine fm_dup X d_X8_stays_68 rfl ?_
          refine fz_getI X 80 d_X8_stays_69 lkX8_224 rfl rfl ?_
          refine fz_iconst X d_X8_stays_72 (by decide) (fun v36 hv36 => ?_)
          refine fz_isub X d_X8_stays_73 (by constructor <;> omega) (fun z37 hz37 => ?_)
          refine fz_put X 80 d_X8_stays_74 lkX8_224 wr_8_39 rfl rfl (by first | exact Or.inl rfl | (refine Or.inr ?_; constructor <;> omega)) (fun V38 hV38 => ?_)
          have tV38_33 : (V38 80 33).toInt = (V28 80 33).toInt := by rw [hV38, fm_up_ne (by decide)]
          have tV38_34 : (V38 80 34).toInt = (V28 80 34).toInt := by rw [hV38, fm_up_ne (by decide)]
          have tV38_35 : (V38 80 35).toInt = (V28 80 35).toInt := by rw [hV38, fm_up_ne (by decide)]
          have tV38_37 : (V38 80 37).toInt = (V28 80 37).toInt := by rw [hV38, fm_up_ne (by decide)]
          have tV38_38 : (V38 80 38).toInt = (V28 80 38).toInt := by rw [hV38, fm_up_ne (by decide)]
          have tV38_39 : (V38 80 39).toInt = (z37).toInt := by rw [hV38, fm_up_self]
          have tV38_40 : (V38 80 40).toInt = (V28 80 40).toInt := by rw [hV38, fm_up_ne (by decide)]
          have tV38_41 : (V38 80 41).toInt = (V28 80 41).toInt := by rw [hV38, fm_up_ne (by decide)]
          refine fm_aload_n X d_X8_stays_77 rfl hl0 ?_
          refine fm_dup X d_X8_stays_78 rfl ?_
          refine fz_getI X 80 d_X8_stays_79 lkX8_227 rfl rfl ?_
          refine fz_iconst X d_X8_stays_82 (by decide) (fun v39 hv39 => ?_)
          refine fa_isub X d_X8_stays_83 (fun z40 => ?_)
          refine fz_put X 80 d_X8_stays_84 lkX8_227 wr_8_38 rfl rfl (by first | exact Or.inl rfl | (refine Or.inr ?_; constructor <;> omega)) (fun V41 hV41 => ?_)
          have tV41_33 : (V41 80 33).toInt = (V38 80 33).toInt := by rw [hV41, fm_up_ne (by decide)]
          have tV41_34 : (V41 80 34).toInt = (V38 80 34).toInt := by rw [hV41, fm_up_ne (by decide)]
          have tV41_35 : (V41 80 35).toInt = (V38 80 35).toInt := by rw [hV41, fm_up_ne (by decide)]
          have tV41_37 : (V41 80 37).toInt = (V38 80 37).toInt := by rw [hV41, fm_up_ne (by decide)]
          have tV41_38 : (V41 80 38).toInt = (z40).toInt := by rw [hV41, fm_up_self]
          have tV41_39 : (V41 80 39).toInt = (V38 80 39).toInt := by rw [hV41, fm_up_ne (by decide)]
          have tV41_40 : (V41 80 40).toInt = (V38 80 40).toInt := by rw [hV41, fm_up_ne (by decide)]
          have tV41_41 : (V41 80 41).toInt = (V38 80 41).toInt := by rw [hV41, fm_up_ne (by decide)]
          refine fm_aload_n X d_X8_stays_87 rfl hl0 ?_
          refine fm_dup X d_X8_stays_88 rfl ?_
          refine fz_getI X 80 d_X8_stays_89 lkX8_208 rfl rfl ?_
          refine fz_iconst X d_X8_stays_92 (by decide) (fun v42 hv42 => ?_)
          refine fz_iadd X d_X8_stays_93 (by constructor <;> omega) (fun z43 hz43 => ?_)
          refine fz_put X 80 d_X8_stays_94 lkX8_208 wr_8_33 rfl rfl (by first | exact Or.inl rfl | (refine Or.inr ?_; constructor <;> omega)) (fun V44 hV44 => ?_)
          have tV44_33 : (V44 80 33).toInt = (z43).toInt := by rw [hV44, fm_up_self]
          have tV44_34 : (V44 80 34).toInt = (V41 80 34).toInt := by rw [hV44, fm_up_ne (by decide)]
          have tV44_35 : (V44 80 35).toInt = (V41 80 35).toInt := by rw [hV44, fm_up_ne (by decide)]
          have tV44_37 : (V44 80 37).toInt = (V41 80 37).toInt := by rw [hV44, fm_up_ne (by decide)]
          have tV44_38 : (V44 80 38).toInt = (V41 80 38).toInt := by rw [hV44, fm_up_ne (by decide)]
          have tV44_39 : (V44 80 39).toInt = (V41 80 39).toInt := by rw [hV44, fm_up_ne (by decide)]
          have tV44_40 : (V44 80 40).toInt = (V41 80 40).toInt := by rw [hV44, fm_up_ne (by decide)]
          have tV44_41 : (V44 80 41).toInt = (V41 80 41).toInt := by rw [hV44, fm_up_ne (by decide)]
          have hI : pz_I V0 V44 h S g 1 := by
            have hab := hI.above (P := fun x => x = 91) (fun h0 => (hsn h0).2) (by show tp_ _ = 91; omega) (by decide)
            rw [hV44, hV41, hV38]
            exact hI.close hg (by omega) (by omega) (by omega) hab (by rw [show tp_ _ = 91 by omega]; rfl)
          refine fm_aload_n X d_X8_stays_97 rfl hl0 ?_
          refine fz_iconst X d_X8_stays_98 (by decide) (fun v45 hv45 => ?_)
          refine fz_put X 80 d_X8_stays_99 lkX8_276 wr_8_41 rfl rfl (by first | exact Or.inl rfl | (refine Or.inr ?_; constructor <;> omega)) (fun V46 hV46 => ?_)
          have tV46_33 : (V46 80 33).toInt = (V44 80 33).toInt := by rw [hV46, fm_up_ne (by decide)]
          have tV46_34 : (V46 80 34).toInt = (V44 80 34).toInt := by rw [hV46, fm_up_ne (by decide)]
          have tV46_35 : (V46 80 35).toInt = (V44 80 35).toInt := by rw [hV46, fm_up_ne (by decide)]
          have tV46_37 : (V46 80 37).toInt = (V44 80 37).toInt := by rw [hV46, fm_up_ne (by decide)]
          have tV46_38 : (V46 80 38).toInt = (V44 80 38).toInt := by rw [hV46, fm_up_ne (by decide)]
          have tV46_39 : (V46 80 39).toInt = (V44 80 39).toInt := by rw [hV46, fm_up_ne (by decide)]
          have tV46_40 : (V46 80 40).toInt = (V44 80 40).toInt := by rw [hV46, fm_up_ne (by decide)]
          have tV46_41 : (V46 80 41).toInt = (v45).toInt := by rw [hV46, fm_up_self]
          have hI : pz_I V0 V46 h S g 1 := by rw [hV46]; exact hI.fld (Or.inr ⟨Or.inr rfl, by omega⟩)
          refine fz_iconst X d_X8_stays_102 (by decide) (fun v47 hv47 => ?_)
          refine gm_zret X Y hr hlk (by first | exact Or.inl (zi_inj hv47) | exact Or.inr (zi_inj hv47) | assumption) d_X8_stays_103 ⟨_, rfl, by omega, fun _ => ⟨by omega, by omega, Or.inr ⟨by omega, hI⟩⟩, fun q => by omega⟩
        · skip
          refine fm_aload_n X d_X8_stays_56 rfl hl0 ?_
          refine fz_iconst X d_X8_stays_57 (by decide) (fun v48 hv48 => ?_)
          refine fm_aload_n X d_X8_stays_58 rfl hl0 ?_
          refine fz_getI X 80 d_X8_stays_59 lkX8_208 rfl rfl ?_
          refine gm_callV X Y fm_Ts_good d_X8_stays_62 (g_wrongs hAd hZ (V := V28) (by omega) (by omega) (by omega)) wl_X8_230 wm_X8_wrongs wy_X8_wrongs (by decide) ⟨rfl, rfl⟩ (rest := []) rfl rfl hs (by simp [Value.category]) (fun r V49 hp => ?_)
          obtain ⟨rfl, yx50, hyx50, hV49⟩ := hp
          have tV49_33 : (V49 80 33).toInt = (V28 80 33).toInt := by rw [hV49, fm_up_ne (by decide)]
          have tV49_34 : (V49 80 34).toInt = (V28 80 34).toInt := by rw [hV49, fm_up_ne (by decide)]
          have tV49_35 : (V49 80 35).toInt = (yx50).toInt := by rw [hV49, fm_up_self]
          have tV49_37 : (V49 80 37).toInt = (V28 80 37).toInt := by rw [hV49, fm_up_ne (by decide)]
          have tV49_38 : (V49 80 38).toInt = (V28 80 38).toInt := by rw [hV49, fm_up_ne (by decide)]
          have tV49_39 : (V49 80 39).toInt = (V28 80 39).toInt := by rw [hV49, fm_up_ne (by decide)]
          have tV49_40 : (V49 80 40).toInt = (V28 80 40).toInt := by rw [hV49, fm_up_ne (by decide)]
          have tV49_41 : (V49 80 41).toInt = (V28 80 41).toInt := by rw [hV49, fm_up_ne (by decide)]
          show fm_W p l e { frames := 3, cells := 0, slots := 0, locals := 300 } s m args below meth c (MQ below (rv_Qc D fm_cl fm_tm ad cy fm_nt Z (fun r V1 => ∃ x : Int32, r = some (.int x) ∧ (V 80 33).toInt ≤ (V1 80 33).toInt ∧ (x.toInt ≠ 0 → (V1 80 35).toInt = 0 ∧ (V 80 33).toInt < (V1 80 33).toInt ∧ (((V1 80 41).toInt = 0 ∧ pz_I V0 V1 h S g 0) ∨ ((V1 80 41).toInt ≠ 0 ∧ pz_I V0 V1 h S g 1))) ∧ (x.toInt = 0 → pz_I V0 V1 h S g 1 ∧ ((V1 80 35).toInt = 0 → ¬ ar_ (tp_ V1))))) args s 0 0 (fm_A fm_tm ad)) D fm_cl fm_tm ad cy (fm_A fm_tm ad) V49 65 ls []
          have hI : pz_I V0 V49 h S g 1 := by rw [hV49]; exact hI.bad hyx50
          refine fz_iconst X d_X8_stays_65 (by decide) (fun v51 hv51 => ?_)
          refine gm_zret X Y hr hlk (by first | exact Or.inl (zi_inj hv51) | exact Or.inr (zi_inj hv51) | assumption) d_X8_stays_66 ⟨_, rfl, by omega, fun q => by omega, fun _ => ⟨hI, fun _ => by omega⟩⟩
      · skip
        refine fz_iconst X d_X8_stays_45 (by decide) (fun v52 hv52 => ?_)
        refine gm_zret X Y hr hlk (by first | exact Or.inl (zi_inj hv52) | exact Or.inr (zi_inj hv52) | assumption) d_X8_stays_46 ⟨_, rfl, by omega, fun q => by omega, fun _ => ⟨hI, fun _ => by unfold ar_; have := g4 (by omega); omega⟩⟩
    · skip
      refine fm_aload_n X d_X8_stays_19 rfl hl0 ?_
      refine fm_iload_n X d_X8_stays_20 rfl hl1 ?_
      refine gm_callS X Y fm_Ts_good d_X8_stays_21 (g_isPlus hAd hZ) wl_X8_257 wm_X8_isPlus wy_X8_isPlus (by decide) (rest := [.ref (ad 80)]) rfl rfl hs (by simp [Value.category]) (fun r V53 hp => ?_)
      obtain ⟨rfl, x54, rfl, hzx54, hx54⟩ := hp
      show fm_W p l e { frames := 3, cells := 0, slots := 0, locals := 300 } s m args below meth c (MQ below (rv_Qc D fm_cl fm_tm ad cy fm_nt Z (fun r V1 => ∃ x : Int32, r = some (.int x) ∧ (V 80 33).toInt ≤ (V1 80 33).toInt ∧ (x.toInt ≠ 0 → (V1 80 35).toInt = 0 ∧ (V 80 33).toInt < (V1 80 33).toInt ∧ (((V1 80 41).toInt = 0 ∧ pz_I V0 V1 h S g 0) ∨ ((V1 80 41).toInt ≠ 0 ∧ pz_I V0 V1 h S g 1))) ∧ (x.toInt = 0 → pz_I V0 V1 h S g 1 ∧ ((V1 80 35).toInt = 0 → ¬ ar_ (tp_ V1))))) args s 0 0 (fm_A fm_tm ad)) D fm_cl fm_tm ad cy (fm_A fm_tm ad) V 24 ls [.int x54, .ref (ad 80)]
      have hE : (V 80 33).toInt < (V 80 34).toInt := hr_pos (by omega)
      refine gm_callV X Y fm_Ts_good d_X8_stays_24 (g_sums hAd hZ (V := V) (x1 := x54) hI hg (fun h0 => (hsn h0).1)) wl_X8_272 wm_X8_sums wy_X8_sums (by decide) ⟨rfl, rfl⟩ (rest := []) rfl rfl hs (by simp [Value.category]) (fun r V55 hp => ?_)
      obtain ⟨rfl, hI, hg, g1, g2, g2b, g3, g4⟩ := hp
      show fm_W p l e { frames := 3, cells := 0, slots := 0, locals := 300 } s m args below meth c (MQ below (rv_Qc D fm_cl fm_tm ad cy fm_nt Z (fun r V1 => ∃ x : Int32, r = some (.int x) ∧ (V 80 33).toInt ≤ (V1 80 33).toInt ∧ (x.toInt ≠ 0 → (V1 80 35).toInt = 0 ∧ (V 80 33).toInt < (V1 80 33).toInt ∧ (((V1 80 41).toInt = 0 ∧ pz_I V0 V1 h S g 0) ∨ ((V1 80 41).toInt ≠ 0 ∧ pz_I V0 V1 h S g 1))) ∧ (x.toInt = 0 → pz_I V0 V1 h S g 1 ∧ ((V1 80 35).toInt = 0 → ¬ ar_ (tp_ V1))))) args s 0 0 (fm_A fm_tm ad)) D fm_cl fm_tm ad cy (fm_A fm_tm ad) V55 27 ls []
      obtain ⟨q1, q2, q3, q4, q5, q6, q7⟩ := hI.B
      have q8 := hI.pl
      have q9 := hI.c0
      have q10 := hI.hk
      have q11 := hI.en
      have hrE : hr_ V55 = hr_ V := hr_same hI0 hI (by omega)
      refine fm_aload_n X d_X8_stays_27 rfl hl0 ?_
      refine fm_iload_n X d_X8_stays_28 rfl hl1 ?_
      have hAr : ar_ (x12).toInt := by unfold ar_; omega
      refine gm_callV X Y fm_Ts_good d_X8_stays_29 (g_puts hAd hZ (V := V55) (by omega) (by omega)) wl_X8_238 wm_X8_puts wy_X8_puts (by decide) ⟨rfl, rfl⟩ (rest := []) rfl rfl hs (by simp [Value.category]) (fun r V57 hp => ?_)
      obtain ⟨rfl, yx58, zx58, hyx58, hzx58, hV57⟩ := hp
      have tV57_33 : (V57 80 33).toInt = (zx58).toInt := by rw [hV57, u_puts_f]; rfl
      have tV57_34 : (V57 80 34).toInt = (V55 80 34).toInt := by rw [hV57, u_puts_f]; rfl
      have tV57_35 : (V57 80 35).toInt = (V55 80 35).toInt := by rw [hV57, u_puts_f]; rfl
      have tV57_37 : (V57 80 37).toInt = (V55 80 37).toInt := by rw [hV57, u_puts_f]; rfl
      have tV57_38 : (V57 80 38).toInt = (V55 80 38).toInt := by rw [hV57, u_puts_f]; rfl
      have tV57_39 : (V57 80 39).toInt = (yx58).toInt := by rw [hV57, u_puts_f]; rfl
      have tV57_40 : (V57 80 40).toInt = (V55 80 40).toInt := by rw [hV57, u_puts_f]; rfl
      have tV57_41 : (V57 80 41).toInt = (V55 80 41).toInt := by rw [hV57, u_puts_f]; rfl
      show fm_W p l e { frames := 3, cells := 0, slots := 0, locals := 300 } s m args below meth c (MQ below (rv_Qc D fm_cl fm_tm ad cy fm_nt Z (fun r V1 => ∃ x : Int32, r = some (.int x) ∧ (V 80 33).toInt ≤ (V1 80 33).toInt ∧ (x.toInt ≠ 0 → (V1 80 35).toInt = 0 ∧ (V 80 33).toInt < (V1 80 33).toInt ∧ (((V1 80 41).toInt = 0 ∧ pz_I V0 V1 h S g 0) ∨ ((V1 80 41).toInt ≠ 0 ∧ pz_I V0 V1 h S g 1))) ∧ (x.toInt = 0 → pz_I V0 V1 h S g 1 ∧ ((V1 80 35).toInt = 0 → ¬ ar_ (tp_ V1))))) args s 0 0 (fm_A fm_tm ad)) D fm_cl fm_tm ad cy (fm_A fm_tm ad) V57 32 ls []
      have hI : pz_I V0 V57 h S g 0 := by rw [hV57]; exact hI.puts (by omega) hyx58 hzx58 (fun _ => hSa _ hAr) (by rw [bo_ar hAr]; rfl)
      refine fz_iconst X d_X8_stays_32 (by decide) (fun v59 hv59 => ?_)
      refine gm_zret X Y hr hlk (by first | exact Or.inl (zi_inj hv59) | exact Or.inr (zi_inj hv59) | assumption) d_X8_stays_33 ⟨_, rfl, by omega, fun _ => ⟨by omega, by omega, Or.inl ⟨by omega, hI⟩⟩, fun q => by omega⟩
theorem g_value {l : Launch} {D : va_G} {ad : Nat → Nat} {cy : Nat → ClassId} {Z : State → Heap → Prop} (hAd : fm_Ad fm_tm ad) (hZ : fm_Zk (fm_A fm_tm ad) Z) {V : fm_V} {h g : Nat} (hT : fm_Tm fm_tm V) (hB : pz_B V) (hh : (h : Int) = (V 80 39).toInt) (hg : (V 80 35).toInt = 0) (hd : (g : Int) ≤ (V 80 37).toInt ∧ dp_ (V 105) g ((V 80 37).toInt.toNat - g) = some (cn_ (V 107) (V 80 39).toInt.toNat + 0)) (hsn : 0 < h → ¬ ar_ (V 107 (h - 1)).toInt ∧ (V 107 (h - 1)).toInt ≠ 91) : gm_M l D fm_cl fm_tm ad cy fm_nt Z yX8_value (.code yX8_value prog_10_method_37_code 2 none :: fm_Ts) { frames := 4, cells := 0, slots := 0, locals := 400 } V [.ref (ad 80)] (fun r V1 => r = none ∧ pz_I V V1 h vS_ g 1 ∧ ((V1 80 35).toInt = 0 → (V1 80 39).toInt = (V 80 39).toInt)) := by
  refine gm_at hAd hZ (by decide +kernel) (by simp [lg_sl, Value.category]) ?_
  intro p e s m args below meth c ls hr hlk X Y hl
  have hl0 : ls[0]? = some (.val (.ref (ad 80))) := hl.2.2 (0, .ref (ad 80)) (by simp [lv_args, Value.category])
  have hs := hl.1
  have hw := hl.2.1
  clear hl
  have tail : ∀ (W : fm_V) (x1 : Int32) (ls : Array Slot), pz_I V W h vS_ g 1 → ((W 80 35).toInt = 0 → ¬ ar_ (tp_ W)) → ls.size = 2 → lv_wf ls → ls[0]? = some (.val (.ref (ad 80))) → ls[1]? = some (.val (.int x1)) → fm_W p l e { frames := 4, cells := 0, slots := 0, locals := 400 } s m args below meth c (MQ below (rv_Qc D fm_cl fm_tm ad cy fm_nt Z (fun r V1 => r = none ∧ pz_I V V1 h vS_ g 1 ∧ ((V1 80 35).toInt = 0 → (V1 80 39).toInt = (V 80 39).toInt))) args s 0 0 (fm_A fm_tm ad)) D fm_cl fm_tm ad cy (fm_A fm_tm ad) W 57 ls [] := by
    intro W x1 ls hI hA hs hw hl0 hl1
    obtain ⟨q1, q2, q3, q4, q5, q6, q7⟩ := hI.B
    have q8 := hI.pl
    have q9 := hI.c0
    have q10 := hI.hk
    have q11 := hI.en
    refine fm_aload_n X d_X8_value_57 rfl hl0 ?_
    refine gm_callV X Y fm_Ts_good d_X8_value_58 (g_isGood hAd hZ (V := W)) wl_X8_217 wm_X8_isGood wy_X8_isGood (by decide) ⟨rfl, rfl⟩ (rest := []) rfl rfl hs (by simp [Value.category]) (fun r V11 hp => ?_)
    obtain ⟨rfl, x12, rfl, hzx12, hx12⟩ := hp
    show fm_W p l e { frames := 4, cells := 0, slots := 0, locals := 400 } s m args below meth c (MQ below (rv_Qc D fm_cl fm_tm ad cy fm_nt Z (fun r V1 => r = none ∧ pz_I V V1 h vS_ g 1 ∧ ((V1 80 35).toInt = 0 → (V1 80 39).toInt = (V 80 39).toInt))) args s 0 0 (fm_A fm_tm ad)) D fm_cl fm_tm ad cy (fm_A fm_tm ad) W 61 ls [.int x12]
    refine fz_if_eq X 82 d_X8_value_61 (by decide) (fun h13 => ?_) (fun h13 => ?_)
    · skip
      refine gm_vret X Y hr hlk d_X8_value_82 ⟨rfl, hI, fun q => ?_⟩
      by_cases e : (W 80 39).toInt = (V 80 39).toInt
      · exact e
      · rcases hI.topS q (by omega) with z | z
        · exact absurd z (hA q)
        · omega
    · skip
      refine fm_aload_n X d_X8_value_64 rfl hl0 ?_
      refine gm_callV X Y fm_Ts_good d_X8_value_65 (g_top hAd hZ (V := W) (by omega) (by omega)) wl_X8_251 wm_X8_top wy_X8_top (by decide) ⟨rfl, rfl⟩ (rest := []) rfl rfl hs (by simp [Value.category]) (fun r V14 hp => ?_)
      obtain ⟨rfl, x15, rfl, hx15⟩ := hp
      show fm_W p l e { frames := 4, cells := 0, slots := 0, locals := 400 } s m args below meth c (MQ below (rv_Qc D fm_cl fm_tm ad cy fm_nt Z (fun r V1 => r = none ∧ pz_I V V1 h vS_ g 1 ∧ ((V1 80 35).toInt = 0 → (V1 80 39).toInt = (V 80 39).toInt))) args s 0 0 (fm_A fm_tm ad)) D fm_cl fm_tm ad cy (fm_A fm_tm ad) W 68 ls [.int x15]
      refine fz_bipush X d_X8_value_68 (by decide) (fun v16 hv16 => ?_)
      refine fz_icmp_ne X 82 d_X8_value_70 (by decide) (fun h17 => ?_) (fun h17 => ?_)
      · skip
        refine gm_vret X Y hr hlk d_X8_value_82 ⟨rfl, hI, fun q => ?_⟩
        by_cases e : (W 80 39).toInt = (V 80 39).toInt
        · exact e
        · rcases hI.topS q (by omega) with z | z
          · exact absurd z (hA q)
          · omega
      · skip
        refine fm_aload_n X d_X8_value_73 rfl hl0 ?_
        refine fz_iconst X d_X8_value_74 (by decide) (fun v18 hv18 => ?_)
        refine fm_aload_n X d_X8_value_75 rfl hl0 ?_
        refine fz_getI X 80 d_X8_value_76 lkX8_208 rfl rfl ?_
        refine gm_callV X Y fm_Ts_good d_X8_value_79 (g_wrongs hAd hZ (V := W) (by omega) (by omega) (by omega)) wl_X8_230 wm_X8_wrongs wy_X8_wrongs (by decide) ⟨rfl, rfl⟩ (rest := []) rfl rfl hs (by simp [Value.category]) (fun r V19 hp => ?_)
        obtain ⟨rfl, yx20, hyx20, hV19⟩ := hp
        have tV19_33 : (V19 80 33).toInt = (W 80 33).toInt := by rw [hV19, fm_up_ne (by decide)]
        have tV19_34 : (V19 80 34).toInt = (W 80 34).toInt := by rw [hV19, fm_up_ne (by decide)]
        have tV19_35 : (V19 80 35).toInt = (yx20).toInt := by rw [hV19, fm_up_self]
        have tV19_37 : (V19 80 37).toInt = (W 80 37).toInt := by rw [hV19, fm_up_ne (by decide)]
        have tV19_38 : (V19 80 38).toInt = (W 80 38).toInt := by rw [hV19, fm_up_ne (by decide)]
        have tV19_39 : (V19 80 39).toInt = (W 80 39).toInt := by rw [hV19, fm_up_ne (by decide)]
        have tV19_40 : (V19 80 40).toInt = (W 80 40).toInt := by rw [hV19, fm_up_ne (by decide)]
        have tV19_41 : (V19 80 41).toInt = (W 80 41).toInt := by rw [hV19, fm_up_ne (by decide)]
        show fm_W p l e { frames := 4, cells := 0, slots := 0, locals := 400 } s m args below meth c (MQ below (rv_Qc D fm_cl fm_tm ad cy fm_nt Z (fun r V1 => r = none ∧ pz_I V V1 h vS_ g 1 ∧ ((V1 80 35).toInt = 0 → (V1 80 39).toInt = (V 80 39).toInt))) args s 0 0 (fm_A fm_tm ad)) D fm_cl fm_tm ad cy (fm_A fm_tm ad) V19 82 ls []
        have hI : pz_I V V19 h vS_ g 1 := by rw [hV19]; exact hI.bad hyx20
        refine gm_vret X Y hr hlk d_X8_value_82 ⟨rfl, hI, fun q => by omega⟩
  have exit : ∀ (W : fm_V) (x1 : Int32) (ls : Array Slot), x1.toInt = 0 → pz_I V W h vS_ g 1 → ((W 80 35).toInt = 0 → ¬ ar_ (tp_ W)) → ls.size = 2 → lv_wf ls → ls[0]? = some (.val (.ref (ad 80))) → ls[1]? = some (.val (.int x1)) → fm_W p l e { frames := 4, cells := 0, slots := 0, locals := 400 } s m args below meth c (MQ below (rv_Qc D fm_cl fm_tm ad cy fm_nt Z (fun r V1 => r = none ∧ pz_I V V1 h vS_ g 1 ∧ ((V1 80 35).toInt = 0 → (V1 80 39).toInt = (V 80 39).toInt))) args s 0 0 (fm_A fm_tm ad)) D fm_cl fm_tm ad cy (fm_A fm_tm ad) W 7 ls [] := by
    intro W x1 ls hx hI hA hs hw hl0 hl1
    refine fm_iload_n X d_X8_value_7 rfl hl1 ?_
    refine fz_if_eq X 57 d_X8_value_8 (by decide) (fun _ => tail W x1 ls hI hA hs hw hl0 hl1) (fun q => absurd hx q)
  have loop : ∀ (N : Nat), ∀ (W : fm_V) (x1 : Int32) (ls : Array Slot), ((V 80 34).toInt - (W 80 33).toInt).toNat < N → x1.toInt ≠ 0 → (W 80 35).toInt = 0 → (((W 80 41).toInt = 0 ∧ pz_I V W h vS_ g 0) ∨ ((W 80 41).toInt ≠ 0 ∧ pz_I V W h vS_ g 1)) → ls.size = 2 → lv_wf ls → ls[0]? = some (.val (.ref (ad 80))) → ls[1]? = some (.val (.int x1)) → fm_W p l e { frames := 4, cells := 0, slots := 0, locals := 400 } s m args below meth c (MQ below (rv_Qc D fm_cl fm_tm ad cy fm_nt Z (fun r V1 => r = none ∧ pz_I V V1 h vS_ g 1 ∧ ((V1 80 35).toInt = 0 → (V1 80 39).toInt = (V 80 39).toInt))) args s 0 0 (fm_A fm_tm ad)) D fm_cl fm_tm ad cy (fm_A fm_tm ad) W 7 ls [] := by
    intro N
    induction N with
    | zero => intro W x1 ls h; omega
    | succ N ih =>
      intro W x1 ls hN hx hg hJ hs hw hl0 hl1
      have mid : ∀ (U : fm_V) (x1 : Int32) (ls : Array Slot), pz_I V U h vS_ g 1 → (W 80 33).toInt ≤ (U 80 33).toInt → ls.size = 2 → lv_wf ls → ls[0]? = some (.val (.ref (ad 80))) → ls[1]? = some (.val (.int x1)) → fm_W p l e { frames := 4, cells := 0, slots := 0, locals := 400 } s m args below meth c (MQ below (rv_Qc D fm_cl fm_tm ad cy fm_nt Z (fun r V1 => r = none ∧ pz_I V V1 h vS_ g 1 ∧ ((V1 80 35).toInt = 0 → (V1 80 39).toInt = (V 80 39).toInt))) args s 0 0 (fm_A fm_tm ad)) D fm_cl fm_tm ad cy (fm_A fm_tm ad) U 29 ls [] := by
        intro U x1 ls hI f1 hs hw hl0 hl1
        obtain ⟨q1, q2, q3, q4, q5, q6, q7⟩ := hI.B
        have q8 := hI.pl
        have q9 := hI.c0
        have q10 := hI.hk
        have q11 := hI.en
        refine fm_aload_n X d_X8_value_29 rfl hl0 ?_
        refine fz_iconst X d_X8_value_30 (by decide) (fun v21 hv21 => ?_)
        refine fz_put X 80 d_X8_value_31 lkX8_276 wr_8_41 rfl rfl (by first | exact Or.inl rfl | (refine Or.inr ?_; constructor <;> omega)) (fun V22 hV22 => ?_)
        have tV22_33 : (V22 80 33).toInt = (U 80 33).toInt := by rw [hV22, fm_up_ne (by decide)]
        have tV22_34 : (V22 80 34).toInt = (U 80 34).toInt := by rw [hV22, fm_up_ne (by decide)]
        have tV22_35 : (V22 80 35).toInt = (U 80 35).toInt := by rw [hV22, fm_up_ne (by decide)]
        have tV22_37 : (V22 80 37).toInt = (U 80 37).toInt := by rw [hV22, fm_up_ne (by decide)]
        have tV22_38 : (V22 80 38).toInt = (U 80 38).toInt := by rw [hV22, fm_up_ne (by decide)]
        have tV22_39 : (V22 80 39).toInt = (U 80 39).toInt := by rw [hV22, fm_up_ne (by decide)]
        have tV22_40 : (V22 80 40).toInt = (U 80 40).toInt := by rw [hV22, fm_up_ne (by decide)]
        have tV22_41 : (V22 80 41).toInt = (v21).toInt := by rw [hV22, fm_up_self]
        have hI : pz_I V V22 h vS_ g 1 := by rw [hV22]; exact hI.fld (Or.inr ⟨Or.inr rfl, by omega⟩)
        obtain ⟨q1, q2, q3, q4, q5, q6, q7⟩ := hI.B
        have q8 := hI.pl
        have q9 := hI.c0
        have q10 := hI.hk
        have q11 := hI.en
        refine fm_aload_n X d_X8_value_34 rfl hl0 ?_
        refine gm_callV X Y fm_Ts_good d_X8_value_35 (g_isGood hAd hZ (V := V22)) wl_X8_217 wm_X8_isGood wy_X8_isGood (by decide) ⟨rfl, rfl⟩ (rest := []) rfl rfl hs (by simp [Value.category]) (fun r V23 hp => ?_)
        obtain ⟨rfl, x24, rfl, hzx24, hx24⟩ := hp
        show fm_W p l e { frames := 4, cells := 0, slots := 0, locals := 400 } s m args below meth c (MQ below (rv_Qc D fm_cl fm_tm ad cy fm_nt Z (fun r V1 => r = none ∧ pz_I V V1 h vS_ g 1 ∧ ((V1 80 35).toInt = 0 → (V1 80 39).toInt = (V 80 39).toInt))) args s 0 0 (fm_A fm_tm ad)) D fm_cl fm_tm ad cy (fm_A fm_tm ad) V22 38 ls [.int x24]
        refine fz_if_eq X 52 d_X8_value_38 (by decide) (fun h25 => ?_) (fun h25 => ?_)
        · skip
          refine fz_iconst X d_X8_value_52 (by decide) (fun v26 hv26 => ?_)
          refine fm_istore_n X d_X8_value_53 hs hw (by decide) (fun ls hst => ?_)
          have hl0 := hst.2.2.2.1 0 _ (by decide) hl0 rfl
          have hl1 := hst.2.2.1
          have hs := hst.1.trans hs
          have hw := hst.2.1
          clear hst
          refine fz_goto X 7 d_X8_value_54 (by decide) ?_
          exact exit _ _ ls hv26 hI (fun q => by omega) hs hw hl0 hl1
        · skip
          refine fm_aload_n X d_X8_value_41 rfl hl0 ?_
          refine gm_callV X Y fm_Ts_good d_X8_value_42 (g_stays hAd hZ (V := V22) hI (by omega) hsn (fun _ z => Or.inl z) (by omega)) wl_X8_283 wm_X8_stays wy_X8_stays (by decide) ⟨rfl, rfl⟩ (rest := []) rfl rfl hs (by simp [Value.category]) (fun r V28 hp => ?_)
          obtain ⟨x29, rfl, k1, k2, k3⟩ := hp
          show fm_W p l e { frames := 4, cells := 0, slots := 0, locals := 400 } s m args below meth c (MQ below (rv_Qc D fm_cl fm_tm ad cy fm_nt Z (fun r V1 => r = none ∧ pz_I V V1 h vS_ g 1 ∧ ((V1 80 35).toInt = 0 → (V1 80 39).toInt = (V 80 39).toInt))) args s 0 0 (fm_A fm_tm ad)) D fm_cl fm_tm ad cy (fm_A fm_tm ad) V28 45 ls [.int x29]
          refine fz_if_eq X 52 d_X8_value_45 (by decide) (fun h30 => ?_) (fun h30 => ?_)
          · skip
            refine fz_iconst X d_X8_value_52 (by decide) (fun v31 hv31 => ?_)
            refine fm_istore_n X d_X8_value_53 hs hw (by decide) (fun ls hst => ?_)
            have hl0 := hst.2.2.2.1 0 _ (by decide) hl0 rfl
            have hl1 := hst.2.2.1
            have hs := hst.1.trans hs
            have hw := hst.2.1
            clear hst
            refine fz_goto X 7 d_X8_value_54 (by decide) ?_
            exact exit _ _ ls hv31 (k3 (by omega)).1 (k3 (by omega)).2 hs hw hl0 hl1
          · skip
            refine fz_iconst X d_X8_value_48 (by decide) (fun v33 hv33 => ?_)
            refine fz_goto X 53 d_X8_value_49 (by decide) ?_
            refine fm_istore_n X d_X8_value_53 hs hw (by decide) (fun ls hst => ?_)
            have hl0 := hst.2.2.2.1 0 _ (by decide) hl0 rfl
            have hl1 := hst.2.2.1
            have hs := hst.1.trans hs
            have hw := hst.2.1
            clear hst
            refine fz_goto X 7 d_X8_value_54 (by decide) ?_
            obtain ⟨m1, m2, m3⟩ := k2 (by omega)
            have hen : (V28 80 34).toInt = (V 80 34).toInt := by rcases m3 with z | z <;> exact z.2.en
            have hen2 : (V28 80 33).toInt ≤ (V28 80 34).toInt := by rcases m3 with z | z <;> exact z.2.B.2.1
            exact ih _ _ ls (by omega) (by omega) m1 m3 hs hw hl0 hl1
      rcases hJ with ⟨h41, hI⟩ | ⟨h41, hI⟩
      · skip
        obtain ⟨q1, q2, q3, q4, q5, q6, q7⟩ := hI.B
        have q8 := hI.pl
        have q9 := hI.c0
        have q10 := hI.hk
        have q11 := hI.en
        refine fm_iload_n X d_X8_value_7 rfl hl1 ?_
        refine fz_if_eq X 57 d_X8_value_8 (by decide) (fun h35 => ?_) (fun h35 => ?_)
        · skip
          omega
        · skip
          refine fm_aload_n X d_X8_value_11 rfl hl0 ?_
          refine gm_callV X Y fm_Ts_good d_X8_value_12 (g_isGood hAd hZ (V := W)) wl_X8_217 wm_X8_isGood wy_X8_isGood (by decide) ⟨rfl, rfl⟩ (rest := []) rfl rfl hs (by simp [Value.category]) (fun r V36 hp => ?_)
          obtain ⟨rfl, x37, rfl, hzx37, hx37⟩ := hp
          show fm_W p l e { frames := 4, cells := 0, slots := 0, locals := 400 } s m args below meth c (MQ below (rv_Qc D fm_cl fm_tm ad cy fm_nt Z (fun r V1 => r = none ∧ pz_I V V1 h vS_ g 1 ∧ ((V1 80 35).toInt = 0 → (V1 80 39).toInt = (V 80 39).toInt))) args s 0 0 (fm_A fm_tm ad)) D fm_cl fm_tm ad cy (fm_A fm_tm ad) W 15 ls [.int x37]
          refine fz_if_eq X 57 d_X8_value_15 (by decide) (fun h38 => ?_) (fun h38 => ?_)
          · skip
            omega
          · skip
            refine fm_aload_n X d_X8_value_18 rfl hl0 ?_
            refine fz_getI X 80 d_X8_value_19 lkX8_276 rfl rfl ?_
            refine fz_if_ne X 29 d_X8_value_22 (by decide) (fun h39 => ?_) (fun h39 => ?_)
            · skip
              omega
            · skip
              refine fm_aload_n X d_X8_value_25 rfl hl0 ?_
              refine gm_callV X Y fm_Ts_good d_X8_value_26 (g_factor hAd hZ (V := W) hI (by omega) (Or.inr rfl)) wl_X8_280 wm_X8_factor wy_X8_factor (by decide) ⟨rfl, rfl⟩ (rest := []) rfl rfl hs (by simp [Value.category]) (fun r V40 hp => ?_)
              obtain ⟨rfl, hI, k1⟩ := hp
              show fm_W p l e { frames := 4, cells := 0, slots := 0, locals := 400 } s m args below meth c (MQ below (rv_Qc D fm_cl fm_tm ad cy fm_nt Z (fun r V1 => r = none ∧ pz_I V V1 h vS_ g 1 ∧ ((V1 80 35).toInt = 0 → (V1 80 39).toInt = (V 80 39).toInt))) args s 0 0 (fm_A fm_tm ad)) D fm_cl fm_tm ad cy (fm_A fm_tm ad) V40 29 ls []
              exact mid _ _ ls hI (by omega) hs hw hl0 hl1
      · skip
        obtain ⟨q1, q2, q3, q4, q5, q6, q7⟩ := hI.B
        have q8 := hI.pl
        have q9 := hI.c0
        have q10 := hI.hk
        have q11 := hI.en
        refine fm_iload_n X d_X8_value_7 rfl hl1 ?_
        refine fz_if_eq X 57 d_X8_value_8 (by decide) (fun h42 => ?_) (fun h42 => ?_)
        · skip
          omega
        · skip
          refine fm_aload_n X d_X8_value_11 rfl hl0 ?_
          refine gm_callV X Y fm_Ts_good d_X8_value_12 (g_isGood hAd hZ (V := W)) wl_X8_217 wm_X8_isGood wy_X8_isGood (by decide) ⟨rfl, rfl⟩ (rest := []) rfl rfl hs (by simp [Value.category]) (fun r V43 hp => ?_)
          obtain ⟨rfl, x44, rfl, hzx44, hx44⟩ := hp
          show fm_W p l e { frames := 4, cells := 0, slots := 0, locals := 400 } s m args below meth c (MQ below (rv_Qc D fm_cl fm_tm ad cy fm_nt Z (fun r V1 => r = none ∧ pz_I V V1 h vS_ g 1 ∧ ((V1 80 35).toInt = 0 → (V1 80 39).toInt = (V 80 39).toInt))) args s 0 0 (fm_A fm_tm ad)) D fm_cl fm_tm ad cy (fm_A fm_tm ad) W 15 ls [.int x44]
          refine fz_if_eq X 57 d_X8_value_15 (by decide) (fun h45 => ?_) (fun h45 => ?_)
          · skip
            omega
          · skip
            refine fm_aload_n X d_X8_value_18 rfl hl0 ?_
            refine fz_getI X 80 d_X8_value_19 lkX8_276 rfl rfl ?_
            refine fz_if_ne X 29 d_X8_value_22 (by decide) (fun h46 => ?_) (fun h46 => ?_)
            · skip
              exact mid _ _ ls hI (by omega) hs hw hl0 hl1
            · skip
              refine fm_aload_n X d_X8_value_25 rfl hl0 ?_
              omega
  refine fz_iconst X d_X8_value_0 (by decide) (fun v47 hv47 => ?_)
  refine fm_istore_n X d_X8_value_1 hs hw (by decide) (fun ls hst => ?_)
  have hl0 := hst.2.2.2.1 0 _ (by decide) hl0 rfl
  have hl1 := hst.2.2.1
  have hs := hst.1.trans hs
  have hw := hst.2.1
  clear hst
  refine fm_aload_n X d_X8_value_2 rfl hl0 ?_
  refine fz_iconst X d_X8_value_3 (by decide) (fun v49 hv49 => ?_)
  refine fz_put X 80 d_X8_value_4 lkX8_276 wr_8_41 rfl rfl (by first | exact Or.inl rfl | (refine Or.inr ?_; constructor <;> omega)) (fun V50 hV50 => ?_)
  have tV50_33 : (V50 80 33).toInt = (V 80 33).toInt := by rw [hV50, fm_up_ne (by decide)]
  have tV50_34 : (V50 80 34).toInt = (V 80 34).toInt := by rw [hV50, fm_up_ne (by decide)]
  have tV50_35 : (V50 80 35).toInt = (V 80 35).toInt := by rw [hV50, fm_up_ne (by decide)]
  have tV50_37 : (V50 80 37).toInt = (V 80 37).toInt := by rw [hV50, fm_up_ne (by decide)]
  have tV50_38 : (V50 80 38).toInt = (V 80 38).toInt := by rw [hV50, fm_up_ne (by decide)]
  have tV50_39 : (V50 80 39).toInt = (V 80 39).toInt := by rw [hV50, fm_up_ne (by decide)]
  have tV50_40 : (V50 80 40).toInt = (V 80 40).toInt := by rw [hV50, fm_up_ne (by decide)]
  have tV50_41 : (V50 80 41).toInt = (v49).toInt := by rw [hV50, fm_up_self]
  have hI : pz_I V V50 h vS_ g 0 := by rw [hV50]; exact (pz_I.refl hT hB hh (fun _ => hd)).fld (Or.inr ⟨Or.inr rfl, by omega⟩)
  have e35 : (V50 80 35).toInt = (V 80 35).toInt := by rw [hV50, fm_up_ne (by decide)]
  exact loop _ _ _ ls (Nat.lt_succ_self _) (by omega) (by omega) (Or.inl ⟨by omega, hI⟩) hs hw hl0 hl1
