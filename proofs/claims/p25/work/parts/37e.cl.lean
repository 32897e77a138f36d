/-! the reader: clauses -/
theorem g_clause {l : Launch} {D : va_G} {ad : Nat → Nat} {cy : Nat → ClassId} {Z : State → Heap → Prop} (hAd : fm_Ad fm_tm ad) (hZ : fm_Zk (fm_A fm_tm ad) Z) {V : fm_V}  (hT : fm_Tm fm_tm V) (hC : pz_C V) (hg : (V 80 35).toInt = 0) (hw0 : lw_ V) : gm_M l D fm_cl fm_tm ad cy fm_nt Z yX8_clause (.code yX8_clause prog_10_method_41_code 2 none :: fm_Ts) { frames := 7, cells := 0, slots := 0, locals := 700 } V [.ref (ad 80)] (fun r V1 => r = none ∧ pz_F pz_L V V1 ∧ pz_C V1 ∧ (V 80 33).toInt ≤ (V1 80 33).toInt ∧ ((V1 80 35).toInt = 0 → lw_ V1)) := by
  refine gm_at hAd hZ (by decide +kernel) (by simp [lg_sl, Value.category]) ?_
  intro p e s m args below meth c ls hr hlk X Y hl
  have hl0 : ls[0]? = some (.val (.ref (ad 80))) := hl.2.2 (0, .ref (ad 80)) (by simp [lv_args, Value.category])
  have hs := hl.1
  have hw := hl.2.1
  clear hl
  obtain ⟨c1, c2, c3, c4, c5, c6, c7, c8⟩ := id hC
  have hF : pz_F pz_L V V := pz_Fr hT
  have mid : ∀ (x1 : Int32) (ls : Array Slot), x1.toInt = hr_ V → hr_ V ≠ 0 → ls.size = 2 → lv_wf ls → ls[0]? = some (.val (.ref (ad 80))) → ls[1]? = some (.val (.int x1)) → fm_W p l e { frames := 7, cells := 0, slots := 0, locals := 700 } s m args below meth c (MQ below (rv_Qc D fm_cl fm_tm ad cy fm_nt Z (fun r V1 => r = none ∧ pz_F pz_L V V1 ∧ pz_C V1 ∧ (V 80 33).toInt ≤ (V1 80 33).toInt ∧ ((V1 80 35).toInt = 0 → lw_ V1))) args s 0 0 (fm_A fm_tm ad)) D fm_cl fm_tm ad cy (fm_A fm_tm ad) V 41 ls [] := by
    intro x1 ls hx1 hnz hs hw hl0 hl1
    have hE := hr_pos hnz
    refine fm_aload_n X d_X8_clause_41 rfl hl0 ?_
    refine fz_getI X 80 d_X8_clause_42 lkX8_307 rfl rfl ?_
    refine fz_bipush X d_X8_clause_45 (by decide) (fun v11 hv11 => ?_)
    refine fz_icmp_ne X 59 d_X8_clause_47 (by decide) (fun h12 => ?_) (fun h12 => ?_)
    · skip
      refine fm_aload_n X d_X8_clause_59 rfl hl0 ?_
      refine gm_callV X Y fm_Ts_good d_X8_clause_60 (g_isGood hAd hZ (V := V)) wl_X8_217 wm_X8_isGood wy_X8_isGood (by decide) ⟨rfl, rfl⟩ (rest := []) rfl rfl hs (by simp [Value.category]) (fun r V13 hp => ?_)
      obtain ⟨rfl, x14, rfl, hzx14, hx14⟩ := hp
      show fm_W p l e { frames := 7, cells := 0, slots := 0, locals := 700 } s m args below meth c (MQ below (rv_Qc D fm_cl fm_tm ad cy fm_nt Z (fun r V1 => r = none ∧ pz_F pz_L V V1 ∧ pz_C V1 ∧ (V 80 33).toInt ≤ (V1 80 33).toInt ∧ ((V1 80 35).toInt = 0 → lw_ V1))) args s 0 0 (fm_A fm_tm ad)) D fm_cl fm_tm ad cy (fm_A fm_tm ad) V 63 ls [.int x14]
      refine fz_if_ne X 67 d_X8_clause_63 (by decide) (fun h15 => ?_) (fun h15 => ?_)
      · skip
        refine fm_aload_n X d_X8_clause_67 rfl hl0 ?_
        refine fz_getR X 80 d_X8_clause_68 lkX8_76 rfl rfl ?_
        refine fm_aload_n X d_X8_clause_71 rfl hl0 ?_
        refine fz_getI X 80 d_X8_clause_72 lkX8_307 rfl rfl ?_
        refine fm_iload_n X d_X8_clause_75 rfl hl1 ?_
        refine fz_iastore X 101 d_X8_clause_76 rfl (by constructor <;> omega) (fun V16 hV16 => ?_)
        have tV16_33 : (V16 80 33).toInt = (V 80 33).toInt := by rw [hV16, fm_up_ne (fun q => absurd q.1 (by decide))]
        have tV16_34 : (V16 80 34).toInt = (V 80 34).toInt := by rw [hV16, fm_up_ne (fun q => absurd q.1 (by decide))]
        have tV16_35 : (V16 80 35).toInt = (V 80 35).toInt := by rw [hV16, fm_up_ne (fun q => absurd q.1 (by decide))]
        have tV16_36 : (V16 80 36).toInt = (V 80 36).toInt := by rw [hV16, fm_up_ne (fun q => absurd q.1 (by decide))]
        have tV16_37 : (V16 80 37).toInt = (V 80 37).toInt := by rw [hV16, fm_up_ne (fun q => absurd q.1 (by decide))]
        have tV16_38 : (V16 80 38).toInt = (V 80 38).toInt := by rw [hV16, fm_up_ne (fun q => absurd q.1 (by decide))]
        have tV16_39 : (V16 80 39).toInt = (V 80 39).toInt := by rw [hV16, fm_up_ne (fun q => absurd q.1 (by decide))]
        have tV16_40 : (V16 80 40).toInt = (V 80 40).toInt := by rw [hV16, fm_up_ne (fun q => absurd q.1 (by decide))]
        have tV16_41 : (V16 80 41).toInt = (V 80 41).toInt := by rw [hV16, fm_up_ne (fun q => absurd q.1 (by decide))]
        have hF := pz_Fa hF hV16 (i := 101) rfl (zi_rng _) (by simp [rv_in, pz_L])
        refine fm_aload_n X d_X8_clause_77 rfl hl0 ?_
        refine fz_getR X 80 d_X8_clause_78 lkX8_79 rfl rfl ?_
        refine fm_aload_n X d_X8_clause_81 rfl hl0 ?_
        refine fz_getI X 80 d_X8_clause_82 lkX8_307 rfl rfl ?_
        refine fm_aload_n X d_X8_clause_85 rfl hl0 ?_
        refine fz_getI X 80 d_X8_clause_86 lkX8_221 rfl rfl ?_
        refine fz_iastore X 102 d_X8_clause_89 rfl (by constructor <;> omega) (fun V17 hV17 => ?_)
        have tV17_33 : (V17 80 33).toInt = (V16 80 33).toInt := by rw [hV17, fm_up_ne (fun q => absurd q.1 (by decide))]
        have tV17_34 : (V17 80 34).toInt = (V16 80 34).toInt := by rw [hV17, fm_up_ne (fun q => absurd q.1 (by decide))]
        have tV17_35 : (V17 80 35).toInt = (V16 80 35).toInt := by rw [hV17, fm_up_ne (fun q => absurd q.1 (by decide))]
        have tV17_36 : (V17 80 36).toInt = (V16 80 36).toInt := by rw [hV17, fm_up_ne (fun q => absurd q.1 (by decide))]
        have tV17_37 : (V17 80 37).toInt = (V16 80 37).toInt := by rw [hV17, fm_up_ne (fun q => absurd q.1 (by decide))]
        have tV17_38 : (V17 80 38).toInt = (V16 80 38).toInt := by rw [hV17, fm_up_ne (fun q => absurd q.1 (by decide))]
        have tV17_39 : (V17 80 39).toInt = (V16 80 39).toInt := by rw [hV17, fm_up_ne (fun q => absurd q.1 (by decide))]
        have tV17_40 : (V17 80 40).toInt = (V16 80 40).toInt := by rw [hV17, fm_up_ne (fun q => absurd q.1 (by decide))]
        have tV17_41 : (V17 80 41).toInt = (V16 80 41).toInt := by rw [hV17, fm_up_ne (fun q => absurd q.1 (by decide))]
        have hF := pz_Fa hF hV17 (i := 102) rfl (zi_rng _) (by simp [rv_in, pz_L])
        refine fm_aload_n X d_X8_clause_90 rfl hl0 ?_
        refine fm_dup X d_X8_clause_91 rfl ?_
        refine fz_getI X 80 d_X8_clause_92 lkX8_208 rfl rfl ?_
        refine fz_iconst X d_X8_clause_95 (by decide) (fun v18 hv18 => ?_)
        refine fz_iadd X d_X8_clause_96 (by constructor <;> omega) (fun z19 hz19 => ?_)
        refine fz_put X 80 d_X8_clause_97 lkX8_208 wr_8_33 rfl rfl (by first | exact Or.inl rfl | (refine Or.inr ?_; constructor <;> omega)) (fun V20 hV20 => ?_)
        have tV20_33 : (V20 80 33).toInt = (z19).toInt := by rw [hV20, fm_up_self]
        have tV20_34 : (V20 80 34).toInt = (V17 80 34).toInt := by rw [hV20, fm_up_ne (by decide)]
        have tV20_35 : (V20 80 35).toInt = (V17 80 35).toInt := by rw [hV20, fm_up_ne (by decide)]
        have tV20_36 : (V20 80 36).toInt = (V17 80 36).toInt := by rw [hV20, fm_up_ne (by decide)]
        have tV20_37 : (V20 80 37).toInt = (V17 80 37).toInt := by rw [hV20, fm_up_ne (by decide)]
        have tV20_38 : (V20 80 38).toInt = (V17 80 38).toInt := by rw [hV20, fm_up_ne (by decide)]
        have tV20_39 : (V20 80 39).toInt = (V17 80 39).toInt := by rw [hV20, fm_up_ne (by decide)]
        have tV20_40 : (V20 80 40).toInt = (V17 80 40).toInt := by rw [hV20, fm_up_ne (by decide)]
        have tV20_41 : (V20 80 41).toInt = (V17 80 41).toInt := by rw [hV20, fm_up_ne (by decide)]
        have hF := pz_Fo hF hV20 rfl rfl (zi_rng _) (by decide)
        refine fm_aload_n X d_X8_clause_100 rfl hl0 ?_
        refine fz_iconst X d_X8_clause_101 (by decide) (fun v21 hv21 => ?_)
        refine fz_put X 80 d_X8_clause_102 lkX8_224 wr_8_39 rfl rfl (by first | exact Or.inl rfl | (refine Or.inr ?_; constructor <;> omega)) (fun V22 hV22 => ?_)
        have tV22_33 : (V22 80 33).toInt = (V20 80 33).toInt := by rw [hV22, fm_up_ne (by decide)]
        have tV22_34 : (V22 80 34).toInt = (V20 80 34).toInt := by rw [hV22, fm_up_ne (by decide)]
        have tV22_35 : (V22 80 35).toInt = (V20 80 35).toInt := by rw [hV22, fm_up_ne (by decide)]
        have tV22_36 : (V22 80 36).toInt = (V20 80 36).toInt := by rw [hV22, fm_up_ne (by decide)]
        have tV22_37 : (V22 80 37).toInt = (V20 80 37).toInt := by rw [hV22, fm_up_ne (by decide)]
        have tV22_38 : (V22 80 38).toInt = (V20 80 38).toInt := by rw [hV22, fm_up_ne (by decide)]
        have tV22_39 : (V22 80 39).toInt = (v21).toInt := by rw [hV22, fm_up_self]
        have tV22_40 : (V22 80 40).toInt = (V20 80 40).toInt := by rw [hV22, fm_up_ne (by decide)]
        have tV22_41 : (V22 80 41).toInt = (V20 80 41).toInt := by rw [hV22, fm_up_ne (by decide)]
        have hF := pz_Fo hF hV22 rfl rfl (zi_rng _) (by decide)
        refine fm_aload_n X d_X8_clause_105 rfl hl0 ?_
        refine fz_iconst X d_X8_clause_106 (by decide) (fun v23 hv23 => ?_)
        refine fz_put X 80 d_X8_clause_107 lkX8_227 wr_8_38 rfl rfl (by first | exact Or.inl rfl | (refine Or.inr ?_; constructor <;> omega)) (fun V24 hV24 => ?_)
        have tV24_33 : (V24 80 33).toInt = (V22 80 33).toInt := by rw [hV24, fm_up_ne (by decide)]
        have tV24_34 : (V24 80 34).toInt = (V22 80 34).toInt := by rw [hV24, fm_up_ne (by decide)]
        have tV24_35 : (V24 80 35).toInt = (V22 80 35).toInt := by rw [hV24, fm_up_ne (by decide)]
        have tV24_36 : (V24 80 36).toInt = (V22 80 36).toInt := by rw [hV24, fm_up_ne (by decide)]
        have tV24_37 : (V24 80 37).toInt = (V22 80 37).toInt := by rw [hV24, fm_up_ne (by decide)]
        have tV24_38 : (V24 80 38).toInt = (v23).toInt := by rw [hV24, fm_up_self]
        have tV24_39 : (V24 80 39).toInt = (V22 80 39).toInt := by rw [hV24, fm_up_ne (by decide)]
        have tV24_40 : (V24 80 40).toInt = (V22 80 40).toInt := by rw [hV24, fm_up_ne (by decide)]
        have tV24_41 : (V24 80 41).toInt = (V22 80 41).toInt := by rw [hV24, fm_up_ne (by decide)]
        have hF := pz_Fo hF hV24 rfl rfl (zi_rng _) (by decide)
        refine fm_aload_n X d_X8_clause_110 rfl hl0 ?_
        have hB5 : pz_B V24 := by unfold pz_B; omega
        have hd5 : (((V 80 37).toInt.toNat : Nat) : Int) ≤ (V24 80 37).toInt ∧ dp_ (V24 105) (V 80 37).toInt.toNat ((V24 80 37).toInt.toNat - (V 80 37).toInt.toNat) = some (cn_ (V24 107) (V24 80 39).toInt.toNat + 0) := ⟨by omega, by rw [show (V24 80 37).toInt.toNat - (V 80 37).toInt.toNat = 0 by omega, show (V24 80 39).toInt.toNat = 0 by omega]; rfl⟩
        refine gm_callV X Y fm_Ts_good d_X8_clause_111 (g_value hAd hZ (V := V24) (h := 0) (g := (V 80 37).toInt.toNat) hF.1 hB5 (by omega) (by omega) hd5 (fun z => absurd z (by decide))) wl_X8_286 wm_X8_value wy_X8_value (by decide) ⟨rfl, rfl⟩ (rest := []) rfl rfl hs (by simp [Value.category]) (fun r V25 hp => ?_)
        obtain ⟨rfl, hJ, hz⟩ := hp
        have hF := pz_Ft hF hJ.fr (by decide)
        have e36 : (V25 80 36).toInt = (V24 80 36).toInt := by rw [hJ.fr.2 80 36 (by decide)]
        show fm_W p l e { frames := 7, cells := 0, slots := 0, locals := 700 } s m args below meth c (MQ below (rv_Qc D fm_cl fm_tm ad cy fm_nt Z (fun r V1 => r = none ∧ pz_F pz_L V V1 ∧ pz_C V1 ∧ (V 80 33).toInt ≤ (V1 80 33).toInt ∧ ((V1 80 35).toInt = 0 → lw_ V1))) args s 0 0 (fm_A fm_tm ad)) D fm_cl fm_tm ad cy (fm_A fm_tm ad) V25 114 ls []
        obtain ⟨q1, q2, q3, q4, q5, q6, q7⟩ := hJ.B
        have q8 := hJ.pl
        have q9 := hJ.c0
        have q10 := hJ.hk
        have q11 := hJ.en
        refine fm_aload_n X d_X8_clause_114 rfl hl0 ?_
        refine fz_getR X 80 d_X8_clause_115 lkX8_82 rfl rfl ?_
        refine fm_aload_n X d_X8_clause_118 rfl hl0 ?_
        refine fz_getI X 80 d_X8_clause_119 lkX8_307 rfl rfl ?_
        refine fm_aload_n X d_X8_clause_122 rfl hl0 ?_
        refine fz_getI X 80 d_X8_clause_123 lkX8_221 rfl rfl ?_
        refine fz_iastore X 103 d_X8_clause_126 rfl (by constructor <;> omega) (fun V27 hV27 => ?_)
        have tV27_33 : (V27 80 33).toInt = (V25 80 33).toInt := by rw [hV27, fm_up_ne (fun q => absurd q.1 (by decide))]
        have tV27_34 : (V27 80 34).toInt = (V25 80 34).toInt := by rw [hV27, fm_up_ne (fun q => absurd q.1 (by decide))]
        have tV27_35 : (V27 80 35).toInt = (V25 80 35).toInt := by rw [hV27, fm_up_ne (fun q => absurd q.1 (by decide))]
        have tV27_36 : (V27 80 36).toInt = (V25 80 36).toInt := by rw [hV27, fm_up_ne (fun q => absurd q.1 (by decide))]
        have tV27_37 : (V27 80 37).toInt = (V25 80 37).toInt := by rw [hV27, fm_up_ne (fun q => absurd q.1 (by decide))]
        have tV27_38 : (V27 80 38).toInt = (V25 80 38).toInt := by rw [hV27, fm_up_ne (fun q => absurd q.1 (by decide))]
        have tV27_39 : (V27 80 39).toInt = (V25 80 39).toInt := by rw [hV27, fm_up_ne (fun q => absurd q.1 (by decide))]
        have tV27_40 : (V27 80 40).toInt = (V25 80 40).toInt := by rw [hV27, fm_up_ne (fun q => absurd q.1 (by decide))]
        have tV27_41 : (V27 80 41).toInt = (V25 80 41).toInt := by rw [hV27, fm_up_ne (fun q => absurd q.1 (by decide))]
        have hF := pz_Fa hF hV27 (i := 103) rfl (zi_rng _) (by simp [rv_in, pz_L])
        refine fm_aload_n X d_X8_clause_127 rfl hl0 ?_
        refine gm_callV X Y fm_Ts_good d_X8_clause_128 (g_isGood hAd hZ (V := V27)) wl_X8_217 wm_X8_isGood wy_X8_isGood (by decide) ⟨rfl, rfl⟩ (rest := []) rfl rfl hs (by simp [Value.category]) (fun r V28 hp => ?_)
        obtain ⟨rfl, x29, rfl, hzx29, hx29⟩ := hp
        show fm_W p l e { frames := 7, cells := 0, slots := 0, locals := 700 } s m args below meth c (MQ below (rv_Qc D fm_cl fm_tm ad cy fm_nt Z (fun r V1 => r = none ∧ pz_F pz_L V V1 ∧ pz_C V1 ∧ (V 80 33).toInt ≤ (V1 80 33).toInt ∧ ((V1 80 35).toInt = 0 → lw_ V1))) args s 0 0 (fm_A fm_tm ad)) D fm_cl fm_tm ad cy (fm_A fm_tm ad) V27 131 ls [.int x29]
        refine fz_if_eq X 138 d_X8_clause_131 (by decide) (fun h30 => ?_) (fun h30 => ?_)
        · skip
          refine fm_aload_n X d_X8_clause_138 rfl hl0 ?_
          refine fz_getR X 80 d_X8_clause_139 lkX8_85 rfl rfl ?_
          refine fm_aload_n X d_X8_clause_142 rfl hl0 ?_
          refine fz_getI X 80 d_X8_clause_143 lkX8_307 rfl rfl ?_
          refine fm_aload_n X d_X8_clause_146 rfl hl0 ?_
          refine fz_getI X 80 d_X8_clause_147 lkX8_221 rfl rfl ?_
          refine fz_iastore X 104 d_X8_clause_150 rfl (by constructor <;> omega) (fun V31 hV31 => ?_)
          have tV31_33 : (V31 80 33).toInt = (V27 80 33).toInt := by rw [hV31, fm_up_ne (fun q => absurd q.1 (by decide))]
          have tV31_34 : (V31 80 34).toInt = (V27 80 34).toInt := by rw [hV31, fm_up_ne (fun q => absurd q.1 (by decide))]
          have tV31_35 : (V31 80 35).toInt = (V27 80 35).toInt := by rw [hV31, fm_up_ne (fun q => absurd q.1 (by decide))]
          have tV31_36 : (V31 80 36).toInt = (V27 80 36).toInt := by rw [hV31, fm_up_ne (fun q => absurd q.1 (by decide))]
          have tV31_37 : (V31 80 37).toInt = (V27 80 37).toInt := by rw [hV31, fm_up_ne (fun q => absurd q.1 (by decide))]
          have tV31_38 : (V31 80 38).toInt = (V27 80 38).toInt := by rw [hV31, fm_up_ne (fun q => absurd q.1 (by decide))]
          have tV31_39 : (V31 80 39).toInt = (V27 80 39).toInt := by rw [hV31, fm_up_ne (fun q => absurd q.1 (by decide))]
          have tV31_40 : (V31 80 40).toInt = (V27 80 40).toInt := by rw [hV31, fm_up_ne (fun q => absurd q.1 (by decide))]
          have tV31_41 : (V31 80 41).toInt = (V27 80 41).toInt := by rw [hV31, fm_up_ne (fun q => absurd q.1 (by decide))]
          have hF := pz_Fa hF hV31 (i := 104) rfl (zi_rng _) (by simp [rv_in, pz_L])
          refine fm_aload_n X d_X8_clause_151 rfl hl0 ?_
          refine fm_dup X d_X8_clause_152 rfl ?_
          refine fz_getI X 80 d_X8_clause_153 lkX8_307 rfl rfl ?_
          refine fz_iconst X d_X8_clause_156 (by decide) (fun v32 hv32 => ?_)
          refine fz_iadd X d_X8_clause_157 (by constructor <;> omega) (fun z33 hz33 => ?_)
          refine fz_put X 80 d_X8_clause_158 lkX8_307 wr_8_36 rfl rfl (by first | exact Or.inl rfl | (refine Or.inr ?_; constructor <;> omega)) (fun V34 hV34 => ?_)
          have tV34_33 : (V34 80 33).toInt = (V31 80 33).toInt := by rw [hV34, fm_up_ne (by decide)]
          have tV34_34 : (V34 80 34).toInt = (V31 80 34).toInt := by rw [hV34, fm_up_ne (by decide)]
          have tV34_35 : (V34 80 35).toInt = (V31 80 35).toInt := by rw [hV34, fm_up_ne (by decide)]
          have tV34_36 : (V34 80 36).toInt = (z33).toInt := by rw [hV34, fm_up_self]
          have tV34_37 : (V34 80 37).toInt = (V31 80 37).toInt := by rw [hV34, fm_up_ne (by decide)]
          have tV34_38 : (V34 80 38).toInt = (V31 80 38).toInt := by rw [hV34, fm_up_ne (by decide)]
          have tV34_39 : (V34 80 39).toInt = (V31 80 39).toInt := by rw [hV34, fm_up_ne (by decide)]
          have tV34_40 : (V34 80 40).toInt = (V31 80 40).toInt := by rw [hV34, fm_up_ne (by decide)]
          have tV34_41 : (V34 80 41).toInt = (V31 80 41).toInt := by rw [hV34, fm_up_ne (by decide)]
          have hF := pz_Fo hF hV34 rfl rfl (zi_rng _) (by decide)
          have hC : pz_C V34 := by unfold pz_C; omega
          refine gm_vret X Y hr hlk d_X8_clause_161 ⟨rfl, hF, hC, by omega, fun q => by omega⟩
        · skip
          refine fm_aload_n X d_X8_clause_134 rfl hl0 ?_
          have hz := hz (by omega)
          have hB7 : pz_B V27 := by unfold pz_B; omega
          have hR : pz_I V27 V27 0 (fun _ => True) (V25 80 37).toInt.toNat 0 := pz_I.refl hF.1 hB7 (by omega) (fun _ => ⟨by omega, by rw [show (V27 80 37).toInt.toNat - (V25 80 37).toInt.toNat = 0 by omega, show (V27 80 39).toInt.toNat = 0 by omega]; rfl⟩)
          refine gm_callV X Y fm_Ts_good d_X8_clause_135 (g_condition hAd hZ (V := V27) hR (by omega) (by omega)) wl_X8_310 wm_X8_condition wy_X8_condition (by decide) ⟨rfl, rfl⟩ (rest := []) rfl rfl hs (by simp [Value.category]) (fun r V35 hp => ?_)
          obtain ⟨rfl, b2, hJ2⟩ := hp
          have hF := pz_Ft hF hJ2.fr (by decide)
          have e36b : (V35 80 36).toInt = (V27 80 36).toInt := by rw [hJ2.fr.2 80 36 (by decide)]
          show fm_W p l e { frames := 7, cells := 0, slots := 0, locals := 700 } s m args below meth c (MQ below (rv_Qc D fm_cl fm_tm ad cy fm_nt Z (fun r V1 => r = none ∧ pz_F pz_L V V1 ∧ pz_C V1 ∧ (V 80 33).toInt ≤ (V1 80 33).toInt ∧ ((V1 80 35).toInt = 0 → lw_ V1))) args s 0 0 (fm_A fm_tm ad)) D fm_cl fm_tm ad cy (fm_A fm_tm ad) V35 138 ls []
          obtain ⟨q1, q2, q3, q4, q5, q6, q7⟩ := hJ2.B
          have q8 := hJ2.pl
          have q9 := hJ2.c0
          have q10 := hJ2.hk
          have q11 := hJ2.en
          refine fm_aload_n X d_X8_clause_138 rfl hl0 ?_
          refine fz_getR X 80 d_X8_clause_139 lkX8_85 rfl rfl ?_
          refine fm_aload_n X d_X8_clause_142 rfl hl0 ?_
          refine fz_getI X 80 d_X8_clause_143 lkX8_307 rfl rfl ?_
          refine fm_aload_n X d_X8_clause_146 rfl hl0 ?_
          refine fz_getI X 80 d_X8_clause_147 lkX8_221 rfl rfl ?_
          refine fz_iastore X 104 d_X8_clause_150 rfl (by constructor <;> omega) (fun V37 hV37 => ?_)
          have tV37_33 : (V37 80 33).toInt = (V35 80 33).toInt := by rw [hV37, fm_up_ne (fun q => absurd q.1 (by decide))]
          have tV37_34 : (V37 80 34).toInt = (V35 80 34).toInt := by rw [hV37, fm_up_ne (fun q => absurd q.1 (by decide))]
          have tV37_35 : (V37 80 35).toInt = (V35 80 35).toInt := by rw [hV37, fm_up_ne (fun q => absurd q.1 (by decide))]
          have tV37_36 : (V37 80 36).toInt = (V35 80 36).toInt := by rw [hV37, fm_up_ne (fun q => absurd q.1 (by decide))]
          have tV37_37 : (V37 80 37).toInt = (V35 80 37).toInt := by rw [hV37, fm_up_ne (fun q => absurd q.1 (by decide))]
          have tV37_38 : (V37 80 38).toInt = (V35 80 38).toInt := by rw [hV37, fm_up_ne (fun q => absurd q.1 (by decide))]
          have tV37_39 : (V37 80 39).toInt = (V35 80 39).toInt := by rw [hV37, fm_up_ne (fun q => absurd q.1 (by decide))]
          have tV37_40 : (V37 80 40).toInt = (V35 80 40).toInt := by rw [hV37, fm_up_ne (fun q => absurd q.1 (by decide))]
          have tV37_41 : (V37 80 41).toInt = (V35 80 41).toInt := by rw [hV37, fm_up_ne (fun q => absurd q.1 (by decide))]
          have hF := pz_Fa hF hV37 (i := 104) rfl (zi_rng _) (by simp [rv_in, pz_L])
          refine fm_aload_n X d_X8_clause_151 rfl hl0 ?_
          refine fm_dup X d_X8_clause_152 rfl ?_
          refine fz_getI X 80 d_X8_clause_153 lkX8_307 rfl rfl ?_
          refine fz_iconst X d_X8_clause_156 (by decide) (fun v38 hv38 => ?_)
          refine fz_iadd X d_X8_clause_157 (by constructor <;> omega) (fun z39 hz39 => ?_)
          refine fz_put X 80 d_X8_clause_158 lkX8_307 wr_8_36 rfl rfl (by first | exact Or.inl rfl | (refine Or.inr ?_; constructor <;> omega)) (fun V40 hV40 => ?_)
          have tV40_33 : (V40 80 33).toInt = (V37 80 33).toInt := by rw [hV40, fm_up_ne (by decide)]
          have tV40_34 : (V40 80 34).toInt = (V37 80 34).toInt := by rw [hV40, fm_up_ne (by decide)]
          have tV40_35 : (V40 80 35).toInt = (V37 80 35).toInt := by rw [hV40, fm_up_ne (by decide)]
          have tV40_36 : (V40 80 36).toInt = (z39).toInt := by rw [hV40, fm_up_self]
          have tV40_37 : (V40 80 37).toInt = (V37 80 37).toInt := by rw [hV40, fm_up_ne (by decide)]
          have tV40_38 : (V40 80 38).toInt = (V37 80 38).toInt := by rw [hV40, fm_up_ne (by decide)]
          have tV40_39 : (V40 80 39).toInt = (V37 80 39).toInt := by rw [hV40, fm_up_ne (by decide)]
          have tV40_40 : (V40 80 40).toInt = (V37 80 40).toInt := by rw [hV40, fm_up_ne (by decide)]
          have tV40_41 : (V40 80 41).toInt = (V37 80 41).toInt := by rw [hV40, fm_up_ne (by decide)]
          have hF := pz_Fo hF hV40 rfl rfl (zi_rng _) (by decide)
          have hC : pz_C V40 := by unfold pz_C; omega
          have d5 : V24 80 37 = V 80 37 ∧ V24 105 = V 105 := ⟨by rw [hV24, hV22, hV20, hV17, hV16]; simp [fm_up], by rw [hV24, hV22, hV20, hV17, hV16]; funext k; simp [fm_up]⟩
          have d7 : V27 80 37 = V25 80 37 ∧ V27 105 = V25 105 := ⟨by rw [hV27]; simp [fm_up], by rw [hV27]; funext k; simp [fm_up]⟩
          have dW : V40 80 37 = V35 80 37 ∧ V40 105 = V35 105 := ⟨by rw [hV40, hV37]; simp [fm_up], by rw [hV40, hV37]; funext k; simp [fm_up]⟩
          have k102 : ∀ k, V40 102 k = if k = (V 80 36).toInt.toNat then V 80 37 else V 102 k := fun k => by
            have a1 : V40 102 k = V35 102 k := by rw [hV40, hV37]; simp [fm_up]
            have a2 : V27 102 k = V25 102 k := by rw [hV27]; simp [fm_up]
            have a3 : V24 102 k = V17 102 k := by rw [hV24, hV22, hV20]; simp [fm_up]
            have a4 : V16 80 37 = V 80 37 := by rw [hV16]; simp [fm_up]
            have a5 : V16 102 k = V 102 k := by rw [hV16]; simp [fm_up]
            rw [a1, hJ2.fr.2 102 k (by simp [rv_in, pz_M]), a2, hJ.fr.2 102 k (by simp [rv_in, pz_M]), a3, hV17]
            show (if 102 = 102 ∧ k = (V16 80 36).toInt.toNat then V16 80 37 else V16 102 k) = _
            rw [show (V16 80 36).toInt.toNat = (V 80 36).toInt.toNat by omega, a4, a5]
            simp
          have k103 : ∀ k, V40 103 k = if k = (V 80 36).toInt.toNat then V25 80 37 else V 103 k := fun k => by
            have a1 : V40 103 k = V35 103 k := by rw [hV40, hV37]; simp [fm_up]
            have a3 : V24 103 k = V 103 k := by rw [hV24, hV22, hV20, hV17, hV16]; simp [fm_up]
            rw [a1, hJ2.fr.2 103 k (by simp [rv_in, pz_M]), hV27]
            show (if 103 = 103 ∧ k = (V25 80 36).toInt.toNat then V25 80 37 else V25 103 k) = _
            rw [show (V25 80 36).toInt.toNat = (V 80 36).toInt.toNat by omega, hJ.fr.2 103 k (by simp [rv_in, pz_M]), a3]
            simp
          have k104 : ∀ k, V40 104 k = if k = (V 80 36).toInt.toNat then V35 80 37 else V 104 k := fun k => by
            have a1 : V40 104 k = V37 104 k := by rw [hV40]; simp [fm_up]
            have a2 : V27 104 k = V25 104 k := by rw [hV27]; simp [fm_up]
            have a3 : V24 104 k = V 104 k := by rw [hV24, hV22, hV20, hV17, hV16]; simp [fm_up]
            rw [a1, hV37]
            show (if 104 = 104 ∧ k = (V35 80 36).toInt.toNat then V35 80 37 else V35 104 k) = _
            rw [show (V35 80 36).toInt.toNat = (V 80 36).toInt.toNat by omega, hJ2.fr.2 104 k (by simp [rv_in, pz_M]), a2, hJ.fr.2 104 k (by simp [rv_in, pz_M]), a3]
            simp
          refine gm_vret X Y hr hlk d_X8_clause_161 ⟨rfl, hF, hC, by omega, fun q => lw_end (V5 := V24) (V6 := V25) (V7 := V27) (V8 := V35) hw0 ⟨by omega, by omega⟩ d5 hJ (by omega) d7 hJ2 (by omega) ⟨by omega, dW⟩ (fun k hk => ⟨by rw [k102, if_neg hk], by rw [k103, if_neg hk], by rw [k104, if_neg hk]⟩) ⟨by rw [k102, if_pos rfl], by rw [k103, if_pos rfl], by rw [k104, if_pos rfl]⟩⟩
      · skip
        omega
    · skip
      refine fm_aload_n X d_X8_clause_50 rfl hl0 ?_
      refine fz_iconst X d_X8_clause_51 (by decide) (fun v41 hv41 => ?_)
      refine fm_aload_n X d_X8_clause_52 rfl hl0 ?_
      refine fz_getI X 80 d_X8_clause_53 lkX8_208 rfl rfl ?_
      refine gm_callV X Y fm_Ts_good d_X8_clause_56 (g_wrongs hAd hZ (V := V) (by omega) (by omega) (by omega)) wl_X8_230 wm_X8_wrongs wy_X8_wrongs (by decide) ⟨rfl, rfl⟩ (rest := []) rfl rfl hs (by simp [Value.category]) (fun r V42 hp => ?_)
      obtain ⟨rfl, yx43, hyx43, hV42⟩ := hp
      have tV42_33 : (V42 80 33).toInt = (V 80 33).toInt := by rw [hV42, fm_up_ne (by decide)]
      have tV42_34 : (V42 80 34).toInt = (V 80 34).toInt := by rw [hV42, fm_up_ne (by decide)]
      have tV42_35 : (V42 80 35).toInt = (yx43).toInt := by rw [hV42, fm_up_self]
      have tV42_36 : (V42 80 36).toInt = (V 80 36).toInt := by rw [hV42, fm_up_ne (by decide)]
      have tV42_37 : (V42 80 37).toInt = (V 80 37).toInt := by rw [hV42, fm_up_ne (by decide)]
      have tV42_38 : (V42 80 38).toInt = (V 80 38).toInt := by rw [hV42, fm_up_ne (by decide)]
      have tV42_39 : (V42 80 39).toInt = (V 80 39).toInt := by rw [hV42, fm_up_ne (by decide)]
      have tV42_40 : (V42 80 40).toInt = (V 80 40).toInt := by rw [hV42, fm_up_ne (by decide)]
      have tV42_41 : (V42 80 41).toInt = (V 80 41).toInt := by rw [hV42, fm_up_ne (by decide)]
      show fm_W p l e { frames := 7, cells := 0, slots := 0, locals := 700 } s m args below meth c (MQ below (rv_Qc D fm_cl fm_tm ad cy fm_nt Z (fun r V1 => r = none ∧ pz_F pz_L V V1 ∧ pz_C V1 ∧ (V 80 33).toInt ≤ (V1 80 33).toInt ∧ ((V1 80 35).toInt = 0 → lw_ V1))) args s 0 0 (fm_A fm_tm ad)) D fm_cl fm_tm ad cy (fm_A fm_tm ad) V42 59 ls []
      have hF := pz_Fo hF hV42 rfl rfl (zi_rng _) (by decide)
      have hC : pz_C V42 := by unfold pz_C; omega
      refine fm_aload_n X d_X8_clause_59 rfl hl0 ?_
      refine gm_callV X Y fm_Ts_good d_X8_clause_60 (g_isGood hAd hZ (V := V42)) wl_X8_217 wm_X8_isGood wy_X8_isGood (by decide) ⟨rfl, rfl⟩ (rest := []) rfl rfl hs (by simp [Value.category]) (fun r V44 hp => ?_)
      obtain ⟨rfl, x45, rfl, hzx45, hx45⟩ := hp
      show fm_W p l e { frames := 7, cells := 0, slots := 0, locals := 700 } s m args below meth c (MQ below (rv_Qc D fm_cl fm_tm ad cy fm_nt Z (fun r V1 => r = none ∧ pz_F pz_L V V1 ∧ pz_C V1 ∧ (V 80 33).toInt ≤ (V1 80 33).toInt ∧ ((V1 80 35).toInt = 0 → lw_ V1))) args s 0 0 (fm_A fm_tm ad)) D fm_cl fm_tm ad cy (fm_A fm_tm ad) V42 63 ls [.int x45]
      refine fz_if_ne X 67 d_X8_clause_63 (by decide) (fun h46 => ?_) (fun h46 => ?_)
      · skip
        omega
      · skip
        refine gm_vret X Y hr hlk d_X8_clause_66 ⟨rfl, hF, hC, by omega, fun q => by omega⟩
  refine fm_aload_n X d_X8_clause_0 rfl hl0 ?_
  refine gm_callV X Y fm_Ts_good d_X8_clause_1 (g_here hAd hZ (V := V) (by omega) (by omega)) wl_X8_234 wm_X8_here wy_X8_here (by decide) ⟨rfl, rfl⟩ (rest := []) rfl rfl hs (by simp [Value.category]) (fun r V47 hp => ?_)
  obtain ⟨rfl, x48, rfl, hx48⟩ := hp
  show fm_W p l e { frames := 7, cells := 0, slots := 0, locals := 700 } s m args below meth c (MQ below (rv_Qc D fm_cl fm_tm ad cy fm_nt Z (fun r V1 => r = none ∧ pz_F pz_L V V1 ∧ pz_C V1 ∧ (V 80 33).toInt ≤ (V1 80 33).toInt ∧ ((V1 80 35).toInt = 0 → lw_ V1))) args s 0 0 (fm_A fm_tm ad)) D fm_cl fm_tm ad cy (fm_A fm_tm ad) V 4 ls [.int x48]
  refine fm_istore_n X d_X8_clause_4 hs hw (by decide) (fun ls hst => ?_)
  have hl0 := hst.2.2.2.1 0 _ (by decide) hl0 rfl
  have hl1 := hst.2.2.1
  have hs := hst.1.trans hs
  have hw := hst.2.1
  clear hst
  refine fm_iload_n X d_X8_clause_5 rfl hl1 ?_
  refine fz_bipush X d_X8_clause_6 (by decide) (fun v50 hv50 => ?_)
  refine fz_icmp_eq X 41 d_X8_clause_8 (by decide) (fun h51 => ?_) (fun h51 => ?_)
  · skip
    exact mid _ ls hx48 (by omega) hs hw hl0 hl1
  · skip
    refine fm_iload_n X d_X8_clause_11 rfl hl1 ?_
    refine fz_bipush X d_X8_clause_12 (by decide) (fun v52 hv52 => ?_)
    refine fz_icmp_eq X 41 d_X8_clause_14 (by decide) (fun h53 => ?_) (fun h53 => ?_)
    · skip
      exact mid _ ls hx48 (by omega) hs hw hl0 hl1
    · skip
      refine fm_iload_n X d_X8_clause_17 rfl hl1 ?_
      refine fz_bipush X d_X8_clause_18 (by decide) (fun v54 hv54 => ?_)
      refine fz_icmp_eq X 41 d_X8_clause_20 (by decide) (fun h55 => ?_) (fun h55 => ?_)
      · skip
        exact mid _ ls hx48 (by omega) hs hw hl0 hl1
      · skip
        refine fm_iload_n X d_X8_clause_23 rfl hl1 ?_
        refine fz_bipush X d_X8_clause_24 (by decide) (fun v56 hv56 => ?_)
        refine fz_icmp_eq X 41 d_X8_clause_26 (by decide) (fun h57 => ?_) (fun h57 => ?_)
        · skip
          exact mid _ ls hx48 (by omega) hs hw hl0 hl1
        · skip
          refine fm_aload_n X d_X8_clause_29 rfl hl0 ?_
          refine fz_iconst X d_X8_clause_30 (by decide) (fun v58 hv58 => ?_)
          refine fm_aload_n X d_X8_clause_31 rfl hl0 ?_
          refine fz_getI X 80 d_X8_clause_32 lkX8_208 rfl rfl ?_
          refine gm_callV X Y fm_Ts_good d_X8_clause_35 (g_wrongs hAd hZ (V := V) (by omega) (by omega) (by omega)) wl_X8_230 wm_X8_wrongs wy_X8_wrongs (by decide) ⟨rfl, rfl⟩ (rest := []) rfl rfl hs (by simp [Value.category]) (fun r V59 hp => ?_)
          obtain ⟨rfl, yx60, hyx60, hV59⟩ := hp
          have tV59_33 : (V59 80 33).toInt = (V 80 33).toInt := by rw [hV59, fm_up_ne (by decide)]
          have tV59_34 : (V59 80 34).toInt = (V 80 34).toInt := by rw [hV59, fm_up_ne (by decide)]
          have tV59_35 : (V59 80 35).toInt = (yx60).toInt := by rw [hV59, fm_up_self]
          have tV59_36 : (V59 80 36).toInt = (V 80 36).toInt := by rw [hV59, fm_up_ne (by decide)]
          have tV59_37 : (V59 80 37).toInt = (V 80 37).toInt := by rw [hV59, fm_up_ne (by decide)]
          have tV59_38 : (V59 80 38).toInt = (V 80 38).toInt := by rw [hV59, fm_up_ne (by decide)]
          have tV59_39 : (V59 80 39).toInt = (V 80 39).toInt := by rw [hV59, fm_up_ne (by decide)]
          have tV59_40 : (V59 80 40).toInt = (V 80 40).toInt := by rw [hV59, fm_up_ne (by decide)]
          have tV59_41 : (V59 80 41).toInt = (V 80 41).toInt := by rw [hV59, fm_up_ne (by decide)]
          show fm_W p l e { frames := 7, cells := 0, slots := 0, locals := 700 } s m args below meth c (MQ below (rv_Qc D fm_cl fm_tm ad cy fm_nt Z (fun r V1 => r = none ∧ pz_F pz_L V V1 ∧ pz_C V1 ∧ (V 80 33).toInt ≤ (V1 80 33).toInt ∧ ((V1 80 35).toInt = 0 → lw_ V1))) args s 0 0 (fm_A fm_tm ad)) D fm_cl fm_tm ad cy (fm_A fm_tm ad) V59 38 ls []
          have hF := pz_Fo hF hV59 rfl rfl (zi_rng _) (by decide)
          have hC : pz_C V59 := by unfold pz_C; omega
          refine fz_goto X 59 d_X8_clause_38 (by decide) ?_
          refine fm_aload_n X d_X8_clause_59 rfl hl0 ?_
          refine gm_callV X Y fm_Ts_good d_X8_clause_60 (g_isGood hAd hZ (V := V59)) wl_X8_217 wm_X8_isGood wy_X8_isGood (by decide) ⟨rfl, rfl⟩ (rest := []) rfl rfl hs (by simp [Value.category]) (fun r V61 hp => ?_)
          obtain ⟨rfl, x62, rfl, hzx62, hx62⟩ := hp
          show fm_W p l e { frames := 7, cells := 0, slots := 0, locals := 700 } s m args below meth c (MQ below (rv_Qc D fm_cl fm_tm ad cy fm_nt Z (fun r V1 => r = none ∧ pz_F pz_L V V1 ∧ pz_C V1 ∧ (V 80 33).toInt ≤ (V1 80 33).toInt ∧ ((V1 80 35).toInt = 0 → lw_ V1))) args s 0 0 (fm_A fm_tm ad)) D fm_cl fm_tm ad cy (fm_A fm_tm ad) V59 63 ls [.int x62]
          refine fz_if_ne X 67 d_X8_clause_63 (by decide) (fun h63 => ?_) (fun h63 => ?_)
          · skip
            omega
          · skip
            refine gm_vret X Y hr hlk d_X8_clause_66 ⟨rfl, hF, hC, by omega, fun q => by omega⟩
