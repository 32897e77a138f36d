/-! the reader: pieces -/
theorem g_pieceOfC {l : Launch} {D : va_G} {ad : Nat → Nat} {cy : Nat → ClassId} {Z : State → Heap → Prop} (hAd : fm_Ad fm_tm ad) (hZ : fm_Zk (fm_A fm_tm ad) Z) {V : fm_V} {V0 : fm_V} {g : Nat} (hI : pz_I V0 V 1 cS_ g 0) (hg : (V 80 35).toInt = 0) (h40 : (V0 107 0).toInt = 40) : gm_M l D fm_cl fm_tm ad cy fm_nt Z yX8_pieceOfC (.code yX8_pieceOfC prog_10_method_38_code 2 none :: fm_Ts) { frames := 5, cells := 0, slots := 0, locals := 500 } V [.ref (ad 80)] (fun r V1 => r = none ∧ (V 80 33).toInt ≤ (V1 80 33).toInt ∧ pz_I V0 V1 0 (fun _ => True) g 1 ∧ ((V1 80 35).toInt = 0 → pz_I V0 V1 1 cS_ g 1)) := by
  refine gm_at hAd hZ (by decide +kernel) (by simp [lg_sl, Value.category]) ?_
  intro p e s m args below meth c ls hr hlk X Y hl
  have hl0 : ls[0]? = some (.val (.ref (ad 80))) := hl.2.2 (0, .ref (ad 80)) (by simp [lv_args, Value.category])
  have hs := hl.1
  have hw := hl.2.1
  clear hl
  have tail : ∀ (W : fm_V) (ls : Array Slot), pz_I V0 W 1 cS_ g 0 → (V 80 33).toInt ≤ (W 80 33).toInt → ls.size = 2 → lv_wf ls → ls[0]? = some (.val (.ref (ad 80))) → fm_W p l e { frames := 5, cells := 0, slots := 0, locals := 500 } s m args below meth c (MQ below (rv_Qc D fm_cl fm_tm ad cy fm_nt Z (fun r V1 => r = none ∧ (V 80 33).toInt ≤ (V1 80 33).toInt ∧ pz_I V0 V1 0 (fun _ => True) g 1 ∧ ((V1 80 35).toInt = 0 → pz_I V0 V1 1 cS_ g 1))) args s 0 0 (fm_A fm_tm ad)) D fm_cl fm_tm ad cy (fm_A fm_tm ad) W 32 ls [] := by
    intro W ls hI f1 hs hw hl0
    obtain ⟨q1, q2, q3, q4, q5, q6, q7⟩ := hI.B
    have q8 := hI.pl
    have q9 := hI.c0
    have q10 := hI.hk
    have q11 := hI.en
    refine fm_aload_n X d_X8_pieceOfC_32 rfl hl0 ?_
    refine gm_callV X Y fm_Ts_good d_X8_pieceOfC_33 (g_isGood hAd hZ (V := W)) wl_X8_217 wm_X8_isGood wy_X8_isGood (by decide) ⟨rfl, rfl⟩ (rest := []) rfl rfl hs (by simp [Value.category]) (fun r V11 hp => ?_)
    obtain ⟨rfl, x12, rfl, hzx12, hx12⟩ := hp
    show fm_W p l e { frames := 5, cells := 0, slots := 0, locals := 500 } s m args below meth c (MQ below (rv_Qc D fm_cl fm_tm ad cy fm_nt Z (fun r V1 => r = none ∧ (V 80 33).toInt ≤ (V1 80 33).toInt ∧ pz_I V0 V1 0 (fun _ => True) g 1 ∧ ((V1 80 35).toInt = 0 → pz_I V0 V1 1 cS_ g 1))) args s 0 0 (fm_A fm_tm ad)) D fm_cl fm_tm ad cy (fm_A fm_tm ad) W 36 ls [.int x12]
    refine fz_if_eq X 43 d_X8_pieceOfC_36 (by decide) (fun h13 => ?_) (fun h13 => ?_)
    · skip
      refine fm_aload_n X d_X8_pieceOfC_43 rfl hl0 ?_
      refine gm_callV X Y fm_Ts_good d_X8_pieceOfC_44 (g_isGood hAd hZ (V := W)) wl_X8_217 wm_X8_isGood wy_X8_isGood (by decide) ⟨rfl, rfl⟩ (rest := []) rfl rfl hs (by simp [Value.category]) (fun r V14 hp => ?_)
      obtain ⟨rfl, x15, rfl, hzx15, hx15⟩ := hp
      show fm_W p l e { frames := 5, cells := 0, slots := 0, locals := 500 } s m args below meth c (MQ below (rv_Qc D fm_cl fm_tm ad cy fm_nt Z (fun r V1 => r = none ∧ (V 80 33).toInt ≤ (V1 80 33).toInt ∧ pz_I V0 V1 0 (fun _ => True) g 1 ∧ ((V1 80 35).toInt = 0 → pz_I V0 V1 1 cS_ g 1))) args s 0 0 (fm_A fm_tm ad)) D fm_cl fm_tm ad cy (fm_A fm_tm ad) W 47 ls [.int x15]
      refine fz_if_ne X 51 d_X8_pieceOfC_47 (by decide) (fun h16 => ?_) (fun h16 => ?_)
      · skip
        omega
      · skip
        refine gm_vret X Y hr hlk d_X8_pieceOfC_50 ⟨rfl, by omega, (hI.any (b' := 1) (S' := cS_) (by omega)).weak, fun q => by omega⟩
    · skip
      refine fm_aload_n X d_X8_pieceOfC_39 rfl hl0 ?_
      obtain ⟨i1, i2, i3⟩ := hI.gd (by omega)
      have htop : cS_ (tp_ W) ∨ tp_ W = 40 := by
        by_cases e : (1 : Int) < (W 80 39).toInt
        · exact Or.inl (hI.topS (by omega) (by omega))
        · right; unfold tp_; rw [if_pos (by omega), show ((W 80 39).toInt - 1).toNat = 0 by omega, hI.sk 0 (by decide)]; exact h40
      have hsn : 0 < (W 80 39).toInt.toNat → ¬ ar_ (W 107 ((W 80 39).toInt.toNat - 1)).toInt ∧ (W 107 ((W 80 39).toInt.toNat - 1)).toInt ≠ 91 := by
        intro _
        have e : tp_ W = (W 107 ((W 80 39).toInt.toNat - 1)).toInt := by unfold tp_; rw [if_pos (by omega), show ((W 80 39).toInt - 1).toNat = (W 80 39).toInt.toNat - 1 by omega]
        rw [e] at htop
        unfold ar_; unfold cS_ at htop; omega
      refine gm_callV X Y fm_Ts_good d_X8_pieceOfC_40 (g_value hAd hZ (V := W) (h := (W 80 39).toInt.toNat) (g := g) hI.fr.1 hI.B (by omega) (by omega) ⟨i2, i3⟩ hsn) wl_X8_286 wm_X8_value wy_X8_value (by decide) ⟨rfl, rfl⟩ (rest := []) rfl rfl hs (by simp [Value.category]) (fun r V17 hp => ?_)
      obtain ⟨rfl, hJ, hz⟩ := hp
      have j1 := hJ.pl
      have hI := hI.comp hJ (by omega) hz (by omega)
      show fm_W p l e { frames := 5, cells := 0, slots := 0, locals := 500 } s m args below meth c (MQ below (rv_Qc D fm_cl fm_tm ad cy fm_nt Z (fun r V1 => r = none ∧ (V 80 33).toInt ≤ (V1 80 33).toInt ∧ pz_I V0 V1 0 (fun _ => True) g 1 ∧ ((V1 80 35).toInt = 0 → pz_I V0 V1 1 cS_ g 1))) args s 0 0 (fm_A fm_tm ad)) D fm_cl fm_tm ad cy (fm_A fm_tm ad) V17 43 ls []
      obtain ⟨q1, q2, q3, q4, q5, q6, q7⟩ := hI.B
      have q8 := hI.pl
      have q9 := hI.c0
      have q10 := hI.hk
      have q11 := hI.en
      refine fm_aload_n X d_X8_pieceOfC_43 rfl hl0 ?_
      refine gm_callV X Y fm_Ts_good d_X8_pieceOfC_44 (g_isGood hAd hZ (V := V17)) wl_X8_217 wm_X8_isGood wy_X8_isGood (by decide) ⟨rfl, rfl⟩ (rest := []) rfl rfl hs (by simp [Value.category]) (fun r V19 hp => ?_)
      obtain ⟨rfl, x20, rfl, hzx20, hx20⟩ := hp
      show fm_W p l e { frames := 5, cells := 0, slots := 0, locals := 500 } s m args below meth c (MQ below (rv_Qc D fm_cl fm_tm ad cy fm_nt Z (fun r V1 => r = none ∧ (V 80 33).toInt ≤ (V1 80 33).toInt ∧ pz_I V0 V1 0 (fun _ => True) g 1 ∧ ((V1 80 35).toInt = 0 → pz_I V0 V1 1 cS_ g 1))) args s 0 0 (fm_A fm_tm ad)) D fm_cl fm_tm ad cy (fm_A fm_tm ad) V17 47 ls [.int x20]
      refine fz_if_ne X 51 d_X8_pieceOfC_47 (by decide) (fun h21 => ?_) (fun h21 => ?_)
      · skip
        refine fm_aload_n X d_X8_pieceOfC_51 rfl hl0 ?_
        refine gm_callV X Y fm_Ts_good d_X8_pieceOfC_52 (g_here hAd hZ (V := V17) (by omega) (by omega)) wl_X8_234 wm_X8_here wy_X8_here (by decide) ⟨rfl, rfl⟩ (rest := []) rfl rfl hs (by simp [Value.category]) (fun r V22 hp => ?_)
        obtain ⟨rfl, x23, rfl, hx23⟩ := hp
        show fm_W p l e { frames := 5, cells := 0, slots := 0, locals := 500 } s m args below meth c (MQ below (rv_Qc D fm_cl fm_tm ad cy fm_nt Z (fun r V1 => r = none ∧ (V 80 33).toInt ≤ (V1 80 33).toInt ∧ pz_I V0 V1 0 (fun _ => True) g 1 ∧ ((V1 80 35).toInt = 0 → pz_I V0 V1 1 cS_ g 1))) args s 0 0 (fm_A fm_tm ad)) D fm_cl fm_tm ad cy (fm_A fm_tm ad) V17 55 ls [.int x23]
        refine fm_istore_n X d_X8_pieceOfC_55 hs hw (by decide) (fun ls hst => ?_)
        have hl0 := hst.2.2.2.1 0 _ (by decide) hl0 rfl
        have hl1 := hst.2.2.1
        have hs := hst.1.trans hs
        have hw := hst.2.1
        clear hst
        refine fm_iload_n X d_X8_pieceOfC_56 rfl hl1 ?_
        refine gm_callS X Y fm_Ts_good d_X8_pieceOfC_57 (g_isSign hAd hZ) wl_X8_289 wm_X8_isSign wy_X8_isSign (by decide) (rest := []) rfl rfl hs (by simp [Value.category]) (fun r V25 hp => ?_)
        obtain ⟨rfl, x26, rfl, hzx26, hx26⟩ := hp
        show fm_W p l e { frames := 5, cells := 0, slots := 0, locals := 500 } s m args below meth c (MQ below (rv_Qc D fm_cl fm_tm ad cy fm_nt Z (fun r V1 => r = none ∧ (V 80 33).toInt ≤ (V1 80 33).toInt ∧ pz_I V0 V1 0 (fun _ => True) g 1 ∧ ((V1 80 35).toInt = 0 → pz_I V0 V1 1 cS_ g 1))) args s 0 0 (fm_A fm_tm ad)) D fm_cl fm_tm ad cy (fm_A fm_tm ad) V17 60 ls [.int x26]
        refine fz_if_ne X 73 d_X8_pieceOfC_60 (by decide) (fun h27 => ?_) (fun h27 => ?_)
        · skip
          refine fm_aload_n X d_X8_pieceOfC_73 rfl hl0 ?_
          refine fm_iload_n X d_X8_pieceOfC_74 rfl hl1 ?_
          have hE : (V17 80 33).toInt < (V17 80 34).toInt := hr_pos (by omega)
          have hI2 := hI
          refine gm_callV X Y fm_Ts_good d_X8_pieceOfC_75 (g_puts hAd hZ (V := V17) (by omega) (by omega)) wl_X8_238 wm_X8_puts wy_X8_puts (by decide) ⟨rfl, rfl⟩ (rest := []) rfl rfl hs (by simp [Value.category]) (fun r V28 hp => ?_)
          obtain ⟨rfl, yx29, zx29, hyx29, hzx29, hV28⟩ := hp
          have tV28_33 : (V28 80 33).toInt = (zx29).toInt := by rw [hV28, u_puts_f]; rfl
          have tV28_34 : (V28 80 34).toInt = (V17 80 34).toInt := by rw [hV28, u_puts_f]; rfl
          have tV28_35 : (V28 80 35).toInt = (V17 80 35).toInt := by rw [hV28, u_puts_f]; rfl
          have tV28_37 : (V28 80 37).toInt = (V17 80 37).toInt := by rw [hV28, u_puts_f]; rfl
          have tV28_38 : (V28 80 38).toInt = (V17 80 38).toInt := by rw [hV28, u_puts_f]; rfl
          have tV28_39 : (V28 80 39).toInt = (yx29).toInt := by rw [hV28, u_puts_f]; rfl
          have tV28_40 : (V28 80 40).toInt = (V17 80 40).toInt := by rw [hV28, u_puts_f]; rfl
          have tV28_41 : (V28 80 41).toInt = (V17 80 41).toInt := by rw [hV28, u_puts_f]; rfl
          show fm_W p l e { frames := 5, cells := 0, slots := 0, locals := 500 } s m args below meth c (MQ below (rv_Qc D fm_cl fm_tm ad cy fm_nt Z (fun r V1 => r = none ∧ (V 80 33).toInt ≤ (V1 80 33).toInt ∧ pz_I V0 V1 0 (fun _ => True) g 1 ∧ ((V1 80 35).toInt = 0 → pz_I V0 V1 1 cS_ g 1))) args s 0 0 (fm_A fm_tm ad)) D fm_cl fm_tm ad cy (fm_A fm_tm ad) V28 78 ls []
          have hI : pz_I V0 V28 1 (fun _ => True) g 0 := by rw [hV28]; exact (hI.mono (fun _ _ _ _ => trivial)).puts (by omega) hyx29 hzx29 (fun _ => trivial) (by rw [show bo_ (x23).toInt = true by unfold bo_; simp only [Bool.or_eq_true, decide_eq_true_eq]; omega]; rfl)
          obtain ⟨q1, q2, q3, q4, q5, q6, q7⟩ := hI.B
          have q8 := hI.pl
          have q9 := hI.c0
          have q10 := hI.hk
          have q11 := hI.en
          refine fm_aload_n X d_X8_pieceOfC_78 rfl hl0 ?_
          obtain ⟨i1, i2, i3⟩ := hI.gd (by omega)
          have hc3 : (V28 107 ((V28 80 39).toInt.toNat - 1)).toInt = (x23).toInt := by rw [hV28, u_puts_s, if_pos (by rw [u_puts_f]; show (yx29).toInt.toNat - 1 = _; omega)]
          refine gm_callV X Y fm_Ts_good d_X8_pieceOfC_79 (g_value hAd hZ (V := V28) (h := (V28 80 39).toInt.toNat) (g := g) hI.fr.1 hI.B (by omega) (by omega) ⟨i2, i3⟩ (fun _ => by unfold ar_; omega)) wl_X8_286 wm_X8_value wy_X8_value (by decide) ⟨rfl, rfl⟩ (rest := []) rfl rfl hs (by simp [Value.category]) (fun r V30 hp => ?_)
          obtain ⟨rfl, hJ, hz⟩ := hp
          have j1 := hJ.pl
          have hI := hI.comp hJ (by omega) hz (by omega)
          show fm_W p l e { frames := 5, cells := 0, slots := 0, locals := 500 } s m args below meth c (MQ below (rv_Qc D fm_cl fm_tm ad cy fm_nt Z (fun r V1 => r = none ∧ (V 80 33).toInt ≤ (V1 80 33).toInt ∧ pz_I V0 V1 0 (fun _ => True) g 1 ∧ ((V1 80 35).toInt = 0 → pz_I V0 V1 1 cS_ g 1))) args s 0 0 (fm_A fm_tm ad)) D fm_cl fm_tm ad cy (fm_A fm_tm ad) V30 82 ls []
          obtain ⟨q1, q2, q3, q4, q5, q6, q7⟩ := hI.B
          have q8 := hI.pl
          have q9 := hI.c0
          have q10 := hI.hk
          have q11 := hI.en
          refine fm_aload_n X d_X8_pieceOfC_82 rfl hl0 ?_
          refine gm_callV X Y fm_Ts_good d_X8_pieceOfC_83 (g_isGood hAd hZ (V := V30)) wl_X8_217 wm_X8_isGood wy_X8_isGood (by decide) ⟨rfl, rfl⟩ (rest := []) rfl rfl hs (by simp [Value.category]) (fun r V32 hp => ?_)
          obtain ⟨rfl, x33, rfl, hzx33, hx33⟩ := hp
          show fm_W p l e { frames := 5, cells := 0, slots := 0, locals := 500 } s m args below meth c (MQ below (rv_Qc D fm_cl fm_tm ad cy fm_nt Z (fun r V1 => r = none ∧ (V 80 33).toInt ≤ (V1 80 33).toInt ∧ pz_I V0 V1 0 (fun _ => True) g 1 ∧ ((V1 80 35).toInt = 0 → pz_I V0 V1 1 cS_ g 1))) args s 0 0 (fm_A fm_tm ad)) D fm_cl fm_tm ad cy (fm_A fm_tm ad) V30 86 ls [.int x33]
          refine fz_if_ne X 90 d_X8_pieceOfC_86 (by decide) (fun h34 => ?_) (fun h34 => ?_)
          · skip
            refine fm_aload_n X d_X8_pieceOfC_90 rfl hl0 ?_
            refine fm_aload_n X d_X8_pieceOfC_91 rfl hl0 ?_
            refine gm_callV X Y fm_Ts_good d_X8_pieceOfC_92 (g_top hAd hZ (V := V30) (by omega) (by omega)) wl_X8_251 wm_X8_top wy_X8_top (by decide) ⟨rfl, rfl⟩ (rest := [.ref (ad 80)]) rfl rfl hs (by simp [Value.category]) (fun r V35 hp => ?_)
            obtain ⟨rfl, x36, rfl, hx36⟩ := hp
            show fm_W p l e { frames := 5, cells := 0, slots := 0, locals := 500 } s m args below meth c (MQ below (rv_Qc D fm_cl fm_tm ad cy fm_nt Z (fun r V1 => r = none ∧ (V 80 33).toInt ≤ (V1 80 33).toInt ∧ pz_I V0 V1 0 (fun _ => True) g 1 ∧ ((V1 80 35).toInt = 0 → pz_I V0 V1 1 cS_ g 1))) args s 0 0 (fm_A fm_tm ad)) D fm_cl fm_tm ad cy (fm_A fm_tm ad) V30 95 ls [.int x36, .ref (ad 80)]
            refine fz_iconst X d_X8_pieceOfC_95 (by decide) (fun v37 hv37 => ?_)
            have hz := hz (by omega)
            have htp : tp_ V30 = (x23).toInt := by unfold tp_; rw [if_pos (by omega), ← hc3, ← hJ.sk _ (by omega)]; congr 3; omega
            refine gm_callV X Y fm_Ts_good d_X8_pieceOfC_96 (g_emit hAd hZ (V := V30) (fun _ => by omega)) wl_X8_260 wm_X8_emit wy_X8_emit (by decide) ⟨rfl, rfl⟩ (rest := []) rfl rfl hs (by simp [Value.category]) (fun r V38 hp => ?_)
            obtain ⟨rfl, ⟨hq, rfl⟩ | ⟨-, yx39, hyx39, hV38⟩⟩ := hp
            · omega
            have tV38_33 : (V38 80 33).toInt = (V30 80 33).toInt := by rw [hV38, u_emit_f]; rfl
            have tV38_34 : (V38 80 34).toInt = (V30 80 34).toInt := by rw [hV38, u_emit_f]; rfl
            have tV38_35 : (V38 80 35).toInt = (V30 80 35).toInt := by rw [hV38, u_emit_f]; rfl
            have tV38_37 : (V38 80 37).toInt = (yx39).toInt := by rw [hV38, u_emit_f]; rfl
            have tV38_38 : (V38 80 38).toInt = (V30 80 38).toInt := by rw [hV38, u_emit_f]; rfl
            have tV38_39 : (V38 80 39).toInt = (V30 80 39).toInt := by rw [hV38, u_emit_f]; rfl
            have tV38_40 : (V38 80 40).toInt = (V30 80 40).toInt := by rw [hV38, u_emit_f]; rfl
            have tV38_41 : (V38 80 41).toInt = (V30 80 41).toInt := by rw [hV38, u_emit_f]; rfl
            show fm_W p l e { frames := 5, cells := 0, slots := 0, locals := 500 } s m args below meth c (MQ below (rv_Qc D fm_cl fm_tm ad cy fm_nt Z (fun r V1 => r = none ∧ (V 80 33).toInt ≤ (V1 80 33).toInt ∧ pz_I V0 V1 0 (fun _ => True) g 1 ∧ ((V1 80 35).toInt = 0 → pz_I V0 V1 1 cS_ g 1))) args s 0 0 (fm_A fm_tm ad)) D fm_cl fm_tm ad cy (fm_A fm_tm ad) V38 99 ls []
            refine fm_aload_n X d_X8_pieceOfC_99 rfl hl0 ?_
            refine fm_dup X d_X8_pieceOfC_100 rfl ?_
            refine fz_getI X 80 d_X8_pieceOfC_101 lkX8_224 rfl rfl ?_
            refine fz_iconst X d_X8_pieceOfC_104 (by decide) (fun v40 hv40 => ?_)
            refine fz_isub X d_X8_pieceOfC_105 (by constructor <;> omega) (fun z41 hz41 => ?_)
            refine fz_put X 80 d_X8_pieceOfC_106 lkX8_224 wr_8_39 rfl rfl (by first | exact Or.inl rfl | (refine Or.inr ?_; constructor <;> omega)) (fun V42 hV42 => ?_)
            have tV42_33 : (V42 80 33).toInt = (V38 80 33).toInt := by rw [hV42, fm_up_ne (by decide)]
            have tV42_34 : (V42 80 34).toInt = (V38 80 34).toInt := by rw [hV42, fm_up_ne (by decide)]
            have tV42_35 : (V42 80 35).toInt = (V38 80 35).toInt := by rw [hV42, fm_up_ne (by decide)]
            have tV42_37 : (V42 80 37).toInt = (V38 80 37).toInt := by rw [hV42, fm_up_ne (by decide)]
            have tV42_38 : (V42 80 38).toInt = (V38 80 38).toInt := by rw [hV42, fm_up_ne (by decide)]
            have tV42_39 : (V42 80 39).toInt = (z41).toInt := by rw [hV42, fm_up_self]
            have tV42_40 : (V42 80 40).toInt = (V38 80 40).toInt := by rw [hV42, fm_up_ne (by decide)]
            have tV42_41 : (V42 80 41).toInt = (V38 80 41).toInt := by rw [hV42, fm_up_ne (by decide)]
            have hI : pz_I V0 V42 1 (fun _ => True) g 1 := by rw [hV42, hV38]; exact hI.out (by omega) hyx39 (by omega) (by omega) (Or.inl ⟨by rw [htp]; unfold bo_; simp only [Bool.or_eq_true, decide_eq_true_eq]; omega, by omega⟩)
            have hI : pz_I V0 V42 1 cS_ g 1 := hI.mono (fun _ k k1 k2 => by
              have e : V42 107 k = V17 107 k := by rw [hV42, fm_up_ne (fun q => absurd q.1 (by decide)), hV38, u_emit_o _ _ _ _ 107 k (by decide), hJ.sk k (by omega), hV28, u_puts_s, if_neg (by omega)]
              rw [e]
              exact (hI2.gd (by omega)).1 k k1 (by omega))
            obtain ⟨q1, q2, q3, q4, q5, q6, q7⟩ := hI.B
            have q8 := hI.pl
            have q9 := hI.c0
            have q10 := hI.hk
            have q11 := hI.en
            refine fm_aload_n X d_X8_pieceOfC_109 rfl hl0 ?_
            refine gm_callV X Y fm_Ts_good d_X8_pieceOfC_110 (g_ends hAd hZ (V := V42) hI (by omega) (fun _ => by show ¬ ((V0 107 (1 - 1)).toInt = 33); rw [show (1 - 1 : Nat) = 0 from rfl, h40]; decide)) wl_X8_292 wm_X8_ends wy_X8_ends (by decide) ⟨rfl, rfl⟩ (rest := []) rfl rfl hs (by simp [Value.category]) (fun r V43 hp => ?_)
            obtain ⟨rfl, hI, hg, g1, g2, g2b, g3⟩ := hp
            show fm_W p l e { frames := 5, cells := 0, slots := 0, locals := 500 } s m args below meth c (MQ below (rv_Qc D fm_cl fm_tm ad cy fm_nt Z (fun r V1 => r = none ∧ (V 80 33).toInt ≤ (V1 80 33).toInt ∧ pz_I V0 V1 0 (fun _ => True) g 1 ∧ ((V1 80 35).toInt = 0 → pz_I V0 V1 1 cS_ g 1))) args s 0 0 (fm_A fm_tm ad)) D fm_cl fm_tm ad cy (fm_A fm_tm ad) V43 113 ls []
            refine gm_vret X Y hr hlk d_X8_pieceOfC_113 ⟨rfl, by omega, hI.weak, fun _ => hI⟩
          · skip
            refine gm_vret X Y hr hlk d_X8_pieceOfC_89 ⟨rfl, by omega, hI.weak, fun q => by omega⟩
        · skip
          refine fm_aload_n X d_X8_pieceOfC_63 rfl hl0 ?_
          refine fz_iconst X d_X8_pieceOfC_64 (by decide) (fun v45 hv45 => ?_)
          refine fm_aload_n X d_X8_pieceOfC_65 rfl hl0 ?_
          refine fz_getI X 80 d_X8_pieceOfC_66 lkX8_208 rfl rfl ?_
          refine gm_callV X Y fm_Ts_good d_X8_pieceOfC_69 (g_wrongs hAd hZ (V := V17) (by omega) (by omega) (by omega)) wl_X8_230 wm_X8_wrongs wy_X8_wrongs (by decide) ⟨rfl, rfl⟩ (rest := []) rfl rfl hs (by simp [Value.category]) (fun r V46 hp => ?_)
          obtain ⟨rfl, yx47, hyx47, hV46⟩ := hp
          have tV46_33 : (V46 80 33).toInt = (V17 80 33).toInt := by rw [hV46, fm_up_ne (by decide)]
          have tV46_34 : (V46 80 34).toInt = (V17 80 34).toInt := by rw [hV46, fm_up_ne (by decide)]
          have tV46_35 : (V46 80 35).toInt = (yx47).toInt := by rw [hV46, fm_up_self]
          have tV46_37 : (V46 80 37).toInt = (V17 80 37).toInt := by rw [hV46, fm_up_ne (by decide)]
          have tV46_38 : (V46 80 38).toInt = (V17 80 38).toInt := by rw [hV46, fm_up_ne (by decide)]
          have tV46_39 : (V46 80 39).toInt = (V17 80 39).toInt := by rw [hV46, fm_up_ne (by decide)]
          have tV46_40 : (V46 80 40).toInt = (V17 80 40).toInt := by rw [hV46, fm_up_ne (by decide)]
          have tV46_41 : (V46 80 41).toInt = (V17 80 41).toInt := by rw [hV46, fm_up_ne (by decide)]
          show fm_W p l e { frames := 5, cells := 0, slots := 0, locals := 500 } s m args below meth c (MQ below (rv_Qc D fm_cl fm_tm ad cy fm_nt Z (fun r V1 => r = none ∧ (V 80 33).toInt ≤ (V1 80 33).toInt ∧ pz_I V0 V1 0 (fun _ => True) g 1 ∧ ((V1 80 35).toInt = 0 → pz_I V0 V1 1 cS_ g 1))) args s 0 0 (fm_A fm_tm ad)) D fm_cl fm_tm ad cy (fm_A fm_tm ad) V46 72 ls []
          have hI : pz_I V0 V46 1 cS_ g 1 := by rw [hV46]; exact hI.bad hyx47
          refine gm_vret X Y hr hlk d_X8_pieceOfC_72 ⟨rfl, by omega, hI.weak, fun _ => hI⟩
      · skip
        refine gm_vret X Y hr hlk d_X8_pieceOfC_50 ⟨rfl, by omega, hI.weak, fun q => by omega⟩
  have loop : ∀ (N : Nat), ∀ (W : fm_V) (ls : Array Slot), ((W 80 34).toInt - (W 80 33).toInt).toNat < N → pz_I V0 W 1 cS_ g 0 → (V 80 33).toInt ≤ (W 80 33).toInt → ls.size = 2 → lv_wf ls → ls[0]? = some (.val (.ref (ad 80))) → fm_W p l e { frames := 5, cells := 0, slots := 0, locals := 500 } s m args below meth c (MQ below (rv_Qc D fm_cl fm_tm ad cy fm_nt Z (fun r V1 => r = none ∧ (V 80 33).toInt ≤ (V1 80 33).toInt ∧ pz_I V0 V1 0 (fun _ => True) g 1 ∧ ((V1 80 35).toInt = 0 → pz_I V0 V1 1 cS_ g 1))) args s 0 0 (fm_A fm_tm ad)) D fm_cl fm_tm ad cy (fm_A fm_tm ad) W 0 ls [] := by
    intro N
    induction N with
    | zero => intro W ls h; omega
    | succ N ih =>
      intro W ls hN hI f1 hs hw hl0
      obtain ⟨q1, q2, q3, q4, q5, q6, q7⟩ := hI.B
      have q8 := hI.pl
      have q9 := hI.c0
      have q10 := hI.hk
      have q11 := hI.en
      refine fm_aload_n X d_X8_pieceOfC_0 rfl hl0 ?_
      refine gm_callV X Y fm_Ts_good d_X8_pieceOfC_1 (g_isGood hAd hZ (V := W)) wl_X8_217 wm_X8_isGood wy_X8_isGood (by decide) ⟨rfl, rfl⟩ (rest := []) rfl rfl hs (by simp [Value.category]) (fun r V48 hp => ?_)
      obtain ⟨rfl, x49, rfl, hzx49, hx49⟩ := hp
      show fm_W p l e { frames := 5, cells := 0, slots := 0, locals := 500 } s m args below meth c (MQ below (rv_Qc D fm_cl fm_tm ad cy fm_nt Z (fun r V1 => r = none ∧ (V 80 33).toInt ≤ (V1 80 33).toInt ∧ pz_I V0 V1 0 (fun _ => True) g 1 ∧ ((V1 80 35).toInt = 0 → pz_I V0 V1 1 cS_ g 1))) args s 0 0 (fm_A fm_tm ad)) D fm_cl fm_tm ad cy (fm_A fm_tm ad) W 4 ls [.int x49]
      refine fz_if_eq X 32 d_X8_pieceOfC_4 (by decide) (fun h50 => ?_) (fun h50 => ?_)
      · skip
        exact tail W ls hI f1 hs hw hl0
      · skip
        refine fm_aload_n X d_X8_pieceOfC_7 rfl hl0 ?_
        refine gm_callV X Y fm_Ts_good d_X8_pieceOfC_8 (g_here hAd hZ (V := W) (by omega) (by omega)) wl_X8_234 wm_X8_here wy_X8_here (by decide) ⟨rfl, rfl⟩ (rest := []) rfl rfl hs (by simp [Value.category]) (fun r V51 hp => ?_)
        obtain ⟨rfl, x52, rfl, hx52⟩ := hp
        show fm_W p l e { frames := 5, cells := 0, slots := 0, locals := 500 } s m args below meth c (MQ below (rv_Qc D fm_cl fm_tm ad cy fm_nt Z (fun r V1 => r = none ∧ (V 80 33).toInt ≤ (V1 80 33).toInt ∧ pz_I V0 V1 0 (fun _ => True) g 1 ∧ ((V1 80 35).toInt = 0 → pz_I V0 V1 1 cS_ g 1))) args s 0 0 (fm_A fm_tm ad)) D fm_cl fm_tm ad cy (fm_A fm_tm ad) W 11 ls [.int x52]
        refine fz_bipush X d_X8_pieceOfC_11 (by decide) (fun v53 hv53 => ?_)
        refine fz_icmp_eq X 25 d_X8_pieceOfC_13 (by decide) (fun h54 => ?_) (fun h54 => ?_)
        · skip
          refine fm_aload_n X d_X8_pieceOfC_25 rfl hl0 ?_
          have hE : (W 80 33).toInt < (W 80 34).toInt := hr_pos (by omega)
          have e91 : hr_ W = 33 ∨ hr_ W = 40 := by omega
          refine gm_callV X Y fm_Ts_good d_X8_pieceOfC_26 (g_opens hAd hZ (V := W) hI (by omega) (by rcases e91 with z | z <;> (rw [z]; rfl)) (by unfold cS_; omega)) wl_X8_263 wm_X8_opens wy_X8_opens (by decide) ⟨rfl, rfl⟩ (rest := []) rfl rfl hs (by simp [Value.category]) (fun r V55 hp => ?_)
          obtain ⟨rfl, hI, g1, g2, g3⟩ := hp
          have g4 := hI.en
          show fm_W p l e { frames := 5, cells := 0, slots := 0, locals := 500 } s m args below meth c (MQ below (rv_Qc D fm_cl fm_tm ad cy fm_nt Z (fun r V1 => r = none ∧ (V 80 33).toInt ≤ (V1 80 33).toInt ∧ pz_I V0 V1 0 (fun _ => True) g 1 ∧ ((V1 80 35).toInt = 0 → pz_I V0 V1 1 cS_ g 1))) args s 0 0 (fm_A fm_tm ad)) D fm_cl fm_tm ad cy (fm_A fm_tm ad) V55 29 ls []
          refine fz_goto X 0 d_X8_pieceOfC_29 (by decide) ?_
          exact ih V55 ls (by omega) hI (by omega) hs hw hl0
        · skip
          refine fm_aload_n X d_X8_pieceOfC_16 rfl hl0 ?_
          refine gm_callV X Y fm_Ts_good d_X8_pieceOfC_17 (g_here hAd hZ (V := W) (by omega) (by omega)) wl_X8_234 wm_X8_here wy_X8_here (by decide) ⟨rfl, rfl⟩ (rest := []) rfl rfl hs (by simp [Value.category]) (fun r V57 hp => ?_)
          obtain ⟨rfl, x58, rfl, hx58⟩ := hp
          show fm_W p l e { frames := 5, cells := 0, slots := 0, locals := 500 } s m args below meth c (MQ below (rv_Qc D fm_cl fm_tm ad cy fm_nt Z (fun r V1 => r = none ∧ (V 80 33).toInt ≤ (V1 80 33).toInt ∧ pz_I V0 V1 0 (fun _ => True) g 1 ∧ ((V1 80 35).toInt = 0 → pz_I V0 V1 1 cS_ g 1))) args s 0 0 (fm_A fm_tm ad)) D fm_cl fm_tm ad cy (fm_A fm_tm ad) W 20 ls [.int x58]
          refine fz_bipush X d_X8_pieceOfC_20 (by decide) (fun v59 hv59 => ?_)
          refine fz_icmp_ne X 32 d_X8_pieceOfC_22 (by decide) (fun h60 => ?_) (fun h60 => ?_)
          · skip
            exact tail W ls hI f1 hs hw hl0
          · skip
            refine fm_aload_n X d_X8_pieceOfC_25 rfl hl0 ?_
            have hE : (W 80 33).toInt < (W 80 34).toInt := hr_pos (by omega)
            have e91 : hr_ W = 33 ∨ hr_ W = 40 := by omega
            refine gm_callV X Y fm_Ts_good d_X8_pieceOfC_26 (g_opens hAd hZ (V := W) hI (by omega) (by rcases e91 with z | z <;> (rw [z]; rfl)) (by unfold cS_; omega)) wl_X8_263 wm_X8_opens wy_X8_opens (by decide) ⟨rfl, rfl⟩ (rest := []) rfl rfl hs (by simp [Value.category]) (fun r V61 hp => ?_)
            obtain ⟨rfl, hI, g1, g2, g3⟩ := hp
            have g4 := hI.en
            show fm_W p l e { frames := 5, cells := 0, slots := 0, locals := 500 } s m args below meth c (MQ below (rv_Qc D fm_cl fm_tm ad cy fm_nt Z (fun r V1 => r = none ∧ (V 80 33).toInt ≤ (V1 80 33).toInt ∧ pz_I V0 V1 0 (fun _ => True) g 1 ∧ ((V1 80 35).toInt = 0 → pz_I V0 V1 1 cS_ g 1))) args s 0 0 (fm_A fm_tm ad)) D fm_cl fm_tm ad cy (fm_A fm_tm ad) V61 29 ls []
            refine fz_goto X 0 d_X8_pieceOfC_29 (by decide) ?_
            exact ih V61 ls (by omega) hI (by omega) hs hw hl0
  exact loop _ V ls (Nat.lt_succ_self _) hI (by omega) hs hw hl0
theorem g_goesBehind {l : Launch} {D : va_G} {ad : Nat → Nat} {cy : Nat → ClassId} {Z : State → Heap → Prop} (hAd : fm_Ad fm_tm ad) (hZ : fm_Zk (fm_A fm_tm ad) Z) {V : fm_V} {V0 : fm_V} {g : Nat} (hI : pz_I V0 V 1 cS_ g 1) (hg : (V 80 35).toInt = 0) (h40 : (V0 107 0).toInt = 40) : gm_M l D fm_cl fm_tm ad cy fm_nt Z yX8_goesBehind (.code yX8_goesBehind prog_10_method_39_code 2 (some .boolean) :: fm_Ts) { frames := 3, cells := 0, slots := 0, locals := 300 } V [.ref (ad 80)] (fun r V1 => ∃ x : Int32, r = some (.int x) ∧ (x.toInt ≠ 0 → (V1 80 35).toInt = 0 ∧ (V 80 33).toInt < (V1 80 33).toInt ∧ pz_I V0 V1 1 cS_ g 0) ∧ (x.toInt = 0 → pz_I V0 V1 0 (fun _ => True) g 1 ∧ ((V1 80 35).toInt = 0 → (V 80 33).toInt < (V1 80 33).toInt ∧ ((V1 80 40).toInt = 0 → pz_I V0 V1 1 cS_ g 1)))) := by
  refine gm_at hAd hZ (by decide +kernel) (by simp [lg_sl, Value.category]) ?_
  intro p e s m args below meth c ls hr hlk X Y hl
  have hl0 : ls[0]? = some (.val (.ref (ad 80))) := hl.2.2 (0, .ref (ad 80)) (by simp [lv_args, Value.category])
  have hs := hl.1
  have hw := hl.2.1
  clear hl
  obtain ⟨q1, q2, q3, q4, q5, q6, q7⟩ := hI.B
  have q8 := hI.pl
  have q9 := hI.c0
  have q10 := hI.hk
  have q11 := hI.en
  have hI0 := hI
  refine fm_aload_n X d_X8_goesBehind_0 rfl hl0 ?_
  refine gm_callV X Y fm_Ts_good d_X8_goesBehind_1 (g_here hAd hZ (V := V) (by omega) (by omega)) wl_X8_234 wm_X8_here wy_X8_here (by decide) ⟨rfl, rfl⟩ (rest := []) rfl rfl hs (by simp [Value.category]) (fun r V11 hp => ?_)
  obtain ⟨rfl, x12, rfl, hx12⟩ := hp
  show fm_W p l e { frames := 3, cells := 0, slots := 0, locals := 300 } s m args below meth c (MQ below (rv_Qc D fm_cl fm_tm ad cy fm_nt Z (fun r V1 => ∃ x : Int32, r = some (.int x) ∧ (x.toInt ≠ 0 → (V1 80 35).toInt = 0 ∧ (V 80 33).toInt < (V1 80 33).toInt ∧ pz_I V0 V1 1 cS_ g 0) ∧ (x.toInt = 0 → pz_I V0 V1 0 (fun _ => True) g 1 ∧ ((V1 80 35).toInt = 0 → (V 80 33).toInt < (V1 80 33).toInt ∧ ((V1 80 40).toInt = 0 → pz_I V0 V1 1 cS_ g 1))))) args s 0 0 (fm_A fm_tm ad)) D fm_cl fm_tm ad cy (fm_A fm_tm ad) V 4 ls [.int x12]
  refine fm_istore_n X d_X8_goesBehind_4 hs hw (by decide) (fun ls hst => ?_)
  have hl0 := hst.2.2.2.1 0 _ (by decide) hl0 rfl
  have hl1 := hst.2.2.1
  have hs := hst.1.trans hs
  have hw := hst.2.1
  clear hst
  refine fm_iload_n X d_X8_goesBehind_5 rfl hl1 ?_
  refine fz_bipush X d_X8_goesBehind_6 (by decide) (fun v14 hv14 => ?_)
  refine fz_icmp_eq X 17 d_X8_goesBehind_8 (by decide) (fun h15 => ?_) (fun h15 => ?_)
  · skip
    refine fm_aload_n X d_X8_goesBehind_17 rfl hl0 ?_
    refine fm_iload_n X d_X8_goesBehind_18 rfl hl1 ?_
    refine fz_bipush X d_X8_goesBehind_19 (by decide) (fun v16 hv16 => ?_)
    refine fz_icmp_ne X 28 d_X8_goesBehind_21 (by decide) (fun h17 => ?_) (fun h17 => ?_)
    · skip
      refine fz_iconst X d_X8_goesBehind_28 (by decide) (fun v18 hv18 => ?_)
      have hE : (V 80 33).toInt < (V 80 34).toInt := hr_pos (by omega)
      refine gm_callV X Y fm_Ts_good d_X8_goesBehind_29 (g_joins hAd hZ (V := V) (x1 := v18) hI hg (fun _ => by show ¬ ((V0 107 (1 - 1)).toInt = 38 ∨ (V0 107 (1 - 1)).toInt = 124); rw [show (1 - 1 : Nat) = 0 from rfl, h40]; decide)) wl_X8_295 wm_X8_joins wy_X8_joins (by decide) ⟨rfl, rfl⟩ (rest := []) rfl rfl hs (by simp [Value.category]) (fun r V19 hp => ?_)
      obtain ⟨rfl, hI, hg, g1, g2, g2b, g3, g4⟩ := hp
      show fm_W p l e { frames := 3, cells := 0, slots := 0, locals := 300 } s m args below meth c (MQ below (rv_Qc D fm_cl fm_tm ad cy fm_nt Z (fun r V1 => ∃ x : Int32, r = some (.int x) ∧ (x.toInt ≠ 0 → (V1 80 35).toInt = 0 ∧ (V 80 33).toInt < (V1 80 33).toInt ∧ pz_I V0 V1 1 cS_ g 0) ∧ (x.toInt = 0 → pz_I V0 V1 0 (fun _ => True) g 1 ∧ ((V1 80 35).toInt = 0 → (V 80 33).toInt < (V1 80 33).toInt ∧ ((V1 80 40).toInt = 0 → pz_I V0 V1 1 cS_ g 1))))) args s 0 0 (fm_A fm_tm ad)) D fm_cl fm_tm ad cy (fm_A fm_tm ad) V19 32 ls []
      obtain ⟨q1, q2, q3, q4, q5, q6, q7⟩ := hI.B
      have q8 := hI.pl
      have q9 := hI.c0
      have q10 := hI.hk
      have q11 := hI.en
      refine fm_aload_n X d_X8_goesBehind_32 rfl hl0 ?_
      refine fm_iload_n X d_X8_goesBehind_33 rfl hl1 ?_
      refine gm_callV X Y fm_Ts_good d_X8_goesBehind_34 (g_puts hAd hZ (V := V19) (by omega) (by omega)) wl_X8_238 wm_X8_puts wy_X8_puts (by decide) ⟨rfl, rfl⟩ (rest := []) rfl rfl hs (by simp [Value.category]) (fun r V21 hp => ?_)
      obtain ⟨rfl, yx22, zx22, hyx22, hzx22, hV21⟩ := hp
      have tV21_33 : (V21 80 33).toInt = (zx22).toInt := by rw [hV21, u_puts_f]; rfl
      have tV21_34 : (V21 80 34).toInt = (V19 80 34).toInt := by rw [hV21, u_puts_f]; rfl
      have tV21_35 : (V21 80 35).toInt = (V19 80 35).toInt := by rw [hV21, u_puts_f]; rfl
      have tV21_37 : (V21 80 37).toInt = (V19 80 37).toInt := by rw [hV21, u_puts_f]; rfl
      have tV21_38 : (V21 80 38).toInt = (V19 80 38).toInt := by rw [hV21, u_puts_f]; rfl
      have tV21_39 : (V21 80 39).toInt = (yx22).toInt := by rw [hV21, u_puts_f]; rfl
      have tV21_40 : (V21 80 40).toInt = (V19 80 40).toInt := by rw [hV21, u_puts_f]; rfl
      have tV21_41 : (V21 80 41).toInt = (V19 80 41).toInt := by rw [hV21, u_puts_f]; rfl
      show fm_W p l e { frames := 3, cells := 0, slots := 0, locals := 300 } s m args below meth c (MQ below (rv_Qc D fm_cl fm_tm ad cy fm_nt Z (fun r V1 => ∃ x : Int32, r = some (.int x) ∧ (x.toInt ≠ 0 → (V1 80 35).toInt = 0 ∧ (V 80 33).toInt < (V1 80 33).toInt ∧ pz_I V0 V1 1 cS_ g 0) ∧ (x.toInt = 0 → pz_I V0 V1 0 (fun _ => True) g 1 ∧ ((V1 80 35).toInt = 0 → (V 80 33).toInt < (V1 80 33).toInt ∧ ((V1 80 40).toInt = 0 → pz_I V0 V1 1 cS_ g 1))))) args s 0 0 (fm_A fm_tm ad)) D fm_cl fm_tm ad cy (fm_A fm_tm ad) V21 37 ls []
      have hI : pz_I V0 V21 1 cS_ g 0 := by rw [hV21]; exact hI.puts (by omega) hyx22 hzx22 (fun _ => by unfold cS_; omega) (by rw [show bo_ (x12).toInt = true by unfold bo_; simp only [Bool.or_eq_true, decide_eq_true_eq]; omega]; rfl)
      refine fz_iconst X d_X8_goesBehind_37 (by decide) (fun v23 hv23 => ?_)
      refine gm_zret X Y hr hlk (by first | exact Or.inl (zi_inj hv23) | exact Or.inr (zi_inj hv23) | assumption) d_X8_goesBehind_38 ⟨_, rfl, fun _ => ⟨by omega, by omega, hI⟩, fun q => by omega⟩
    · skip
      refine fz_iconst X d_X8_goesBehind_24 (by decide) (fun v24 hv24 => ?_)
      refine fz_goto X 29 d_X8_goesBehind_25 (by decide) ?_
      have hE : (V 80 33).toInt < (V 80 34).toInt := hr_pos (by omega)
      refine gm_callV X Y fm_Ts_good d_X8_goesBehind_29 (g_joins hAd hZ (V := V) (x1 := v24) hI hg (fun _ => by show ¬ ((V0 107 (1 - 1)).toInt = 38 ∨ (V0 107 (1 - 1)).toInt = 124); rw [show (1 - 1 : Nat) = 0 from rfl, h40]; decide)) wl_X8_295 wm_X8_joins wy_X8_joins (by decide) ⟨rfl, rfl⟩ (rest := []) rfl rfl hs (by simp [Value.category]) (fun r V25 hp => ?_)
      obtain ⟨rfl, hI, hg, g1, g2, g2b, g3, g4⟩ := hp
      show fm_W p l e { frames := 3, cells := 0, slots := 0, locals := 300 } s m args below meth c (MQ below (rv_Qc D fm_cl fm_tm ad cy fm_nt Z (fun r V1 => ∃ x : Int32, r = some (.int x) ∧ (x.toInt ≠ 0 → (V1 80 35).toInt = 0 ∧ (V 80 33).toInt < (V1 80 33).toInt ∧ pz_I V0 V1 1 cS_ g 0) ∧ (x.toInt = 0 → pz_I V0 V1 0 (fun _ => True) g 1 ∧ ((V1 80 35).toInt = 0 → (V 80 33).toInt < (V1 80 33).toInt ∧ ((V1 80 40).toInt = 0 → pz_I V0 V1 1 cS_ g 1))))) args s 0 0 (fm_A fm_tm ad)) D fm_cl fm_tm ad cy (fm_A fm_tm ad) V25 32 ls []
      obtain ⟨q1, q2, q3, q4, q5, q6, q7⟩ := hI.B
      have q8 := hI.pl
      have q9 := hI.c0
      have q10 := hI.hk
      have q11 := hI.en
      refine fm_aload_n X d_X8_goesBehind_32 rfl hl0 ?_
      refine fm_iload_n X d_X8_goesBehind_33 rfl hl1 ?_
      refine gm_callV X Y fm_Ts_good d_X8_goesBehind_34 (g_puts hAd hZ (V := V25) (by omega) (by omega)) wl_X8_238 wm_X8_puts wy_X8_puts (by decide) ⟨rfl, rfl⟩ (rest := []) rfl rfl hs (by simp [Value.category]) (fun r V27 hp => ?_)
      obtain ⟨rfl, yx28, zx28, hyx28, hzx28, hV27⟩ := hp
      have tV27_33 : (V27 80 33).toInt = (zx28).toInt := by rw [hV27, u_puts_f]; rfl
      have tV27_34 : (V27 80 34).toInt = (V25 80 34).toInt := by rw [hV27, u_puts_f]; rfl
      have tV27_35 : (V27 80 35).toInt = (V25 80 35).toInt := by rw [hV27, u_puts_f]; rfl
      have tV27_37 : (V27 80 37).toInt = (V25 80 37).toInt := by rw [hV27, u_puts_f]; rfl
      have tV27_38 : (V27 80 38).toInt = (V25 80 38).toInt := by rw [hV27, u_puts_f]; rfl
      have tV27_39 : (V27 80 39).toInt = (yx28).toInt := by rw [hV27, u_puts_f]; rfl
      have tV27_40 : (V27 80 40).toInt = (V25 80 40).toInt := by rw [hV27, u_puts_f]; rfl
      have tV27_41 : (V27 80 41).toInt = (V25 80 41).toInt := by rw [hV27, u_puts_f]; rfl
      show fm_W p l e { frames := 3, cells := 0, slots := 0, locals := 300 } s m args below meth c (MQ below (rv_Qc D fm_cl fm_tm ad cy fm_nt Z (fun r V1 => ∃ x : Int32, r = some (.int x) ∧ (x.toInt ≠ 0 → (V1 80 35).toInt = 0 ∧ (V 80 33).toInt < (V1 80 33).toInt ∧ pz_I V0 V1 1 cS_ g 0) ∧ (x.toInt = 0 → pz_I V0 V1 0 (fun _ => True) g 1 ∧ ((V1 80 35).toInt = 0 → (V 80 33).toInt < (V1 80 33).toInt ∧ ((V1 80 40).toInt = 0 → pz_I V0 V1 1 cS_ g 1))))) args s 0 0 (fm_A fm_tm ad)) D fm_cl fm_tm ad cy (fm_A fm_tm ad) V27 37 ls []
      have hI : pz_I V0 V27 1 cS_ g 0 := by rw [hV27]; exact hI.puts (by omega) hyx28 hzx28 (fun _ => by unfold cS_; omega) (by rw [show bo_ (x12).toInt = true by unfold bo_; simp only [Bool.or_eq_true, decide_eq_true_eq]; omega]; rfl)
      refine fz_iconst X d_X8_goesBehind_37 (by decide) (fun v29 hv29 => ?_)
      refine gm_zret X Y hr hlk (by first | exact Or.inl (zi_inj hv29) | exact Or.inr (zi_inj hv29) | assumption) d_X8_goesBehind_38 ⟨_, rfl, fun _ => ⟨by omega, by omega, hI⟩, fun q => by omega⟩
  · skip
    refine fm_iload_n X d_X8_goesBehind_11 rfl hl1 ?_
    refine fz_bipush X d_X8_goesBehind_12 (by decide) (fun v30 hv30 => ?_)
    refine fz_icmp_ne X 39 d_X8_goesBehind_14 (by decide) (fun h31 => ?_) (fun h31 => ?_)
    · skip
      refine fm_iload_n X d_X8_goesBehind_39 rfl hl1 ?_
      refine fz_bipush X d_X8_goesBehind_40 (by decide) (fun v32 hv32 => ?_)
      refine fz_icmp_eq X 56 d_X8_goesBehind_42 (by decide) (fun h33 => ?_) (fun h33 => ?_)
      · skip
        refine fm_aload_n X d_X8_goesBehind_56 rfl hl0 ?_
        refine fz_iconst X d_X8_goesBehind_57 (by decide) (fun v34 hv34 => ?_)
        have hE : (V 80 33).toInt < (V 80 34).toInt := hr_pos (by omega)
        refine gm_callV X Y fm_Ts_good d_X8_goesBehind_58 (g_joins hAd hZ (V := V) (x1 := v34) hI hg (fun _ => by show ¬ ((V0 107 (1 - 1)).toInt = 38 ∨ (V0 107 (1 - 1)).toInt = 124); rw [show (1 - 1 : Nat) = 0 from rfl, h40]; decide)) wl_X8_295 wm_X8_joins wy_X8_joins (by decide) ⟨rfl, rfl⟩ (rest := []) rfl rfl hs (by simp [Value.category]) (fun r V35 hp => ?_)
        obtain ⟨rfl, hI, hg, g1, g2, g2b, g3, g4⟩ := hp
        show fm_W p l e { frames := 3, cells := 0, slots := 0, locals := 300 } s m args below meth c (MQ below (rv_Qc D fm_cl fm_tm ad cy fm_nt Z (fun r V1 => ∃ x : Int32, r = some (.int x) ∧ (x.toInt ≠ 0 → (V1 80 35).toInt = 0 ∧ (V 80 33).toInt < (V1 80 33).toInt ∧ pz_I V0 V1 1 cS_ g 0) ∧ (x.toInt = 0 → pz_I V0 V1 0 (fun _ => True) g 1 ∧ ((V1 80 35).toInt = 0 → (V 80 33).toInt < (V1 80 33).toInt ∧ ((V1 80 40).toInt = 0 → pz_I V0 V1 1 cS_ g 1))))) args s 0 0 (fm_A fm_tm ad)) D fm_cl fm_tm ad cy (fm_A fm_tm ad) V35 61 ls []
        obtain ⟨q1, q2, q3, q4, q5, q6, q7⟩ := hI.B
        have q8 := hI.pl
        have q9 := hI.c0
        have q10 := hI.hk
        have q11 := hI.en
        refine fm_aload_n X d_X8_goesBehind_61 rfl hl0 ?_
        refine fm_dup X d_X8_goesBehind_62 rfl ?_
        refine fz_getI X 80 d_X8_goesBehind_63 lkX8_224 rfl rfl ?_
        refine fz_iconst X d_X8_goesBehind_66 (by decide) (fun v37 hv37 => ?_)
        refine fz_isub X d_X8_goesBehind_67 (by constructor <;> omega) (fun z38 hz38 => ?_)
        refine fz_put X 80 d_X8_goesBehind_68 lkX8_224 wr_8_39 rfl rfl (by first | exact Or.inl rfl | (refine Or.inr ?_; constructor <;> omega)) (fun V39 hV39 => ?_)
        have tV39_33 : (V39 80 33).toInt = (V35 80 33).toInt := by rw [hV39, fm_up_ne (by decide)]
        have tV39_34 : (V39 80 34).toInt = (V35 80 34).toInt := by rw [hV39, fm_up_ne (by decide)]
        have tV39_35 : (V39 80 35).toInt = (V35 80 35).toInt := by rw [hV39, fm_up_ne (by decide)]
        have tV39_37 : (V39 80 37).toInt = (V35 80 37).toInt := by rw [hV39, fm_up_ne (by decide)]
        have tV39_38 : (V39 80 38).toInt = (V35 80 38).toInt := by rw [hV39, fm_up_ne (by decide)]
        have tV39_39 : (V39 80 39).toInt = (z38).toInt := by rw [hV39, fm_up_self]
        have tV39_40 : (V39 80 40).toInt = (V35 80 40).toInt := by rw [hV39, fm_up_ne (by decide)]
        have tV39_41 : (V39 80 41).toInt = (V35 80 41).toInt := by rw [hV39, fm_up_ne (by decide)]
        refine fm_aload_n X d_X8_goesBehind_71 rfl hl0 ?_
        refine fm_dup X d_X8_goesBehind_72 rfl ?_
        refine fz_getI X 80 d_X8_goesBehind_73 lkX8_227 rfl rfl ?_
        refine fz_iconst X d_X8_goesBehind_76 (by decide) (fun v40 hv40 => ?_)
        refine fa_isub X d_X8_goesBehind_77 (fun z41 => ?_)
        refine fz_put X 80 d_X8_goesBehind_78 lkX8_227 wr_8_38 rfl rfl (by first | exact Or.inl rfl | (refine Or.inr ?_; constructor <;> omega)) (fun V42 hV42 => ?_)
        have tV42_33 : (V42 80 33).toInt = (V39 80 33).toInt := by rw [hV42, fm_up_ne (by decide)]
        have tV42_34 : (V42 80 34).toInt = (V39 80 34).toInt := by rw [hV42, fm_up_ne (by decide)]
        have tV42_35 : (V42 80 35).toInt = (V39 80 35).toInt := by rw [hV42, fm_up_ne (by decide)]
        have tV42_37 : (V42 80 37).toInt = (V39 80 37).toInt := by rw [hV42, fm_up_ne (by decide)]
        have tV42_38 : (V42 80 38).toInt = (z41).toInt := by rw [hV42, fm_up_self]
        have tV42_39 : (V42 80 39).toInt = (V39 80 39).toInt := by rw [hV42, fm_up_ne (by decide)]
        have tV42_40 : (V42 80 40).toInt = (V39 80 40).toInt := by rw [hV42, fm_up_ne (by decide)]
        have tV42_41 : (V42 80 41).toInt = (V39 80 41).toInt := by rw [hV42, fm_up_ne (by decide)]
        refine fm_aload_n X d_X8_goesBehind_81 rfl hl0 ?_
        refine fm_dup X d_X8_goesBehind_82 rfl ?_
        refine fz_getI X 80 d_X8_goesBehind_83 lkX8_208 rfl rfl ?_
        refine fz_iconst X d_X8_goesBehind_86 (by decide) (fun v43 hv43 => ?_)
        refine fz_iadd X d_X8_goesBehind_87 (by constructor <;> omega) (fun z44 hz44 => ?_)
        refine fz_put X 80 d_X8_goesBehind_88 lkX8_208 wr_8_33 rfl rfl (by first | exact Or.inl rfl | (refine Or.inr ?_; constructor <;> omega)) (fun V45 hV45 => ?_)
        have tV45_33 : (V45 80 33).toInt = (z44).toInt := by rw [hV45, fm_up_self]
        have tV45_34 : (V45 80 34).toInt = (V42 80 34).toInt := by rw [hV45, fm_up_ne (by decide)]
        have tV45_35 : (V45 80 35).toInt = (V42 80 35).toInt := by rw [hV45, fm_up_ne (by decide)]
        have tV45_37 : (V45 80 37).toInt = (V42 80 37).toInt := by rw [hV45, fm_up_ne (by decide)]
        have tV45_38 : (V45 80 38).toInt = (V42 80 38).toInt := by rw [hV45, fm_up_ne (by decide)]
        have tV45_39 : (V45 80 39).toInt = (V42 80 39).toInt := by rw [hV45, fm_up_ne (by decide)]
        have tV45_40 : (V45 80 40).toInt = (V42 80 40).toInt := by rw [hV45, fm_up_ne (by decide)]
        have tV45_41 : (V45 80 41).toInt = (V42 80 41).toInt := by rw [hV45, fm_up_ne (by decide)]
        have htop : cS_ (tp_ V35) := by
          by_cases e : (1 : Int) < (V35 80 39).toInt
          · exact hI.topS (by omega) (by omega)
          · unfold cS_; left; unfold tp_; rw [if_pos (by omega), show ((V35 80 39).toInt - 1).toNat = 0 by omega, hI.sk 0 (by decide)]; exact h40
        have hbo : bo_ (tp_ V35) = false := by
          have g4 := g4 (by omega)
          unfold cS_ at htop
          have e : tp_ V35 = 40 ∨ tp_ V35 = 33 := by omega
          rcases e with e | e <;> (rw [e]; rfl)
        have hW : pz_I V0 V45 0 (fun _ => True) g 1 := by rw [hV45, hV42, hV39]; exact hI.weak.close hg (by omega) (by omega) (by omega) (by omega) hbo
        have hO : (1 : Int) < (V35 80 39).toInt → pz_I V0 V45 1 cS_ g 1 := fun hgt => by rw [hV45, hV42, hV39]; exact hI.close hg (by omega) (by omega) (by omega) hgt hbo
        refine fm_aload_n X d_X8_goesBehind_91 rfl hl0 ?_
        refine fm_aload_n X d_X8_goesBehind_92 rfl hl0 ?_
        refine fz_getI X 80 d_X8_goesBehind_93 lkX8_224 rfl rfl ?_
        refine fz_if_ne X 103 d_X8_goesBehind_96 (by decide) (fun h46 => ?_) (fun h46 => ?_)
        · skip
          refine fz_iconst X d_X8_goesBehind_103 (by decide) (fun v47 hv47 => ?_)
          refine fz_put X 80 d_X8_goesBehind_104 lkX8_298 wr_8_40 rfl rfl (by first | exact Or.inl rfl | (refine Or.inr ?_; constructor <;> omega)) (fun V48 hV48 => ?_)
          have tV48_33 : (V48 80 33).toInt = (V45 80 33).toInt := by rw [hV48, fm_up_ne (by decide)]
          have tV48_34 : (V48 80 34).toInt = (V45 80 34).toInt := by rw [hV48, fm_up_ne (by decide)]
          have tV48_35 : (V48 80 35).toInt = (V45 80 35).toInt := by rw [hV48, fm_up_ne (by decide)]
          have tV48_37 : (V48 80 37).toInt = (V45 80 37).toInt := by rw [hV48, fm_up_ne (by decide)]
          have tV48_38 : (V48 80 38).toInt = (V45 80 38).toInt := by rw [hV48, fm_up_ne (by decide)]
          have tV48_39 : (V48 80 39).toInt = (V45 80 39).toInt := by rw [hV48, fm_up_ne (by decide)]
          have tV48_40 : (V48 80 40).toInt = (v47).toInt := by rw [hV48, fm_up_self]
          have tV48_41 : (V48 80 41).toInt = (V45 80 41).toInt := by rw [hV48, fm_up_ne (by decide)]
          have hW : pz_I V0 V48 0 (fun _ => True) g 1 := by rw [hV48]; exact hW.fld (Or.inr ⟨Or.inl rfl, by omega⟩)
          have hO : (1 : Int) < (V35 80 39).toInt → pz_I V0 V48 1 cS_ g 1 := fun hgt => by rw [hV48]; exact (hO hgt).fld (Or.inr ⟨Or.inl rfl, by omega⟩)
          refine fm_aload_n X d_X8_goesBehind_107 rfl hl0 ?_
          refine fz_getI X 80 d_X8_goesBehind_108 lkX8_298 rfl rfl ?_
          refine fz_if_ne X 118 d_X8_goesBehind_111 (by decide) (fun h49 => ?_) (fun h49 => ?_)
          · skip
            refine fz_iconst X d_X8_goesBehind_118 (by decide) (fun v50 hv50 => ?_)
            refine gm_zret X Y hr hlk (by first | exact Or.inl (zi_inj hv50) | exact Or.inr (zi_inj hv50) | assumption) d_X8_goesBehind_119 ⟨_, rfl, fun q => by omega, fun _ => ⟨hW, fun _ => ⟨by omega, fun q => by omega⟩⟩⟩
          · skip
            refine fm_aload_n X d_X8_goesBehind_114 rfl hl0 ?_
            have hI := hO (by omega)
            refine gm_callV X Y fm_Ts_good d_X8_goesBehind_115 (g_ends hAd hZ (V := V48) hI (by omega) (fun _ => by show ¬ ((V0 107 (1 - 1)).toInt = 33); rw [show (1 - 1 : Nat) = 0 from rfl, h40]; decide)) wl_X8_292 wm_X8_ends wy_X8_ends (by decide) ⟨rfl, rfl⟩ (rest := []) rfl rfl hs (by simp [Value.category]) (fun r V51 hp => ?_)
            obtain ⟨rfl, hI, hg, k1, k2, k2b, k3⟩ := hp
            show fm_W p l e { frames := 3, cells := 0, slots := 0, locals := 300 } s m args below meth c (MQ below (rv_Qc D fm_cl fm_tm ad cy fm_nt Z (fun r V1 => ∃ x : Int32, r = some (.int x) ∧ (x.toInt ≠ 0 → (V1 80 35).toInt = 0 ∧ (V 80 33).toInt < (V1 80 33).toInt ∧ pz_I V0 V1 1 cS_ g 0) ∧ (x.toInt = 0 → pz_I V0 V1 0 (fun _ => True) g 1 ∧ ((V1 80 35).toInt = 0 → (V 80 33).toInt < (V1 80 33).toInt ∧ ((V1 80 40).toInt = 0 → pz_I V0 V1 1 cS_ g 1))))) args s 0 0 (fm_A fm_tm ad)) D fm_cl fm_tm ad cy (fm_A fm_tm ad) V51 118 ls []
            refine fz_iconst X d_X8_goesBehind_118 (by decide) (fun v53 hv53 => ?_)
            refine gm_zret X Y hr hlk (by first | exact Or.inl (zi_inj hv53) | exact Or.inr (zi_inj hv53) | assumption) d_X8_goesBehind_119 ⟨_, rfl, fun q => by omega, fun _ => ⟨hI.weak, fun _ => ⟨by omega, fun _ => hI⟩⟩⟩
        · skip
          refine fz_iconst X d_X8_goesBehind_99 (by decide) (fun v54 hv54 => ?_)
          refine fz_goto X 104 d_X8_goesBehind_100 (by decide) ?_
          refine fz_put X 80 d_X8_goesBehind_104 lkX8_298 wr_8_40 rfl rfl (by first | exact Or.inl rfl | (refine Or.inr ?_; constructor <;> omega)) (fun V55 hV55 => ?_)
          have tV55_33 : (V55 80 33).toInt = (V45 80 33).toInt := by rw [hV55, fm_up_ne (by decide)]
          have tV55_34 : (V55 80 34).toInt = (V45 80 34).toInt := by rw [hV55, fm_up_ne (by decide)]
          have tV55_35 : (V55 80 35).toInt = (V45 80 35).toInt := by rw [hV55, fm_up_ne (by decide)]
          have tV55_37 : (V55 80 37).toInt = (V45 80 37).toInt := by rw [hV55, fm_up_ne (by decide)]
          have tV55_38 : (V55 80 38).toInt = (V45 80 38).toInt := by rw [hV55, fm_up_ne (by decide)]
          have tV55_39 : (V55 80 39).toInt = (V45 80 39).toInt := by rw [hV55, fm_up_ne (by decide)]
          have tV55_40 : (V55 80 40).toInt = (v54).toInt := by rw [hV55, fm_up_self]
          have tV55_41 : (V55 80 41).toInt = (V45 80 41).toInt := by rw [hV55, fm_up_ne (by decide)]
          have hW : pz_I V0 V55 0 (fun _ => True) g 1 := by rw [hV55]; exact hW.fld (Or.inr ⟨Or.inl rfl, by omega⟩)
          have hO : (1 : Int) < (V35 80 39).toInt → pz_I V0 V55 1 cS_ g 1 := fun hgt => by rw [hV55]; exact (hO hgt).fld (Or.inr ⟨Or.inl rfl, by omega⟩)
          refine fm_aload_n X d_X8_goesBehind_107 rfl hl0 ?_
          refine fz_getI X 80 d_X8_goesBehind_108 lkX8_298 rfl rfl ?_
          refine fz_if_ne X 118 d_X8_goesBehind_111 (by decide) (fun h56 => ?_) (fun h56 => ?_)
          · skip
            refine fz_iconst X d_X8_goesBehind_118 (by decide) (fun v57 hv57 => ?_)
            refine gm_zret X Y hr hlk (by first | exact Or.inl (zi_inj hv57) | exact Or.inr (zi_inj hv57) | assumption) d_X8_goesBehind_119 ⟨_, rfl, fun q => by omega, fun _ => ⟨hW, fun _ => ⟨by omega, fun q => by omega⟩⟩⟩
          · skip
            refine fm_aload_n X d_X8_goesBehind_114 rfl hl0 ?_
            have hI := hO (by omega)
            refine gm_callV X Y fm_Ts_good d_X8_goesBehind_115 (g_ends hAd hZ (V := V55) hI (by omega) (fun _ => by show ¬ ((V0 107 (1 - 1)).toInt = 33); rw [show (1 - 1 : Nat) = 0 from rfl, h40]; decide)) wl_X8_292 wm_X8_ends wy_X8_ends (by decide) ⟨rfl, rfl⟩ (rest := []) rfl rfl hs (by simp [Value.category]) (fun r V58 hp => ?_)
            obtain ⟨rfl, hI, hg, k1, k2, k2b, k3⟩ := hp
            show fm_W p l e { frames := 3, cells := 0, slots := 0, locals := 300 } s m args below meth c (MQ below (rv_Qc D fm_cl fm_tm ad cy fm_nt Z (fun r V1 => ∃ x : Int32, r = some (.int x) ∧ (x.toInt ≠ 0 → (V1 80 35).toInt = 0 ∧ (V 80 33).toInt < (V1 80 33).toInt ∧ pz_I V0 V1 1 cS_ g 0) ∧ (x.toInt = 0 → pz_I V0 V1 0 (fun _ => True) g 1 ∧ ((V1 80 35).toInt = 0 → (V 80 33).toInt < (V1 80 33).toInt ∧ ((V1 80 40).toInt = 0 → pz_I V0 V1 1 cS_ g 1))))) args s 0 0 (fm_A fm_tm ad)) D fm_cl fm_tm ad cy (fm_A fm_tm ad) V58 118 ls []
            refine fz_iconst X d_X8_goesBehind_118 (by decide) (fun v60 hv60 => ?_)
            refine gm_zret X Y hr hlk (by first | exact Or.inl (zi_inj hv60) | exact Or.inr (zi_inj hv60) | assumption) d_X8_goesBehind_119 ⟨_, rfl, fun q => by omega, fun _ => ⟨hI.weak, fun _ => ⟨by omega, fun _ => hI⟩⟩⟩
      · skip
        refine fm_aload_n X d_X8_goesBehind_45 rfl hl0 ?_
        refine fz_iconst X d_X8_goesBehind_46 (by decide) (fun v61 hv61 => ?_)
        refine fm_aload_n X d_X8_goesBehind_47 rfl hl0 ?_
        refine fz_getI X 80 d_X8_goesBehind_48 lkX8_208 rfl rfl ?_
        refine gm_callV X Y fm_Ts_good d_X8_goesBehind_51 (g_wrongs hAd hZ (V := V) (by omega) (by omega) (by omega)) wl_X8_230 wm_X8_wrongs wy_X8_wrongs (by decide) ⟨rfl, rfl⟩ (rest := []) rfl rfl hs (by simp [Value.category]) (fun r V62 hp => ?_)
        obtain ⟨rfl, yx63, hyx63, hV62⟩ := hp
        have tV62_33 : (V62 80 33).toInt = (V 80 33).toInt := by rw [hV62, fm_up_ne (by decide)]
        have tV62_34 : (V62 80 34).toInt = (V 80 34).toInt := by rw [hV62, fm_up_ne (by decide)]
        have tV62_35 : (V62 80 35).toInt = (yx63).toInt := by rw [hV62, fm_up_self]
        have tV62_37 : (V62 80 37).toInt = (V 80 37).toInt := by rw [hV62, fm_up_ne (by decide)]
        have tV62_38 : (V62 80 38).toInt = (V 80 38).toInt := by rw [hV62, fm_up_ne (by decide)]
        have tV62_39 : (V62 80 39).toInt = (V 80 39).toInt := by rw [hV62, fm_up_ne (by decide)]
        have tV62_40 : (V62 80 40).toInt = (V 80 40).toInt := by rw [hV62, fm_up_ne (by decide)]
        have tV62_41 : (V62 80 41).toInt = (V 80 41).toInt := by rw [hV62, fm_up_ne (by decide)]
        show fm_W p l e { frames := 3, cells := 0, slots := 0, locals := 300 } s m args below meth c (MQ below (rv_Qc D fm_cl fm_tm ad cy fm_nt Z (fun r V1 => ∃ x : Int32, r = some (.int x) ∧ (x.toInt ≠ 0 → (V1 80 35).toInt = 0 ∧ (V 80 33).toInt < (V1 80 33).toInt ∧ pz_I V0 V1 1 cS_ g 0) ∧ (x.toInt = 0 → pz_I V0 V1 0 (fun _ => True) g 1 ∧ ((V1 80 35).toInt = 0 → (V 80 33).toInt < (V1 80 33).toInt ∧ ((V1 80 40).toInt = 0 → pz_I V0 V1 1 cS_ g 1))))) args s 0 0 (fm_A fm_tm ad)) D fm_cl fm_tm ad cy (fm_A fm_tm ad) V62 54 ls []
        have hI : pz_I V0 V62 1 cS_ g 1 := by rw [hV62]; exact hI.bad hyx63
        refine fz_iconst X d_X8_goesBehind_54 (by decide) (fun v64 hv64 => ?_)
        refine gm_zret X Y hr hlk (by first | exact Or.inl (zi_inj hv64) | exact Or.inr (zi_inj hv64) | assumption) d_X8_goesBehind_55 ⟨_, rfl, fun q => by omega, fun _ => ⟨hI.weak, fun q => by omega⟩⟩
    · skip
      refine fm_aload_n X d_X8_goesBehind_17 rfl hl0 ?_
      refine fm_iload_n X d_X8_goesBehind_18 rfl hl1 ?_
      refine fz_bipush X d_X8_goesBehind_19 (by decide) (fun v65 hv65 => ?_)
      refine fz_icmp_ne X 28 d_X8_goesBehind_21 (by decide) (fun h66 => ?_) (fun h66 => ?_)
      · skip
        refine fz_iconst X d_X8_goesBehind_28 (by decide) (fun v67 hv67 => ?_)
        have hE : (V 80 33).toInt < (V 80 34).toInt := hr_pos (by omega)
        refine gm_callV X Y fm_Ts_good d_X8_goesBehind_29 (g_joins hAd hZ (V := V) (x1 := v67) hI hg (fun _ => by show ¬ ((V0 107 (1 - 1)).toInt = 38 ∨ (V0 107 (1 - 1)).toInt = 124); rw [show (1 - 1 : Nat) = 0 from rfl, h40]; decide)) wl_X8_295 wm_X8_joins wy_X8_joins (by decide) ⟨rfl, rfl⟩ (rest := []) rfl rfl hs (by simp [Value.category]) (fun r V68 hp => ?_)
        obtain ⟨rfl, hI, hg, g1, g2, g2b, g3, g4⟩ := hp
        show fm_W p l e { frames := 3, cells := 0, slots := 0, locals := 300 } s m args below meth c (MQ below (rv_Qc D fm_cl fm_tm ad cy fm_nt Z (fun r V1 => ∃ x : Int32, r = some (.int x) ∧ (x.toInt ≠ 0 → (V1 80 35).toInt = 0 ∧ (V 80 33).toInt < (V1 80 33).toInt ∧ pz_I V0 V1 1 cS_ g 0) ∧ (x.toInt = 0 → pz_I V0 V1 0 (fun _ => True) g 1 ∧ ((V1 80 35).toInt = 0 → (V 80 33).toInt < (V1 80 33).toInt ∧ ((V1 80 40).toInt = 0 → pz_I V0 V1 1 cS_ g 1))))) args s 0 0 (fm_A fm_tm ad)) D fm_cl fm_tm ad cy (fm_A fm_tm ad) V68 32 ls []
        obtain ⟨q1, q2, q3, q4, q5, q6, q7⟩ := hI.B
        have q8 := hI.pl
        have q9 := hI.c0
        have q10 := hI.hk
        have q11 := hI.en
        refine fm_aload_n X d_X8_goesBehind_32 rfl hl0 ?_
        refine fm_iload_n X d_X8_goesBehind_33 rfl hl1 ?_
        refine gm_callV X Y fm_Ts_good d_X8_goesBehind_34 (g_puts hAd hZ (V := V68) (by omega) (by omega)) wl_X8_238 wm_X8_puts wy_X8_puts (by decide) ⟨rfl, rfl⟩ (rest := []) rfl rfl hs (by simp [Value.category]) (fun r V70 hp => ?_)
        obtain ⟨rfl, yx71, zx71, hyx71, hzx71, hV70⟩ := hp
        have tV70_33 : (V70 80 33).toInt = (zx71).toInt := by rw [hV70, u_puts_f]; rfl
        have tV70_34 : (V70 80 34).toInt = (V68 80 34).toInt := by rw [hV70, u_puts_f]; rfl
        have tV70_35 : (V70 80 35).toInt = (V68 80 35).toInt := by rw [hV70, u_puts_f]; rfl
        have tV70_37 : (V70 80 37).toInt = (V68 80 37).toInt := by rw [hV70, u_puts_f]; rfl
        have tV70_38 : (V70 80 38).toInt = (V68 80 38).toInt := by rw [hV70, u_puts_f]; rfl
        have tV70_39 : (V70 80 39).toInt = (yx71).toInt := by rw [hV70, u_puts_f]; rfl
        have tV70_40 : (V70 80 40).toInt = (V68 80 40).toInt := by rw [hV70, u_puts_f]; rfl
        have tV70_41 : (V70 80 41).toInt = (V68 80 41).toInt := by rw [hV70, u_puts_f]; rfl
        show fm_W p l e { frames := 3, cells := 0, slots := 0, locals := 300 } s m args below meth c (MQ below (rv_Qc D fm_cl fm_tm ad cy fm_nt Z (fun r V1 => ∃ x : Int32, r = some (.int x) ∧ (x.toInt ≠ 0 → (V1 80 35).toInt = 0 ∧ (V 80 33).toInt < (V1 80 33).toInt ∧ pz_I V0 V1 1 cS_ g 0) ∧ (x.toInt = 0 → pz_I V0 V1 0 (fun _ => True) g 1 ∧ ((V1 80 35).toInt = 0 → (V 80 33).toInt < (V1 80 33).toInt ∧ ((V1 80 40).toInt = 0 → pz_I V0 V1 1 cS_ g 1))))) args s 0 0 (fm_A fm_tm ad)) D fm_cl fm_tm ad cy (fm_A fm_tm ad) V70 37 ls []
        have hI : pz_I V0 V70 1 cS_ g 0 := by rw [hV70]; exact hI.puts (by omega) hyx71 hzx71 (fun _ => by unfold cS_; omega) (by rw [show bo_ (x12).toInt = true by unfold bo_; simp only [Bool.or_eq_true, decide_eq_true_eq]; omega]; rfl)
        refine fz_iconst X d_X8_goesBehind_37 (by decide) (fun v72 hv72 => ?_)
        refine gm_zret X Y hr hlk (by first | exact Or.inl (zi_inj hv72) | exact Or.inr (zi_inj hv72) | assumption) d_X8_goesBehind_38 ⟨_, rfl, fun _ => ⟨by omega, by omega, hI⟩, fun q => by omega⟩
      · skip
        refine fz_iconst X d_X8_goesBehind_24 (by decide) (fun v73 hv73 => ?_)
        refine fz_goto X 29 d_X8_goesBehind_25 (by decide) ?_
        have hE : (V 80 33).toInt < (V 80 34).toInt := hr_pos (by omega)
        refine gm_callV X Y fm_Ts_good d_X8_goesBehind_29 (g_joins hAd hZ (V := V) (x1 := v73) hI hg (fun _ => by show ¬ ((V0 107 (1 - 1)).toInt = 38 ∨ (V0 107 (1 - 1)).toInt = 124); rw [show (1 - 1 : Nat) = 0 from rfl, h40]; decide)) wl_X8_295 wm_X8_joins wy_X8_joins (by decide) ⟨rfl, rfl⟩ (rest := []) rfl rfl hs (by simp [Value.category]) (fun r V74 hp => ?_)
        obtain ⟨rfl, hI, hg, g1, g2, g2b, g3, g4⟩ := hp
        show fm_W p l e { frames := 3, cells := 0, slots := 0, locals := 300 } s m args below meth c (MQ below (rv_Qc D fm_cl fm_tm ad cy fm_nt Z (fun r V1 => ∃ x : Int32, r = some (.int x) ∧ (x.toInt ≠ 0 → (V1 80 35).toInt = 0 ∧ (V 80 33).toInt < (V1 80 33).toInt ∧ pz_I V0 V1 1 cS_ g 0) ∧ (x.toInt = 0 → pz_I V0 V1 0 (fun _ => True) g 1 ∧ ((V1 80 35).toInt = 0 → (V 80 33).toInt < (V1 80 33).toInt ∧ ((V1 80 40).toInt = 0 → pz_I V0 V1 1 cS_ g 1))))) args s 0 0 (fm_A fm_tm ad)) D fm_cl fm_tm ad cy (fm_A fm_tm ad) V74 32 ls []
        obtain ⟨q1, q2, q3, q4, q5, q6, q7⟩ := hI.B
        have q8 := hI.pl
        have q9 := hI.c0
        have q10 := hI.hk
        have q11 := hI.en
        refine fm_aload_n X d_X8_goesBehind_32 rfl hl0 ?_
        refine fm_iload_n X d_X8_goesBehind_33 rfl hl1 ?_
        refine gm_callV X Y fm_Ts_good d_X8_goesBehind_34 (g_puts hAd hZ (V := V74) (by omega) (by omega)) wl_X8_238 wm_X8_puts wy_X8_puts (by decide) ⟨rfl, rfl⟩ (rest := []) rfl rfl hs (by simp [Value.category]) (fun r V76 hp => ?_)
        obtain ⟨rfl, yx77, zx77, hyx77, hzx77, hV76⟩ := hp
        have tV76_33 : (V76 80 33).toInt = (zx77).toInt := by rw [hV76, u_puts_f]; rfl
        have tV76_34 : (V76 80 34).toInt = (V74 80 34).toInt := by rw [hV76, u_puts_f]; rfl
        have tV76_35 : (V76 80 35).toInt = (V74 80 35).toInt := by rw [hV76, u_puts_f]; rfl
        have tV76_37 : (V76 80 37).toInt = (V74 80 37).toInt := by rw [hV76, u_puts_f]; rfl
        have tV76_38 : (V76 80 38).toInt = (V74 80 38).toInt := by rw [hV76, u_puts_f]; rfl
        have tV76_39 : (V76 80 39).toInt = (yx77).toInt := by rw [hV76, u_puts_f]; rfl
        have tV76_40 : (V76 80 40).toInt = (V74 80 40).toInt := by rw [hV76, u_puts_f]; rfl
        have tV76_41 : (V76 80 41).toInt = (V74 80 41).toInt := by rw [hV76, u_puts_f]; rfl
        show fm_W p l e { frames := 3, cells := 0, slots := 0, locals := 300 } s m args below meth c (MQ below (rv_Qc D fm_cl fm_tm ad cy fm_nt Z (fun r V1 => ∃ x : Int32, r = some (.int x) ∧ (x.toInt ≠ 0 → (V1 80 35).toInt = 0 ∧ (V 80 33).toInt < (V1 80 33).toInt ∧ pz_I V0 V1 1 cS_ g 0) ∧ (x.toInt = 0 → pz_I V0 V1 0 (fun _ => True) g 1 ∧ ((V1 80 35).toInt = 0 → (V 80 33).toInt < (V1 80 33).toInt ∧ ((V1 80 40).toInt = 0 → pz_I V0 V1 1 cS_ g 1))))) args s 0 0 (fm_A fm_tm ad)) D fm_cl fm_tm ad cy (fm_A fm_tm ad) V76 37 ls []
        have hI : pz_I V0 V76 1 cS_ g 0 := by rw [hV76]; exact hI.puts (by omega) hyx77 hzx77 (fun _ => by unfold cS_; omega) (by rw [show bo_ (x12).toInt = true by unfold bo_; simp only [Bool.or_eq_true, decide_eq_true_eq]; omega]; rfl)
        refine fz_iconst X d_X8_goesBehind_37 (by decide) (fun v78 hv78 => ?_)
        refine gm_zret X Y hr hlk (by first | exact Or.inl (zi_inj hv78) | exact Or.inr (zi_inj hv78) | assumption) d_X8_goesBehind_38 ⟨_, rfl, fun _ => ⟨by omega, by omega, hI⟩, fun q => by omega⟩
