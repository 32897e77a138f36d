/-! the reader: brackets, reads, pops -/
theorem g_opens {l : Launch} {D : va_G} {ad : Nat → Nat} {cy : Nat → ClassId} {Z : State → Heap → Prop} (hAd : fm_Ad fm_tm ad) (hZ : fm_Zk (fm_A fm_tm ad) Z) {V : fm_V} {V0 : fm_V} {h g b : Nat} {S : Int → Prop} (hI : pz_I V0 V h S g b) (hp0 : hr_ V ≠ 0) (hbo : bo_ (hr_ V) = false) (hS : S (hr_ V)) : gm_M l D fm_cl fm_tm ad cy fm_nt Z yX8_opens (.code yX8_opens prog_10_method_24_code 1 none :: fm_Ts) { frames := 1, cells := 0, slots := 0, locals := 100 } V [.ref (ad 80)] (fun r V1 => r = none ∧ pz_I V0 V1 h S g b ∧ (V1 80 33).toInt = (V 80 33).toInt + 1 ∧ (V1 80 39).toInt = (V 80 39).toInt + 1 ∧ (V1 107 (V 80 39).toInt.toNat).toInt = hr_ V) := by
  refine gm_at hAd hZ (by decide +kernel) (by simp [lg_sl, Value.category]) ?_
  intro p e s m args below meth c ls hr hlk X Y hl
  have hl0 : ls[0]? = some (.val (.ref (ad 80))) := hl.2.2 (0, .ref (ad 80)) (by simp [lv_args, Value.category])
  have hs := hl.1
  have hw := hl.2.1
  clear hl
  have hE := hr_pos hp0
  have hI0 := hI
  obtain ⟨q1, q2, q3, q4, q5, q6, q7⟩ := hI.B
  have q8 := hI.pl
  have q9 := hI.c0
  have q10 := hI.hk
  have q11 := hI.en
  refine fm_aload_n X d_X8_opens_0 rfl hl0 ?_
  refine fz_getI X 80 d_X8_opens_1 lkX8_227 rfl rfl ?_
  refine fz_bipush X d_X8_opens_4 (by decide) (fun v11 hv11 => ?_)
  refine fz_icmp_ne X 18 d_X8_opens_6 (by decide) (fun h12 => ?_) (fun h12 => ?_)
  · skip
    refine fm_aload_n X d_X8_opens_18 rfl hl0 ?_
    refine fm_dup X d_X8_opens_19 rfl ?_
    refine fz_getI X 80 d_X8_opens_20 lkX8_227 rfl rfl ?_
    refine fz_iconst X d_X8_opens_23 (by decide) (fun v13 hv13 => ?_)
    refine fa_iadd X d_X8_opens_24 (fun z14 => ?_)
    refine fz_put X 80 d_X8_opens_25 lkX8_227 wr_8_38 rfl rfl (by first | exact Or.inl rfl | (refine Or.inr ?_; constructor <;> omega)) (fun V15 hV15 => ?_)
    have tV15_33 : (V15 80 33).toInt = (V 80 33).toInt := by rw [hV15, fm_up_ne (by decide)]
    have tV15_34 : (V15 80 34).toInt = (V 80 34).toInt := by rw [hV15, fm_up_ne (by decide)]
    have tV15_35 : (V15 80 35).toInt = (V 80 35).toInt := by rw [hV15, fm_up_ne (by decide)]
    have tV15_37 : (V15 80 37).toInt = (V 80 37).toInt := by rw [hV15, fm_up_ne (by decide)]
    have tV15_38 : (V15 80 38).toInt = (z14).toInt := by rw [hV15, fm_up_self]
    have tV15_39 : (V15 80 39).toInt = (V 80 39).toInt := by rw [hV15, fm_up_ne (by decide)]
    have tV15_40 : (V15 80 40).toInt = (V 80 40).toInt := by rw [hV15, fm_up_ne (by decide)]
    have tV15_41 : (V15 80 41).toInt = (V 80 41).toInt := by rw [hV15, fm_up_ne (by decide)]
    have hI : pz_I V0 V15 h S g b := by rw [hV15]; exact hI.fld (Or.inl rfl)
    obtain ⟨q1, q2, q3, q4, q5, q6, q7⟩ := hI.B
    have q8 := hI.pl
    have q9 := hI.c0
    have q10 := hI.hk
    have q11 := hI.en
    have hrE : hr_ V15 = hr_ V := hr_same hI0 hI (by omega)
    refine fm_aload_n X d_X8_opens_28 rfl hl0 ?_
    refine fm_aload_n X d_X8_opens_29 rfl hl0 ?_
    refine gm_callV X Y fm_Ts_good d_X8_opens_30 (g_here hAd hZ (V := V15) (by omega) (by omega)) wl_X8_234 wm_X8_here wy_X8_here (by decide) ⟨rfl, rfl⟩ (rest := [.ref (ad 80)]) rfl rfl hs (by simp [Value.category]) (fun r V16 hp => ?_)
    obtain ⟨rfl, x17, rfl, hx17⟩ := hp
    show fm_W p l e { frames := 1, cells := 0, slots := 0, locals := 100 } s m args below meth c (MQ below (rv_Qc D fm_cl fm_tm ad cy fm_nt Z (fun r V1 => r = none ∧ pz_I V0 V1 h S g b ∧ (V1 80 33).toInt = (V 80 33).toInt + 1 ∧ (V1 80 39).toInt = (V 80 39).toInt + 1 ∧ (V1 107 (V 80 39).toInt.toNat).toInt = hr_ V)) args s 0 0 (fm_A fm_tm ad)) D fm_cl fm_tm ad cy (fm_A fm_tm ad) V15 33 ls [.int x17, .ref (ad 80)]
    refine gm_callV X Y fm_Ts_good d_X8_opens_33 (g_puts hAd hZ (V := V15) (by omega) (by omega)) wl_X8_238 wm_X8_puts wy_X8_puts (by decide) ⟨rfl, rfl⟩ (rest := []) rfl rfl hs (by simp [Value.category]) (fun r V18 hp => ?_)
    obtain ⟨rfl, yx19, zx19, hyx19, hzx19, hV18⟩ := hp
    have tV18_33 : (V18 80 33).toInt = (zx19).toInt := by rw [hV18, u_puts_f]; rfl
    have tV18_34 : (V18 80 34).toInt = (V15 80 34).toInt := by rw [hV18, u_puts_f]; rfl
    have tV18_35 : (V18 80 35).toInt = (V15 80 35).toInt := by rw [hV18, u_puts_f]; rfl
    have tV18_37 : (V18 80 37).toInt = (V15 80 37).toInt := by rw [hV18, u_puts_f]; rfl
    have tV18_38 : (V18 80 38).toInt = (V15 80 38).toInt := by rw [hV18, u_puts_f]; rfl
    have tV18_39 : (V18 80 39).toInt = (yx19).toInt := by rw [hV18, u_puts_f]; rfl
    have tV18_40 : (V18 80 40).toInt = (V15 80 40).toInt := by rw [hV18, u_puts_f]; rfl
    have tV18_41 : (V18 80 41).toInt = (V15 80 41).toInt := by rw [hV18, u_puts_f]; rfl
    show fm_W p l e { frames := 1, cells := 0, slots := 0, locals := 100 } s m args below meth c (MQ below (rv_Qc D fm_cl fm_tm ad cy fm_nt Z (fun r V1 => r = none ∧ pz_I V0 V1 h S g b ∧ (V1 80 33).toInt = (V 80 33).toInt + 1 ∧ (V1 80 39).toInt = (V 80 39).toInt + 1 ∧ (V1 107 (V 80 39).toInt.toNat).toInt = hr_ V)) args s 0 0 (fm_A fm_tm ad)) D fm_cl fm_tm ad cy (fm_A fm_tm ad) V18 36 ls []
    have hxx := hx17
    have hJ : pz_I V0 V18 h S g b := by rw [hV18]; exact hI.puts (by omega) hyx19 hzx19 (fun _ => by rw [hxx, hrE]; exact hS) (by rw [hxx, hrE, hbo]; rfl)
    refine gm_vret X Y hr hlk d_X8_opens_36 ⟨rfl, hJ, by omega, by omega, ?_⟩
    rw [hV18, u_puts_s, if_pos (by omega), hxx, hrE]
  · skip
    refine fm_aload_n X d_X8_opens_9 rfl hl0 ?_
    refine fz_iconst X d_X8_opens_10 (by decide) (fun v20 hv20 => ?_)
    refine fm_aload_n X d_X8_opens_11 rfl hl0 ?_
    refine fz_getI X 80 d_X8_opens_12 lkX8_208 rfl rfl ?_
    refine gm_callV X Y fm_Ts_good d_X8_opens_15 (g_wrongs hAd hZ (V := V) (by omega) (by omega) (by omega)) wl_X8_230 wm_X8_wrongs wy_X8_wrongs (by decide) ⟨rfl, rfl⟩ (rest := []) rfl rfl hs (by simp [Value.category]) (fun r V21 hp => ?_)
    obtain ⟨rfl, yx22, hyx22, hV21⟩ := hp
    have tV21_33 : (V21 80 33).toInt = (V 80 33).toInt := by rw [hV21, fm_up_ne (by decide)]
    have tV21_34 : (V21 80 34).toInt = (V 80 34).toInt := by rw [hV21, fm_up_ne (by decide)]
    have tV21_35 : (V21 80 35).toInt = (yx22).toInt := by rw [hV21, fm_up_self]
    have tV21_37 : (V21 80 37).toInt = (V 80 37).toInt := by rw [hV21, fm_up_ne (by decide)]
    have tV21_38 : (V21 80 38).toInt = (V 80 38).toInt := by rw [hV21, fm_up_ne (by decide)]
    have tV21_39 : (V21 80 39).toInt = (V 80 39).toInt := by rw [hV21, fm_up_ne (by decide)]
    have tV21_40 : (V21 80 40).toInt = (V 80 40).toInt := by rw [hV21, fm_up_ne (by decide)]
    have tV21_41 : (V21 80 41).toInt = (V 80 41).toInt := by rw [hV21, fm_up_ne (by decide)]
    show fm_W p l e { frames := 1, cells := 0, slots := 0, locals := 100 } s m args below meth c (MQ below (rv_Qc D fm_cl fm_tm ad cy fm_nt Z (fun r V1 => r = none ∧ pz_I V0 V1 h S g b ∧ (V1 80 33).toInt = (V 80 33).toInt + 1 ∧ (V1 80 39).toInt = (V 80 39).toInt + 1 ∧ (V1 107 (V 80 39).toInt.toNat).toInt = hr_ V)) args s 0 0 (fm_A fm_tm ad)) D fm_cl fm_tm ad cy (fm_A fm_tm ad) V21 18 ls []
    have hI : pz_I V0 V21 h S g b := by rw [hV21]; exact hI.bad hyx22
    obtain ⟨q1, q2, q3, q4, q5, q6, q7⟩ := hI.B
    have q8 := hI.pl
    have q9 := hI.c0
    have q10 := hI.hk
    have q11 := hI.en
    refine fm_aload_n X d_X8_opens_18 rfl hl0 ?_
    refine fm_dup X d_X8_opens_19 rfl ?_
    refine fz_getI X 80 d_X8_opens_20 lkX8_227 rfl rfl ?_
    refine fz_iconst X d_X8_opens_23 (by decide) (fun v23 hv23 => ?_)
    refine fa_iadd X d_X8_opens_24 (fun z24 => ?_)
    refine fz_put X 80 d_X8_opens_25 lkX8_227 wr_8_38 rfl rfl (by first | exact Or.inl rfl | (refine Or.inr ?_; constructor <;> omega)) (fun V25 hV25 => ?_)
    have tV25_33 : (V25 80 33).toInt = (V21 80 33).toInt := by rw [hV25, fm_up_ne (by decide)]
    have tV25_34 : (V25 80 34).toInt = (V21 80 34).toInt := by rw [hV25, fm_up_ne (by decide)]
    have tV25_35 : (V25 80 35).toInt = (V21 80 35).toInt := by rw [hV25, fm_up_ne (by decide)]
    have tV25_37 : (V25 80 37).toInt = (V21 80 37).toInt := by rw [hV25, fm_up_ne (by decide)]
    have tV25_38 : (V25 80 38).toInt = (z24).toInt := by rw [hV25, fm_up_self]
    have tV25_39 : (V25 80 39).toInt = (V21 80 39).toInt := by rw [hV25, fm_up_ne (by decide)]
    have tV25_40 : (V25 80 40).toInt = (V21 80 40).toInt := by rw [hV25, fm_up_ne (by decide)]
    have tV25_41 : (V25 80 41).toInt = (V21 80 41).toInt := by rw [hV25, fm_up_ne (by decide)]
    have hI : pz_I V0 V25 h S g b := by rw [hV25]; exact hI.fld (Or.inl rfl)
    obtain ⟨q1, q2, q3, q4, q5, q6, q7⟩ := hI.B
    have q8 := hI.pl
    have q9 := hI.c0
    have q10 := hI.hk
    have q11 := hI.en
    have hrE : hr_ V25 = hr_ V := hr_same hI0 hI (by omega)
    refine fm_aload_n X d_X8_opens_28 rfl hl0 ?_
    refine fm_aload_n X d_X8_opens_29 rfl hl0 ?_
    refine gm_callV X Y fm_Ts_good d_X8_opens_30 (g_here hAd hZ (V := V25) (by omega) (by omega)) wl_X8_234 wm_X8_here wy_X8_here (by decide) ⟨rfl, rfl⟩ (rest := [.ref (ad 80)]) rfl rfl hs (by simp [Value.category]) (fun r V26 hp => ?_)
    obtain ⟨rfl, x27, rfl, hx27⟩ := hp
    show fm_W p l e { frames := 1, cells := 0, slots := 0, locals := 100 } s m args below meth c (MQ below (rv_Qc D fm_cl fm_tm ad cy fm_nt Z (fun r V1 => r = none ∧ pz_I V0 V1 h S g b ∧ (V1 80 33).toInt = (V 80 33).toInt + 1 ∧ (V1 80 39).toInt = (V 80 39).toInt + 1 ∧ (V1 107 (V 80 39).toInt.toNat).toInt = hr_ V)) args s 0 0 (fm_A fm_tm ad)) D fm_cl fm_tm ad cy (fm_A fm_tm ad) V25 33 ls [.int x27, .ref (ad 80)]
    refine gm_callV X Y fm_Ts_good d_X8_opens_33 (g_puts hAd hZ (V := V25) (by omega) (by omega)) wl_X8_238 wm_X8_puts wy_X8_puts (by decide) ⟨rfl, rfl⟩ (rest := []) rfl rfl hs (by simp [Value.category]) (fun r V28 hp => ?_)
    obtain ⟨rfl, yx29, zx29, hyx29, hzx29, hV28⟩ := hp
    have tV28_33 : (V28 80 33).toInt = (zx29).toInt := by rw [hV28, u_puts_f]; rfl
    have tV28_34 : (V28 80 34).toInt = (V25 80 34).toInt := by rw [hV28, u_puts_f]; rfl
    have tV28_35 : (V28 80 35).toInt = (V25 80 35).toInt := by rw [hV28, u_puts_f]; rfl
    have tV28_37 : (V28 80 37).toInt = (V25 80 37).toInt := by rw [hV28, u_puts_f]; rfl
    have tV28_38 : (V28 80 38).toInt = (V25 80 38).toInt := by rw [hV28, u_puts_f]; rfl
    have tV28_39 : (V28 80 39).toInt = (yx29).toInt := by rw [hV28, u_puts_f]; rfl
    have tV28_40 : (V28 80 40).toInt = (V25 80 40).toInt := by rw [hV28, u_puts_f]; rfl
    have tV28_41 : (V28 80 41).toInt = (V25 80 41).toInt := by rw [hV28, u_puts_f]; rfl
    show fm_W p l e { frames := 1, cells := 0, slots := 0, locals := 100 } s m args below meth c (MQ below (rv_Qc D fm_cl fm_tm ad cy fm_nt Z (fun r V1 => r = none ∧ pz_I V0 V1 h S g b ∧ (V1 80 33).toInt = (V 80 33).toInt + 1 ∧ (V1 80 39).toInt = (V 80 39).toInt + 1 ∧ (V1 107 (V 80 39).toInt.toNat).toInt = hr_ V)) args s 0 0 (fm_A fm_tm ad)) D fm_cl fm_tm ad cy (fm_A fm_tm ad) V28 36 ls []
    have hxx := hx27
    have hJ : pz_I V0 V28 h S g b := by rw [hV28]; exact hI.puts (by omega) hyx29 hzx29 (fun _ => by rw [hxx, hrE]; exact hS) (by rw [hxx, hrE, hbo]; rfl)
    refine gm_vret X Y hr hlk d_X8_opens_36 ⟨rfl, hJ, by omega, by omega, ?_⟩
    rw [hV28, u_puts_s, if_pos (by omega), hxx, hrE]
theorem g_reads {l : Launch} {D : va_G} {ad : Nat → Nat} {cy : Nat → ClassId} {Z : State → Heap → Prop} (hAd : fm_Ad fm_tm ad) (hZ : fm_Zk (fm_A fm_tm ad) Z) {V : fm_V}  (hT : fm_Tm fm_tm V) (hB : 0 ≤ (V 80 33).toInt ∧ (V 80 33).toInt ≤ (V 80 34).toInt ∧ (V 80 34).toInt ≤ 200) (hg : (V 80 35).toInt = 0) (hd : 48 ≤ hr_ V ∧ hr_ V ≤ 57) : gm_M l D fm_cl fm_tm ad cy fm_nt Z yX8_reads (.code yX8_reads prog_10_method_26_code 3 (some .int) :: fm_Ts) { frames := 2, cells := 0, slots := 0, locals := 200 } V [.ref (ad 80)] (fun r V1 => (∃ x : Int32, r = some (.int x)) ∧ pz_F [(80, 33), (80, 35)] V V1 ∧ (V 80 33).toInt < (V1 80 33).toInt ∧ (V1 80 33).toInt ≤ (V 80 34).toInt ∧ (V1 80 35).toInt ≤ 0) := by
  refine gm_at hAd hZ (by decide +kernel) (by simp [lg_sl, Value.category]) ?_
  intro p e s m args below meth c ls hr hlk X Y hl
  have hl0 : ls[0]? = some (.val (.ref (ad 80))) := hl.2.2 (0, .ref (ad 80)) (by simp [lv_args, Value.category])
  have hs := hl.1
  have hw := hl.2.1
  clear hl
  have loop : ∀ (N : Nat), ∀ (W : fm_V) (x1 x2 : Int32) (ls : Array Slot), ((V 80 34).toInt - (W 80 33).toInt).toNat < N → x1.toInt = (V 80 33).toInt → pz_F [(80, 33), (80, 35)] V W → (V 80 33).toInt ≤ (W 80 33).toInt → (W 80 33).toInt ≤ (V 80 34).toInt → (W 80 35).toInt ≤ 0 → ((V 80 33).toInt < (W 80 33).toInt ∨ ((W 80 35).toInt = 0 ∧ hr_ W = hr_ V)) → ls.size = 3 → lv_wf ls → ls[0]? = some (.val (.ref (ad 80))) → ls[1]? = some (.val (.int x1)) → ls[2]? = some (.val (.int x2)) → fm_W p l e { frames := 2, cells := 0, slots := 0, locals := 200 } s m args below meth c (MQ below (rv_Qc D fm_cl fm_tm ad cy fm_nt Z (fun r V1 => (∃ x : Int32, r = some (.int x)) ∧ pz_F [(80, 33), (80, 35)] V V1 ∧ (V 80 33).toInt < (V1 80 33).toInt ∧ (V1 80 33).toInt ≤ (V 80 34).toInt ∧ (V1 80 35).toInt ≤ 0)) args s 0 0 (fm_A fm_tm ad)) D fm_cl fm_tm ad cy (fm_A fm_tm ad) W 7 ls [] := by
    intro N
    induction N with
    | zero => intro W x1 x2 ls h; omega
    | succ N ih =>
      intro W x1 x2 ls hN hx1 hF f1 f2 f3 f4 hs hw hl0 hl1 hl2
      have f5 : (W 80 34).toInt = (V 80 34).toInt := by rw [hF.2 80 34 (by decide)]
      refine fm_aload_n X d_X8_reads_7 rfl hl0 ?_
      refine gm_callV X Y fm_Ts_good d_X8_reads_8 (g_isGood hAd hZ (V := W)) wl_X8_217 wm_X8_isGood wy_X8_isGood (by decide) ⟨rfl, rfl⟩ (rest := []) rfl rfl hs (by simp [Value.category]) (fun r V11 hp => ?_)
      obtain ⟨rfl, x12, rfl, hzx12, hx12⟩ := hp
      show fm_W p l e { frames := 2, cells := 0, slots := 0, locals := 200 } s m args below meth c (MQ below (rv_Qc D fm_cl fm_tm ad cy fm_nt Z (fun r V1 => (∃ x : Int32, r = some (.int x)) ∧ pz_F [(80, 33), (80, 35)] V V1 ∧ (V 80 33).toInt < (V1 80 33).toInt ∧ (V1 80 33).toInt ≤ (V 80 34).toInt ∧ (V1 80 35).toInt ≤ 0)) args s 0 0 (fm_A fm_tm ad)) D fm_cl fm_tm ad cy (fm_A fm_tm ad) W 11 ls [.int x12]
      refine fz_if_eq X 66 d_X8_reads_11 (by decide) (fun h13 => ?_) (fun h13 => ?_)
      · skip
        refine fm_iload_n X d_X8_reads_66 rfl hl2 ?_
        exact gm_iret X Y hr hlk d_X8_reads_67 ⟨⟨_, rfl⟩, hF, by omega, by omega, by omega⟩
      · skip
        refine fm_aload_n X d_X8_reads_14 rfl hl0 ?_
        refine gm_callV X Y fm_Ts_good d_X8_reads_15 (g_seesDigit hAd hZ (V := W) (by omega) (by omega)) wl_X8_245 wm_X8_seesDigit wy_X8_seesDigit (by decide) ⟨rfl, rfl⟩ (rest := []) rfl rfl hs (by simp [Value.category]) (fun r V14 hp => ?_)
        obtain ⟨rfl, x15, rfl, hzx15, hx15⟩ := hp
        show fm_W p l e { frames := 2, cells := 0, slots := 0, locals := 200 } s m args below meth c (MQ below (rv_Qc D fm_cl fm_tm ad cy fm_nt Z (fun r V1 => (∃ x : Int32, r = some (.int x)) ∧ pz_F [(80, 33), (80, 35)] V V1 ∧ (V 80 33).toInt < (V1 80 33).toInt ∧ (V1 80 33).toInt ≤ (V 80 34).toInt ∧ (V1 80 35).toInt ≤ 0)) args s 0 0 (fm_A fm_tm ad)) D fm_cl fm_tm ad cy (fm_A fm_tm ad) W 18 ls [.int x15]
        refine fz_if_eq X 66 d_X8_reads_18 (by decide) (fun h16 => ?_) (fun h16 => ?_)
        · skip
          refine fm_iload_n X d_X8_reads_66 rfl hl2 ?_
          exact gm_iret X Y hr hlk d_X8_reads_67 ⟨⟨_, rfl⟩, hF, by omega, by omega, by omega⟩
        · skip
          have hE : (W 80 33).toInt < (W 80 34).toInt := hr_pos (by omega)
          refine fm_aload_n X d_X8_reads_21 rfl hl0 ?_
          refine fz_getI X 80 d_X8_reads_22 lkX8_208 rfl rfl ?_
          refine fm_iload_n X d_X8_reads_25 rfl hl1 ?_
          refine fz_iconst X d_X8_reads_26 (by decide) (fun v17 hv17 => ?_)
          refine fz_iadd X d_X8_reads_27 (by constructor <;> omega) (fun z18 hz18 => ?_)
          refine fz_icmp_ne X 40 d_X8_reads_28 (by decide) (fun h19 => ?_) (fun h19 => ?_)
          · skip
            refine fz_bipush X d_X8_reads_40 (by decide) (fun v20 hv20 => ?_)
            refine fm_iload_n X d_X8_reads_42 rfl hl2 ?_
            refine fa_imul X d_X8_reads_43 (fun z21 => ?_)
            refine fm_aload_n X d_X8_reads_44 rfl hl0 ?_
            refine gm_callV X Y fm_Ts_good d_X8_reads_45 (g_here hAd hZ (V := W) (by omega) (by omega)) wl_X8_234 wm_X8_here wy_X8_here (by decide) ⟨rfl, rfl⟩ (rest := [.int z21]) rfl rfl hs (by simp [Value.category]) (fun r V22 hp => ?_)
            obtain ⟨rfl, x23, rfl, hx23⟩ := hp
            show fm_W p l e { frames := 2, cells := 0, slots := 0, locals := 200 } s m args below meth c (MQ below (rv_Qc D fm_cl fm_tm ad cy fm_nt Z (fun r V1 => (∃ x : Int32, r = some (.int x)) ∧ pz_F [(80, 33), (80, 35)] V V1 ∧ (V 80 33).toInt < (V1 80 33).toInt ∧ (V1 80 33).toInt ≤ (V 80 34).toInt ∧ (V1 80 35).toInt ≤ 0)) args s 0 0 (fm_A fm_tm ad)) D fm_cl fm_tm ad cy (fm_A fm_tm ad) W 48 ls [.int x23, .int z21]
            refine fa_iadd X d_X8_reads_48 (fun z24 => ?_)
            refine fz_bipush X d_X8_reads_49 (by decide) (fun v25 hv25 => ?_)
            refine fa_isub X d_X8_reads_51 (fun z26 => ?_)
            refine fm_istore_n X d_X8_reads_52 hs hw (by decide) (fun ls hst => ?_)
            have hl0 := hst.2.2.2.1 0 _ (by decide) hl0 rfl
            have hl1 := hst.2.2.2.1 1 _ (by decide) hl1 rfl
            have hl2 := hst.2.2.1
            have hs := hst.1.trans hs
            have hw := hst.2.1
            clear hst
            refine fm_aload_n X d_X8_reads_53 rfl hl0 ?_
            refine fm_dup X d_X8_reads_54 rfl ?_
            refine fz_getI X 80 d_X8_reads_55 lkX8_208 rfl rfl ?_
            refine fz_iconst X d_X8_reads_58 (by decide) (fun v28 hv28 => ?_)
            refine fz_iadd X d_X8_reads_59 (by constructor <;> omega) (fun z29 hz29 => ?_)
            refine fz_put X 80 d_X8_reads_60 lkX8_208 wr_8_33 rfl rfl (by first | exact Or.inl rfl | (refine Or.inr ?_; constructor <;> omega)) (fun V30 hV30 => ?_)
            have tV30_33 : (V30 80 33).toInt = (z29).toInt := by rw [hV30, fm_up_self]
            have tV30_34 : (V30 80 34).toInt = (W 80 34).toInt := by rw [hV30, fm_up_ne (by decide)]
            have tV30_35 : (V30 80 35).toInt = (W 80 35).toInt := by rw [hV30, fm_up_ne (by decide)]
            have hF := pz_Fo hF hV30 rfl rfl (zi_rng _) (by decide)
            refine fz_goto X 7 d_X8_reads_63 (by decide) ?_
            exact ih V30 x1 z26 ls (by omega) hx1 hF (by omega) (by omega) (by omega) (Or.inl (by omega)) hs hw hl0 hl1 hl2
          · skip
            refine fm_aload_n X d_X8_reads_31 rfl hl0 ?_
            refine fz_iconst X d_X8_reads_32 (by decide) (fun v31 hv31 => ?_)
            refine fm_aload_n X d_X8_reads_33 rfl hl0 ?_
            refine fz_getI X 80 d_X8_reads_34 lkX8_208 rfl rfl ?_
            refine gm_callV X Y fm_Ts_good d_X8_reads_37 (g_wrongs hAd hZ (V := W) (by omega) (by omega) (by omega)) wl_X8_230 wm_X8_wrongs wy_X8_wrongs (by decide) ⟨rfl, rfl⟩ (rest := []) rfl rfl hs (by simp [Value.category]) (fun r V32 hp => ?_)
            obtain ⟨rfl, yx33, hyx33, hV32⟩ := hp
            have tV32_33 : (V32 80 33).toInt = (W 80 33).toInt := by rw [hV32, fm_up_ne (by decide)]
            have tV32_34 : (V32 80 34).toInt = (W 80 34).toInt := by rw [hV32, fm_up_ne (by decide)]
            have tV32_35 : (V32 80 35).toInt = (yx33).toInt := by rw [hV32, fm_up_self]
            show fm_W p l e { frames := 2, cells := 0, slots := 0, locals := 200 } s m args below meth c (MQ below (rv_Qc D fm_cl fm_tm ad cy fm_nt Z (fun r V1 => (∃ x : Int32, r = some (.int x)) ∧ pz_F [(80, 33), (80, 35)] V V1 ∧ (V 80 33).toInt < (V1 80 33).toInt ∧ (V1 80 33).toInt ≤ (V 80 34).toInt ∧ (V1 80 35).toInt ≤ 0)) args s 0 0 (fm_A fm_tm ad)) D fm_cl fm_tm ad cy (fm_A fm_tm ad) V32 40 ls []
            have hF := pz_Fo hF hV32 rfl rfl (zi_rng _) (by decide)
            refine fz_bipush X d_X8_reads_40 (by decide) (fun v34 hv34 => ?_)
            refine fm_iload_n X d_X8_reads_42 rfl hl2 ?_
            refine fa_imul X d_X8_reads_43 (fun z35 => ?_)
            refine fm_aload_n X d_X8_reads_44 rfl hl0 ?_
            refine gm_callV X Y fm_Ts_good d_X8_reads_45 (g_here hAd hZ (V := V32) (by omega) (by omega)) wl_X8_234 wm_X8_here wy_X8_here (by decide) ⟨rfl, rfl⟩ (rest := [.int z35]) rfl rfl hs (by simp [Value.category]) (fun r V36 hp => ?_)
            obtain ⟨rfl, x37, rfl, hx37⟩ := hp
            show fm_W p l e { frames := 2, cells := 0, slots := 0, locals := 200 } s m args below meth c (MQ below (rv_Qc D fm_cl fm_tm ad cy fm_nt Z (fun r V1 => (∃ x : Int32, r = some (.int x)) ∧ pz_F [(80, 33), (80, 35)] V V1 ∧ (V 80 33).toInt < (V1 80 33).toInt ∧ (V1 80 33).toInt ≤ (V 80 34).toInt ∧ (V1 80 35).toInt ≤ 0)) args s 0 0 (fm_A fm_tm ad)) D fm_cl fm_tm ad cy (fm_A fm_tm ad) V32 48 ls [.int x37, .int z35]
            refine fa_iadd X d_X8_reads_48 (fun z38 => ?_)
            refine fz_bipush X d_X8_reads_49 (by decide) (fun v39 hv39 => ?_)
            refine fa_isub X d_X8_reads_51 (fun z40 => ?_)
            refine fm_istore_n X d_X8_reads_52 hs hw (by decide) (fun ls hst => ?_)
            have hl0 := hst.2.2.2.1 0 _ (by decide) hl0 rfl
            have hl1 := hst.2.2.2.1 1 _ (by decide) hl1 rfl
            have hl2 := hst.2.2.1
            have hs := hst.1.trans hs
            have hw := hst.2.1
            clear hst
            refine fm_aload_n X d_X8_reads_53 rfl hl0 ?_
            refine fm_dup X d_X8_reads_54 rfl ?_
            refine fz_getI X 80 d_X8_reads_55 lkX8_208 rfl rfl ?_
            refine fz_iconst X d_X8_reads_58 (by decide) (fun v42 hv42 => ?_)
            refine fz_iadd X d_X8_reads_59 (by constructor <;> omega) (fun z43 hz43 => ?_)
            refine fz_put X 80 d_X8_reads_60 lkX8_208 wr_8_33 rfl rfl (by first | exact Or.inl rfl | (refine Or.inr ?_; constructor <;> omega)) (fun V44 hV44 => ?_)
            have tV44_33 : (V44 80 33).toInt = (z43).toInt := by rw [hV44, fm_up_self]
            have tV44_34 : (V44 80 34).toInt = (V32 80 34).toInt := by rw [hV44, fm_up_ne (by decide)]
            have tV44_35 : (V44 80 35).toInt = (V32 80 35).toInt := by rw [hV44, fm_up_ne (by decide)]
            have hF := pz_Fo hF hV44 rfl rfl (zi_rng _) (by decide)
            refine fz_goto X 7 d_X8_reads_63 (by decide) ?_
            exact ih V44 x1 z40 ls (by omega) hx1 hF (by omega) (by omega) (by omega) (Or.inl (by omega)) hs hw hl0 hl1 hl2
  refine fm_aload_n X d_X8_reads_0 rfl hl0 ?_
  refine fz_getI X 80 d_X8_reads_1 lkX8_208 rfl rfl ?_
  refine fm_istore_n X d_X8_reads_4 hs hw (by decide) (fun ls hst => ?_)
  have hl0 := hst.2.2.2.1 0 _ (by decide) hl0 rfl
  have hl1 := hst.2.2.1
  have hs := hst.1.trans hs
  have hw := hst.2.1
  clear hst
  refine fz_iconst X d_X8_reads_5 (by decide) (fun v46 hv46 => ?_)
  refine fm_istore_n X d_X8_reads_6 hs hw (by decide) (fun ls hst => ?_)
  have hl0 := hst.2.2.2.1 0 _ (by decide) hl0 rfl
  have hl1 := hst.2.2.2.1 1 _ (by decide) hl1 rfl
  have hl2 := hst.2.2.1
  have hs := hst.1.trans hs
  have hw := hst.2.1
  clear hst
  exact loop _ V _ _ ls (Nat.lt_succ_self _) rfl (pz_Fr hT) (by omega) (by omega) (by omega) (Or.inr ⟨hg, rfl⟩) hs hw hl0 hl1 hl2
theorem g_sums {l : Launch} {D : va_G} {ad : Nat → Nat} {cy : Nat → ClassId} {Z : State → Heap → Prop} (hAd : fm_Ad fm_tm ad) (hZ : fm_Zk (fm_A fm_tm ad) Z) {V : fm_V} {V0 : fm_V} {h g : Nat} {S : Int → Prop} {x1 : Int32} (hI : pz_I V0 V h S g 1) (hg : (V 80 35).toInt = 0) (hsn : 0 < h → ¬ (fun x : Int => x = 42 ∨ x = 47 ∨ x = 37 ∨ x = 43 ∨ x = 45) (V0 107 (h - 1)).toInt) : gm_M l D fm_cl fm_tm ad cy fm_nt Z yX8_sums (.code yX8_sums prog_10_method_32_code 2 none :: fm_Ts) { frames := 2, cells := 0, slots := 0, locals := 200 } V [.ref (ad 80), .int x1] (fun r V1 => r = none ∧ pz_I V0 V1 h S g 1 ∧ (V1 80 35).toInt = 0 ∧ (V1 80 33).toInt = (V 80 33).toInt ∧ (V1 80 41).toInt = (V 80 41).toInt ∧ (V1 80 40).toInt = (V 80 40).toInt ∧ ¬ (tp_ V1 = 42 ∨ tp_ V1 = 47 ∨ tp_ V1 = 37) ∧ (x1.toInt ≠ 0 → ¬ (tp_ V1 = 43 ∨ tp_ V1 = 45))) := by
  refine gm_at hAd hZ (by decide +kernel) (by simp [lg_sl, Value.category]) ?_
  intro p e s m args below meth c ls hr hlk X Y hl
  have hl0 : ls[0]? = some (.val (.ref (ad 80))) := hl.2.2 (0, .ref (ad 80)) (by simp [lv_args, Value.category])
  have hl1 : ls[1]? = some (.val (.int x1)) := hl.2.2 (1, .int x1) (by simp [lv_args, Value.category])
  have hs := hl.1
  have hw := hl.2.1
  clear hl
  have loop : ∀ (N : Nat), ∀ (W : fm_V) (ls : Array Slot), (W 80 39).toInt.toNat < N → pz_I V0 W h S g 1 → (W 80 35).toInt = 0 → (W 80 33).toInt = (V 80 33).toInt → (W 80 41).toInt = (V 80 41).toInt → (W 80 40).toInt = (V 80 40).toInt → ls.size = 2 → lv_wf ls → ls[0]? = some (.val (.ref (ad 80))) → ls[1]? = some (.val (.int x1)) → fm_W p l e { frames := 2, cells := 0, slots := 0, locals := 200 } s m args below meth c (MQ below (rv_Qc D fm_cl fm_tm ad cy fm_nt Z (fun r V1 => r = none ∧ pz_I V0 V1 h S g 1 ∧ (V1 80 35).toInt = 0 ∧ (V1 80 33).toInt = (V 80 33).toInt ∧ (V1 80 41).toInt = (V 80 41).toInt ∧ (V1 80 40).toInt = (V 80 40).toInt ∧ ¬ (tp_ V1 = 42 ∨ tp_ V1 = 47 ∨ tp_ V1 = 37) ∧ (x1.toInt ≠ 0 → ¬ (tp_ V1 = 43 ∨ tp_ V1 = 45)))) args s 0 0 (fm_A fm_tm ad)) D fm_cl fm_tm ad cy (fm_A fm_tm ad) W 0 ls [] := by
    intro N
    induction N with
    | zero => intro W ls h; omega
    | succ N ih =>
      intro W ls hN hI hg f1 f2 f3 hs hw hl0 hl1
      obtain ⟨q1, q2, q3, q4, q5, q6, q7⟩ := hI.B
      have q8 := hI.pl
      have q9 := hI.c0
      have q10 := hI.hk
      have q11 := hI.en
      refine fm_aload_n X d_X8_sums_0 rfl hl0 ?_
      refine gm_callV X Y fm_Ts_good d_X8_sums_1 (g_top hAd hZ (V := W) (by omega) (by omega)) wl_X8_251 wm_X8_top wy_X8_top (by decide) ⟨rfl, rfl⟩ (rest := []) rfl rfl hs (by simp [Value.category]) (fun r V11 hp => ?_)
      obtain ⟨rfl, x12, rfl, hx12⟩ := hp
      show fm_W p l e { frames := 2, cells := 0, slots := 0, locals := 200 } s m args below meth c (MQ below (rv_Qc D fm_cl fm_tm ad cy fm_nt Z (fun r V1 => r = none ∧ pz_I V0 V1 h S g 1 ∧ (V1 80 35).toInt = 0 ∧ (V1 80 33).toInt = (V 80 33).toInt ∧ (V1 80 41).toInt = (V 80 41).toInt ∧ (V1 80 40).toInt = (V 80 40).toInt ∧ ¬ (tp_ V1 = 42 ∨ tp_ V1 = 47 ∨ tp_ V1 = 37) ∧ (x1.toInt ≠ 0 → ¬ (tp_ V1 = 43 ∨ tp_ V1 = 45)))) args s 0 0 (fm_A fm_tm ad)) D fm_cl fm_tm ad cy (fm_A fm_tm ad) W 4 ls [.int x12]
      refine gm_callS X Y fm_Ts_good d_X8_sums_4 (g_isTimes hAd hZ) wl_X8_254 wm_X8_isTimes wy_X8_isTimes (by decide) (rest := []) rfl rfl hs (by simp [Value.category]) (fun r V13 hp => ?_)
      obtain ⟨rfl, x14, rfl, hzx14, hx14⟩ := hp
      show fm_W p l e { frames := 2, cells := 0, slots := 0, locals := 200 } s m args below meth c (MQ below (rv_Qc D fm_cl fm_tm ad cy fm_nt Z (fun r V1 => r = none ∧ pz_I V0 V1 h S g 1 ∧ (V1 80 35).toInt = 0 ∧ (V1 80 33).toInt = (V 80 33).toInt ∧ (V1 80 41).toInt = (V 80 41).toInt ∧ (V1 80 40).toInt = (V 80 40).toInt ∧ ¬ (tp_ V1 = 42 ∨ tp_ V1 = 47 ∨ tp_ V1 = 37) ∧ (x1.toInt ≠ 0 → ¬ (tp_ V1 = 43 ∨ tp_ V1 = 45)))) args s 0 0 (fm_A fm_tm ad)) D fm_cl fm_tm ad cy (fm_A fm_tm ad) W 7 ls [.int x14]
      refine fz_if_ne X 24 d_X8_sums_7 (by decide) (fun h15 => ?_) (fun h15 => ?_)
      · skip
        refine fm_aload_n X d_X8_sums_24 rfl hl0 ?_
        refine fm_aload_n X d_X8_sums_25 rfl hl0 ?_
        refine gm_callV X Y fm_Ts_good d_X8_sums_26 (g_top hAd hZ (V := W) (by omega) (by omega)) wl_X8_251 wm_X8_top wy_X8_top (by decide) ⟨rfl, rfl⟩ (rest := [.ref (ad 80)]) rfl rfl hs (by simp [Value.category]) (fun r V16 hp => ?_)
        obtain ⟨rfl, x17, rfl, hx17⟩ := hp
        show fm_W p l e { frames := 2, cells := 0, slots := 0, locals := 200 } s m args below meth c (MQ below (rv_Qc D fm_cl fm_tm ad cy fm_nt Z (fun r V1 => r = none ∧ pz_I V0 V1 h S g 1 ∧ (V1 80 35).toInt = 0 ∧ (V1 80 33).toInt = (V 80 33).toInt ∧ (V1 80 41).toInt = (V 80 41).toInt ∧ (V1 80 40).toInt = (V 80 40).toInt ∧ ¬ (tp_ V1 = 42 ∨ tp_ V1 = 47 ∨ tp_ V1 = 37) ∧ (x1.toInt ≠ 0 → ¬ (tp_ V1 = 43 ∨ tp_ V1 = 45)))) args s 0 0 (fm_A fm_tm ad)) D fm_cl fm_tm ad cy (fm_A fm_tm ad) W 29 ls [.int x17, .ref (ad 80)]
        refine fz_iconst X d_X8_sums_29 (by decide) (fun v18 hv18 => ?_)
        have hP : (fun x : Int => x = 42 ∨ x = 47 ∨ x = 37 ∨ x = 43 ∨ x = 45) (tp_ W) := by show tp_ W = 42 ∨ tp_ W = 47 ∨ tp_ W = 37 ∨ tp_ W = 43 ∨ tp_ W = 45; omega
        have hab := hI.above (P := fun x : Int => x = 42 ∨ x = 47 ∨ x = 37 ∨ x = 43 ∨ x = 45) hsn hP (by show ¬ ((0 : Int) = 42 ∨ (0 : Int) = 47 ∨ (0 : Int) = 37 ∨ (0 : Int) = 43 ∨ (0 : Int) = 45); omega)
        refine gm_callV X Y fm_Ts_good d_X8_sums_30 (g_emit hAd hZ (V := W) (fun _ => by omega)) wl_X8_260 wm_X8_emit wy_X8_emit (by decide) ⟨rfl, rfl⟩ (rest := []) rfl rfl hs (by simp [Value.category]) (fun r V19 hp => ?_)
        obtain ⟨rfl, ⟨hq, rfl⟩ | ⟨-, yx20, hyx20, hV19⟩⟩ := hp
        · omega
        have tV19_33 : (V19 80 33).toInt = (W 80 33).toInt := by rw [hV19, u_emit_f]; rfl
        have tV19_34 : (V19 80 34).toInt = (W 80 34).toInt := by rw [hV19, u_emit_f]; rfl
        have tV19_35 : (V19 80 35).toInt = (W 80 35).toInt := by rw [hV19, u_emit_f]; rfl
        have tV19_37 : (V19 80 37).toInt = (yx20).toInt := by rw [hV19, u_emit_f]; rfl
        have tV19_38 : (V19 80 38).toInt = (W 80 38).toInt := by rw [hV19, u_emit_f]; rfl
        have tV19_39 : (V19 80 39).toInt = (W 80 39).toInt := by rw [hV19, u_emit_f]; rfl
        have tV19_40 : (V19 80 40).toInt = (W 80 40).toInt := by rw [hV19, u_emit_f]; rfl
        have tV19_41 : (V19 80 41).toInt = (W 80 41).toInt := by rw [hV19, u_emit_f]; rfl
        show fm_W p l e { frames := 2, cells := 0, slots := 0, locals := 200 } s m args below meth c (MQ below (rv_Qc D fm_cl fm_tm ad cy fm_nt Z (fun r V1 => r = none ∧ pz_I V0 V1 h S g 1 ∧ (V1 80 35).toInt = 0 ∧ (V1 80 33).toInt = (V 80 33).toInt ∧ (V1 80 41).toInt = (V 80 41).toInt ∧ (V1 80 40).toInt = (V 80 40).toInt ∧ ¬ (tp_ V1 = 42 ∨ tp_ V1 = 47 ∨ tp_ V1 = 37) ∧ (x1.toInt ≠ 0 → ¬ (tp_ V1 = 43 ∨ tp_ V1 = 45)))) args s 0 0 (fm_A fm_tm ad)) D fm_cl fm_tm ad cy (fm_A fm_tm ad) V19 33 ls []
        refine fm_aload_n X d_X8_sums_33 rfl hl0 ?_
        refine fm_dup X d_X8_sums_34 rfl ?_
        refine fz_getI X 80 d_X8_sums_35 lkX8_224 rfl rfl ?_
        refine fz_iconst X d_X8_sums_38 (by decide) (fun v21 hv21 => ?_)
        refine fz_isub X d_X8_sums_39 (by constructor <;> omega) (fun z22 hz22 => ?_)
        refine fz_put X 80 d_X8_sums_40 lkX8_224 wr_8_39 rfl rfl (by first | exact Or.inl rfl | (refine Or.inr ?_; constructor <;> omega)) (fun V23 hV23 => ?_)
        have tV23_33 : (V23 80 33).toInt = (V19 80 33).toInt := by rw [hV23, fm_up_ne (by decide)]
        have tV23_34 : (V23 80 34).toInt = (V19 80 34).toInt := by rw [hV23, fm_up_ne (by decide)]
        have tV23_35 : (V23 80 35).toInt = (V19 80 35).toInt := by rw [hV23, fm_up_ne (by decide)]
        have tV23_37 : (V23 80 37).toInt = (V19 80 37).toInt := by rw [hV23, fm_up_ne (by decide)]
        have tV23_38 : (V23 80 38).toInt = (V19 80 38).toInt := by rw [hV23, fm_up_ne (by decide)]
        have tV23_39 : (V23 80 39).toInt = (z22).toInt := by rw [hV23, fm_up_self]
        have tV23_40 : (V23 80 40).toInt = (V19 80 40).toInt := by rw [hV23, fm_up_ne (by decide)]
        have tV23_41 : (V23 80 41).toInt = (V19 80 41).toInt := by rw [hV23, fm_up_ne (by decide)]
        have hI : pz_I V0 V23 h S g 1 := by rw [hV23, hV19]; exact hI.out hg hyx20 (by omega) hab (Or.inl ⟨bo_ar hP, by omega⟩)
        refine fz_goto X 0 d_X8_sums_43 (by decide) ?_
        exact ih V23 ls (by omega) hI (by omega) (by omega) (by omega) (by omega) hs hw hl0 hl1
      · skip
        refine fm_iload_n X d_X8_sums_10 rfl hl1 ?_
        refine fz_if_eq X 46 d_X8_sums_11 (by decide) (fun h24 => ?_) (fun h24 => ?_)
        · skip
          refine gm_vret X Y hr hlk d_X8_sums_46 ⟨rfl, hI, hg, f1, f2, f3, by omega, fun _ => by omega⟩
        · skip
          refine fm_aload_n X d_X8_sums_14 rfl hl0 ?_
          refine gm_callV X Y fm_Ts_good d_X8_sums_15 (g_top hAd hZ (V := W) (by omega) (by omega)) wl_X8_251 wm_X8_top wy_X8_top (by decide) ⟨rfl, rfl⟩ (rest := []) rfl rfl hs (by simp [Value.category]) (fun r V25 hp => ?_)
          obtain ⟨rfl, x26, rfl, hx26⟩ := hp
          show fm_W p l e { frames := 2, cells := 0, slots := 0, locals := 200 } s m args below meth c (MQ below (rv_Qc D fm_cl fm_tm ad cy fm_nt Z (fun r V1 => r = none ∧ pz_I V0 V1 h S g 1 ∧ (V1 80 35).toInt = 0 ∧ (V1 80 33).toInt = (V 80 33).toInt ∧ (V1 80 41).toInt = (V 80 41).toInt ∧ (V1 80 40).toInt = (V 80 40).toInt ∧ ¬ (tp_ V1 = 42 ∨ tp_ V1 = 47 ∨ tp_ V1 = 37) ∧ (x1.toInt ≠ 0 → ¬ (tp_ V1 = 43 ∨ tp_ V1 = 45)))) args s 0 0 (fm_A fm_tm ad)) D fm_cl fm_tm ad cy (fm_A fm_tm ad) W 18 ls [.int x26]
          refine gm_callS X Y fm_Ts_good d_X8_sums_18 (g_isPlus hAd hZ) wl_X8_257 wm_X8_isPlus wy_X8_isPlus (by decide) (rest := []) rfl rfl hs (by simp [Value.category]) (fun r V27 hp => ?_)
          obtain ⟨rfl, x28, rfl, hzx28, hx28⟩ := hp
          show fm_W p l e { frames := 2, cells := 0, slots := 0, locals := 200 } s m args below meth c (MQ below (rv_Qc D fm_cl fm_tm ad cy fm_nt Z (fun r V1 => r = none ∧ pz_I V0 V1 h S g 1 ∧ (V1 80 35).toInt = 0 ∧ (V1 80 33).toInt = (V 80 33).toInt ∧ (V1 80 41).toInt = (V 80 41).toInt ∧ (V1 80 40).toInt = (V 80 40).toInt ∧ ¬ (tp_ V1 = 42 ∨ tp_ V1 = 47 ∨ tp_ V1 = 37) ∧ (x1.toInt ≠ 0 → ¬ (tp_ V1 = 43 ∨ tp_ V1 = 45)))) args s 0 0 (fm_A fm_tm ad)) D fm_cl fm_tm ad cy (fm_A fm_tm ad) W 21 ls [.int x28]
          refine fz_if_eq X 46 d_X8_sums_21 (by decide) (fun h29 => ?_) (fun h29 => ?_)
          · skip
            refine gm_vret X Y hr hlk d_X8_sums_46 ⟨rfl, hI, hg, f1, f2, f3, by omega, fun _ => by omega⟩
          · skip
            refine fm_aload_n X d_X8_sums_24 rfl hl0 ?_
            refine fm_aload_n X d_X8_sums_25 rfl hl0 ?_
            refine gm_callV X Y fm_Ts_good d_X8_sums_26 (g_top hAd hZ (V := W) (by omega) (by omega)) wl_X8_251 wm_X8_top wy_X8_top (by decide) ⟨rfl, rfl⟩ (rest := [.ref (ad 80)]) rfl rfl hs (by simp [Value.category]) (fun r V30 hp => ?_)
            obtain ⟨rfl, x31, rfl, hx31⟩ := hp
            show fm_W p l e { frames := 2, cells := 0, slots := 0, locals := 200 } s m args below meth c (MQ below (rv_Qc D fm_cl fm_tm ad cy fm_nt Z (fun r V1 => r = none ∧ pz_I V0 V1 h S g 1 ∧ (V1 80 35).toInt = 0 ∧ (V1 80 33).toInt = (V 80 33).toInt ∧ (V1 80 41).toInt = (V 80 41).toInt ∧ (V1 80 40).toInt = (V 80 40).toInt ∧ ¬ (tp_ V1 = 42 ∨ tp_ V1 = 47 ∨ tp_ V1 = 37) ∧ (x1.toInt ≠ 0 → ¬ (tp_ V1 = 43 ∨ tp_ V1 = 45)))) args s 0 0 (fm_A fm_tm ad)) D fm_cl fm_tm ad cy (fm_A fm_tm ad) W 29 ls [.int x31, .ref (ad 80)]
            refine fz_iconst X d_X8_sums_29 (by decide) (fun v32 hv32 => ?_)
            have hP : (fun x : Int => x = 42 ∨ x = 47 ∨ x = 37 ∨ x = 43 ∨ x = 45) (tp_ W) := by show tp_ W = 42 ∨ tp_ W = 47 ∨ tp_ W = 37 ∨ tp_ W = 43 ∨ tp_ W = 45; omega
            have hab := hI.above (P := fun x : Int => x = 42 ∨ x = 47 ∨ x = 37 ∨ x = 43 ∨ x = 45) hsn hP (by show ¬ ((0 : Int) = 42 ∨ (0 : Int) = 47 ∨ (0 : Int) = 37 ∨ (0 : Int) = 43 ∨ (0 : Int) = 45); omega)
            refine gm_callV X Y fm_Ts_good d_X8_sums_30 (g_emit hAd hZ (V := W) (fun _ => by omega)) wl_X8_260 wm_X8_emit wy_X8_emit (by decide) ⟨rfl, rfl⟩ (rest := []) rfl rfl hs (by simp [Value.category]) (fun r V33 hp => ?_)
            obtain ⟨rfl, ⟨hq, rfl⟩ | ⟨-, yx34, hyx34, hV33⟩⟩ := hp
            · omega
            have tV33_33 : (V33 80 33).toInt = (W 80 33).toInt := by rw [hV33, u_emit_f]; rfl
            have tV33_34 : (V33 80 34).toInt = (W 80 34).toInt := by rw [hV33, u_emit_f]; rfl
            have tV33_35 : (V33 80 35).toInt = (W 80 35).toInt := by rw [hV33, u_emit_f]; rfl
            have tV33_37 : (V33 80 37).toInt = (yx34).toInt := by rw [hV33, u_emit_f]; rfl
            have tV33_38 : (V33 80 38).toInt = (W 80 38).toInt := by rw [hV33, u_emit_f]; rfl
            have tV33_39 : (V33 80 39).toInt = (W 80 39).toInt := by rw [hV33, u_emit_f]; rfl
            have tV33_40 : (V33 80 40).toInt = (W 80 40).toInt := by rw [hV33, u_emit_f]; rfl
            have tV33_41 : (V33 80 41).toInt = (W 80 41).toInt := by rw [hV33, u_emit_f]; rfl
            show fm_W p l e { frames := 2, cells := 0, slots := 0, locals := 200 } s m args below meth c (MQ below (rv_Qc D fm_cl fm_tm ad cy fm_nt Z (fun r V1 => r = none ∧ pz_I V0 V1 h S g 1 ∧ (V1 80 35).toInt = 0 ∧ (V1 80 33).toInt = (V 80 33).toInt ∧ (V1 80 41).toInt = (V 80 41).toInt ∧ (V1 80 40).toInt = (V 80 40).toInt ∧ ¬ (tp_ V1 = 42 ∨ tp_ V1 = 47 ∨ tp_ V1 = 37) ∧ (x1.toInt ≠ 0 → ¬ (tp_ V1 = 43 ∨ tp_ V1 = 45)))) args s 0 0 (fm_A fm_tm ad)) D fm_cl fm_tm ad cy (fm_A fm_tm ad) V33 33 ls []
            refine fm_aload_n X d_X8_sums_33 rfl hl0 ?_
            refine fm_dup X d_X8_sums_34 rfl ?_
            refine fz_getI X 80 d_X8_sums_35 lkX8_224 rfl rfl ?_
            refine fz_iconst X d_X8_sums_38 (by decide) (fun v35 hv35 => ?_)
            refine fz_isub X d_X8_sums_39 (by constructor <;> omega) (fun z36 hz36 => ?_)
            refine fz_put X 80 d_X8_sums_40 lkX8_224 wr_8_39 rfl rfl (by first | exact Or.inl rfl | (refine Or.inr ?_; constructor <;> omega)) (fun V37 hV37 => ?_)
            have tV37_33 : (V37 80 33).toInt = (V33 80 33).toInt := by rw [hV37, fm_up_ne (by decide)]
            have tV37_34 : (V37 80 34).toInt = (V33 80 34).toInt := by rw [hV37, fm_up_ne (by decide)]
            have tV37_35 : (V37 80 35).toInt = (V33 80 35).toInt := by rw [hV37, fm_up_ne (by decide)]
            have tV37_37 : (V37 80 37).toInt = (V33 80 37).toInt := by rw [hV37, fm_up_ne (by decide)]
            have tV37_38 : (V37 80 38).toInt = (V33 80 38).toInt := by rw [hV37, fm_up_ne (by decide)]
            have tV37_39 : (V37 80 39).toInt = (z36).toInt := by rw [hV37, fm_up_self]
            have tV37_40 : (V37 80 40).toInt = (V33 80 40).toInt := by rw [hV37, fm_up_ne (by decide)]
            have tV37_41 : (V37 80 41).toInt = (V33 80 41).toInt := by rw [hV37, fm_up_ne (by decide)]
            have hI : pz_I V0 V37 h S g 1 := by rw [hV37, hV33]; exact hI.out hg hyx34 (by omega) hab (Or.inl ⟨bo_ar hP, by omega⟩)
            refine fz_goto X 0 d_X8_sums_43 (by decide) ?_
            exact ih V37 ls (by omega) hI (by omega) (by omega) (by omega) (by omega) hs hw hl0 hl1
  exact loop _ V ls (Nat.lt_succ_self _) hI hg rfl rfl rfl hs hw hl0 hl1
theorem g_joins {l : Launch} {D : va_G} {ad : Nat → Nat} {cy : Nat → ClassId} {Z : State → Heap → Prop} (hAd : fm_Ad fm_tm ad) (hZ : fm_Zk (fm_A fm_tm ad) Z) {V : fm_V} {V0 : fm_V} {h g : Nat} {S : Int → Prop} {x1 : Int32} (hI : pz_I V0 V h S g 1) (hg : (V 80 35).toInt = 0) (hsn : 0 < h → ¬ (fun x : Int => x = 38 ∨ x = 124) (V0 107 (h - 1)).toInt) : gm_M l D fm_cl fm_tm ad cy fm_nt Z yX8_joins (.code yX8_joins prog_10_method_33_code 2 none :: fm_Ts) { frames := 2, cells := 0, slots := 0, locals := 200 } V [.ref (ad 80), .int x1] (fun r V1 => r = none ∧ pz_I V0 V1 h S g 1 ∧ (V1 80 35).toInt = 0 ∧ (V1 80 33).toInt = (V 80 33).toInt ∧ (V1 80 41).toInt = (V 80 41).toInt ∧ (V1 80 40).toInt = (V 80 40).toInt ∧ tp_ V1 ≠ 38 ∧ (x1.toInt ≠ 0 → tp_ V1 ≠ 124)) := by
  refine gm_at hAd hZ (by decide +kernel) (by simp [lg_sl, Value.category]) ?_
  intro p e s m args below meth c ls hr hlk X Y hl
  have hl0 : ls[0]? = some (.val (.ref (ad 80))) := hl.2.2 (0, .ref (ad 80)) (by simp [lv_args, Value.category])
  have hl1 : ls[1]? = some (.val (.int x1)) := hl.2.2 (1, .int x1) (by simp [lv_args, Value.category])
  have hs := hl.1
  have hw := hl.2.1
  clear hl
  have loop : ∀ (N : Nat), ∀ (W : fm_V) (ls : Array Slot), (W 80 39).toInt.toNat < N → pz_I V0 W h S g 1 → (W 80 35).toInt = 0 → (W 80 33).toInt = (V 80 33).toInt → (W 80 41).toInt = (V 80 41).toInt → (W 80 40).toInt = (V 80 40).toInt → ls.size = 2 → lv_wf ls → ls[0]? = some (.val (.ref (ad 80))) → ls[1]? = some (.val (.int x1)) → fm_W p l e { frames := 2, cells := 0, slots := 0, locals := 200 } s m args below meth c (MQ below (rv_Qc D fm_cl fm_tm ad cy fm_nt Z (fun r V1 => r = none ∧ pz_I V0 V1 h S g 1 ∧ (V1 80 35).toInt = 0 ∧ (V1 80 33).toInt = (V 80 33).toInt ∧ (V1 80 41).toInt = (V 80 41).toInt ∧ (V1 80 40).toInt = (V 80 40).toInt ∧ tp_ V1 ≠ 38 ∧ (x1.toInt ≠ 0 → tp_ V1 ≠ 124))) args s 0 0 (fm_A fm_tm ad)) D fm_cl fm_tm ad cy (fm_A fm_tm ad) W 0 ls [] := by
    intro N
    induction N with
    | zero => intro W ls h; omega
    | succ N ih =>
      intro W ls hN hI hg f1 f2 f3 hs hw hl0 hl1
      obtain ⟨q1, q2, q3, q4, q5, q6, q7⟩ := hI.B
      have q8 := hI.pl
      have q9 := hI.c0
      have q10 := hI.hk
      have q11 := hI.en
      refine fm_aload_n X d_X8_joins_0 rfl hl0 ?_
      refine gm_callV X Y fm_Ts_good d_X8_joins_1 (g_top hAd hZ (V := W) (by omega) (by omega)) wl_X8_251 wm_X8_top wy_X8_top (by decide) ⟨rfl, rfl⟩ (rest := []) rfl rfl hs (by simp [Value.category]) (fun r V11 hp => ?_)
      obtain ⟨rfl, x12, rfl, hx12⟩ := hp
      show fm_W p l e { frames := 2, cells := 0, slots := 0, locals := 200 } s m args below meth c (MQ below (rv_Qc D fm_cl fm_tm ad cy fm_nt Z (fun r V1 => r = none ∧ pz_I V0 V1 h S g 1 ∧ (V1 80 35).toInt = 0 ∧ (V1 80 33).toInt = (V 80 33).toInt ∧ (V1 80 41).toInt = (V 80 41).toInt ∧ (V1 80 40).toInt = (V 80 40).toInt ∧ tp_ V1 ≠ 38 ∧ (x1.toInt ≠ 0 → tp_ V1 ≠ 124))) args s 0 0 (fm_A fm_tm ad)) D fm_cl fm_tm ad cy (fm_A fm_tm ad) W 4 ls [.int x12]
      refine fz_bipush X d_X8_joins_4 (by decide) (fun v13 hv13 => ?_)
      refine fz_icmp_eq X 22 d_X8_joins_6 (by decide) (fun h14 => ?_) (fun h14 => ?_)
      · skip
        refine fm_aload_n X d_X8_joins_22 rfl hl0 ?_
        refine fm_aload_n X d_X8_joins_23 rfl hl0 ?_
        refine gm_callV X Y fm_Ts_good d_X8_joins_24 (g_top hAd hZ (V := W) (by omega) (by omega)) wl_X8_251 wm_X8_top wy_X8_top (by decide) ⟨rfl, rfl⟩ (rest := [.ref (ad 80)]) rfl rfl hs (by simp [Value.category]) (fun r V15 hp => ?_)
        obtain ⟨rfl, x16, rfl, hx16⟩ := hp
        show fm_W p l e { frames := 2, cells := 0, slots := 0, locals := 200 } s m args below meth c (MQ below (rv_Qc D fm_cl fm_tm ad cy fm_nt Z (fun r V1 => r = none ∧ pz_I V0 V1 h S g 1 ∧ (V1 80 35).toInt = 0 ∧ (V1 80 33).toInt = (V 80 33).toInt ∧ (V1 80 41).toInt = (V 80 41).toInt ∧ (V1 80 40).toInt = (V 80 40).toInt ∧ tp_ V1 ≠ 38 ∧ (x1.toInt ≠ 0 → tp_ V1 ≠ 124))) args s 0 0 (fm_A fm_tm ad)) D fm_cl fm_tm ad cy (fm_A fm_tm ad) W 27 ls [.int x16, .ref (ad 80)]
        refine fz_iconst X d_X8_joins_27 (by decide) (fun v17 hv17 => ?_)
        have hP : (fun x : Int => x = 38 ∨ x = 124) (tp_ W) := by show tp_ W = 38 ∨ tp_ W = 124; omega
        have hab := hI.above (P := fun x : Int => x = 38 ∨ x = 124) hsn hP (by show ¬ ((0 : Int) = 38 ∨ (0 : Int) = 124); omega)
        refine gm_callV X Y fm_Ts_good d_X8_joins_28 (g_emit hAd hZ (V := W) (fun _ => by omega)) wl_X8_260 wm_X8_emit wy_X8_emit (by decide) ⟨rfl, rfl⟩ (rest := []) rfl rfl hs (by simp [Value.category]) (fun r V18 hp => ?_)
        obtain ⟨rfl, ⟨hq, rfl⟩ | ⟨-, yx19, hyx19, hV18⟩⟩ := hp
        · omega
        have tV18_33 : (V18 80 33).toInt = (W 80 33).toInt := by rw [hV18, u_emit_f]; rfl
        have tV18_34 : (V18 80 34).toInt = (W 80 34).toInt := by rw [hV18, u_emit_f]; rfl
        have tV18_35 : (V18 80 35).toInt = (W 80 35).toInt := by rw [hV18, u_emit_f]; rfl
        have tV18_37 : (V18 80 37).toInt = (yx19).toInt := by rw [hV18, u_emit_f]; rfl
        have tV18_38 : (V18 80 38).toInt = (W 80 38).toInt := by rw [hV18, u_emit_f]; rfl
        have tV18_39 : (V18 80 39).toInt = (W 80 39).toInt := by rw [hV18, u_emit_f]; rfl
        have tV18_40 : (V18 80 40).toInt = (W 80 40).toInt := by rw [hV18, u_emit_f]; rfl
        have tV18_41 : (V18 80 41).toInt = (W 80 41).toInt := by rw [hV18, u_emit_f]; rfl
        show fm_W p l e { frames := 2, cells := 0, slots := 0, locals := 200 } s m args below meth c (MQ below (rv_Qc D fm_cl fm_tm ad cy fm_nt Z (fun r V1 => r = none ∧ pz_I V0 V1 h S g 1 ∧ (V1 80 35).toInt = 0 ∧ (V1 80 33).toInt = (V 80 33).toInt ∧ (V1 80 41).toInt = (V 80 41).toInt ∧ (V1 80 40).toInt = (V 80 40).toInt ∧ tp_ V1 ≠ 38 ∧ (x1.toInt ≠ 0 → tp_ V1 ≠ 124))) args s 0 0 (fm_A fm_tm ad)) D fm_cl fm_tm ad cy (fm_A fm_tm ad) V18 31 ls []
        refine fm_aload_n X d_X8_joins_31 rfl hl0 ?_
        refine fm_dup X d_X8_joins_32 rfl ?_
        refine fz_getI X 80 d_X8_joins_33 lkX8_224 rfl rfl ?_
        refine fz_iconst X d_X8_joins_36 (by decide) (fun v20 hv20 => ?_)
        refine fz_isub X d_X8_joins_37 (by constructor <;> omega) (fun z21 hz21 => ?_)
        refine fz_put X 80 d_X8_joins_38 lkX8_224 wr_8_39 rfl rfl (by first | exact Or.inl rfl | (refine Or.inr ?_; constructor <;> omega)) (fun V22 hV22 => ?_)
        have tV22_33 : (V22 80 33).toInt = (V18 80 33).toInt := by rw [hV22, fm_up_ne (by decide)]
        have tV22_34 : (V22 80 34).toInt = (V18 80 34).toInt := by rw [hV22, fm_up_ne (by decide)]
        have tV22_35 : (V22 80 35).toInt = (V18 80 35).toInt := by rw [hV22, fm_up_ne (by decide)]
        have tV22_37 : (V22 80 37).toInt = (V18 80 37).toInt := by rw [hV22, fm_up_ne (by decide)]
        have tV22_38 : (V22 80 38).toInt = (V18 80 38).toInt := by rw [hV22, fm_up_ne (by decide)]
        have tV22_39 : (V22 80 39).toInt = (z21).toInt := by rw [hV22, fm_up_self]
        have tV22_40 : (V22 80 40).toInt = (V18 80 40).toInt := by rw [hV22, fm_up_ne (by decide)]
        have tV22_41 : (V22 80 41).toInt = (V18 80 41).toInt := by rw [hV22, fm_up_ne (by decide)]
        have hI : pz_I V0 V22 h S g 1 := by rw [hV22, hV18]; exact hI.out hg hyx19 (by omega) hab (Or.inl ⟨by unfold bo_; simp only [Bool.or_eq_true, decide_eq_true_eq]; omega, by omega⟩)
        refine fz_goto X 0 d_X8_joins_41 (by decide) ?_
        exact ih V22 ls (by omega) hI (by omega) (by omega) (by omega) (by omega) hs hw hl0 hl1
      · skip
        refine fm_iload_n X d_X8_joins_9 rfl hl1 ?_
        refine fz_if_eq X 44 d_X8_joins_10 (by decide) (fun h23 => ?_) (fun h23 => ?_)
        · skip
          refine gm_vret X Y hr hlk d_X8_joins_44 ⟨rfl, hI, hg, f1, f2, f3, by omega, fun _ => by omega⟩
        · skip
          refine fm_aload_n X d_X8_joins_13 rfl hl0 ?_
          refine gm_callV X Y fm_Ts_good d_X8_joins_14 (g_top hAd hZ (V := W) (by omega) (by omega)) wl_X8_251 wm_X8_top wy_X8_top (by decide) ⟨rfl, rfl⟩ (rest := []) rfl rfl hs (by simp [Value.category]) (fun r V24 hp => ?_)
          obtain ⟨rfl, x25, rfl, hx25⟩ := hp
          show fm_W p l e { frames := 2, cells := 0, slots := 0, locals := 200 } s m args below meth c (MQ below (rv_Qc D fm_cl fm_tm ad cy fm_nt Z (fun r V1 => r = none ∧ pz_I V0 V1 h S g 1 ∧ (V1 80 35).toInt = 0 ∧ (V1 80 33).toInt = (V 80 33).toInt ∧ (V1 80 41).toInt = (V 80 41).toInt ∧ (V1 80 40).toInt = (V 80 40).toInt ∧ tp_ V1 ≠ 38 ∧ (x1.toInt ≠ 0 → tp_ V1 ≠ 124))) args s 0 0 (fm_A fm_tm ad)) D fm_cl fm_tm ad cy (fm_A fm_tm ad) W 17 ls [.int x25]
          refine fz_bipush X d_X8_joins_17 (by decide) (fun v26 hv26 => ?_)
          refine fz_icmp_ne X 44 d_X8_joins_19 (by decide) (fun h27 => ?_) (fun h27 => ?_)
          · skip
            refine gm_vret X Y hr hlk d_X8_joins_44 ⟨rfl, hI, hg, f1, f2, f3, by omega, fun _ => by omega⟩
          · skip
            refine fm_aload_n X d_X8_joins_22 rfl hl0 ?_
            refine fm_aload_n X d_X8_joins_23 rfl hl0 ?_
            refine gm_callV X Y fm_Ts_good d_X8_joins_24 (g_top hAd hZ (V := W) (by omega) (by omega)) wl_X8_251 wm_X8_top wy_X8_top (by decide) ⟨rfl, rfl⟩ (rest := [.ref (ad 80)]) rfl rfl hs (by simp [Value.category]) (fun r V28 hp => ?_)
            obtain ⟨rfl, x29, rfl, hx29⟩ := hp
            show fm_W p l e { frames := 2, cells := 0, slots := 0, locals := 200 } s m args below meth c (MQ below (rv_Qc D fm_cl fm_tm ad cy fm_nt Z (fun r V1 => r = none ∧ pz_I V0 V1 h S g 1 ∧ (V1 80 35).toInt = 0 ∧ (V1 80 33).toInt = (V 80 33).toInt ∧ (V1 80 41).toInt = (V 80 41).toInt ∧ (V1 80 40).toInt = (V 80 40).toInt ∧ tp_ V1 ≠ 38 ∧ (x1.toInt ≠ 0 → tp_ V1 ≠ 124))) args s 0 0 (fm_A fm_tm ad)) D fm_cl fm_tm ad cy (fm_A fm_tm ad) W 27 ls [.int x29, .ref (ad 80)]
            refine fz_iconst X d_X8_joins_27 (by decide) (fun v30 hv30 => ?_)
            have hP : (fun x : Int => x = 38 ∨ x = 124) (tp_ W) := by show tp_ W = 38 ∨ tp_ W = 124; omega
            have hab := hI.above (P := fun x : Int => x = 38 ∨ x = 124) hsn hP (by show ¬ ((0 : Int) = 38 ∨ (0 : Int) = 124); omega)
            refine gm_callV X Y fm_Ts_good d_X8_joins_28 (g_emit hAd hZ (V := W) (fun _ => by omega)) wl_X8_260 wm_X8_emit wy_X8_emit (by decide) ⟨rfl, rfl⟩ (rest := []) rfl rfl hs (by simp [Value.category]) (fun r V31 hp => ?_)
            obtain ⟨rfl, ⟨hq, rfl⟩ | ⟨-, yx32, hyx32, hV31⟩⟩ := hp
            · omega
            have tV31_33 : (V31 80 33).toInt = (W 80 33).toInt := by rw [hV31, u_emit_f]; rfl
            have tV31_34 : (V31 80 34).toInt = (W 80 34).toInt := by rw [hV31, u_emit_f]; rfl
            have tV31_35 : (V31 80 35).toInt = (W 80 35).toInt := by rw [hV31, u_emit_f]; rfl
            have tV31_37 : (V31 80 37).toInt = (yx32).toInt := by rw [hV31, u_emit_f]; rfl
            have tV31_38 : (V31 80 38).toInt = (W 80 38).toInt := by rw [hV31, u_emit_f]; rfl
            have tV31_39 : (V31 80 39).toInt = (W 80 39).toInt := by rw [hV31, u_emit_f]; rfl
            have tV31_40 : (V31 80 40).toInt = (W 80 40).toInt := by rw [hV31, u_emit_f]; rfl
            have tV31_41 : (V31 80 41).toInt = (W 80 41).toInt := by rw [hV31, u_emit_f]; rfl
            show fm_W p l e { frames := 2, cells := 0, slots := 0, locals := 200 } s m args below meth c (MQ below (rv_Qc D fm_cl fm_tm ad cy fm_nt Z (fun r V1 => r = none ∧ pz_I V0 V1 h S g 1 ∧ (V1 80 35).toInt = 0 ∧ (V1 80 33).toInt = (V 80 33).toInt ∧ (V1 80 41).toInt = (V 80 41).toInt ∧ (V1 80 40).toInt = (V 80 40).toInt ∧ tp_ V1 ≠ 38 ∧ (x1.toInt ≠ 0 → tp_ V1 ≠ 124))) args s 0 0 (fm_A fm_tm ad)) D fm_cl fm_tm ad cy (fm_A fm_tm ad) V31 31 ls []
            refine fm_aload_n X d_X8_joins_31 rfl hl0 ?_
            refine fm_dup X d_X8_joins_32 rfl ?_
            refine fz_getI X 80 d_X8_joins_33 lkX8_224 rfl rfl ?_
            refine fz_iconst X d_X8_joins_36 (by decide) (fun v33 hv33 => ?_)
            refine fz_isub X d_X8_joins_37 (by constructor <;> omega) (fun z34 hz34 => ?_)
            refine fz_put X 80 d_X8_joins_38 lkX8_224 wr_8_39 rfl rfl (by first | exact Or.inl rfl | (refine Or.inr ?_; constructor <;> omega)) (fun V35 hV35 => ?_)
            have tV35_33 : (V35 80 33).toInt = (V31 80 33).toInt := by rw [hV35, fm_up_ne (by decide)]
            have tV35_34 : (V35 80 34).toInt = (V31 80 34).toInt := by rw [hV35, fm_up_ne (by decide)]
            have tV35_35 : (V35 80 35).toInt = (V31 80 35).toInt := by rw [hV35, fm_up_ne (by decide)]
            have tV35_37 : (V35 80 37).toInt = (V31 80 37).toInt := by rw [hV35, fm_up_ne (by decide)]
            have tV35_38 : (V35 80 38).toInt = (V31 80 38).toInt := by rw [hV35, fm_up_ne (by decide)]
            have tV35_39 : (V35 80 39).toInt = (z34).toInt := by rw [hV35, fm_up_self]
            have tV35_40 : (V35 80 40).toInt = (V31 80 40).toInt := by rw [hV35, fm_up_ne (by decide)]
            have tV35_41 : (V35 80 41).toInt = (V31 80 41).toInt := by rw [hV35, fm_up_ne (by decide)]
            have hI : pz_I V0 V35 h S g 1 := by rw [hV35, hV31]; exact hI.out hg hyx32 (by omega) hab (Or.inl ⟨by unfold bo_; simp only [Bool.or_eq_true, decide_eq_true_eq]; omega, by omega⟩)
            refine fz_goto X 0 d_X8_joins_41 (by decide) ?_
            exact ih V35 ls (by omega) hI (by omega) (by omega) (by omega) (by omega) hs hw hl0 hl1
  exact loop _ V ls (Nat.lt_succ_self _) hI hg rfl rfl rfl hs hw hl0 hl1
theorem g_ends {l : Launch} {D : va_G} {ad : Nat → Nat} {cy : Nat → ClassId} {Z : State → Heap → Prop} (hAd : fm_Ad fm_tm ad) (hZ : fm_Zk (fm_A fm_tm ad) Z) {V : fm_V} {V0 : fm_V} {h g : Nat} {S : Int → Prop}  (hI : pz_I V0 V h S g 1) (hg : (V 80 35).toInt = 0) (hsn : 0 < h → ¬ (fun x : Int => x = 33) (V0 107 (h - 1)).toInt) : gm_M l D fm_cl fm_tm ad cy fm_nt Z yX8_ends (.code yX8_ends prog_10_method_34_code 1 none :: fm_Ts) { frames := 2, cells := 0, slots := 0, locals := 200 } V [.ref (ad 80)] (fun r V1 => r = none ∧ pz_I V0 V1 h S g 1 ∧ (V1 80 35).toInt = 0 ∧ (V1 80 33).toInt = (V 80 33).toInt ∧ (V1 80 41).toInt = (V 80 41).toInt ∧ (V1 80 40).toInt = (V 80 40).toInt ∧ tp_ V1 ≠ 33) := by
  refine gm_at hAd hZ (by decide +kernel) (by simp [lg_sl, Value.category]) ?_
  intro p e s m args below meth c ls hr hlk X Y hl
  have hl0 : ls[0]? = some (.val (.ref (ad 80))) := hl.2.2 (0, .ref (ad 80)) (by simp [lv_args, Value.category])
  have hs := hl.1
  have hw := hl.2.1
  clear hl
  have loop : ∀ (N : Nat), ∀ (W : fm_V) (ls : Array Slot), (W 80 39).toInt.toNat < N → pz_I V0 W h S g 1 → (W 80 35).toInt = 0 → (W 80 33).toInt = (V 80 33).toInt → (W 80 41).toInt = (V 80 41).toInt → (W 80 40).toInt = (V 80 40).toInt → ls.size = 1 → lv_wf ls → ls[0]? = some (.val (.ref (ad 80))) → fm_W p l e { frames := 2, cells := 0, slots := 0, locals := 200 } s m args below meth c (MQ below (rv_Qc D fm_cl fm_tm ad cy fm_nt Z (fun r V1 => r = none ∧ pz_I V0 V1 h S g 1 ∧ (V1 80 35).toInt = 0 ∧ (V1 80 33).toInt = (V 80 33).toInt ∧ (V1 80 41).toInt = (V 80 41).toInt ∧ (V1 80 40).toInt = (V 80 40).toInt ∧ tp_ V1 ≠ 33)) args s 0 0 (fm_A fm_tm ad)) D fm_cl fm_tm ad cy (fm_A fm_tm ad) W 0 ls [] := by
    intro N
    induction N with
    | zero => intro W ls h; omega
    | succ N ih =>
      intro W ls hN hI hg f1 f2 f3 hs hw hl0
      obtain ⟨q1, q2, q3, q4, q5, q6, q7⟩ := hI.B
      have q8 := hI.pl
      have q9 := hI.c0
      have q10 := hI.hk
      have q11 := hI.en
      refine fm_aload_n X d_X8_ends_0 rfl hl0 ?_
      refine gm_callV X Y fm_Ts_good d_X8_ends_1 (g_top hAd hZ (V := W) (by omega) (by omega)) wl_X8_251 wm_X8_top wy_X8_top (by decide) ⟨rfl, rfl⟩ (rest := []) rfl rfl hs (by simp [Value.category]) (fun r V11 hp => ?_)
      obtain ⟨rfl, x12, rfl, hx12⟩ := hp
      show fm_W p l e { frames := 2, cells := 0, slots := 0, locals := 200 } s m args below meth c (MQ below (rv_Qc D fm_cl fm_tm ad cy fm_nt Z (fun r V1 => r = none ∧ pz_I V0 V1 h S g 1 ∧ (V1 80 35).toInt = 0 ∧ (V1 80 33).toInt = (V 80 33).toInt ∧ (V1 80 41).toInt = (V 80 41).toInt ∧ (V1 80 40).toInt = (V 80 40).toInt ∧ tp_ V1 ≠ 33)) args s 0 0 (fm_A fm_tm ad)) D fm_cl fm_tm ad cy (fm_A fm_tm ad) W 4 ls [.int x12]
      refine fz_bipush X d_X8_ends_4 (by decide) (fun v13 hv13 => ?_)
      refine fz_icmp_ne X 38 d_X8_ends_6 (by decide) (fun h14 => ?_) (fun h14 => ?_)
      · skip
        refine gm_vret X Y hr hlk d_X8_ends_38 ⟨rfl, hI, hg, f1, f2, f3, by omega⟩
      · skip
        refine fm_aload_n X d_X8_ends_9 rfl hl0 ?_
        refine fz_iconst X d_X8_ends_10 (by decide) (fun v15 hv15 => ?_)
        refine fz_iconst X d_X8_ends_11 (by decide) (fun v16 hv16 => ?_)
        have hP : (fun x : Int => x = 33) (tp_ W) := by show tp_ W = 33; omega
        have hab := hI.above (P := fun x : Int => x = 33) hsn hP (by show ¬ ((0 : Int) = 33); omega)
        refine gm_callV X Y fm_Ts_good d_X8_ends_12 (g_emit hAd hZ (V := W) (fun _ => by omega)) wl_X8_260 wm_X8_emit wy_X8_emit (by decide) ⟨rfl, rfl⟩ (rest := []) rfl rfl hs (by simp [Value.category]) (fun r V17 hp => ?_)
        obtain ⟨rfl, ⟨hq, rfl⟩ | ⟨-, yx18, hyx18, hV17⟩⟩ := hp
        · omega
        have tV17_33 : (V17 80 33).toInt = (W 80 33).toInt := by rw [hV17, u_emit_f]; rfl
        have tV17_34 : (V17 80 34).toInt = (W 80 34).toInt := by rw [hV17, u_emit_f]; rfl
        have tV17_35 : (V17 80 35).toInt = (W 80 35).toInt := by rw [hV17, u_emit_f]; rfl
        have tV17_37 : (V17 80 37).toInt = (yx18).toInt := by rw [hV17, u_emit_f]; rfl
        have tV17_38 : (V17 80 38).toInt = (W 80 38).toInt := by rw [hV17, u_emit_f]; rfl
        have tV17_39 : (V17 80 39).toInt = (W 80 39).toInt := by rw [hV17, u_emit_f]; rfl
        have tV17_40 : (V17 80 40).toInt = (W 80 40).toInt := by rw [hV17, u_emit_f]; rfl
        have tV17_41 : (V17 80 41).toInt = (W 80 41).toInt := by rw [hV17, u_emit_f]; rfl
        show fm_W p l e { frames := 2, cells := 0, slots := 0, locals := 200 } s m args below meth c (MQ below (rv_Qc D fm_cl fm_tm ad cy fm_nt Z (fun r V1 => r = none ∧ pz_I V0 V1 h S g 1 ∧ (V1 80 35).toInt = 0 ∧ (V1 80 33).toInt = (V 80 33).toInt ∧ (V1 80 41).toInt = (V 80 41).toInt ∧ (V1 80 40).toInt = (V 80 40).toInt ∧ tp_ V1 ≠ 33)) args s 0 0 (fm_A fm_tm ad)) D fm_cl fm_tm ad cy (fm_A fm_tm ad) V17 15 ls []
        refine fm_aload_n X d_X8_ends_15 rfl hl0 ?_
        refine fm_dup X d_X8_ends_16 rfl ?_
        refine fz_getI X 80 d_X8_ends_17 lkX8_224 rfl rfl ?_
        refine fz_iconst X d_X8_ends_20 (by decide) (fun v19 hv19 => ?_)
        refine fz_isub X d_X8_ends_21 (by constructor <;> omega) (fun z20 hz20 => ?_)
        refine fz_put X 80 d_X8_ends_22 lkX8_224 wr_8_39 rfl rfl (by first | exact Or.inl rfl | (refine Or.inr ?_; constructor <;> omega)) (fun V21 hV21 => ?_)
        have tV21_33 : (V21 80 33).toInt = (V17 80 33).toInt := by rw [hV21, fm_up_ne (by decide)]
        have tV21_34 : (V21 80 34).toInt = (V17 80 34).toInt := by rw [hV21, fm_up_ne (by decide)]
        have tV21_35 : (V21 80 35).toInt = (V17 80 35).toInt := by rw [hV21, fm_up_ne (by decide)]
        have tV21_37 : (V21 80 37).toInt = (V17 80 37).toInt := by rw [hV21, fm_up_ne (by decide)]
        have tV21_38 : (V21 80 38).toInt = (V17 80 38).toInt := by rw [hV21, fm_up_ne (by decide)]
        have tV21_39 : (V21 80 39).toInt = (z20).toInt := by rw [hV21, fm_up_self]
        have tV21_40 : (V21 80 40).toInt = (V17 80 40).toInt := by rw [hV21, fm_up_ne (by decide)]
        have tV21_41 : (V21 80 41).toInt = (V17 80 41).toInt := by rw [hV21, fm_up_ne (by decide)]
        have hI : pz_I V0 V21 h S g 1 := by rw [hV21, hV17]; exact hI.out hg hyx18 (by omega) hab (Or.inr ⟨by rw [show tp_ W = 33 by omega]; rfl, by omega⟩)
        refine fm_aload_n X d_X8_ends_25 rfl hl0 ?_
        refine fm_dup X d_X8_ends_26 rfl ?_
        refine fz_getI X 80 d_X8_ends_27 lkX8_227 rfl rfl ?_
        refine fz_iconst X d_X8_ends_30 (by decide) (fun v22 hv22 => ?_)
        refine fa_isub X d_X8_ends_31 (fun z23 => ?_)
        refine fz_put X 80 d_X8_ends_32 lkX8_227 wr_8_38 rfl rfl (by first | exact Or.inl rfl | (refine Or.inr ?_; constructor <;> omega)) (fun V24 hV24 => ?_)
        have tV24_33 : (V24 80 33).toInt = (V21 80 33).toInt := by rw [hV24, fm_up_ne (by decide)]
        have tV24_34 : (V24 80 34).toInt = (V21 80 34).toInt := by rw [hV24, fm_up_ne (by decide)]
        have tV24_35 : (V24 80 35).toInt = (V21 80 35).toInt := by rw [hV24, fm_up_ne (by decide)]
        have tV24_37 : (V24 80 37).toInt = (V21 80 37).toInt := by rw [hV24, fm_up_ne (by decide)]
        have tV24_38 : (V24 80 38).toInt = (z23).toInt := by rw [hV24, fm_up_self]
        have tV24_39 : (V24 80 39).toInt = (V21 80 39).toInt := by rw [hV24, fm_up_ne (by decide)]
        have tV24_40 : (V24 80 40).toInt = (V21 80 40).toInt := by rw [hV24, fm_up_ne (by decide)]
        have tV24_41 : (V24 80 41).toInt = (V21 80 41).toInt := by rw [hV24, fm_up_ne (by decide)]
        have hI : pz_I V0 V24 h S g 1 := by rw [hV24]; exact hI.fld (Or.inl rfl)
        refine fz_goto X 0 d_X8_ends_35 (by decide) ?_
        exact ih V24 ls (by omega) hI (by omega) (by omega) (by omega) (by omega) hs hw hl0
  exact loop _ V ls (Nat.lt_succ_self _) hI hg rfl rfl rfl hs hw hl0
