/-! the reader: conditions -/
theorem g_condition {l : Launch} {D : va_G} {ad : Nat → Nat} {cy : Nat → ClassId} {Z : State → Heap → Prop} (hAd : fm_Ad fm_tm ad) (hZ : fm_Zk (fm_A fm_tm ad) Z) {V : fm_V} {g : Nat} (hI : pz_I V V 0 (fun _ => True) g 0) (hg : (V 80 35).toInt = 0) (h0 : (V 80 39).toInt = 0) : gm_M l D fm_cl fm_tm ad cy fm_nt Z yX8_condition (.code yX8_condition prog_10_method_40_code 2 none :: fm_Ts) { frames := 6, cells := 0, slots := 0, locals := 600 } V [.ref (ad 80)] (fun r V1 => r = none ∧ ∃ b, pz_I V V1 0 (fun _ => True) g b) := by
  refine gm_at hAd hZ (by decide +kernel) (by simp [lg_sl, Value.category]) ?_
  intro p e s m args below meth c ls hr hlk X Y hl
  have hl0 : ls[0]? = some (.val (.ref (ad 80))) := hl.2.2 (0, .ref (ad 80)) (by simp [lv_args, Value.category])
  have hs := hl.1
  have hw := hl.2.1
  clear hl
  have exit : ∀ (U : fm_V) (hU : pz_I V U 0 (fun _ => True) g 0) (h40 : (U 107 0).toInt = 40), ∀ (W : fm_V) (x1 : Int32) (ls : Array Slot), (W 80 35).toInt ≠ 0 → (∃ b, pz_I U W 0 (fun _ => True) g b) → ls.size = 2 → lv_wf ls → ls[0]? = some (.val (.ref (ad 80))) → ls[1]? = some (.val (.int x1)) → fm_W p l e { frames := 6, cells := 0, slots := 0, locals := 600 } s m args below meth c (MQ below (rv_Qc D fm_cl fm_tm ad cy fm_nt Z (fun r V1 => r = none ∧ ∃ b, pz_I V V1 0 (fun _ => True) g b)) args s 0 0 (fm_A fm_tm ad)) D fm_cl fm_tm ad cy (fm_A fm_tm ad) W 37 ls [] := by
    intro U hU h40 W x1 ls hbd hI hs hw hl0 hl1
    obtain ⟨b, hI⟩ := hI
    refine fm_aload_n X d_X8_condition_37 rfl hl0 ?_
    refine gm_callV X Y fm_Ts_good d_X8_condition_38 (g_isGood hAd hZ (V := W)) wl_X8_217 wm_X8_isGood wy_X8_isGood (by decide) ⟨rfl, rfl⟩ (rest := []) rfl rfl hs (by simp [Value.category]) (fun r V11 hp => ?_)
    obtain ⟨rfl, x12, rfl, hzx12, hx12⟩ := hp
    show fm_W p l e { frames := 6, cells := 0, slots := 0, locals := 600 } s m args below meth c (MQ below (rv_Qc D fm_cl fm_tm ad cy fm_nt Z (fun r V1 => r = none ∧ ∃ b, pz_I V V1 0 (fun _ => True) g b)) args s 0 0 (fm_A fm_tm ad)) D fm_cl fm_tm ad cy (fm_A fm_tm ad) W 41 ls [.int x12]
    refine fz_if_eq X 74 d_X8_condition_41 (by decide) (fun h13 => ?_) (fun h13 => ?_)
    · skip
      refine gm_vret X Y hr hlk d_X8_condition_74 ⟨rfl, _, hU.cw hI⟩
    · skip
      omega
  have loop : ∀ (U : fm_V) (hU : pz_I V U 0 (fun _ => True) g 0) (h40 : (U 107 0).toInt = 40) (N : Nat), ∀ (W : fm_V) (x1 : Int32) (b : Nat) (ls : Array Slot), ((W 80 34).toInt - (W 80 33).toInt).toNat < N → ((x1.toInt ≠ 0 ∧ b = 0) ∨ (x1.toInt = 0 ∧ b = 1)) → pz_I U W 0 (fun _ => True) g b → ((W 80 35).toInt = 0 → (W 80 40).toInt = 0 → pz_I U W 1 cS_ g b) → ls.size = 2 → lv_wf ls → ls[0]? = some (.val (.ref (ad 80))) → ls[1]? = some (.val (.int x1)) → fm_W p l e { frames := 6, cells := 0, slots := 0, locals := 600 } s m args below meth c (MQ below (rv_Qc D fm_cl fm_tm ad cy fm_nt Z (fun r V1 => r = none ∧ ∃ b, pz_I V V1 0 (fun _ => True) g b)) args s 0 0 (fm_A fm_tm ad)) D fm_cl fm_tm ad cy (fm_A fm_tm ad) W 37 ls [] := by
    intro U hU h40 N
    induction N with
    | zero => intro W x1 b ls h; omega
    | succ N ih =>
      intro W x1 b ls hN hb hW hI hs hw hl0 hl1
      obtain ⟨q1, q2, q3, q4, q5, q6, q7⟩ := hW.B
      have q8 := hW.pl
      have q9 := hW.c0
      have q10 := hW.hk
      have q11 := hW.en
      have mid : ∀ (T : fm_V) (x1 : Int32) (ls : Array Slot), pz_I U T 0 (fun _ => True) g 1 → ((T 80 35).toInt = 0 → pz_I U T 1 cS_ g 1) → (W 80 33).toInt ≤ (T 80 33).toInt → ls.size = 2 → lv_wf ls → ls[0]? = some (.val (.ref (ad 80))) → ls[1]? = some (.val (.int x1)) → fm_W p l e { frames := 6, cells := 0, slots := 0, locals := 600 } s m args below meth c (MQ below (rv_Qc D fm_cl fm_tm ad cy fm_nt Z (fun r V1 => r = none ∧ ∃ b, pz_I V V1 0 (fun _ => True) g b)) args s 0 0 (fm_A fm_tm ad)) D fm_cl fm_tm ad cy (fm_A fm_tm ad) T 59 ls [] := by
        intro T x1 ls hT hI f1 hs hw hl0 hl1
        obtain ⟨q1, q2, q3, q4, q5, q6, q7⟩ := hT.B
        have q8 := hT.pl
        have q9 := hT.c0
        have q10 := hT.hk
        have q11 := hT.en
        refine fm_aload_n X d_X8_condition_59 rfl hl0 ?_
        refine gm_callV X Y fm_Ts_good d_X8_condition_60 (g_isGood hAd hZ (V := T)) wl_X8_217 wm_X8_isGood wy_X8_isGood (by decide) ⟨rfl, rfl⟩ (rest := []) rfl rfl hs (by simp [Value.category]) (fun r V14 hp => ?_)
        obtain ⟨rfl, x15, rfl, hzx15, hx15⟩ := hp
        show fm_W p l e { frames := 6, cells := 0, slots := 0, locals := 600 } s m args below meth c (MQ below (rv_Qc D fm_cl fm_tm ad cy fm_nt Z (fun r V1 => r = none ∧ ∃ b, pz_I V V1 0 (fun _ => True) g b)) args s 0 0 (fm_A fm_tm ad)) D fm_cl fm_tm ad cy (fm_A fm_tm ad) T 63 ls [.int x15]
        refine fz_if_eq X 37 d_X8_condition_63 (by decide) (fun h16 => ?_) (fun h16 => ?_)
        · skip
          exact exit U hU h40 T _ ls (by omega) ⟨_, hT⟩ hs hw hl0 hl1
        · skip
          refine fm_aload_n X d_X8_condition_66 rfl hl0 ?_
          refine gm_callV X Y fm_Ts_good d_X8_condition_67 (g_goesBehind hAd hZ (V := T) (hI (by omega)) (by omega) h40) wl_X8_304 wm_X8_goesBehind wy_X8_goesBehind (by decide) ⟨rfl, rfl⟩ (rest := []) rfl rfl hs (by simp [Value.category]) (fun r V17 hp => ?_)
          obtain ⟨x18, rfl, k1, k2⟩ := hp
          show fm_W p l e { frames := 6, cells := 0, slots := 0, locals := 600 } s m args below meth c (MQ below (rv_Qc D fm_cl fm_tm ad cy fm_nt Z (fun r V1 => r = none ∧ ∃ b, pz_I V V1 0 (fun _ => True) g b)) args s 0 0 (fm_A fm_tm ad)) D fm_cl fm_tm ad cy (fm_A fm_tm ad) V17 70 ls [.int x18]
          refine fm_istore_n X d_X8_condition_70 hs hw (by decide) (fun ls hst => ?_)
          have hl0 := hst.2.2.2.1 0 _ (by decide) hl0 rfl
          have hl1 := hst.2.2.1
          have hs := hst.1.trans hs
          have hw := hst.2.1
          clear hst
          refine fz_goto X 37 d_X8_condition_71 (by decide) ?_
          by_cases e : (x18).toInt = 0
          · obtain ⟨m1, m2⟩ := k2 e
            by_cases e2 : (V17 80 35).toInt = 0
            · obtain ⟨m3, m4⟩ := m2 e2
              have e34 := m1.en
              have e33 := m1.B.2.1
              exact ih _ _ 1 ls (by omega) (Or.inr ⟨e, rfl⟩) m1 (fun _ z => m4 z) hs hw hl0 hl1
            · exact exit U hU h40 _ _ ls e2 ⟨_, m1⟩ hs hw hl0 hl1
          · obtain ⟨m1, m2, m3⟩ := k1 e
            have e34 := m3.en
            have e33 := m3.B.2.1
            exact ih _ _ 0 ls (by omega) (Or.inl ⟨e, rfl⟩) m3.weak (fun _ _ => m3) hs hw hl0 hl1
      refine fm_aload_n X d_X8_condition_37 rfl hl0 ?_
      refine gm_callV X Y fm_Ts_good d_X8_condition_38 (g_isGood hAd hZ (V := W)) wl_X8_217 wm_X8_isGood wy_X8_isGood (by decide) ⟨rfl, rfl⟩ (rest := []) rfl rfl hs (by simp [Value.category]) (fun r V20 hp => ?_)
      obtain ⟨rfl, x21, rfl, hzx21, hx21⟩ := hp
      show fm_W p l e { frames := 6, cells := 0, slots := 0, locals := 600 } s m args below meth c (MQ below (rv_Qc D fm_cl fm_tm ad cy fm_nt Z (fun r V1 => r = none ∧ ∃ b, pz_I V V1 0 (fun _ => True) g b)) args s 0 0 (fm_A fm_tm ad)) D fm_cl fm_tm ad cy (fm_A fm_tm ad) W 41 ls [.int x21]
      refine fz_if_eq X 74 d_X8_condition_41 (by decide) (fun h22 => ?_) (fun h22 => ?_)
      · skip
        refine gm_vret X Y hr hlk d_X8_condition_74 ⟨rfl, _, hU.cw hW⟩
      · skip
        refine fm_aload_n X d_X8_condition_44 rfl hl0 ?_
        refine fz_getI X 80 d_X8_condition_45 lkX8_298 rfl rfl ?_
        refine fz_if_ne X 74 d_X8_condition_48 (by decide) (fun h23 => ?_) (fun h23 => ?_)
        · skip
          refine gm_vret X Y hr hlk d_X8_condition_74 ⟨rfl, _, hU.cw hW⟩
        · skip
          refine fm_iload_n X d_X8_condition_51 rfl hl1 ?_
          refine fz_if_eq X 59 d_X8_condition_52 (by decide) (fun h24 => ?_) (fun h24 => ?_)
          · skip
            obtain rfl : b = 1 := by omega
            exact mid W _ ls hW (fun z => hI z (by omega)) (by omega) hs hw hl0 hl1
          · skip
            refine fm_aload_n X d_X8_condition_55 rfl hl0 ?_
            obtain rfl : b = 0 := by omega
            refine gm_callV X Y fm_Ts_good d_X8_condition_56 (g_pieceOfC hAd hZ (V := W) (hI (by omega) (by omega)) (by omega) h40) wl_X8_301 wm_X8_pieceOfC wy_X8_pieceOfC (by decide) ⟨rfl, rfl⟩ (rest := []) rfl rfl hs (by simp [Value.category]) (fun r V25 hp => ?_)
            obtain ⟨rfl, k1, k2, k3⟩ := hp
            show fm_W p l e { frames := 6, cells := 0, slots := 0, locals := 600 } s m args below meth c (MQ below (rv_Qc D fm_cl fm_tm ad cy fm_nt Z (fun r V1 => r = none ∧ ∃ b, pz_I V V1 0 (fun _ => True) g b)) args s 0 0 (fm_A fm_tm ad)) D fm_cl fm_tm ad cy (fm_A fm_tm ad) V25 59 ls []
            exact mid _ _ ls k2 k3 (by omega) hs hw hl0 hl1
  obtain ⟨q1, q2, q3, q4, q5, q6, q7⟩ := hI.B
  have q8 := hI.pl
  have q9 := hI.c0
  have q10 := hI.hk
  have q11 := hI.en
  refine fm_aload_n X d_X8_condition_0 rfl hl0 ?_
  refine fz_iconst X d_X8_condition_1 (by decide) (fun v27 hv27 => ?_)
  refine fz_put X 80 d_X8_condition_2 lkX8_298 wr_8_40 rfl rfl (by first | exact Or.inl rfl | (refine Or.inr ?_; constructor <;> omega)) (fun V28 hV28 => ?_)
  have tV28_33 : (V28 80 33).toInt = (V 80 33).toInt := by rw [hV28, fm_up_ne (by decide)]
  have tV28_34 : (V28 80 34).toInt = (V 80 34).toInt := by rw [hV28, fm_up_ne (by decide)]
  have tV28_35 : (V28 80 35).toInt = (V 80 35).toInt := by rw [hV28, fm_up_ne (by decide)]
  have tV28_37 : (V28 80 37).toInt = (V 80 37).toInt := by rw [hV28, fm_up_ne (by decide)]
  have tV28_38 : (V28 80 38).toInt = (V 80 38).toInt := by rw [hV28, fm_up_ne (by decide)]
  have tV28_39 : (V28 80 39).toInt = (V 80 39).toInt := by rw [hV28, fm_up_ne (by decide)]
  have tV28_40 : (V28 80 40).toInt = (v27).toInt := by rw [hV28, fm_up_self]
  have tV28_41 : (V28 80 41).toInt = (V 80 41).toInt := by rw [hV28, fm_up_ne (by decide)]
  have hI0 := hI
  have hI : pz_I V V28 0 (fun _ => True) g 0 := by rw [hV28]; exact hI.fld (Or.inr ⟨Or.inl rfl, by omega⟩)
  obtain ⟨q1, q2, q3, q4, q5, q6, q7⟩ := hI.B
  have q8 := hI.pl
  have q9 := hI.c0
  have q10 := hI.hk
  have q11 := hI.en
  have hrE : hr_ V28 = hr_ V := hr_same hI0 hI (by omega)
  refine fm_aload_n X d_X8_condition_5 rfl hl0 ?_
  refine gm_callV X Y fm_Ts_good d_X8_condition_6 (g_here hAd hZ (V := V28) (by omega) (by omega)) wl_X8_234 wm_X8_here wy_X8_here (by decide) ⟨rfl, rfl⟩ (rest := []) rfl rfl hs (by simp [Value.category]) (fun r V29 hp => ?_)
  obtain ⟨rfl, x30, rfl, hx30⟩ := hp
  show fm_W p l e { frames := 6, cells := 0, slots := 0, locals := 600 } s m args below meth c (MQ below (rv_Qc D fm_cl fm_tm ad cy fm_nt Z (fun r V1 => r = none ∧ ∃ b, pz_I V V1 0 (fun _ => True) g b)) args s 0 0 (fm_A fm_tm ad)) D fm_cl fm_tm ad cy (fm_A fm_tm ad) V28 9 ls [.int x30]
  refine fz_bipush X d_X8_condition_9 (by decide) (fun v31 hv31 => ?_)
  refine fz_icmp_eq X 23 d_X8_condition_11 (by decide) (fun h32 => ?_) (fun h32 => ?_)
  · skip
    refine fm_aload_n X d_X8_condition_23 rfl hl0 ?_
    refine gm_callV X Y fm_Ts_good d_X8_condition_24 (g_isGood hAd hZ (V := V28)) wl_X8_217 wm_X8_isGood wy_X8_isGood (by decide) ⟨rfl, rfl⟩ (rest := []) rfl rfl hs (by simp [Value.category]) (fun r V33 hp => ?_)
    obtain ⟨rfl, x34, rfl, hzx34, hx34⟩ := hp
    show fm_W p l e { frames := 6, cells := 0, slots := 0, locals := 600 } s m args below meth c (MQ below (rv_Qc D fm_cl fm_tm ad cy fm_nt Z (fun r V1 => r = none ∧ ∃ b, pz_I V V1 0 (fun _ => True) g b)) args s 0 0 (fm_A fm_tm ad)) D fm_cl fm_tm ad cy (fm_A fm_tm ad) V28 27 ls [.int x34]
    refine fz_if_ne X 31 d_X8_condition_27 (by decide) (fun h35 => ?_) (fun h35 => ?_)
    · skip
      refine fm_aload_n X d_X8_condition_31 rfl hl0 ?_
      have e40 : hr_ V28 = 40 := by omega
      refine gm_callV X Y fm_Ts_good d_X8_condition_32 (g_opens hAd hZ (V := V28) hI (by omega) (by rw [e40]; rfl) trivial) wl_X8_263 wm_X8_opens wy_X8_opens (by decide) ⟨rfl, rfl⟩ (rest := []) rfl rfl hs (by simp [Value.category]) (fun r V36 hp => ?_)
      obtain ⟨rfl, hU, g1, g2, g3⟩ := hp
      rw [e40, show (V28 80 39).toInt.toNat = 0 by omega] at g3
      have e39 : (V36 80 39).toInt = 1 := by omega
      show fm_W p l e { frames := 6, cells := 0, slots := 0, locals := 600 } s m args below meth c (MQ below (rv_Qc D fm_cl fm_tm ad cy fm_nt Z (fun r V1 => r = none ∧ ∃ b, pz_I V V1 0 (fun _ => True) g b)) args s 0 0 (fm_A fm_tm ad)) D fm_cl fm_tm ad cy (fm_A fm_tm ad) V36 35 ls []
      refine fz_iconst X d_X8_condition_35 (by decide) (fun v38 hv38 => ?_)
      refine fm_istore_n X d_X8_condition_36 hs hw (by decide) (fun ls hst => ?_)
      have hl0 := hst.2.2.2.1 0 _ (by decide) hl0 rfl
      have hl1 := hst.2.2.1
      have hs := hst.1.trans hs
      have hw := hst.2.1
      clear hst
      exact loop V36 hU g3 _ V36 _ 0 ls (Nat.lt_succ_self _) (Or.inl ⟨by omega, rfl⟩) (pz_I.refl (h := 1) (S := cS_) hU.fr.1 hU.B (by omega) (fun z => (hU.gd z).2)).weak (fun _ _ => pz_I.refl hU.fr.1 hU.B (by omega) (fun z => (hU.gd z).2)) hs hw hl0 hl1
    · skip
      omega
  · skip
    refine fm_aload_n X d_X8_condition_14 rfl hl0 ?_
    refine fz_iconst X d_X8_condition_15 (by decide) (fun v40 hv40 => ?_)
    refine fm_aload_n X d_X8_condition_16 rfl hl0 ?_
    refine fz_getI X 80 d_X8_condition_17 lkX8_208 rfl rfl ?_
    refine gm_callV X Y fm_Ts_good d_X8_condition_20 (g_wrongs hAd hZ (V := V28) (by omega) (by omega) (by omega)) wl_X8_230 wm_X8_wrongs wy_X8_wrongs (by decide) ⟨rfl, rfl⟩ (rest := []) rfl rfl hs (by simp [Value.category]) (fun r V41 hp => ?_)
    obtain ⟨rfl, yx42, hyx42, hV41⟩ := hp
    have tV41_33 : (V41 80 33).toInt = (V28 80 33).toInt := by rw [hV41, fm_up_ne (by decide)]
    have tV41_34 : (V41 80 34).toInt = (V28 80 34).toInt := by rw [hV41, fm_up_ne (by decide)]
    have tV41_35 : (V41 80 35).toInt = (yx42).toInt := by rw [hV41, fm_up_self]
    have tV41_37 : (V41 80 37).toInt = (V28 80 37).toInt := by rw [hV41, fm_up_ne (by decide)]
    have tV41_38 : (V41 80 38).toInt = (V28 80 38).toInt := by rw [hV41, fm_up_ne (by decide)]
    have tV41_39 : (V41 80 39).toInt = (V28 80 39).toInt := by rw [hV41, fm_up_ne (by decide)]
    have tV41_40 : (V41 80 40).toInt = (V28 80 40).toInt := by rw [hV41, fm_up_ne (by decide)]
    have tV41_41 : (V41 80 41).toInt = (V28 80 41).toInt := by rw [hV41, fm_up_ne (by decide)]
    show fm_W p l e { frames := 6, cells := 0, slots := 0, locals := 600 } s m args below meth c (MQ below (rv_Qc D fm_cl fm_tm ad cy fm_nt Z (fun r V1 => r = none ∧ ∃ b, pz_I V V1 0 (fun _ => True) g b)) args s 0 0 (fm_A fm_tm ad)) D fm_cl fm_tm ad cy (fm_A fm_tm ad) V41 23 ls []
    have hI : pz_I V V41 0 (fun _ => True) g 0 := by rw [hV41]; exact hI.bad hyx42
    refine fm_aload_n X d_X8_condition_23 rfl hl0 ?_
    refine gm_callV X Y fm_Ts_good d_X8_condition_24 (g_isGood hAd hZ (V := V41)) wl_X8_217 wm_X8_isGood wy_X8_isGood (by decide) ⟨rfl, rfl⟩ (rest := []) rfl rfl hs (by simp [Value.category]) (fun r V43 hp => ?_)
    obtain ⟨rfl, x44, rfl, hzx44, hx44⟩ := hp
    show fm_W p l e { frames := 6, cells := 0, slots := 0, locals := 600 } s m args below meth c (MQ below (rv_Qc D fm_cl fm_tm ad cy fm_nt Z (fun r V1 => r = none ∧ ∃ b, pz_I V V1 0 (fun _ => True) g b)) args s 0 0 (fm_A fm_tm ad)) D fm_cl fm_tm ad cy (fm_A fm_tm ad) V41 27 ls [.int x44]
    refine fz_if_ne X 31 d_X8_condition_27 (by decide) (fun h45 => ?_) (fun h45 => ?_)
    · skip
      refine fm_aload_n X d_X8_condition_31 rfl hl0 ?_
      omega
    · skip
      refine gm_vret X Y hr hlk d_X8_condition_30 ⟨rfl, _, hI⟩
def pz_L : List (Nat × Nat) := [(80, 33), (80, 35), (80, 36), (80, 37), (80, 38), (80, 39), (80, 40), (80, 41), (101, 9999), (102, 9999), (103, 9999), (104, 9999), (105, 9999), (106, 9999), (107, 9999)]
def pz_C (V : fm_V) : Prop := 0 ≤ (V 80 33).toInt ∧ (V 80 33).toInt ≤ (V 80 34).toInt ∧ (V 80 34).toInt ≤ 200 ∧ 0 ≤ (V 80 37).toInt ∧ (V 80 37).toInt ≤ (V 80 33).toInt ∧ (V 80 35).toInt ≤ 0 ∧ 0 ≤ (V 80 36).toInt ∧ (V 80 36).toInt ≤ 14
/-- every clause read so far can be worked -/
def lw_ (V : fm_V) : Prop := ∀ k : Nat, (k : Int) < (V 80 36).toInt → ∃ a b c : Nat, (V 102 k).toInt = a ∧ (V 103 k).toInt = b ∧ (V 104 k).toInt = c ∧ a ≤ b ∧ b ≤ c ∧ (c : Int) ≤ (V 80 37).toInt ∧ dp_ (V 105) a (b - a) ≠ none ∧ dp_ (V 105) b (c - b) ≠ none
theorem lw_end {V V5 V6 V7 V8 W : fm_V} {b2 : Nat} {S : Int → Prop} (hw : lw_ V) (hB : 0 ≤ (V 80 37).toInt ∧ 0 ≤ (V 80 36).toInt)
    (e5 : V5 80 37 = V 80 37 ∧ V5 105 = V 105) (I : pz_I V5 V6 0 S (V 80 37).toInt.toNat 1) (g6 : (V6 80 35).toInt = 0) (e7 : V7 80 37 = V6 80 37 ∧ V7 105 = V6 105) (J : pz_I V7 V8 0 (fun _ => True) (V6 80 37).toInt.toNat b2) (g8 : (V8 80 35).toInt = 0)
    (eW : (W 80 36).toInt = (V 80 36).toInt + 1 ∧ W 80 37 = V8 80 37 ∧ W 105 = V8 105) (ec : ∀ k, k ≠ (V 80 36).toInt.toNat → W 102 k = V 102 k ∧ W 103 k = V 103 k ∧ W 104 k = V 104 k)
    (en : W 102 (V 80 36).toInt.toNat = V 80 37 ∧ W 103 (V 80 36).toInt.toNat = V6 80 37 ∧ W 104 (V 80 36).toInt.toNat = V8 80 37) : lw_ W := by
  have i0 := I.c0
  have j0 := J.c0
  rw [e5.1] at i0
  rw [e7.1] at j0
  have cd8 : ∀ k : Nat, (k : Int) < (V6 80 37).toInt → V8 105 k = V6 105 k := fun k hk => by
    rw [J.cd k (by rw [e7.1]; exact hk), e7.2]
  have cd6 : ∀ k : Nat, (k : Int) < (V 80 37).toInt → V6 105 k = V 105 k := fun k hk => by
    rw [I.cd k (by rw [e5.1]; exact hk), e5.2]
  intro k hk
  rw [eW.2.1, eW.2.2]
  by_cases e : k = (V 80 36).toInt.toNat
  · subst e
    obtain ⟨i1, i2, i3⟩ := I.gd g6
    obtain ⟨j1, j2, j3⟩ := J.gd g8
    refine ⟨(V 80 37).toInt.toNat, (V6 80 37).toInt.toNat, (V8 80 37).toInt.toNat, ?_, ?_, ?_, by omega, by omega, by omega, ?_, ?_⟩
    · rw [en.1]; omega
    · rw [en.2.1]; omega
    · rw [en.2.2]; omega
    · rw [dp_eq (g := V6 105) (fun k hk => cd8 k (by omega)), i3]
      intro z
      cases z
    · rw [j3]
      intro z
      cases z
  · obtain ⟨a, b, c, h1, h2, h3, h4, h5, h6, h7, h8⟩ := hw k (by omega)
    obtain ⟨c1, c2, c3⟩ := ec k e
    rw [c1, c2, c3]
    refine ⟨a, b, c, h1, h2, h3, h4, h5, by omega, ?_, ?_⟩
    · rw [dp_eq (g := V 105) (fun k hk => by rw [cd8 k (by omega), cd6 k (by omega)])]
      exact h7
    · rw [dp_eq (g := V 105) (fun k hk => by rw [cd8 k (by omega), cd6 k (by omega)])]
      exact h8
