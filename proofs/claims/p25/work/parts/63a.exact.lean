/-! EXACT CONTRACTS: what keep answers, what hours add -/
theorem e_keep7 {l : Launch} {D : va_G} {ad : Nat → Nat} {cy : Nat → ClassId} {Z : State → Heap → Prop} (hAd : fm_Ad fm_tm ad) (hZ : fm_Zk (fm_A fm_tm ad) Z) {V : fm_V} (hT : fm_Tm fm_tm V) (hG : fm_G V) (hc : 0 ≤ (V 26 9).toInt ∧ (V 26 9).toInt ≤ 2000000000) : gm_M l D fm_cl fm_tm ad cy fm_nt Z yX7_keep (.code yX7_keep prog_1_method_30_code 1 (some .int) :: fm_Ts) { frames := 4, cells := 0, slots := 0, locals := 400 } V [.ref (ad 0)] (fun r V1 => pz_F K_X7_keep_0.2.2.1 V V1 ∧ (∃ x : Int32, r = some (.int x) ∧ x.toInt = (V 26 9).toInt) ∧ (V1 41 9).toInt = (V 26 9).toInt ∧ (V1 0 11).toInt = 1) := by
  refine gm_at hAd hZ (by decide +kernel) (by simp [lg_sl, Value.category]) ?_
  intro p e s m args below meth c ls hr hlk X Y hl
  have hl0 : ls[0]? = some (.val (.ref (ad 0))) := hl.2.2 (0, .ref (ad 0)) (by simp [lv_args, Value.category])
  have hs := hl.1
  have hw := hl.2.1
  clear hl
  refine fm_aload_n X (dc_X7_keep (0, .aload_n 0, 1) (List.mem_of_getElem? (i := 0) rfl)) rfl hl0 ?_
  refine fz_getR X 0 (dc_X7_keep (1, .getfield 42, 3) (List.mem_of_getElem? (i := 1) rfl)) lkX7_42 rfl rfl ?_
  refine fm_aload_n X (dc_X7_keep (4, .aload_n 0, 1) (List.mem_of_getElem? (i := 2) rfl)) rfl hl0 ?_
  refine fz_getR X 0 (dc_X7_keep (5, .getfield 38, 3) (List.mem_of_getElem? (i := 3) rfl)) lkX7_38 rfl rfl ?_
  refine gm_callV X Y fm_Ts_good (dc_X7_keep (8, .invokevirtual 168, 3) (List.mem_of_getElem? (i := 4) rfl)) (m_X0_takeAll_3 hAd hZ fm_G_gd V [.ref (ad 41), .ref (ad 26)] ⟨hT, hG, ⟨rv_okR' rfl rfl, rv_okR' rfl rfl, trivial⟩, fun f hf => by obtain rfl := List.mem_singleton.mp hf; exact hc⟩) wl_X7_168 wm_X0_takeAll wy_X0_takeAll (by decide) ⟨rfl, rfl⟩ (rest := []) rfl rfl hs (by simp [Value.category]) (fun r V1 hp => ?_)
  obtain rfl : r = none := hp.2.2.1
  have q2 := (hp.2.2.2 ((41, 9), 0, 2000000000, [((26, 9), 0, 0)]) (List.mem_singleton.mpr rfl)).2 ((26, 9), 0, 0) (List.mem_singleton.mpr rfl)
  have e1 : (V1 41 9).toInt = (V 26 9).toInt := by
    have a : (0 : Int) ≤ (V1 41 9).toInt - (V 26 9).toInt := q2.1
    have b : (V1 41 9).toInt - (V 26 9).toInt ≤ (0 : Int) := q2.2
    omega
  have e2 : V1 26 9 = V 26 9 := hp.2.1 26 9 (by decide +kernel)
  have f1 : pz_F K_X7_keep_0.2.2.1 V V1 := pz_Ft (pz_Fr hT) ⟨hp.1, hp.2.1⟩ (by decide +kernel)
  have hG1 : fm_G V1 := fm_gm fm_G_gd (by decide +kernel) V V1 hp.2.1 hG
  clear hp q2
  refine fm_aload_n X (dc_X7_keep (11, .aload_n 0, 1) (List.mem_of_getElem? (i := 5) rfl)) rfl hl0 ?_
  refine fz_getR X 0 (dc_X7_keep (12, .getfield 16, 3) (List.mem_of_getElem? (i := 6) rfl)) lkX7_16 rfl rfl ?_
  refine fm_aload_n X (dc_X7_keep (15, .aload_n 0, 1) (List.mem_of_getElem? (i := 7) rfl)) rfl hl0 ?_
  refine fz_getR X 0 (dc_X7_keep (16, .getfield 12, 3) (List.mem_of_getElem? (i := 8) rfl)) lkX7_12 rfl rfl ?_
  refine gm_callV X Y fm_Ts_good (dc_X7_keep (19, .invokevirtual 293, 3) (List.mem_of_getElem? (i := 9) rfl)) (m_X6_take_0 hAd hZ fm_G_gd V1 [.ref (ad 5), .ref (ad 3)] ⟨f1.1, hG1, ⟨rv_okR' rfl rfl, rv_okR' rfl rfl, trivial⟩, fun f hf => absurd hf List.not_mem_nil⟩) wl_X7_293 wm_X6_take wy_X6_take (by decide) ⟨rfl, rfl⟩ (rest := []) rfl rfl hs (by simp [Value.category]) (fun r V2 hp => ?_)
  obtain rfl : r = none := hp.2.2.1
  have f2 : pz_F K_X7_keep_0.2.2.1 V V2 := pz_Ft f1 ⟨hp.1, hp.2.1⟩ (by decide +kernel)
  have e3 : V2 41 9 = V1 41 9 := hp.2.1 41 9 (by decide +kernel)
  have e4 : V2 26 9 = V1 26 9 := hp.2.1 26 9 (by decide +kernel)
  clear hp
  refine fm_aload_n X (dc_X7_keep (22, .aload_n 0, 1) (List.mem_of_getElem? (i := 10) rfl)) rfl hl0 ?_
  refine fz_iconst X (dc_X7_keep (23, .iconst 1, 1) (List.mem_of_getElem? (i := 11) rfl)) (by decide) (fun v hv => ?_)
  refine fz_put X 0 (dc_X7_keep (24, .putfield 71, 3) (List.mem_of_getElem? (i := 12) rfl)) lkX7_71 wr_7_11 rfl rfl (by first | exact Or.inl rfl | (refine Or.inr ?_; constructor <;> omega)) (fun V3 hV3 => ?_)
  have f3 : pz_F K_X7_keep_0.2.2.1 V V3 := pz_Fo f2 hV3 rfl rfl ⟨by omega, by omega⟩ (by decide +kernel)
  have e5 : V3 41 9 = V2 41 9 := by rw [hV3]; exact fm_up_ne (by decide)
  have e6 : V3 26 9 = V2 26 9 := by rw [hV3]; exact fm_up_ne (by decide)
  have e7 : (V3 0 11).toInt = 1 := by rw [hV3, fm_up_self]; exact hv
  refine fm_aload_n X (dc_X7_keep (27, .aload_n 0, 1) (List.mem_of_getElem? (i := 13) rfl)) rfl hl0 ?_
  refine fz_getR X 0 (dc_X7_keep (28, .getfield 38, 3) (List.mem_of_getElem? (i := 14) rfl)) lkX7_38 rfl rfl ?_
  refine fz_getI X 26 (dc_X7_keep (31, .getfield 295, 3) (List.mem_of_getElem? (i := 15) rfl)) lkX7_295 rfl rfl ?_
  exact gm_iret X Y hr hlk (dc_X7_keep (34, .ireturn, 1) (List.mem_of_getElem? (i := 16) rfl)) ⟨f3, ⟨_, rfl, by rw [e6, e4, e2]⟩, by rw [e5, e3]; exact e1, e7⟩
theorem e_keep8 {l : Launch} {D : va_G} {ad : Nat → Nat} {cy : Nat → ClassId} {Z : State → Heap → Prop} (hAd : fm_Ad fm_tm ad) (hZ : fm_Zk (fm_A fm_tm ad) Z) {V : fm_V} (hT : fm_Tm fm_tm V) (hG : fm_G V) (hc : 0 ≤ (V 80 2).toInt ∧ (V 80 2).toInt ≤ 2000000000) : gm_M l D fm_cl fm_tm ad cy fm_nt Z yX8_keep (.code yX8_keep prog_10_method_93_code 1 (some .int) :: fm_Ts) { frames := 1, cells := 0, slots := 0, locals := 100 } V [.ref (ad 80)] (fun r V1 => pz_F K_X8_keep_0.2.2.1 V V1 ∧ (∃ x : Int32, r = some (.int x) ∧ x.toInt = (V 80 2).toInt) ∧ (V1 125 5).toInt = (V 80 2).toInt ∧ (V1 80 73).toInt = 1) := by
  refine gm_at hAd hZ (by decide +kernel) (by simp [lg_sl, Value.category]) ?_
  intro p e s m args below meth c ls hr hlk X Y hl
  have hl0 : ls[0]? = some (.val (.ref (ad 80))) := hl.2.2 (0, .ref (ad 80)) (by simp [lv_args, Value.category])
  have hs := hl.1
  have hw := hl.2.1
  clear hl
  refine fm_aload_n X (dc_X8_keep (0, .aload_n 0, 1) (List.mem_of_getElem? (i := 0) rfl)) rfl hl0 ?_
  refine fz_iconst X (dc_X8_keep (1, .iconst 1, 1) (List.mem_of_getElem? (i := 1) rfl)) (by decide) (fun v hv => ?_)
  refine fz_put X 80 (dc_X8_keep (2, .putfield 506, 3) (List.mem_of_getElem? (i := 2) rfl)) lkX8_506 wr_8_73 rfl rfl (by first | exact Or.inl rfl | (refine Or.inr ?_; constructor <;> omega)) (fun V1 hV1 => ?_)
  have f1 : pz_F K_X8_keep_0.2.2.1 V V1 := pz_Fo (pz_Fr hT) hV1 rfl rfl ⟨by omega, by omega⟩ (by decide +kernel)
  have e1 : V1 80 2 = V 80 2 := by rw [hV1]; exact fm_up_ne (by decide)
  have e2 : (V1 80 73).toInt = 1 := by rw [hV1, fm_up_self]; exact hv
  have hG1 : fm_G V1 := fm_gm fm_G_gd (M := K_X8_keep_0.2.2.1) (by decide +kernel) V V1 f1.2 hG
  refine fm_aload_n X (dc_X8_keep (5, .aload_n 0, 1) (List.mem_of_getElem? (i := 3) rfl)) rfl hl0 ?_
  refine fz_iconst X (dc_X8_keep (6, .iconst 1, 1) (List.mem_of_getElem? (i := 4) rfl)) (by decide) (fun v2 hv2 => ?_)
  refine gm_callV X Y fm_Ts_good (dc_X8_keep (7, .invokevirtual 439, 3) (List.mem_of_getElem? (i := 5) rfl)) (m_X8_setsAside_1 hAd hZ V1 [.ref (ad 80), .int v2] ⟨f1.1, hG1, ⟨rv_okR' rfl rfl, rv_okB (lo := 1) (hi := 1) (by omega) (by omega), trivial⟩, fun f hf => by obtain rfl := List.mem_singleton.mp hf; show (0 : Int) ≤ (V1 80 2).toInt ∧ (V1 80 2).toInt ≤ 2000000000; rw [e1]; exact hc⟩) wl_X8_439 wm_X8_setsAside wy_X8_setsAside (by decide) ⟨rfl, rfl⟩ (rest := []) rfl rfl hs (by simp [Value.category]) (fun r V2 hp => ?_)
  obtain rfl : r = none := hp.2.2.1
  have q2 := (hp.2.2.2 ((125, 5), 0, 2000000000, [((80, 2), 0, 0)]) (List.mem_singleton.mpr rfl)).2 ((80, 2), 0, 0) (List.mem_singleton.mpr rfl)
  have e3 : (V2 125 5).toInt = (V1 80 2).toInt := by
    have a : (0 : Int) ≤ (V2 125 5).toInt - (V1 80 2).toInt := q2.1
    have b : (V2 125 5).toInt - (V1 80 2).toInt ≤ (0 : Int) := q2.2
    omega
  have e4 : V2 80 2 = V1 80 2 := hp.2.1 80 2 (by decide +kernel)
  have e5 : V2 80 73 = V1 80 73 := hp.2.1 80 73 (by decide +kernel)
  have f2 : pz_F K_X8_keep_0.2.2.1 V V2 := pz_Ft f1 ⟨hp.1, hp.2.1⟩ (by decide +kernel)
  refine fm_aload_n X (dc_X8_keep (10, .aload_n 0, 1) (List.mem_of_getElem? (i := 6) rfl)) rfl hl0 ?_
  refine fz_getI X 80 (dc_X8_keep (11, .getfield 321, 3) (List.mem_of_getElem? (i := 7) rfl)) lkX8_321 rfl rfl ?_
  exact gm_iret X Y hr hlk (dc_X8_keep (14, .ireturn, 1) (List.mem_of_getElem? (i := 8) rfl)) ⟨f2, ⟨_, rfl, by rw [e4, e1]⟩, by rw [e3, e1], by rw [e5]; exact e2⟩
theorem e_passDrawn {l : Launch} {D : va_G} {ad : Nat → Nat} {cy : Nat → ClassId} {Z : State → Heap → Prop} (hAd : fm_Ad fm_tm ad) (hZ : fm_Zk (fm_A fm_tm ad) Z) {V : fm_V} {x2 : Int32} (hT : fm_Tm fm_tm V) (hG : fm_G V) (hn : 0 ≤ x2.toInt ∧ x2.toInt ≤ 40) (hc : 0 ≤ (V 26 9).toInt ∧ (V 26 9).toInt ≤ 1000000000) : gm_M l D fm_cl fm_tm ad cy fm_nt Z yX0_passDrawn (.code yX0_passDrawn prog_2_method_6_code 5 (some .int) :: fm_Ts) { frames := 5, cells := 0, slots := 0, locals := 500 } V [.ref (ad 26), .ref (ad 7), .int x2] (fun r V1 => pz_F K_X0_passDrawn_0.2.2.1 V V1 ∧ (∃ x : Int32, r = some (.int x)) ∧ (V1 26 9).toInt = (V 26 9).toInt + x2.toInt) := by
  refine gm_at hAd hZ (by decide +kernel) (by simp [lg_sl, Value.category]) ?_
  intro p e s m args below meth c ls hr hlk X Y hl
  have hl0 : ls[0]? = some (.val (.ref (ad 26))) := hl.2.2 (0, .ref (ad 26)) (by simp [lv_args, Value.category])
  have hl1 : ls[1]? = some (.val (.ref (ad 7))) := hl.2.2 (1, .ref (ad 7)) (by simp [lv_args, Value.category])
  have hl2 : ls[2]? = some (.val (.int x2)) := hl.2.2 (2, .int x2) (by simp [lv_args, Value.category])
  have hs := hl.1
  have hw := hl.2.1
  clear hl
  refine fz_iconst X (dc_X0_passDrawn (0, .iconst 0, 1) (List.mem_of_getElem? (i := 0) rfl)) (by decide) (fun v hv => ?_)
  refine fm_istore_n X (dc_X0_passDrawn (1, .istore_n 3, 1) (List.mem_of_getElem? (i := 1) rfl)) hs hw (by decide) (fun ls hst => ?_)
  have hl0 := hst.2.2.2.1 0 _ (by decide) hl0 rfl
  have hl1 := hst.2.2.2.1 1 _ (by decide) hl1 rfl
  have hl2 := hst.2.2.2.1 2 _ (by decide) hl2 rfl
  have hl3 := hst.2.2.1
  have hs := hst.1.trans hs
  have hw := hst.2.1
  clear hst
  refine fz_iconst X (dc_X0_passDrawn (2, .iconst 0, 1) (List.mem_of_getElem? (i := 2) rfl)) (by decide) (fun v4 hv4 => ?_)
  refine fm_istore X (dc_X0_passDrawn (3, .istore 4, 2) (List.mem_of_getElem? (i := 3) rfl)) hs hw (by decide) (fun ls hst => ?_)
  have hl0 := hst.2.2.2.1 0 _ (by decide) hl0 rfl
  have hl1 := hst.2.2.2.1 1 _ (by decide) hl1 rfl
  have hl2 := hst.2.2.2.1 2 _ (by decide) hl2 rfl
  have hl3 := hst.2.2.2.1 3 _ (by decide) hl3 rfl
  have hl4 := hst.2.2.1
  have hs := hst.1.trans hs
  have hw := hst.2.1
  clear hst
  have loop : ∀ (N : Nat) (V1 : fm_V) (ls : Array Slot) (y j : Int32), (x2.toInt - j.toInt).toNat < N → 0 ≤ j.toInt → j.toInt ≤ x2.toInt → pz_F K_X0_passDrawn_0.2.2.1 V V1 → (V1 26 9).toInt = (V 26 9).toInt + j.toInt → ls.size = 5 → lv_wf ls → ls[0]? = some (.val (.ref (ad 26))) → ls[1]? = some (.val (.ref (ad 7))) → ls[2]? = some (.val (.int x2)) → ls[3]? = some (.val (.int y)) → ls[4]? = some (.val (.int j)) → fm_W p l e { frames := 5, cells := 0, slots := 0, locals := 500 } s m args below meth c (MQ below (rv_Qc D fm_cl fm_tm ad cy fm_nt Z (fun r V1 => pz_F K_X0_passDrawn_0.2.2.1 V V1 ∧ (∃ x : Int32, r = some (.int x)) ∧ (V1 26 9).toInt = (V 26 9).toInt + x2.toInt)) args s 0 0 (fm_A fm_tm ad)) D fm_cl fm_tm ad cy (fm_A fm_tm ad) V1 5 ls [] := by
    intro N
    induction N with
    | zero => intro V1 ls y j h; omega
    | succ N ih =>
      intro V1 ls y j hN h0 h1 hF hc1 hs hw hl0 hl1 hl2 hl3 hl4
      refine fm_iload X (dc_X0_passDrawn (5, .iload 4, 2) (List.mem_of_getElem? (i := 4) rfl)) hl4 ?_
      refine fm_iload_n X (dc_X0_passDrawn (7, .iload_n 2, 1) (List.mem_of_getElem? (i := 5) rfl)) rfl hl2 ?_
      refine fz_icmp_ge X 29 (dc_X0_passDrawn (8, .if_icmp .ge 21, 3) (List.mem_of_getElem? (i := 6) rfl)) (by decide) (fun g => ?_) (fun g => ?_)
      · refine fm_iload_n X (dc_X0_passDrawn (29, .iload_n 3, 1) (List.mem_of_getElem? (i := 17) rfl)) rfl hl3 ?_
        exact gm_iret X Y hr hlk (dc_X0_passDrawn (30, .ireturn, 1) (List.mem_of_getElem? (i := 18) rfl)) ⟨hF, ⟨_, rfl⟩, by omega⟩
      · have hG1 : fm_G V1 := fm_gm fm_G_gd (M := K_X0_passDrawn_0.2.2.1) (by decide +kernel) V V1 hF.2 hG
        refine fm_iload_n X (dc_X0_passDrawn (11, .iload_n 3, 1) (List.mem_of_getElem? (i := 7) rfl)) rfl hl3 ?_
        refine fm_aload_n X (dc_X0_passDrawn (12, .aload_n 0, 1) (List.mem_of_getElem? (i := 8) rfl)) rfl hl0 ?_
        refine fm_aload_n X (dc_X0_passDrawn (13, .aload_n 1, 1) (List.mem_of_getElem? (i := 9) rfl)) rfl hl1 ?_
        refine fm_aload_n X (dc_X0_passDrawn (14, .aload_n 0, 1) (List.mem_of_getElem? (i := 10) rfl)) rfl hl0 ?_
        refine gm_callV X Y fm_Ts_good (dc_X0_passDrawn (15, .invokevirtual 94, 3) (List.mem_of_getElem? (i := 11) rfl)) (m_X0_nextDraw_0 hAd hZ fm_G_gd V1 [.ref (ad 26)] ⟨hF.1, hG1, ⟨rv_okR' rfl rfl, trivial⟩, fun f hf => absurd hf List.not_mem_nil⟩) wl_X0_94 wm_X0_nextDraw wy_X0_nextDraw (by decide) ⟨rfl, rfl⟩ (rest := [.ref (ad 7), .ref (ad 26), .int y]) rfl rfl hs (by simp [Value.category]) (fun r V2 hp => ?_)
        obtain ⟨dw, rfl, -⟩ := hp.2.2.1
        have f2 : pz_F K_X0_passDrawn_0.2.2.1 V V2 := pz_Ft hF ⟨hp.1, hp.2.1⟩ (by decide +kernel)
        have e2 : V2 26 9 = V1 26 9 := hp.2.1 26 9 (by decide +kernel)
        have hG2 : fm_G V2 := fm_gm fm_G_gd (M := K_X0_passDrawn_0.2.2.1) (by decide +kernel) V V2 f2.2 hG
        clear hp
        refine gm_callV X Y fm_Ts_good (dc_X0_passDrawn (18, .invokevirtual 98, 3) (List.mem_of_getElem? (i := 12) rfl)) (m_X0_pass_2 hAd hZ fm_G_gd V2 [.ref (ad 26), .ref (ad 7), .int dw] ⟨f2.1, hG2, ⟨rv_okR' rfl rfl, rv_okR' rfl rfl, rv_full_ok _, trivial⟩, fun f hf => by obtain rfl := List.mem_singleton.mp hf; show (0 : Int) ≤ (V2 26 9).toInt ∧ (V2 26 9).toInt ≤ 2000000000; rw [e2]; omega⟩) wl_X0_98 wm_X0_pass wy_X0_pass (by decide) ⟨rfl, rfl⟩ (rest := [.int y]) rfl rfl hs (by simp [Value.category]) (fun r V3 hp => ?_)
        obtain ⟨w, rfl, -⟩ := hp.2.2.1
        have f3 : pz_F K_X0_passDrawn_0.2.2.1 V V3 := pz_Ft f2 ⟨hp.1, hp.2.1⟩ (by decide +kernel)
        have q2 := (hp.2.2.2 ((26, 9), 1, 2000000001, [((26, 9), 1, 1)]) (List.mem_singleton.mpr rfl)).2 ((26, 9), 1, 1) (List.mem_singleton.mpr rfl)
        have e3 : (V3 26 9).toInt = (V2 26 9).toInt + 1 := by
          have a : (1 : Int) ≤ (V3 26 9).toInt - (V2 26 9).toInt := q2.1
          have b : (V3 26 9).toInt - (V2 26 9).toInt ≤ (1 : Int) := q2.2
          omega
        rw [e2] at e3
        clear hp q2
        refine fa_iadd X (dc_X0_passDrawn (21, .iadd, 1) (List.mem_of_getElem? (i := 13) rfl)) (fun z => ?_)
        refine fm_istore_n X (dc_X0_passDrawn (22, .istore_n 3, 1) (List.mem_of_getElem? (i := 14) rfl)) hs hw (by decide) (fun ls hst => ?_)
        have hl0 := hst.2.2.2.1 0 _ (by decide) hl0 rfl
        have hl1 := hst.2.2.2.1 1 _ (by decide) hl1 rfl
        have hl2 := hst.2.2.2.1 2 _ (by decide) hl2 rfl
        have hl4 := hst.2.2.2.1 4 _ (by decide) hl4 rfl
        have hl3 := hst.2.2.1
        have hs := hst.1.trans hs
        have hw := hst.2.1
        clear hst
        refine fm_iinc X (dc_X0_passDrawn (23, .iinc 4 1, 3) (List.mem_of_getElem? (i := 15) rfl)) hl4 hs hw (by decide) (fun ls hst => ?_)
        have hl0 := hst.2.2.2.1 0 _ (by decide) hl0 rfl
        have hl1 := hst.2.2.2.1 1 _ (by decide) hl1 rfl
        have hl2 := hst.2.2.2.1 2 _ (by decide) hl2 rfl
        have hl3 := hst.2.2.2.1 3 _ (by decide) hl3 rfl
        have e1 := zj_inc (x := j) (n := 1) (by omega) (by omega) (by decide) (by decide)
        refine fz_goto X 5 (dc_X0_passDrawn (26, .goto (-21), 3) (List.mem_of_getElem? (i := 16) rfl)) (by decide) ?_
        exact ih V3 ls z _ (by omega) (by omega) (by omega) f3 (by omega) (hst.1.trans hs) hst.2.1 hl0 hl1 hl2 hl3 hst.2.2.1
  exact loop _ V ls _ v4 (Nat.lt_succ_self _) (by omega) (by omega) (pz_Fr hT) (by omega) hs hw hl0 hl1 hl2 hl3 hl4
theorem e_hours7 {l : Launch} {D : va_G} {ad : Nat → Nat} {cy : Nat → ClassId} {Z : State → Heap → Prop} (hAd : fm_Ad fm_tm ad) (hZ : fm_Zk (fm_A fm_tm ad) Z) {V : fm_V} {x1 : Int32} (hT : fm_Tm fm_tm V) (hG : fm_G V) (hn : 1 ≤ x1.toInt ∧ x1.toInt ≤ 40) (hc : 0 ≤ (V 26 9).toInt ∧ (V 26 9).toInt ≤ 1000000000) : gm_M l D fm_cl fm_tm ad cy fm_nt Z yX7_hours (.code yX7_hours prog_1_method_9_code 2 (some .int) :: fm_Ts) { frames := 6, cells := 0, slots := 0, locals := 600 } V [.ref (ad 0), .int x1] (fun r V1 => pz_F K_X7_hours_0.2.2.1 V V1 ∧ (∃ x : Int32, r = some (.int x)) ∧ (V1 26 9).toInt = (V 26 9).toInt + x1.toInt) := by
  refine gm_at hAd hZ (by decide +kernel) (by simp [lg_sl, Value.category]) ?_
  intro p e s m args below meth c ls hr hlk X Y hl
  have hl0 : ls[0]? = some (.val (.ref (ad 0))) := hl.2.2 (0, .ref (ad 0)) (by simp [lv_args, Value.category])
  have hl1 : ls[1]? = some (.val (.int x1)) := hl.2.2 (1, .int x1) (by simp [lv_args, Value.category])
  have hs := hl.1
  have hw := hl.2.1
  clear hl
  refine fm_iload_n X (dc_X7_hours (0, .iload_n 1, 1) (List.mem_of_getElem? (i := 0) rfl)) rfl hl1 ?_
  refine fz_iconst X (dc_X7_hours (1, .iconst 1, 1) (List.mem_of_getElem? (i := 1) rfl)) (by decide) (fun v1 hv1 => ?_)
  refine fz_bipush X (dc_X7_hours (2, .bipush 40, 2) (List.mem_of_getElem? (i := 2) rfl)) (by decide) (fun v2 hv2 => ?_)
  refine gm_callS X Y fm_Ts_good (dc_X7_hours (4, .invokestatic 80, 3) (List.mem_of_getElem? (i := 3) rfl)) (m_X7_isWithin_27 hAd hZ fm_G_gd V [.int x1, .int v1, .int v2] ⟨hT, hG, ⟨rv_okB (lo := 1) (hi := 40) hn.1 hn.2, rv_okB (lo := 1) (hi := 1) (by omega) (by omega), rv_okB (lo := 40) (hi := 40) (by omega) (by omega), trivial⟩, fun f hf => absurd hf List.not_mem_nil⟩) wl_X7_80 wm_X7_isWithin wy_X7_isWithin (by decide) (rest := []) rfl rfl hs (by simp [Value.category]) (fun r V1 hp => ?_)
  obtain ⟨w, rfl, w1, w2, -, -⟩ := hp.2.2.1
  replace w1 : (1 : Int) ≤ w.toInt := w1
  obtain rfl : V = V1 := funext fun i => funext fun f => (hp.2.1 i f rfl).symm
  clear hp
  refine fz_if_eq X 25 (dc_X7_hours (7, .ifCond .eq 18, 3) (List.mem_of_getElem? (i := 4) rfl)) (by decide) (fun g => absurd g (by omega)) (fun g => ?_)
  refine fm_aload_n X (dc_X7_hours (10, .aload_n 0, 1) (List.mem_of_getElem? (i := 5) rfl)) rfl hl0 ?_
  refine fz_getR X 0 (dc_X7_hours (11, .getfield 38, 3) (List.mem_of_getElem? (i := 6) rfl)) lkX7_38 rfl rfl ?_
  refine fm_aload_n X (dc_X7_hours (14, .aload_n 0, 1) (List.mem_of_getElem? (i := 7) rfl)) rfl hl0 ?_
  refine fz_getR X 0 (dc_X7_hours (15, .getfield 22, 3) (List.mem_of_getElem? (i := 8) rfl)) lkX7_22 rfl rfl ?_
  refine fm_iload_n X (dc_X7_hours (18, .iload_n 1, 1) (List.mem_of_getElem? (i := 9) rfl)) rfl hl1 ?_
  refine gm_callV X Y fm_Ts_good (dc_X7_hours (19, .invokevirtual 151, 3) (List.mem_of_getElem? (i := 10) rfl)) (e_passDrawn hAd hZ (V := V) (x2 := x1) hT hG ⟨by omega, by omega⟩ hc) wl_X7_151 wm_X0_passDrawn wy_X0_passDrawn (by decide) ⟨rfl, rfl⟩ (rest := []) rfl rfl hs (by simp [Value.category]) (fun r V2 hp => ?_)
  obtain ⟨hF, ⟨z, rfl⟩, hcc⟩ := hp
  refine fz_goto X 26 (dc_X7_hours (22, .goto 4, 3) (List.mem_of_getElem? (i := 11) rfl)) (by decide) ?_
  exact gm_iret X Y hr hlk (dc_X7_hours (26, .ireturn, 1) (List.mem_of_getElem? (i := 13) rfl)) ⟨pz_Ft (pz_Fr hT) hF (by decide +kernel), ⟨_, rfl⟩, hcc⟩
theorem e_goesOn {l : Launch} {D : va_G} {ad : Nat → Nat} {cy : Nat → ClassId} {Z : State → Heap → Prop} (hAd : fm_Ad fm_tm ad) (hZ : fm_Zk (fm_A fm_tm ad) Z) {V : fm_V} {x1 : Int32} (hT : fm_Tm fm_tm V) (hG : fm_G V) (hn : 0 ≤ x1.toInt ∧ x1.toInt ≤ 40) (hc : 0 ≤ (V 80 2).toInt ∧ (V 80 2).toInt ≤ 1000000000) : gm_M l D fm_cl fm_tm ad cy fm_nt Z yX8_goesOn (.code yX8_goesOn prog_10_method_61_code 3 none :: fm_Ts) { frames := 9, cells := 0, slots := 0, locals := 900 } V [.ref (ad 80), .int x1] (fun r V1 => pz_F K_X8_goesOn_0.2.2.1 V V1 ∧ r = none ∧ (V1 80 2).toInt = (V 80 2).toInt + x1.toInt) := by
  refine gm_at hAd hZ (by decide +kernel) (by simp [lg_sl, Value.category]) ?_
  intro p e s m args below meth c ls hr hlk X Y hl
  have hl0 : ls[0]? = some (.val (.ref (ad 80))) := hl.2.2 (0, .ref (ad 80)) (by simp [lv_args, Value.category])
  have hl1 : ls[1]? = some (.val (.int x1)) := hl.2.2 (1, .int x1) (by simp [lv_args, Value.category])
  have hs := hl.1
  have hw := hl.2.1
  clear hl
  refine fm_aload_n X (dc_X8_goesOn (0, .aload_n 0, 1) (List.mem_of_getElem? (i := 0) rfl)) rfl hl0 ?_
  refine fz_iconst X (dc_X8_goesOn (1, .iconst 0, 1) (List.mem_of_getElem? (i := 1) rfl)) (by decide) (fun v hv => ?_)
  refine fz_put X 80 (dc_X8_goesOn (2, .putfield 380, 3) (List.mem_of_getElem? (i := 2) rfl)) lkX8_380 wr_8_51 rfl rfl (by first | exact Or.inl rfl | (refine Or.inr ?_; constructor <;> omega)) (fun V0 hV0 => ?_)
  have f0 : pz_F K_X8_goesOn_0.2.2.1 V V0 := pz_Fo (pz_Fr hT) hV0 rfl rfl (zi_rng _) (by decide +kernel)
  have e0 : V0 80 2 = V 80 2 := by rw [hV0]; exact fm_up_ne (by decide)
  refine fz_iconst X (dc_X8_goesOn (5, .iconst 0, 1) (List.mem_of_getElem? (i := 3) rfl)) (by decide) (fun v2 hv2 => ?_)
  refine fm_istore_n X (dc_X8_goesOn (6, .istore_n 2, 1) (List.mem_of_getElem? (i := 4) rfl)) hs hw (by decide) (fun ls hst => ?_)
  have hl0 := hst.2.2.2.1 0 _ (by decide) hl0 rfl
  have hl1 := hst.2.2.2.1 1 _ (by decide) hl1 rfl
  have hl2 := hst.2.2.1
  have hs := hst.1.trans hs
  have hw := hst.2.1
  clear hst
  have loop : ∀ (N : Nat) (V1 : fm_V) (ls : Array Slot) (j : Int32), (x1.toInt - j.toInt).toNat < N → 0 ≤ j.toInt → j.toInt ≤ x1.toInt → pz_F K_X8_goesOn_0.2.2.1 V V1 → (V1 80 2).toInt = (V 80 2).toInt + j.toInt → ls.size = 3 → lv_wf ls → ls[0]? = some (.val (.ref (ad 80))) → ls[1]? = some (.val (.int x1)) → ls[2]? = some (.val (.int j)) → fm_W p l e { frames := 9, cells := 0, slots := 0, locals := 900 } s m args below meth c (MQ below (rv_Qc D fm_cl fm_tm ad cy fm_nt Z (fun r V1 => pz_F K_X8_goesOn_0.2.2.1 V V1 ∧ r = none ∧ (V1 80 2).toInt = (V 80 2).toInt + x1.toInt)) args s 0 0 (fm_A fm_tm ad)) D fm_cl fm_tm ad cy (fm_A fm_tm ad) V1 7 ls [] := by
    intro N
    induction N with
    | zero => intro V1 ls j h; omega
    | succ N ih =>
      intro V1 ls j hN h0 h1 hF hc1 hs hw hl0 hl1 hl2
      refine fm_iload_n X (dc_X8_goesOn (7, .iload_n 2, 1) (List.mem_of_getElem? (i := 5) rfl)) rfl hl2 ?_
      refine fm_iload_n X (dc_X8_goesOn (8, .iload_n 1, 1) (List.mem_of_getElem? (i := 6) rfl)) rfl hl1 ?_
      refine fz_icmp_ge X 49 (dc_X8_goesOn (9, .if_icmp .ge 40, 3) (List.mem_of_getElem? (i := 7) rfl)) (by decide) (fun g => ?_) (fun g => ?_)
      · exact gm_vret X Y hr hlk (dc_X8_goesOn (49, .return_, 1) (List.mem_of_getElem? (i := 26) rfl)) ⟨hF, rfl, by omega⟩
      · refine fm_aload_n X (dc_X8_goesOn (12, .aload_n 0, 1) (List.mem_of_getElem? (i := 8) rfl)) rfl hl0 ?_
        refine fz_sipush X (dc_X8_goesOn (13, .sipush 25173, 3) (List.mem_of_getElem? (i := 9) rfl)) (by decide) (fun u1 _ => ?_)
        refine fm_aload_n X (dc_X8_goesOn (16, .aload_n 0, 1) (List.mem_of_getElem? (i := 10) rfl)) rfl hl0 ?_
        refine fz_getI X 80 (dc_X8_goesOn (17, .getfield 13, 3) (List.mem_of_getElem? (i := 11) rfl)) lkX8_13 rfl rfl ?_
        refine fa_imul X (dc_X8_goesOn (20, .imul, 1) (List.mem_of_getElem? (i := 12) rfl)) (fun u2 => ?_)
        refine fz_sipush X (dc_X8_goesOn (21, .sipush 13849, 3) (List.mem_of_getElem? (i := 13) rfl)) (by decide) (fun u3 _ => ?_)
        refine fa_iadd X (dc_X8_goesOn (24, .iadd, 1) (List.mem_of_getElem? (i := 14) rfl)) (fun u4 => ?_)
        refine fz_ldcw X (dc_X8_goesOn (25, .ldc_w 407, 3) (List.mem_of_getElem? (i := 15) rfl)) (kcX8_ok (407, 65536) (List.mem_of_getElem? (i := 1) rfl)) (fun u5 hu5 => ?_)
        refine fm_irem X (dc_X8_goesOn (28, .irem, 1) (List.mem_of_getElem? (i := 16) rfl)) (fun q => by rw [q] at hu5; exact absurd hu5 (by decide)) ?_
        refine fz_put X 80 (dc_X8_goesOn (29, .putfield 13, 3) (List.mem_of_getElem? (i := 17) rfl)) lkX8_13 wr_8_3 rfl rfl (by first | exact Or.inl rfl | (refine Or.inr ?_; constructor <;> omega)) (fun V2 hV2 => ?_)
        have f2 : pz_F K_X8_goesOn_0.2.2.1 V V2 := pz_Fo hF hV2 rfl rfl (zi_rng _) (by decide +kernel)
        have e2 : V2 80 2 = V1 80 2 := by rw [hV2]; exact fm_up_ne (by decide)
        have hG2 : fm_G V2 := fm_gm fm_G_gd (M := K_X8_goesOn_0.2.2.1) (by decide +kernel) V V2 f2.2 hG
        refine fm_aload_n X (dc_X8_goesOn (32, .aload_n 0, 1) (List.mem_of_getElem? (i := 18) rfl)) rfl hl0 ?_
        refine fm_aload_n X (dc_X8_goesOn (33, .aload_n 0, 1) (List.mem_of_getElem? (i := 19) rfl)) rfl hl0 ?_
        refine fz_getI X 80 (dc_X8_goesOn (34, .getfield 13, 3) (List.mem_of_getElem? (i := 20) rfl)) lkX8_13 rfl rfl ?_
        refine fz_bipush X (dc_X8_goesOn (37, .bipush 10, 2) (List.mem_of_getElem? (i := 21) rfl)) (by decide) (fun u6 hu6 => ?_)
        refine fm_irem X (dc_X8_goesOn (39, .irem, 1) (List.mem_of_getElem? (i := 22) rfl)) (fun q => by rw [q] at hu6; exact absurd hu6 (by decide)) ?_
        refine gm_callV X Y fm_Ts_good (dc_X8_goesOn (40, .invokevirtual 408, 3) (List.mem_of_getElem? (i := 23) rfl)) (m_X8_passes_0 hAd hZ V2 [.ref (ad 80), .int _] ⟨f2.1, hG2, ⟨rv_okR' rfl rfl, rv_full_ok _, trivial⟩, fun f hf => by obtain rfl := List.mem_singleton.mp hf; show (0 : Int) ≤ (V2 80 2).toInt ∧ (V2 80 2).toInt ≤ 1999999999; rw [e2]; omega⟩) wl_X8_408 wm_X8_passes wy_X8_passes (by decide) ⟨rfl, rfl⟩ (rest := []) rfl rfl hs (by simp [Value.category]) (fun r V3 hp => ?_)
        obtain rfl : r = none := hp.2.2.1
        have f3 : pz_F K_X8_goesOn_0.2.2.1 V V3 := pz_Ft f2 ⟨hp.1, hp.2.1⟩ (by decide +kernel)
        have q2 := (hp.2.2.2 ((80, 2), 1, 2000000000, [((80, 2), 1, 1)]) (List.mem_singleton.mpr rfl)).2 ((80, 2), 1, 1) (List.mem_singleton.mpr rfl)
        have e3 : (V3 80 2).toInt = (V2 80 2).toInt + 1 := by
          have a : (1 : Int) ≤ (V3 80 2).toInt - (V2 80 2).toInt := q2.1
          have b : (V3 80 2).toInt - (V2 80 2).toInt ≤ (1 : Int) := q2.2
          omega
        rw [e2] at e3
        clear hp q2
        refine fm_iinc X (dc_X8_goesOn (43, .iinc 2 1, 3) (List.mem_of_getElem? (i := 24) rfl)) hl2 hs hw (by decide) (fun ls hst => ?_)
        have hl0 := hst.2.2.2.1 0 _ (by decide) hl0 rfl
        have hl1 := hst.2.2.2.1 1 _ (by decide) hl1 rfl
        have e1 := zj_inc (x := j) (n := 1) (by omega) (by omega) (by decide) (by decide)
        refine fz_goto X 7 (dc_X8_goesOn (46, .goto (-39), 3) (List.mem_of_getElem? (i := 25) rfl)) (by decide) ?_
        exact ih V3 ls _ (by omega) (by omega) (by omega) f3 (by omega) (hst.1.trans hs) hst.2.1 hl0 hl1 hst.2.2.1
  exact loop _ V0 ls v2 (Nat.lt_succ_self _) (by omega) (by omega) f0 (by rw [e0]; omega) hs hw hl0 hl1 hl2
theorem e_hours8 {l : Launch} {D : va_G} {ad : Nat → Nat} {cy : Nat → ClassId} {Z : State → Heap → Prop} (hAd : fm_Ad fm_tm ad) (hZ : fm_Zk (fm_A fm_tm ad) Z) {V : fm_V} {x1 : Int32} (hT : fm_Tm fm_tm V) (hG : fm_G V) (hn : 1 ≤ x1.toInt ∧ x1.toInt ≤ 40) (hc : 0 ≤ (V 80 2).toInt ∧ (V 80 2).toInt ≤ 1000000000) : gm_M l D fm_cl fm_tm ad cy fm_nt Z yX8_hours (.code yX8_hours prog_10_method_64_code 2 (some .int) :: fm_Ts) { frames := 10, cells := 0, slots := 0, locals := 1000 } V [.ref (ad 80), .int x1] (fun r V1 => pz_F K_X8_hours_0.2.2.1 V V1 ∧ (∃ x : Int32, r = some (.int x)) ∧ (V1 80 2).toInt = (V 80 2).toInt + x1.toInt) := by
  refine gm_at hAd hZ (by decide +kernel) (by simp [lg_sl, Value.category]) ?_
  intro p e s m args below meth c ls hr hlk X Y hl
  have hl0 : ls[0]? = some (.val (.ref (ad 80))) := hl.2.2 (0, .ref (ad 80)) (by simp [lv_args, Value.category])
  have hl1 : ls[1]? = some (.val (.int x1)) := hl.2.2 (1, .int x1) (by simp [lv_args, Value.category])
  have hs := hl.1
  have hw := hl.2.1
  clear hl
  refine fm_iload_n X (dc_X8_hours (0, .iload_n 1, 1) (List.mem_of_getElem? (i := 0) rfl)) rfl hl1 ?_
  refine gm_callS X Y fm_Ts_good (dc_X8_hours (1, .invokestatic 415, 3) (List.mem_of_getElem? (i := 1) rfl)) (m_X8_areHours_3 hAd hZ V [.int x1] ⟨hT, hG, ⟨rv_okB (lo := 1) (hi := 40) hn.1 hn.2, trivial⟩, fun f hf => absurd hf List.not_mem_nil⟩) wl_X8_415 wm_X8_areHours wy_X8_areHours (by decide) (rest := []) rfl rfl hs (by simp [Value.category]) (fun r V1 hp => ?_)
  obtain ⟨w, rfl, w1, w2, -, -⟩ := hp.2.2.1
  replace w1 : (1 : Int) ≤ w.toInt := w1
  obtain rfl : V = V1 := funext fun i => funext fun f => (hp.2.1 i f rfl).symm
  clear hp
  refine fz_if_ne X 9 (dc_X8_hours (4, .ifCond .ne 5, 3) (List.mem_of_getElem? (i := 2) rfl)) (by decide) (fun g => ?_) (fun g => absurd g (by omega))
  refine fm_aload_n X (dc_X8_hours (9, .aload_n 0, 1) (List.mem_of_getElem? (i := 5) rfl)) rfl hl0 ?_
  refine fm_iload_n X (dc_X8_hours (10, .iload_n 1, 1) (List.mem_of_getElem? (i := 6) rfl)) rfl hl1 ?_
  refine gm_callV X Y fm_Ts_good (dc_X8_hours (11, .invokevirtual 418, 3) (List.mem_of_getElem? (i := 7) rfl)) (e_goesOn hAd hZ (V := V) (x1 := x1) hT hG ⟨by omega, by omega⟩ hc) wl_X8_418 wm_X8_goesOn wy_X8_goesOn (by decide) ⟨rfl, rfl⟩ (rest := []) rfl rfl hs (by simp [Value.category]) (fun r V2 hp => ?_)
  obtain ⟨hF, rfl, hcc⟩ := hp
  refine fm_aload_n X (dc_X8_hours (14, .aload_n 0, 1) (List.mem_of_getElem? (i := 8) rfl)) rfl hl0 ?_
  refine fz_getI X 80 (dc_X8_hours (15, .getfield 380, 3) (List.mem_of_getElem? (i := 9) rfl)) lkX8_380 rfl rfl ?_
  exact gm_iret X Y hr hlk (dc_X8_hours (18, .ireturn, 1) (List.mem_of_getElem? (i := 10) rfl)) ⟨pz_Ft (pz_Fr hT) hF (by decide +kernel), ⟨_, rfl⟩, hcc⟩
