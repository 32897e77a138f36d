/-! bowls -/
def bw_M : List (Nat × Nat) := [(80, 2), (80, 3), (80, 4), (80, 5), (80, 6), (80, 43), (80, 44), (80, 45), (80, 46), (80, 51), (82, 9999), (83, 9999), (84, 9999), (85, 9999), (86, 9999), (87, 9999), (88, 9999), (89, 9999), (90, 9999), (91, 9999), (92, 9999), (93, 9999), (94, 9999), (108, 9999), (109, 9999), (110, 9999), (111, 9999), (112, 9999), (113, 9999), (114, 9999), (115, 9999), (116, 9999), (117, 9999), (118, 9999), (119, 9999), (120, 9999), (121, 9999), (122, 9999), (123, 9999), (124, 9999), (125, 0), (125, 1), (125, 2), (125, 3), (125, 4), (126, 9999), (127, 9999), (128, 9999), (129, 9999)]
theorem g_bowls {l : Launch} {D : va_G} {ad : Nat → Nat} {cy : Nat → ClassId} {Z : State → Heap → Prop} (hAd : fm_Ad fm_tm ad) (hZ : fm_Zk (fm_A fm_tm ad) Z) {V : fm_V} {x1 x2 x3 : Int32} (hT : fm_Tm fm_tm V) (hG : fm_G V) (hH : 0 ≤ (V 80 2).toInt ∧ (V 80 2).toInt ≤ 500000000) : gm_M l D fm_cl fm_tm ad cy fm_nt Z yX8_bowls (.code yX8_bowls prog_10_method_78_code 9 (some .int) :: fm_Ts) { frames := 10, cells := 0, slots := 0, locals := 1000 } V [.ref (ad 80), .int x1, .int x2, .int x3] (fun r V1 => (∃ x : Int32, r = some (.int x)) ∧ pz_F bw_M V V1 ∧ (V1 80 2).toInt = (V 80 2).toInt) := by
  refine gm_at hAd hZ (by decide +kernel) (by simp [lg_sl, Value.category]) ?_
  intro p e s m args below meth c ls hr hlk X Y hl
  have hl0 : ls[0]? = some (.val (.ref (ad 80))) := hl.2.2 (0, .ref (ad 80)) (by simp [lv_args, Value.category])
  have hl1 : ls[1]? = some (.val (.int x1)) := hl.2.2 (1, .int x1) (by simp [lv_args, Value.category])
  have hl2 : ls[2]? = some (.val (.int x2)) := hl.2.2 (2, .int x2) (by simp [lv_args, Value.category])
  have hl3 : ls[3]? = some (.val (.int x3)) := hl.2.2 (3, .int x3) (by simp [lv_args, Value.category])
  have hs := hl.1
  have hw := hl.2.1
  clear hl
  have hGm : ∀ U, pz_F bw_M V U → fm_G U := fun U h => fm_gm fm_G_gd (M := bw_M) (by decide) V U h.2 hG
  have hrow : ∀ U, fm_Tm fm_tm U → ∀ j, j < 6 → 0 ≤ (U 127 j).toInt ∧ (U 127 j).toInt ≤ 5 := fun U h j hj => h.1 127 0 6 0 5 j rfl hj
  have hbest : ∀ U, fm_Tm fm_tm U → ∀ j, j < 6 → 0 ≤ (U 128 j).toInt ∧ (U 128 j).toInt ≤ 5 := fun U h j hj => h.1 128 0 6 0 5 j rfl hj
  have hsome : ∀ U, fm_Tm fm_tm U → ∀ j, j < 6 → 0 ≤ (U 126 j).toInt ∧ (U 126 j).toInt ≤ 8 := fun U h j hj => h.1 126 0 6 0 8 j rfl hj
  have fin : ∀ (x4 x5 : Int32) (n : Nat) (hn : x4.toInt = n ∧ 1 ≤ n ∧ n ≤ 6) (h5 : -1 ≤ x5.toInt ∧ x5.toInt < n) (h3 : -1 ≤ x3.toInt ∧ x3.toInt ≤ 9) (h35 : 0 ≤ x3.toInt → x3.toInt < 9 → x5.toInt ≠ -1) (h2 : 1 ≤ x2.toInt ∧ x2.toInt ≤ 20) (N : Nat), ∀ (W : fm_V) (x6 x7 x8 : Int32) (ls : Array Slot), (n - x8.toInt).toNat < N → 0 ≤ x8.toInt → x8.toInt ≤ n → pz_F bw_M V W → (W 80 2).toInt = (V 80 2).toInt → ls.size = 9 → lv_wf ls → ls[0]? = some (.val (.ref (ad 80))) → ls[1]? = some (.val (.int x1)) → ls[2]? = some (.val (.int x2)) → ls[3]? = some (.val (.int x3)) → ls[4]? = some (.val (.int x4)) → ls[5]? = some (.val (.int x5)) → ls[6]? = some (.val (.int x6)) → ls[7]? = some (.val (.int x7)) → ls[8]? = some (.val (.int x8)) → fm_W p l e { frames := 10, cells := 0, slots := 0, locals := 1000 } s m args below meth c (MQ below (rv_Qc D fm_cl fm_tm ad cy fm_nt Z (fun r V1 => (∃ x : Int32, r = some (.int x)) ∧ pz_F bw_M V V1 ∧ (V1 80 2).toInt = (V 80 2).toInt)) args s 0 0 (fm_A fm_tm ad)) D fm_cl fm_tm ad cy (fm_A fm_tm ad) W 293 ls [] := by
    intro x4 x5 n hn h5 h3 h35 h2 N
    induction N with
    | zero => intro W x6 x7 x8 ls h; omega
    | succ N ih =>
      intro W x6 x7 x8 ls hN f1 f2 hF hh hs hw hl0 hl1 hl2 hl3 hl4 hl5 hl6 hl7 hl8
      have hb_1 := hbest W hF.1
      have hs_1 := hsome W hF.1
      refine fm_iload X d_X8_bowls_293 hl8 ?_
      refine fm_iload X d_X8_bowls_295 hl4 ?_
      refine fz_icmp_ge X 336 d_X8_bowls_297 (by decide) (fun h11 => ?_) (fun h11 => ?_)
      · skip
        refine fm_iload_n X d_X8_bowls_336 rfl hl3 ?_
        refine fz_iconst X d_X8_bowls_337 (by decide) (fun v12 hv12 => ?_)
        refine fz_icmp_eq X 347 d_X8_bowls_338 (by decide) (fun h13 => ?_) (fun h13 => ?_)
        · skip
          refine fm_iload X d_X8_bowls_347 hl6 ?_
          refine fz_goto X 364 d_X8_bowls_349 (by decide) ?_
          refine gm_iret X Y hr hlk d_X8_bowls_364 ⟨⟨_, rfl⟩, hF, hh⟩
        · skip
          refine fm_iload_n X d_X8_bowls_341 rfl hl3 ?_
          refine fz_bipush X d_X8_bowls_342 (by decide) (fun v14 hv14 => ?_)
          refine fz_icmp_ne X 352 d_X8_bowls_344 (by decide) (fun h15 => ?_) (fun h15 => ?_)
          · skip
            have h35 := h35 (by omega) (by omega)
            have i2 := hb_1 x5.toInt.toNat (by omega)
            refine fm_aload_n X d_X8_bowls_352 rfl hl0 ?_
            refine fz_getR X 80 d_X8_bowls_353 lkX8_151 rfl rfl ?_
            refine fm_aload_n X d_X8_bowls_356 rfl hl0 ?_
            refine fz_getR X 80 d_X8_bowls_357 lkX8_157 rfl rfl ?_
            refine fm_iload X d_X8_bowls_360 hl5 ?_
            refine fz_ialoadZ X 128 d_X8_bowls_362 rfl (by constructor <;> omega) ?_
            refine fz_ialoadZ X 126 d_X8_bowls_363 rfl (by constructor <;> omega) ?_
            refine gm_iret X Y hr hlk d_X8_bowls_364 ⟨⟨_, rfl⟩, hF, hh⟩
          · skip
            refine fm_iload X d_X8_bowls_347 hl6 ?_
            refine fz_goto X 364 d_X8_bowls_349 (by decide) ?_
            refine gm_iret X Y hr hlk d_X8_bowls_364 ⟨⟨_, rfl⟩, hF, hh⟩
      · skip
        refine fm_iload_n X d_X8_bowls_300 rfl hl3 ?_
        refine fz_bipush X d_X8_bowls_301 (by decide) (fun v16 hv16 => ?_)
        refine fz_icmp_ne X 336 d_X8_bowls_303 (by decide) (fun h17 => ?_) (fun h17 => ?_)
        · skip
          refine fm_iload_n X d_X8_bowls_336 rfl hl3 ?_
          refine fz_iconst X d_X8_bowls_337 (by decide) (fun v18 hv18 => ?_)
          refine fz_icmp_eq X 347 d_X8_bowls_338 (by decide) (fun h19 => ?_) (fun h19 => ?_)
          · skip
            refine fm_iload X d_X8_bowls_347 hl6 ?_
            refine fz_goto X 364 d_X8_bowls_349 (by decide) ?_
            refine gm_iret X Y hr hlk d_X8_bowls_364 ⟨⟨_, rfl⟩, hF, hh⟩
          · skip
            refine fm_iload_n X d_X8_bowls_341 rfl hl3 ?_
            refine fz_bipush X d_X8_bowls_342 (by decide) (fun v20 hv20 => ?_)
            refine fz_icmp_ne X 352 d_X8_bowls_344 (by decide) (fun h21 => ?_) (fun h21 => ?_)
            · skip
              have h35 := h35 (by omega) (by omega)
              have i2 := hb_1 x5.toInt.toNat (by omega)
              refine fm_aload_n X d_X8_bowls_352 rfl hl0 ?_
              refine fz_getR X 80 d_X8_bowls_353 lkX8_151 rfl rfl ?_
              refine fm_aload_n X d_X8_bowls_356 rfl hl0 ?_
              refine fz_getR X 80 d_X8_bowls_357 lkX8_157 rfl rfl ?_
              refine fm_iload X d_X8_bowls_360 hl5 ?_
              refine fz_ialoadZ X 128 d_X8_bowls_362 rfl (by constructor <;> omega) ?_
              refine fz_ialoadZ X 126 d_X8_bowls_363 rfl (by constructor <;> omega) ?_
              refine gm_iret X Y hr hlk d_X8_bowls_364 ⟨⟨_, rfl⟩, hF, hh⟩
            · skip
              refine fm_iload X d_X8_bowls_347 hl6 ?_
              refine fz_goto X 364 d_X8_bowls_349 (by decide) ?_
              refine gm_iret X Y hr hlk d_X8_bowls_364 ⟨⟨_, rfl⟩, hF, hh⟩
        · skip
          have i1 := hs_1 x8.toInt.toNat (by omega)
          have i2 := hb_1 x8.toInt.toNat (by omega)
          refine fm_aload_n X d_X8_bowls_306 rfl hl0 ?_
          refine fz_getR X 80 d_X8_bowls_307 lkX8_43 rfl rfl ?_
          refine fm_aload_n X d_X8_bowls_310 rfl hl0 ?_
          refine fz_getR X 80 d_X8_bowls_311 lkX8_151 rfl rfl ?_
          refine fm_iload X d_X8_bowls_314 hl8 ?_
          refine fz_ialoadZ X 126 d_X8_bowls_316 rfl (by constructor <;> omega) ?_
          refine fm_aload_n X d_X8_bowls_317 rfl hl0 ?_
          refine fz_getR X 80 d_X8_bowls_318 lkX8_160 rfl rfl ?_
          refine fm_aload_n X d_X8_bowls_321 rfl hl0 ?_
          refine fz_getR X 80 d_X8_bowls_322 lkX8_157 rfl rfl ?_
          refine fm_iload X d_X8_bowls_325 hl8 ?_
          refine fz_ialoadZ X 128 d_X8_bowls_327 rfl (by constructor <;> omega) ?_
          refine fz_ialoadZ X 129 d_X8_bowls_328 rfl (by constructor <;> omega) ?_
          refine fz_iastore X 90 d_X8_bowls_329 rfl (by constructor <;> omega) (fun V22 hV22 => ?_)
          have hF := pz_Fa hF hV22 (i := 90) rfl (zi_rng _) (by simp [rv_in, bw_M])
          have hh : (V22 80 2).toInt = (V 80 2).toInt := by rw [hV22, fm_up_ne (fun q => absurd q.1 (by decide))]; exact hh
          refine fm_iinc X d_X8_bowls_330 hl8 hs hw (by decide) (fun ls hst => ?_)
          have hl0 := hst.2.2.2.1 0 _ (by decide) hl0 rfl
          have hl1 := hst.2.2.2.1 1 _ (by decide) hl1 rfl
          have hl2 := hst.2.2.2.1 2 _ (by decide) hl2 rfl
          have hl3 := hst.2.2.2.1 3 _ (by decide) hl3 rfl
          have hl4 := hst.2.2.2.1 4 _ (by decide) hl4 rfl
          have hl5 := hst.2.2.2.1 5 _ (by decide) hl5 rfl
          have hl6 := hst.2.2.2.1 6 _ (by decide) hl6 rfl
          have hl7 := hst.2.2.2.1 7 _ (by decide) hl7 rfl
          obtain ⟨z23, hz23⟩ : ∃ z : Int32, z.toInt = (x8).toInt + 1 ∧ ls[8]? = some (.val (.int z)) := ⟨_, zi_inc (by omega) (by omega) (by decide) (by decide), hst.2.2.1⟩
          have hl8 := hz23.2
          have hz23 := hz23.1
          have hs := hst.1.trans hs
          have hw := hst.2.1
          clear hst
          refine fz_goto X 293 d_X8_bowls_333 (by decide) ?_
          exact ih V22 _ _ _ ls (by omega) (by omega) (by omega) hF hh hs hw hl0 hl1 hl2 hl3 hl4 hl5 hl6 hl7 hl8
  have exit : ∀ (x4 x5 : Int32) (n : Nat) (hn : x4.toInt = n ∧ 1 ≤ n ∧ n ≤ 6) (h5 : -1 ≤ x5.toInt ∧ x5.toInt < n) (h3 : -1 ≤ x3.toInt ∧ x3.toInt ≤ 9) (h35 : 0 ≤ x3.toInt → x3.toInt < 9 → x5.toInt ≠ -1) (h2 : 1 ≤ x2.toInt ∧ x2.toInt ≤ 20), ∀ (W : fm_V) (x6 x7 : Int32) (ls : Array Slot), x7.toInt = 0 → pz_F bw_M V W → (W 80 2).toInt = (V 80 2).toInt → ls.size = 9 → lv_wf ls → ls[0]? = some (.val (.ref (ad 80))) → ls[1]? = some (.val (.int x1)) → ls[2]? = some (.val (.int x2)) → ls[3]? = some (.val (.int x3)) → ls[4]? = some (.val (.int x4)) → ls[5]? = some (.val (.int x5)) → ls[6]? = some (.val (.int x6)) → ls[7]? = some (.val (.int x7)) → fm_W p l e { frames := 10, cells := 0, slots := 0, locals := 1000 } s m args below meth c (MQ below (rv_Qc D fm_cl fm_tm ad cy fm_nt Z (fun r V1 => (∃ x : Int32, r = some (.int x)) ∧ pz_F bw_M V V1 ∧ (V1 80 2).toInt = (V 80 2).toInt)) args s 0 0 (fm_A fm_tm ad)) D fm_cl fm_tm ad cy (fm_A fm_tm ad) W 174 ls [] := by
    intro x4 x5 n hn h5 h3 h35 h2 W x6 x7 ls hx hF hh hs hw hl0 hl1 hl2 hl3 hl4 hl5 hl6 hl7
    refine fm_iload X d_X8_bowls_174 hl7 ?_
    refine fz_if_eq X 290 d_X8_bowls_176 (by decide) (fun h24 => ?_) (fun h24 => ?_)
    · skip
      refine fz_iconst X d_X8_bowls_290 (by decide) (fun v25 hv25 => ?_)
      refine fm_istore X d_X8_bowls_291 hs hw (by decide) (fun ls hst => ?_)
      have hl0 := hst.2.2.2.1 0 _ (by decide) hl0 rfl
      have hl1 := hst.2.2.2.1 1 _ (by decide) hl1 rfl
      have hl2 := hst.2.2.2.1 2 _ (by decide) hl2 rfl
      have hl3 := hst.2.2.2.1 3 _ (by decide) hl3 rfl
      have hl4 := hst.2.2.2.1 4 _ (by decide) hl4 rfl
      have hl5 := hst.2.2.2.1 5 _ (by decide) hl5 rfl
      have hl6 := hst.2.2.2.1 6 _ (by decide) hl6 rfl
      have hl7 := hst.2.2.2.1 7 _ (by decide) hl7 rfl
      have hl8 := hst.2.2.1
      have hs := hst.1.trans hs
      have hw := hst.2.1
      clear hst
      exact fin x4 x5 n hn h5 h3 h35 h2 _ W _ _ _ ls (Nat.lt_succ_self _) (by omega) (by omega) hF hh hs hw hl0 hl1 hl2 hl3 hl4 hl5 hl6 hl7 hl8
    · skip
      omega
  have loop : ∀ (x4 x5 : Int32) (n : Nat) (hn : x4.toInt = n ∧ 1 ≤ n ∧ n ≤ 6) (h5 : -1 ≤ x5.toInt ∧ x5.toInt < n) (h3 : -1 ≤ x3.toInt ∧ x3.toInt ≤ 9) (h35 : 0 ≤ x3.toInt → x3.toInt < 9 → x5.toInt ≠ -1) (h2 : 1 ≤ x2.toInt ∧ x2.toInt ≤ 20) (N : Nat), ∀ (W : fm_V) (x6 x7 : Int32) (ls : Array Slot), (46656 - rw_ (W 127) n).toNat < N → x7.toInt ≠ 0 → pz_F bw_M V W → (W 80 2).toInt = (V 80 2).toInt → dz_ (W 127) n → ls.size = 9 → lv_wf ls → ls[0]? = some (.val (.ref (ad 80))) → ls[1]? = some (.val (.int x1)) → ls[2]? = some (.val (.int x2)) → ls[3]? = some (.val (.int x3)) → ls[4]? = some (.val (.int x4)) → ls[5]? = some (.val (.int x5)) → ls[6]? = some (.val (.int x6)) → ls[7]? = some (.val (.int x7)) → fm_W p l e { frames := 10, cells := 0, slots := 0, locals := 1000 } s m args below meth c (MQ below (rv_Qc D fm_cl fm_tm ad cy fm_nt Z (fun r V1 => (∃ x : Int32, r = some (.int x)) ∧ pz_F bw_M V V1 ∧ (V1 80 2).toInt = (V 80 2).toInt)) args s 0 0 (fm_A fm_tm ad)) D fm_cl fm_tm ad cy (fm_A fm_tm ad) W 174 ls [] := by
    intro x4 x5 n hn h5 h3 h35 h2 N
    induction N with
    | zero => intro W x6 x7 ls h; omega
    | succ N ih =>
      intro W x6 x7 ls hN hx7 hF hh hdz hs hw hl0 hl1 hl2 hl3 hl4 hl5 hl6 hl7
      have m279 : ∀ (U : fm_V) (x6 x8 : Int32) (ls : Array Slot), pz_F bw_M V U → (U 80 2).toInt = (V 80 2).toInt → U 127 = W 127 → ls.size = 9 → lv_wf ls → ls[0]? = some (.val (.ref (ad 80))) → ls[1]? = some (.val (.int x1)) → ls[2]? = some (.val (.int x2)) → ls[3]? = some (.val (.int x3)) → ls[4]? = some (.val (.int x4)) → ls[5]? = some (.val (.int x5)) → ls[6]? = some (.val (.int x6)) → ls[7]? = some (.val (.int x7)) → ls[8]? = some (.val (.int x8)) → fm_W p l e { frames := 10, cells := 0, slots := 0, locals := 1000 } s m args below meth c (MQ below (rv_Qc D fm_cl fm_tm ad cy fm_nt Z (fun r V1 => (∃ x : Int32, r = some (.int x)) ∧ pz_F bw_M V V1 ∧ (V1 80 2).toInt = (V 80 2).toInt)) args s 0 0 (fm_A fm_tm ad)) D fm_cl fm_tm ad cy (fm_A fm_tm ad) U 279 ls [] := by
        intro U x6 x8 ls hF hh hE hs hw hl0 hl1 hl2 hl3 hl4 hl5 hl6 hl7 hl8
        refine fm_aload_n X d_X8_bowls_279 rfl hl0 ?_
        refine fm_iload X d_X8_bowls_280 hl4 ?_
        refine gm_callV X Y fm_Ts_good d_X8_bowls_282 (g_goesToNext hAd hZ (V := U) (n := n) hF.1 (by omega) (by rw [hE]; exact hdz)) wl_X8_483 wm_X8_goesToNext wy_X8_goesToNext (by decide) ⟨rfl, rfl⟩ (rest := []) rfl rfl hs (by simp [Value.category]) (fun r V27 hp => ?_)
        obtain ⟨x28, rfl, hF2, hd2, hl2_⟩ := hp
        have hF := pz_Ft hF hF2 (by decide)
        have hh : (V27 80 2).toInt = (V 80 2).toInt := by rw [hF2.2 80 2 (by decide)]; exact hh
        show fm_W p l e { frames := 10, cells := 0, slots := 0, locals := 1000 } s m args below meth c (MQ below (rv_Qc D fm_cl fm_tm ad cy fm_nt Z (fun r V1 => (∃ x : Int32, r = some (.int x)) ∧ pz_F bw_M V V1 ∧ (V1 80 2).toInt = (V 80 2).toInt)) args s 0 0 (fm_A fm_tm ad)) D fm_cl fm_tm ad cy (fm_A fm_tm ad) V27 285 ls [.int x28]
        refine fm_istore X d_X8_bowls_285 hs hw (by decide) (fun ls hst => ?_)
        have hl0 := hst.2.2.2.1 0 _ (by decide) hl0 rfl
        have hl1 := hst.2.2.2.1 1 _ (by decide) hl1 rfl
        have hl2 := hst.2.2.2.1 2 _ (by decide) hl2 rfl
        have hl3 := hst.2.2.2.1 3 _ (by decide) hl3 rfl
        have hl4 := hst.2.2.2.1 4 _ (by decide) hl4 rfl
        have hl5 := hst.2.2.2.1 5 _ (by decide) hl5 rfl
        have hl6 := hst.2.2.2.1 6 _ (by decide) hl6 rfl
        have hl8 := hst.2.2.2.1 8 _ (by decide) hl8 rfl
        have hl7 := hst.2.2.1
        have hs := hst.1.trans hs
        have hw := hst.2.1
        clear hst
        refine fz_goto X 174 d_X8_bowls_287 (by decide) ?_
        by_cases e : (x28).toInt = 0
        · exact exit x4 x5 n hn h5 h3 h35 h2 _ _ _ ls e hF hh hs hw hl0 hl1 hl2 hl3 hl4 hl5 hl6 hl7
        · have := hl2_ e
          rw [hE] at this
          have hb2 := rw_b hF.1 (n := n) (by omega)
          exact ih _ _ _ ls (by omega) e hF hh hd2 hs hw hl0 hl1 hl2 hl3 hl4 hl5 hl6 hl7
      have m252 : ∀ (N2 : Nat), ∀ (U : fm_V) (x6 x8 : Int32) (ls : Array Slot), (n - x8.toInt).toNat < N2 → 0 ≤ x8.toInt → x8.toInt ≤ n → pz_F bw_M V U → (U 80 2).toInt = (V 80 2).toInt → U 127 = W 127 → ls.size = 9 → lv_wf ls → ls[0]? = some (.val (.ref (ad 80))) → ls[1]? = some (.val (.int x1)) → ls[2]? = some (.val (.int x2)) → ls[3]? = some (.val (.int x3)) → ls[4]? = some (.val (.int x4)) → ls[5]? = some (.val (.int x5)) → ls[6]? = some (.val (.int x6)) → ls[7]? = some (.val (.int x7)) → ls[8]? = some (.val (.int x8)) → fm_W p l e { frames := 10, cells := 0, slots := 0, locals := 1000 } s m args below meth c (MQ below (rv_Qc D fm_cl fm_tm ad cy fm_nt Z (fun r V1 => (∃ x : Int32, r = some (.int x)) ∧ pz_F bw_M V V1 ∧ (V1 80 2).toInt = (V 80 2).toInt)) args s 0 0 (fm_A fm_tm ad)) D fm_cl fm_tm ad cy (fm_A fm_tm ad) U 252 ls [] := by
        intro N2
        induction N2 with
        | zero => intro U x6 x8 ls h; omega
        | succ N2 ih2 =>
          intro U x6 x8 ls hN2 f1 f2 hF hh hE hs hw hl0 hl1 hl2 hl3 hl4 hl5 hl6 hl7 hl8
          have hr_1 := hrow U hF.1
          refine fm_iload X d_X8_bowls_252 hl8 ?_
          refine fm_iload X d_X8_bowls_254 hl4 ?_
          refine fz_icmp_ge X 279 d_X8_bowls_256 (by decide) (fun h30 => ?_) (fun h30 => ?_)
          · skip
            exact m279 _ _ _ ls hF hh hE hs hw hl0 hl1 hl2 hl3 hl4 hl5 hl6 hl7 hl8
          · skip
            refine fm_aload_n X d_X8_bowls_259 rfl hl0 ?_
            refine fz_getR X 80 d_X8_bowls_260 lkX8_157 rfl rfl ?_
            refine fm_iload X d_X8_bowls_263 hl8 ?_
            refine fm_aload_n X d_X8_bowls_265 rfl hl0 ?_
            refine fz_getR X 80 d_X8_bowls_266 lkX8_154 rfl rfl ?_
            refine fm_iload X d_X8_bowls_269 hl8 ?_
            refine fz_ialoadZ X 127 d_X8_bowls_271 rfl (by constructor <;> omega) ?_
            refine fz_iastore X 128 d_X8_bowls_272 rfl (by constructor <;> omega) (fun V31 hV31 => ?_)
            have hF := pz_Fa hF hV31 (i := 128) rfl (hr_1 _ (by omega)) (by simp [rv_in, bw_M])
            have hh : (V31 80 2).toInt = (V 80 2).toInt := by rw [hV31, fm_up_ne (fun q => absurd q.1 (by decide))]; exact hh
            have hE : V31 127 = W 127 := by rw [← hE, hV31]; funext k; exact fm_up_ne (fun q => absurd q.1 (by decide))
            refine fm_iinc X d_X8_bowls_273 hl8 hs hw (by decide) (fun ls hst => ?_)
            have hl0 := hst.2.2.2.1 0 _ (by decide) hl0 rfl
            have hl1 := hst.2.2.2.1 1 _ (by decide) hl1 rfl
            have hl2 := hst.2.2.2.1 2 _ (by decide) hl2 rfl
            have hl3 := hst.2.2.2.1 3 _ (by decide) hl3 rfl
            have hl4 := hst.2.2.2.1 4 _ (by decide) hl4 rfl
            have hl5 := hst.2.2.2.1 5 _ (by decide) hl5 rfl
            have hl6 := hst.2.2.2.1 6 _ (by decide) hl6 rfl
            have hl7 := hst.2.2.2.1 7 _ (by decide) hl7 rfl
            obtain ⟨z32, hz32⟩ : ∃ z : Int32, z.toInt = (x8).toInt + 1 ∧ ls[8]? = some (.val (.int z)) := ⟨_, zi_inc (by omega) (by omega) (by decide) (by decide), hst.2.2.1⟩
            have hl8 := hz32.2
            have hz32 := hz32.1
            have hs := hst.1.trans hs
            have hw := hst.2.1
            clear hst
            refine fz_goto X 252 d_X8_bowls_276 (by decide) ?_
            exact ih2 V31 _ _ ls (by omega) (by omega) (by omega) hF hh hE hs hw hl0 hl1 hl2 hl3 hl4 hl5 hl6 hl7 hl8
      have m224 : ∀ (U : fm_V) (x8 : Int32) (ls : Array Slot), pz_F bw_M V U → (U 80 2).toInt = (V 80 2).toInt → (U 125 0).toInt = (V 80 2).toInt → U 127 = W 127 → ls.size = 9 → lv_wf ls → ls[0]? = some (.val (.ref (ad 80))) → ls[1]? = some (.val (.int x1)) → ls[2]? = some (.val (.int x2)) → ls[3]? = some (.val (.int x3)) → ls[4]? = some (.val (.int x4)) → ls[5]? = some (.val (.int x5)) → ls[6]? = some (.val (.int x6)) → ls[7]? = some (.val (.int x7)) → ls[8]? = some (.val (.int x8)) → fm_W p l e { frames := 10, cells := 0, slots := 0, locals := 1000 } s m args below meth c (MQ below (rv_Qc D fm_cl fm_tm ad cy fm_nt Z (fun r V1 => (∃ x : Int32, r = some (.int x)) ∧ pz_F bw_M V V1 ∧ (V1 80 2).toInt = (V 80 2).toInt)) args s 0 0 (fm_A fm_tm ad)) D fm_cl fm_tm ad cy (fm_A fm_tm ad) U 224 ls [] := by
        intro U x8 ls hF hh h125 hE hs hw hl0 hl1 hl2 hl3 hl4 hl5 hl6 hl7 hl8
        refine fm_aload_n X d_X8_bowls_224 rfl hl0 ?_
        refine fm_iload_n X d_X8_bowls_225 rfl hl2 ?_
        refine gm_callV X Y fm_Ts_good d_X8_bowls_226 (m_X8_goesOn_0 hAd hZ U [.ref (ad 80), .int x2] ⟨hF.1, hGm _ hF, ⟨rv_okR' rfl rfl, rv_okB (lo := 1) (hi := 40) (by omega) (by omega), trivial⟩, (fun f hf => by rw [List.mem_singleton.mp (show f ∈ [(((80, 2), 0, 1500000000, []) : rv_Fa)] from hf)]; show 0 ≤ (U 80 2).toInt ∧ (U 80 2).toInt ≤ 1500000000; omega)⟩) wl_X8_418 wm_X8_goesOn wy_X8_goesOn (by decide) ⟨rfl, rfl⟩ (rest := []) rfl rfl hs (by simp [Value.category]) (fun r V33 hp => ?_)
        obtain rfl : r = none := hp.2.2.1
        have h125 : (V33 125 0).toInt = (V 80 2).toInt := by rw [hp.2.1 125 0 (by decide)]; exact h125
        have hE : V33 127 = W 127 := by rw [← hE]; funext k; exact hp.2.1 127 k (by simp [rv_in, K_X8_goesOn_0])
        have hF := pz_Ft hF (⟨hp.1, hp.2.1⟩ : pz_F K_X8_goesOn_0.2.2.1 _ _) (by decide)
        show fm_W p l e { frames := 10, cells := 0, slots := 0, locals := 1000 } s m args below meth c (MQ below (rv_Qc D fm_cl fm_tm ad cy fm_nt Z (fun r V1 => (∃ x : Int32, r = some (.int x)) ∧ pz_F bw_M V V1 ∧ (V1 80 2).toInt = (V 80 2).toInt)) args s 0 0 (fm_A fm_tm ad)) D fm_cl fm_tm ad cy (fm_A fm_tm ad) V33 229 ls []
        refine fm_aload_n X d_X8_bowls_229 rfl hl0 ?_
        refine fz_iconst X d_X8_bowls_230 (by decide) (fun v35 hv35 => ?_)
        refine gm_callV X Y fm_Ts_good d_X8_bowls_231 (m_X8_putsBack_0 hAd hZ V33 [.ref (ad 80), .int v35] ⟨hF.1, hGm _ hF, ⟨rv_okR' rfl rfl, rv_okB (lo := 0) (hi := 0) (by omega) (by omega), trivial⟩, fun f hf => absurd hf List.not_mem_nil⟩) wl_X8_445 wm_X8_putsBack wy_X8_putsBack (by decide) ⟨rfl, rfl⟩ (rest := []) rfl rfl hs (by simp [Value.category]) (fun r V36 hp => ?_)
        obtain rfl : r = none := hp.2.2.1
        have hq2 := (hp.2.2.2 ((80, 2), (-2147483648), 2147483647, [((125, 0), 0, 0)]) (List.mem_singleton.mpr rfl)).2 ((125, 0), 0, 0) (List.mem_singleton.mpr rfl)
        have hq2 : 0 ≤ (V36 80 2).toInt - (V33 125 0).toInt ∧ (V36 80 2).toInt - (V33 125 0).toInt ≤ 0 := hq2
        have hh : (V36 80 2).toInt = (V 80 2).toInt := by omega
        have hE : V36 127 = W 127 := by rw [← hE]; funext k; exact hp.2.1 127 k (by simp [rv_in, K_X8_putsBack_0])
        have hF := pz_Ft hF (⟨hp.1, hp.2.1⟩ : pz_F K_X8_putsBack_0.2.2.1 _ _) (by decide)
        show fm_W p l e { frames := 10, cells := 0, slots := 0, locals := 1000 } s m args below meth c (MQ below (rv_Qc D fm_cl fm_tm ad cy fm_nt Z (fun r V1 => (∃ x : Int32, r = some (.int x)) ∧ pz_F bw_M V V1 ∧ (V1 80 2).toInt = (V 80 2).toInt)) args s 0 0 (fm_A fm_tm ad)) D fm_cl fm_tm ad cy (fm_A fm_tm ad) V36 234 ls []
        refine fm_aload_n X d_X8_bowls_234 rfl hl0 ?_
        refine fz_getI X 80 d_X8_bowls_235 lkX8_380 rfl rfl ?_
        refine fm_iload X d_X8_bowls_238 hl6 ?_
        refine fz_icmp_ge X 279 d_X8_bowls_240 (by decide) (fun h38 => ?_) (fun h38 => ?_)
        · skip
          exact m279 _ _ _ ls hF hh hE hs hw hl0 hl1 hl2 hl3 hl4 hl5 hl6 hl7 hl8
        · skip
          refine fm_aload_n X d_X8_bowls_243 rfl hl0 ?_
          refine fz_getI X 80 d_X8_bowls_244 lkX8_380 rfl rfl ?_
          refine fm_istore X d_X8_bowls_247 hs hw (by decide) (fun ls hst => ?_)
          have hl0 := hst.2.2.2.1 0 _ (by decide) hl0 rfl
          have hl1 := hst.2.2.2.1 1 _ (by decide) hl1 rfl
          have hl2 := hst.2.2.2.1 2 _ (by decide) hl2 rfl
          have hl3 := hst.2.2.2.1 3 _ (by decide) hl3 rfl
          have hl4 := hst.2.2.2.1 4 _ (by decide) hl4 rfl
          have hl5 := hst.2.2.2.1 5 _ (by decide) hl5 rfl
          have hl7 := hst.2.2.2.1 7 _ (by decide) hl7 rfl
          have hl8 := hst.2.2.2.1 8 _ (by decide) hl8 rfl
          have hl6 := hst.2.2.1
          have hs := hst.1.trans hs
          have hw := hst.2.1
          clear hst
          refine fz_iconst X d_X8_bowls_249 (by decide) (fun v40 hv40 => ?_)
          refine fm_istore X d_X8_bowls_250 hs hw (by decide) (fun ls hst => ?_)
          have hl0 := hst.2.2.2.1 0 _ (by decide) hl0 rfl
          have hl1 := hst.2.2.2.1 1 _ (by decide) hl1 rfl
          have hl2 := hst.2.2.2.1 2 _ (by decide) hl2 rfl
          have hl3 := hst.2.2.2.1 3 _ (by decide) hl3 rfl
          have hl4 := hst.2.2.2.1 4 _ (by decide) hl4 rfl
          have hl5 := hst.2.2.2.1 5 _ (by decide) hl5 rfl
          have hl6 := hst.2.2.2.1 6 _ (by decide) hl6 rfl
          have hl7 := hst.2.2.2.1 7 _ (by decide) hl7 rfl
          have hl8 := hst.2.2.1
          have hs := hst.1.trans hs
          have hw := hst.2.1
          clear hst
          exact m252 _ _ _ _ ls (Nat.lt_succ_self _) (by omega) (by omega) hF hh hE hs hw hl0 hl1 hl2 hl3 hl4 hl5 hl6 hl7 hl8
      have m187 : ∀ (N2 : Nat), ∀ (U : fm_V) (x8 : Int32) (ls : Array Slot), (n - x8.toInt).toNat < N2 → 0 ≤ x8.toInt → x8.toInt ≤ n → pz_F bw_M V U → (U 80 2).toInt = (V 80 2).toInt → (U 125 0).toInt = (V 80 2).toInt → U 127 = W 127 → ls.size = 9 → lv_wf ls → ls[0]? = some (.val (.ref (ad 80))) → ls[1]? = some (.val (.int x1)) → ls[2]? = some (.val (.int x2)) → ls[3]? = some (.val (.int x3)) → ls[4]? = some (.val (.int x4)) → ls[5]? = some (.val (.int x5)) → ls[6]? = some (.val (.int x6)) → ls[7]? = some (.val (.int x7)) → ls[8]? = some (.val (.int x8)) → fm_W p l e { frames := 10, cells := 0, slots := 0, locals := 1000 } s m args below meth c (MQ below (rv_Qc D fm_cl fm_tm ad cy fm_nt Z (fun r V1 => (∃ x : Int32, r = some (.int x)) ∧ pz_F bw_M V V1 ∧ (V1 80 2).toInt = (V 80 2).toInt)) args s 0 0 (fm_A fm_tm ad)) D fm_cl fm_tm ad cy (fm_A fm_tm ad) U 187 ls [] := by
        intro N2
        induction N2 with
        | zero => intro U x8 ls h; omega
        | succ N2 ih2 =>
          intro U x8 ls hN2 f1 f2 hF hh h125 hE hs hw hl0 hl1 hl2 hl3 hl4 hl5 hl6 hl7 hl8
          refine fm_iload X d_X8_bowls_187 hl8 ?_
          refine fm_iload X d_X8_bowls_189 hl4 ?_
          refine fz_icmp_ge X 224 d_X8_bowls_191 (by decide) (fun h42 => ?_) (fun h42 => ?_)
          · skip
            exact m224 _ _ ls hF hh h125 hE hs hw hl0 hl1 hl2 hl3 hl4 hl5 hl6 hl7 hl8
          · skip
            have i1 := hsome U hF.1 x8.toInt.toNat (by omega)
            have i2 := hrow U hF.1 x8.toInt.toNat (by omega)
            refine fm_aload_n X d_X8_bowls_194 rfl hl0 ?_
            refine fz_getR X 80 d_X8_bowls_195 lkX8_43 rfl rfl ?_
            refine fm_aload_n X d_X8_bowls_198 rfl hl0 ?_
            refine fz_getR X 80 d_X8_bowls_199 lkX8_151 rfl rfl ?_
            refine fm_iload X d_X8_bowls_202 hl8 ?_
            refine fz_ialoadZ X 126 d_X8_bowls_204 rfl (by constructor <;> omega) ?_
            refine fm_aload_n X d_X8_bowls_205 rfl hl0 ?_
            refine fz_getR X 80 d_X8_bowls_206 lkX8_160 rfl rfl ?_
            refine fm_aload_n X d_X8_bowls_209 rfl hl0 ?_
            refine fz_getR X 80 d_X8_bowls_210 lkX8_154 rfl rfl ?_
            refine fm_iload X d_X8_bowls_213 hl8 ?_
            refine fz_ialoadZ X 127 d_X8_bowls_215 rfl (by constructor <;> omega) ?_
            refine fz_ialoadZ X 129 d_X8_bowls_216 rfl (by constructor <;> omega) ?_
            refine fz_iastore X 90 d_X8_bowls_217 rfl (by constructor <;> omega) (fun V43 hV43 => ?_)
            have hF := pz_Fa hF hV43 (i := 90) rfl (zi_rng _) (by simp [rv_in, bw_M])
            have hh : (V43 80 2).toInt = (V 80 2).toInt := by rw [hV43, fm_up_ne (fun q => absurd q.1 (by decide))]; exact hh
            have h125 : (V43 125 0).toInt = (V 80 2).toInt := by rw [hV43, fm_up_ne (fun q => absurd q.1 (by decide))]; exact h125
            have hE : V43 127 = W 127 := by rw [← hE, hV43]; funext k; exact fm_up_ne (fun q => absurd q.1 (by decide))
            refine fm_iinc X d_X8_bowls_218 hl8 hs hw (by decide) (fun ls hst => ?_)
            have hl0 := hst.2.2.2.1 0 _ (by decide) hl0 rfl
            have hl1 := hst.2.2.2.1 1 _ (by decide) hl1 rfl
            have hl2 := hst.2.2.2.1 2 _ (by decide) hl2 rfl
            have hl3 := hst.2.2.2.1 3 _ (by decide) hl3 rfl
            have hl4 := hst.2.2.2.1 4 _ (by decide) hl4 rfl
            have hl5 := hst.2.2.2.1 5 _ (by decide) hl5 rfl
            have hl6 := hst.2.2.2.1 6 _ (by decide) hl6 rfl
            have hl7 := hst.2.2.2.1 7 _ (by decide) hl7 rfl
            obtain ⟨z44, hz44⟩ : ∃ z : Int32, z.toInt = (x8).toInt + 1 ∧ ls[8]? = some (.val (.int z)) := ⟨_, zi_inc (by omega) (by omega) (by decide) (by decide), hst.2.2.1⟩
            have hl8 := hz44.2
            have hz44 := hz44.1
            have hs := hst.1.trans hs
            have hw := hst.2.1
            clear hst
            refine fz_goto X 187 d_X8_bowls_221 (by decide) ?_
            exact ih2 V43 _ ls (by omega) (by omega) (by omega) hF hh h125 hE hs hw hl0 hl1 hl2 hl3 hl4 hl5 hl6 hl7 hl8
      refine fm_iload X d_X8_bowls_174 hl7 ?_
      refine fz_if_eq X 290 d_X8_bowls_176 (by decide) (fun h45 => ?_) (fun h45 => ?_)
      · skip
        omega
      · skip
        refine fm_aload_n X d_X8_bowls_179 rfl hl0 ?_
        refine fz_iconst X d_X8_bowls_180 (by decide) (fun v46 hv46 => ?_)
        refine gm_callV X Y fm_Ts_good d_X8_bowls_181 (m_X8_setsAside_0 hAd hZ W [.ref (ad 80), .int v46] ⟨hF.1, hGm _ hF, ⟨rv_okR' rfl rfl, rv_okB (lo := 0) (hi := 0) (by omega) (by omega), trivial⟩, (fun f hf => by rw [List.mem_singleton.mp (show f ∈ [(((80, 2), 0, 2000000000, []) : rv_Fa)] from hf)]; show 0 ≤ (W 80 2).toInt ∧ (W 80 2).toInt ≤ 2000000000; omega)⟩) wl_X8_439 wm_X8_setsAside wy_X8_setsAside (by decide) ⟨rfl, rfl⟩ (rest := []) rfl rfl hs (by simp [Value.category]) (fun r V47 hp => ?_)
        obtain rfl : r = none := hp.2.2.1
        have hq2 := (hp.2.2.2 ((125, 0), 0, 2000000000, [((80, 2), 0, 0)]) (List.mem_singleton.mpr rfl)).2 ((80, 2), 0, 0) (List.mem_singleton.mpr rfl)
        have hq2 : 0 ≤ (V47 125 0).toInt - (W 80 2).toInt ∧ (V47 125 0).toInt - (W 80 2).toInt ≤ 0 := hq2
        have h125 : (V47 125 0).toInt = (V 80 2).toInt := by omega
        have hh : (V47 80 2).toInt = (V 80 2).toInt := by rw [hp.2.1 80 2 (by decide)]; exact hh
        have hE : V47 127 = W 127 := by funext k; exact hp.2.1 127 k (by simp [rv_in, K_X8_setsAside_0])
        have hF := pz_Ft hF (⟨hp.1, hp.2.1⟩ : pz_F K_X8_setsAside_0.2.2.1 _ _) (by decide)
        show fm_W p l e { frames := 10, cells := 0, slots := 0, locals := 1000 } s m args below meth c (MQ below (rv_Qc D fm_cl fm_tm ad cy fm_nt Z (fun r V1 => (∃ x : Int32, r = some (.int x)) ∧ pz_F bw_M V V1 ∧ (V1 80 2).toInt = (V 80 2).toInt)) args s 0 0 (fm_A fm_tm ad)) D fm_cl fm_tm ad cy (fm_A fm_tm ad) V47 184 ls []
        refine fz_iconst X d_X8_bowls_184 (by decide) (fun v49 hv49 => ?_)
        refine fm_istore X d_X8_bowls_185 hs hw (by decide) (fun ls hst => ?_)
        have hl0 := hst.2.2.2.1 0 _ (by decide) hl0 rfl
        have hl1 := hst.2.2.2.1 1 _ (by decide) hl1 rfl
        have hl2 := hst.2.2.2.1 2 _ (by decide) hl2 rfl
        have hl3 := hst.2.2.2.1 3 _ (by decide) hl3 rfl
        have hl4 := hst.2.2.2.1 4 _ (by decide) hl4 rfl
        have hl5 := hst.2.2.2.1 5 _ (by decide) hl5 rfl
        have hl6 := hst.2.2.2.1 6 _ (by decide) hl6 rfl
        have hl7 := hst.2.2.2.1 7 _ (by decide) hl7 rfl
        have hl8 := hst.2.2.1
        have hs := hst.1.trans hs
        have hw := hst.2.1
        clear hst
        exact m187 _ _ _ ls (Nat.lt_succ_self _) (by omega) (by omega) hF hh h125 hE hs hw hl0 hl1 hl2 hl3 hl4 hl5 hl6 hl7 hl8
  have first : ∀ (hc : 2 ≤ cb_ x1 9 ∧ cb_ x1 9 ≤ 6) (h3 : -1 ≤ x3.toInt ∧ x3.toInt ≤ 9) (h2 : 1 ≤ x2.toInt ∧ x2.toInt ≤ 20) (N : Nat), ∀ (W : fm_V) (x4 x5 x6 : Int32) (ls : Array Slot), (9 - x6.toInt).toNat < N → 0 ≤ x6.toInt → x6.toInt ≤ 9 → x4.toInt = cb_ x1 x6.toInt.toNat → -1 ≤ x5.toInt → x5.toInt < x4.toInt → (∀ i : Nat, (i : Int) < x4.toInt → (W 127 i).toInt = i) → pz_F bw_M V W → (W 80 2).toInt = (V 80 2).toInt → ls.size = 9 → lv_wf ls → ls[0]? = some (.val (.ref (ad 80))) → ls[1]? = some (.val (.int x1)) → ls[2]? = some (.val (.int x2)) → ls[3]? = some (.val (.int x3)) → ls[4]? = some (.val (.int x4)) → ls[5]? = some (.val (.int x5)) → ls[6]? = some (.val (.int x6)) → fm_W p l e { frames := 10, cells := 0, slots := 0, locals := 1000 } s m args below meth c (MQ below (rv_Qc D fm_cl fm_tm ad cy fm_nt Z (fun r V1 => (∃ x : Int32, r = some (.int x)) ∧ pz_F bw_M V V1 ∧ (V1 80 2).toInt = (V 80 2).toInt)) args s 0 0 (fm_A fm_tm ad)) D fm_cl fm_tm ad cy (fm_A fm_tm ad) W 61 ls [] := by
    intro hc h3 h2 N
    induction N with
    | zero => intro W x4 x5 x6 ls h; omega
    | succ N ih =>
      intro W x4 x5 x6 ls hN f1 f2 f3 f4 f5 hrw hF hh hs hw hl0 hl1 hl2 hl3 hl4 hl5 hl6
      have mo := cb_mono (a := x1) (p := x6.toInt.toNat) (q := 9) (by omega)
      refine fm_iload X d_X8_bowls_61 hl6 ?_
      refine fz_bipush X d_X8_bowls_63 (by decide) (fun v51 hv51 => ?_)
      refine fz_icmp_ge X 148 d_X8_bowls_65 (by decide) (fun h52 => ?_) (fun h52 => ?_)
      · skip
        have e9 : x6.toInt.toNat = 9 := by omega
        rw [e9] at f3
        have hdz : dz_ (W 127) x4.toInt.toNat := fun i j hi hj e => by
          have a := hrw i (by omega)
          have b := hrw j (by omega)
          rw [e] at a
          omega
        refine fm_iload_n X d_X8_bowls_148 rfl hl3 ?_
        refine fz_if_lt X 166 d_X8_bowls_149 (by decide) (fun h53 => ?_) (fun h53 => ?_)
        · skip
          refine fz_ldcw X d_X8_bowls_166 (kcX8_ok (482, 1000000000) (List.mem_of_getElem? (i := 3) rfl)) (fun z54 hz54 => ?_)
          refine fm_istore X d_X8_bowls_169 hs hw (by decide) (fun ls hst => ?_)
          have hl0 := hst.2.2.2.1 0 _ (by decide) hl0 rfl
          have hl1 := hst.2.2.2.1 1 _ (by decide) hl1 rfl
          have hl2 := hst.2.2.2.1 2 _ (by decide) hl2 rfl
          have hl3 := hst.2.2.2.1 3 _ (by decide) hl3 rfl
          have hl4 := hst.2.2.2.1 4 _ (by decide) hl4 rfl
          have hl5 := hst.2.2.2.1 5 _ (by decide) hl5 rfl
          have hl6 := hst.2.2.1
          have hs := hst.1.trans hs
          have hw := hst.2.1
          clear hst
          refine fz_iconst X d_X8_bowls_171 (by decide) (fun v56 hv56 => ?_)
          refine fm_istore X d_X8_bowls_172 hs hw (by decide) (fun ls hst => ?_)
          have hl0 := hst.2.2.2.1 0 _ (by decide) hl0 rfl
          have hl1 := hst.2.2.2.1 1 _ (by decide) hl1 rfl
          have hl2 := hst.2.2.2.1 2 _ (by decide) hl2 rfl
          have hl3 := hst.2.2.2.1 3 _ (by decide) hl3 rfl
          have hl4 := hst.2.2.2.1 4 _ (by decide) hl4 rfl
          have hl5 := hst.2.2.2.1 5 _ (by decide) hl5 rfl
          have hl6 := hst.2.2.2.1 6 _ (by decide) hl6 rfl
          have hl7 := hst.2.2.1
          have hs := hst.1.trans hs
          have hw := hst.2.1
          clear hst
          exact loop x4 x5 x4.toInt.toNat (by omega) (by omega) h3 (fun z1 z2 => by omega) h2 _ W _ _ ls (Nat.lt_succ_self _) (by omega) hF hh hdz hs hw hl0 hl1 hl2 hl3 hl4 hl5 hl6 hl7
        · skip
          refine fm_iload_n X d_X8_bowls_152 rfl hl3 ?_
          refine fz_bipush X d_X8_bowls_153 (by decide) (fun v58 hv58 => ?_)
          refine fz_icmp_ge X 166 d_X8_bowls_155 (by decide) (fun h59 => ?_) (fun h59 => ?_)
          · skip
            refine fz_ldcw X d_X8_bowls_166 (kcX8_ok (482, 1000000000) (List.mem_of_getElem? (i := 3) rfl)) (fun z60 hz60 => ?_)
            refine fm_istore X d_X8_bowls_169 hs hw (by decide) (fun ls hst => ?_)
            have hl0 := hst.2.2.2.1 0 _ (by decide) hl0 rfl
            have hl1 := hst.2.2.2.1 1 _ (by decide) hl1 rfl
            have hl2 := hst.2.2.2.1 2 _ (by decide) hl2 rfl
            have hl3 := hst.2.2.2.1 3 _ (by decide) hl3 rfl
            have hl4 := hst.2.2.2.1 4 _ (by decide) hl4 rfl
            have hl5 := hst.2.2.2.1 5 _ (by decide) hl5 rfl
            have hl6 := hst.2.2.1
            have hs := hst.1.trans hs
            have hw := hst.2.1
            clear hst
            refine fz_iconst X d_X8_bowls_171 (by decide) (fun v62 hv62 => ?_)
            refine fm_istore X d_X8_bowls_172 hs hw (by decide) (fun ls hst => ?_)
            have hl0 := hst.2.2.2.1 0 _ (by decide) hl0 rfl
            have hl1 := hst.2.2.2.1 1 _ (by decide) hl1 rfl
            have hl2 := hst.2.2.2.1 2 _ (by decide) hl2 rfl
            have hl3 := hst.2.2.2.1 3 _ (by decide) hl3 rfl
            have hl4 := hst.2.2.2.1 4 _ (by decide) hl4 rfl
            have hl5 := hst.2.2.2.1 5 _ (by decide) hl5 rfl
            have hl6 := hst.2.2.2.1 6 _ (by decide) hl6 rfl
            have hl7 := hst.2.2.1
            have hs := hst.1.trans hs
            have hw := hst.2.1
            clear hst
            exact loop x4 x5 x4.toInt.toNat (by omega) (by omega) h3 (fun z1 z2 => by omega) h2 _ W _ _ ls (Nat.lt_succ_self _) (by omega) hF hh hdz hs hw hl0 hl1 hl2 hl3 hl4 hl5 hl6 hl7
          · skip
            refine fm_iload X d_X8_bowls_158 hl5 ?_
            refine fz_iconst X d_X8_bowls_160 (by decide) (fun v64 hv64 => ?_)
            refine fz_icmp_ne X 166 d_X8_bowls_161 (by decide) (fun h65 => ?_) (fun h65 => ?_)
            · skip
              refine fz_ldcw X d_X8_bowls_166 (kcX8_ok (482, 1000000000) (List.mem_of_getElem? (i := 3) rfl)) (fun z66 hz66 => ?_)
              refine fm_istore X d_X8_bowls_169 hs hw (by decide) (fun ls hst => ?_)
              have hl0 := hst.2.2.2.1 0 _ (by decide) hl0 rfl
              have hl1 := hst.2.2.2.1 1 _ (by decide) hl1 rfl
              have hl2 := hst.2.2.2.1 2 _ (by decide) hl2 rfl
              have hl3 := hst.2.2.2.1 3 _ (by decide) hl3 rfl
              have hl4 := hst.2.2.2.1 4 _ (by decide) hl4 rfl
              have hl5 := hst.2.2.2.1 5 _ (by decide) hl5 rfl
              have hl6 := hst.2.2.1
              have hs := hst.1.trans hs
              have hw := hst.2.1
              clear hst
              refine fz_iconst X d_X8_bowls_171 (by decide) (fun v68 hv68 => ?_)
              refine fm_istore X d_X8_bowls_172 hs hw (by decide) (fun ls hst => ?_)
              have hl0 := hst.2.2.2.1 0 _ (by decide) hl0 rfl
              have hl1 := hst.2.2.2.1 1 _ (by decide) hl1 rfl
              have hl2 := hst.2.2.2.1 2 _ (by decide) hl2 rfl
              have hl3 := hst.2.2.2.1 3 _ (by decide) hl3 rfl
              have hl4 := hst.2.2.2.1 4 _ (by decide) hl4 rfl
              have hl5 := hst.2.2.2.1 5 _ (by decide) hl5 rfl
              have hl6 := hst.2.2.2.1 6 _ (by decide) hl6 rfl
              have hl7 := hst.2.2.1
              have hs := hst.1.trans hs
              have hw := hst.2.1
              clear hst
              exact loop x4 x5 x4.toInt.toNat (by omega) (by omega) h3 (fun z1 z2 => by omega) h2 _ W _ _ ls (Nat.lt_succ_self _) (by omega) hF hh hdz hs hw hl0 hl1 hl2 hl3 hl4 hl5 hl6 hl7
            · skip
              refine fz_iconst X d_X8_bowls_164 (by decide) (fun v70 hv70 => ?_)
              refine gm_iret X Y hr hlk d_X8_bowls_165 ⟨⟨_, rfl⟩, hF, hh⟩
      · skip
        refine fm_iload_n X d_X8_bowls_68 rfl hl1 ?_
        refine fm_iload X d_X8_bowls_69 hl6 ?_
        refine gm_callS X Y fm_Ts_good d_X8_bowls_71 (g_has hAd hZ (V := W)) wl_X8_448 wm_X8_has wy_X8_has (by decide) (rest := []) rfl rfl hs (by simp [Value.category]) (fun r V71 hp => ?_)
        obtain ⟨rfl, x72, rfl, hzx72, hx72⟩ := hp
        show fm_W p l e { frames := 10, cells := 0, slots := 0, locals := 1000 } s m args below meth c (MQ below (rv_Qc D fm_cl fm_tm ad cy fm_nt Z (fun r V1 => (∃ x : Int32, r = some (.int x)) ∧ pz_F bw_M V V1 ∧ (V1 80 2).toInt = (V 80 2).toInt)) args s 0 0 (fm_A fm_tm ad)) D fm_cl fm_tm ad cy (fm_A fm_tm ad) W 74 ls [.int x72]
        have e6 := zi_ofN f1
        have cs : cb_ x1 (x6.toInt.toNat + 1) = cb_ x1 x6.toInt.toNat + (if hb_ x1 x6 = true then 1 else 0) := by show cb_ x1 x6.toInt.toNat + (if hb_ x1 (Int32.ofNat x6.toInt.toNat) = true then 1 else 0) = _; rw [e6]
        refine fz_if_ne X 80 d_X8_bowls_74 (by decide) (fun h73 => ?_) (fun h73 => ?_)
        · skip
          rw [if_pos (hx72.mp (by omega))] at cs
          have mo2 := cb_mono (a := x1) (p := x6.toInt.toNat + 1) (q := 9) (by omega)
          refine fm_aload_n X d_X8_bowls_80 rfl hl0 ?_
          refine fm_iload X d_X8_bowls_81 hl6 ?_
          refine gm_callV X Y fm_Ts_good d_X8_bowls_83 (m_X8_goesStill_0 hAd hZ W [.ref (ad 80), .int x6] ⟨hF.1, hGm _ hF, ⟨rv_okR' rfl rfl, rv_full_ok _, trivial⟩, fun f hf => absurd hf List.not_mem_nil⟩) wl_X8_374 wm_X8_goesStill wy_X8_goesStill (by decide) ⟨rfl, rfl⟩ (rest := []) rfl rfl hs (by simp [Value.category]) (fun r V74 hp => ?_)
          obtain ⟨x75, rfl, -⟩ := hp.2.2.1
          obtain rfl : W = V74 := funext fun i => funext fun k => (hp.2.1 i k rfl).symm
          show fm_W p l e { frames := 10, cells := 0, slots := 0, locals := 1000 } s m args below meth c (MQ below (rv_Qc D fm_cl fm_tm ad cy fm_nt Z (fun r V1 => (∃ x : Int32, r = some (.int x)) ∧ pz_F bw_M V V1 ∧ (V1 80 2).toInt = (V 80 2).toInt)) args s 0 0 (fm_A fm_tm ad)) D fm_cl fm_tm ad cy (fm_A fm_tm ad) W 86 ls [.int x75]
          refine fz_if_ne X 92 d_X8_bowls_86 (by decide) (fun h76 => ?_) (fun h76 => ?_)
          · skip
            refine fm_iload X d_X8_bowls_92 hl6 ?_
            refine fm_iload_n X d_X8_bowls_94 rfl hl3 ?_
            refine fz_icmp_ne X 103 d_X8_bowls_95 (by decide) (fun h77 => ?_) (fun h77 => ?_)
            · skip
              refine fm_iload X d_X8_bowls_103 hl5 ?_
              refine fm_istore X d_X8_bowls_105 hs hw (by decide) (fun ls hst => ?_)
              have hl0 := hst.2.2.2.1 0 _ (by decide) hl0 rfl
              have hl1 := hst.2.2.2.1 1 _ (by decide) hl1 rfl
              have hl2 := hst.2.2.2.1 2 _ (by decide) hl2 rfl
              have hl3 := hst.2.2.2.1 3 _ (by decide) hl3 rfl
              have hl4 := hst.2.2.2.1 4 _ (by decide) hl4 rfl
              have hl6 := hst.2.2.2.1 6 _ (by decide) hl6 rfl
              have hl5 := hst.2.2.1
              have hs := hst.1.trans hs
              have hw := hst.2.1
              clear hst
              refine fm_aload_n X d_X8_bowls_107 rfl hl0 ?_
              refine fz_getR X 80 d_X8_bowls_108 lkX8_151 rfl rfl ?_
              refine fm_iload X d_X8_bowls_111 hl4 ?_
              refine fm_iload X d_X8_bowls_113 hl6 ?_
              refine fz_iastore X 126 d_X8_bowls_115 rfl (by constructor <;> omega) (fun V79 hV79 => ?_)
              have hF := pz_Fa hF hV79 (i := 126) rfl (by constructor <;> omega) (by simp [rv_in, bw_M])
              have hh : (V79 80 2).toInt = (V 80 2).toInt := by rw [hV79, fm_up_ne (fun q => absurd q.1 (by decide))]; exact hh
              refine fm_aload_n X d_X8_bowls_116 rfl hl0 ?_
              refine fz_getR X 80 d_X8_bowls_117 lkX8_154 rfl rfl ?_
              refine fm_iload X d_X8_bowls_120 hl4 ?_
              refine fm_iload X d_X8_bowls_122 hl4 ?_
              refine fz_iastore X 127 d_X8_bowls_124 rfl (by constructor <;> omega) (fun V80 hV80 => ?_)
              have hF := pz_Fa hF hV80 (i := 127) rfl (by constructor <;> omega) (by simp [rv_in, bw_M])
              have hh : (V80 80 2).toInt = (V 80 2).toInt := by rw [hV80, fm_up_ne (fun q => absurd q.1 (by decide))]; exact hh
              refine fm_aload_n X d_X8_bowls_125 rfl hl0 ?_
              refine fz_getR X 80 d_X8_bowls_126 lkX8_160 rfl rfl ?_
              refine fm_iload X d_X8_bowls_129 hl4 ?_
              refine fm_aload_n X d_X8_bowls_131 rfl hl0 ?_
              refine fz_getR X 80 d_X8_bowls_132 lkX8_43 rfl rfl ?_
              refine fm_iload X d_X8_bowls_135 hl6 ?_
              refine fz_ialoadZ X 90 d_X8_bowls_137 rfl (by constructor <;> omega) ?_
              refine fz_iastore X 129 d_X8_bowls_138 rfl (by constructor <;> omega) (fun V81 hV81 => ?_)
              have hF := pz_Fa hF hV81 (i := 129) rfl (zi_rng _) (by simp [rv_in, bw_M])
              have hh : (V81 80 2).toInt = (V 80 2).toInt := by rw [hV81, fm_up_ne (fun q => absurd q.1 (by decide))]; exact hh
              refine fm_iinc X d_X8_bowls_139 hl4 hs hw (by decide) (fun ls hst => ?_)
              have hl0 := hst.2.2.2.1 0 _ (by decide) hl0 rfl
              have hl1 := hst.2.2.2.1 1 _ (by decide) hl1 rfl
              have hl2 := hst.2.2.2.1 2 _ (by decide) hl2 rfl
              have hl3 := hst.2.2.2.1 3 _ (by decide) hl3 rfl
              have hl5 := hst.2.2.2.1 5 _ (by decide) hl5 rfl
              have hl6 := hst.2.2.2.1 6 _ (by decide) hl6 rfl
              obtain ⟨z82, hz82⟩ : ∃ z : Int32, z.toInt = (x4).toInt + 1 ∧ ls[4]? = some (.val (.int z)) := ⟨_, zi_inc (by omega) (by omega) (by decide) (by decide), hst.2.2.1⟩
              have hl4 := hz82.2
              have hz82 := hz82.1
              have hs := hst.1.trans hs
              have hw := hst.2.1
              clear hst
              refine fm_iinc X d_X8_bowls_142 hl6 hs hw (by decide) (fun ls hst => ?_)
              have hl0 := hst.2.2.2.1 0 _ (by decide) hl0 rfl
              have hl1 := hst.2.2.2.1 1 _ (by decide) hl1 rfl
              have hl2 := hst.2.2.2.1 2 _ (by decide) hl2 rfl
              have hl3 := hst.2.2.2.1 3 _ (by decide) hl3 rfl
              have hl4 := hst.2.2.2.1 4 _ (by decide) hl4 rfl
              have hl5 := hst.2.2.2.1 5 _ (by decide) hl5 rfl
              obtain ⟨z83, hz83⟩ : ∃ z : Int32, z.toInt = (x6).toInt + 1 ∧ ls[6]? = some (.val (.int z)) := ⟨_, zi_inc (by omega) (by omega) (by decide) (by decide), hst.2.2.1⟩
              have hl6 := hz83.2
              have hz83 := hz83.1
              have hs := hst.1.trans hs
              have hw := hst.2.1
              clear hst
              refine fz_goto X 61 d_X8_bowls_145 (by decide) ?_
              exact ih V81 _ _ _ ls (by omega) (by omega) (by omega) (by rw [show (z83).toInt.toNat = x6.toInt.toNat + 1 by omega, cs]; omega) (by omega) (by omega) (fun i hi => by
                have a1 : V81 127 i = if i = x4.toInt.toNat then x4 else W 127 i := by rw [hV81, hV80, hV79]; simp [fm_up, -Int32.toNat_toInt]
                rw [a1]
                by_cases e : i = x4.toInt.toNat
                · rw [if_pos e]; omega
                · rw [if_neg e]; exact hrw i (by omega)) hF hh hs hw hl0 hl1 hl2 hl3 hl4 hl5 hl6
            · skip
              refine fm_iload X d_X8_bowls_98 hl4 ?_
              refine fz_goto X 105 d_X8_bowls_100 (by decide) ?_
              refine fm_istore X d_X8_bowls_105 hs hw (by decide) (fun ls hst => ?_)
              have hl0 := hst.2.2.2.1 0 _ (by decide) hl0 rfl
              have hl1 := hst.2.2.2.1 1 _ (by decide) hl1 rfl
              have hl2 := hst.2.2.2.1 2 _ (by decide) hl2 rfl
              have hl3 := hst.2.2.2.1 3 _ (by decide) hl3 rfl
              have hl4 := hst.2.2.2.1 4 _ (by decide) hl4 rfl
              have hl6 := hst.2.2.2.1 6 _ (by decide) hl6 rfl
              have hl5 := hst.2.2.1
              have hs := hst.1.trans hs
              have hw := hst.2.1
              clear hst
              refine fm_aload_n X d_X8_bowls_107 rfl hl0 ?_
              refine fz_getR X 80 d_X8_bowls_108 lkX8_151 rfl rfl ?_
              refine fm_iload X d_X8_bowls_111 hl4 ?_
              refine fm_iload X d_X8_bowls_113 hl6 ?_
              refine fz_iastore X 126 d_X8_bowls_115 rfl (by constructor <;> omega) (fun V85 hV85 => ?_)
              have hF := pz_Fa hF hV85 (i := 126) rfl (by constructor <;> omega) (by simp [rv_in, bw_M])
              have hh : (V85 80 2).toInt = (V 80 2).toInt := by rw [hV85, fm_up_ne (fun q => absurd q.1 (by decide))]; exact hh
              refine fm_aload_n X d_X8_bowls_116 rfl hl0 ?_
              refine fz_getR X 80 d_X8_bowls_117 lkX8_154 rfl rfl ?_
              refine fm_iload X d_X8_bowls_120 hl4 ?_
              refine fm_iload X d_X8_bowls_122 hl4 ?_
              refine fz_iastore X 127 d_X8_bowls_124 rfl (by constructor <;> omega) (fun V86 hV86 => ?_)
              have hF := pz_Fa hF hV86 (i := 127) rfl (by constructor <;> omega) (by simp [rv_in, bw_M])
              have hh : (V86 80 2).toInt = (V 80 2).toInt := by rw [hV86, fm_up_ne (fun q => absurd q.1 (by decide))]; exact hh
              refine fm_aload_n X d_X8_bowls_125 rfl hl0 ?_
              refine fz_getR X 80 d_X8_bowls_126 lkX8_160 rfl rfl ?_
              refine fm_iload X d_X8_bowls_129 hl4 ?_
              refine fm_aload_n X d_X8_bowls_131 rfl hl0 ?_
              refine fz_getR X 80 d_X8_bowls_132 lkX8_43 rfl rfl ?_
              refine fm_iload X d_X8_bowls_135 hl6 ?_
              refine fz_ialoadZ X 90 d_X8_bowls_137 rfl (by constructor <;> omega) ?_
              refine fz_iastore X 129 d_X8_bowls_138 rfl (by constructor <;> omega) (fun V87 hV87 => ?_)
              have hF := pz_Fa hF hV87 (i := 129) rfl (zi_rng _) (by simp [rv_in, bw_M])
              have hh : (V87 80 2).toInt = (V 80 2).toInt := by rw [hV87, fm_up_ne (fun q => absurd q.1 (by decide))]; exact hh
              refine fm_iinc X d_X8_bowls_139 hl4 hs hw (by decide) (fun ls hst => ?_)
              have hl0 := hst.2.2.2.1 0 _ (by decide) hl0 rfl
              have hl1 := hst.2.2.2.1 1 _ (by decide) hl1 rfl
              have hl2 := hst.2.2.2.1 2 _ (by decide) hl2 rfl
              have hl3 := hst.2.2.2.1 3 _ (by decide) hl3 rfl
              have hl5 := hst.2.2.2.1 5 _ (by decide) hl5 rfl
              have hl6 := hst.2.2.2.1 6 _ (by decide) hl6 rfl
              obtain ⟨z88, hz88⟩ : ∃ z : Int32, z.toInt = (x4).toInt + 1 ∧ ls[4]? = some (.val (.int z)) := ⟨_, zi_inc (by omega) (by omega) (by decide) (by decide), hst.2.2.1⟩
              have hl4 := hz88.2
              have hz88 := hz88.1
              have hs := hst.1.trans hs
              have hw := hst.2.1
              clear hst
              refine fm_iinc X d_X8_bowls_142 hl6 hs hw (by decide) (fun ls hst => ?_)
              have hl0 := hst.2.2.2.1 0 _ (by decide) hl0 rfl
              have hl1 := hst.2.2.2.1 1 _ (by decide) hl1 rfl
              have hl2 := hst.2.2.2.1 2 _ (by decide) hl2 rfl
              have hl3 := hst.2.2.2.1 3 _ (by decide) hl3 rfl
              have hl4 := hst.2.2.2.1 4 _ (by decide) hl4 rfl
              have hl5 := hst.2.2.2.1 5 _ (by decide) hl5 rfl
              obtain ⟨z89, hz89⟩ : ∃ z : Int32, z.toInt = (x6).toInt + 1 ∧ ls[6]? = some (.val (.int z)) := ⟨_, zi_inc (by omega) (by omega) (by decide) (by decide), hst.2.2.1⟩
              have hl6 := hz89.2
              have hz89 := hz89.1
              have hs := hst.1.trans hs
              have hw := hst.2.1
              clear hst
              refine fz_goto X 61 d_X8_bowls_145 (by decide) ?_
              exact ih V87 _ _ _ ls (by omega) (by omega) (by omega) (by rw [show (z89).toInt.toNat = x6.toInt.toNat + 1 by omega, cs]; omega) (by omega) (by omega) (fun i hi => by
                have a1 : V87 127 i = if i = x4.toInt.toNat then x4 else W 127 i := by rw [hV87, hV86, hV85]; simp [fm_up, -Int32.toNat_toInt]
                rw [a1]
                by_cases e : i = x4.toInt.toNat
                · rw [if_pos e]; omega
                · rw [if_neg e]; exact hrw i (by omega)) hF hh hs hw hl0 hl1 hl2 hl3 hl4 hl5 hl6
          · skip
            refine fz_bipush X d_X8_bowls_89 (by decide) (fun v90 hv90 => ?_)
            refine gm_iret X Y hr hlk d_X8_bowls_91 ⟨⟨_, rfl⟩, hF, hh⟩
        · skip
          rw [if_neg (fun z => by have := hx72.mpr z; omega)] at cs
          refine fz_goto X 142 d_X8_bowls_77 (by decide) ?_
          refine fm_iinc X d_X8_bowls_142 hl6 hs hw (by decide) (fun ls hst => ?_)
          have hl0 := hst.2.2.2.1 0 _ (by decide) hl0 rfl
          have hl1 := hst.2.2.2.1 1 _ (by decide) hl1 rfl
          have hl2 := hst.2.2.2.1 2 _ (by decide) hl2 rfl
          have hl3 := hst.2.2.2.1 3 _ (by decide) hl3 rfl
          have hl4 := hst.2.2.2.1 4 _ (by decide) hl4 rfl
          have hl5 := hst.2.2.2.1 5 _ (by decide) hl5 rfl
          obtain ⟨z91, hz91⟩ : ∃ z : Int32, z.toInt = (x6).toInt + 1 ∧ ls[6]? = some (.val (.int z)) := ⟨_, zi_inc (by omega) (by omega) (by decide) (by decide), hst.2.2.1⟩
          have hl6 := hz91.2
          have hz91 := hz91.1
          have hs := hst.1.trans hs
          have hw := hst.2.1
          clear hst
          refine fz_goto X 61 d_X8_bowls_145 (by decide) ?_
          exact ih W _ _ _ ls (by omega) (by omega) (by omega) (by rw [show (z91).toInt.toNat = x6.toInt.toNat + 1 by omega, cs]; omega) f4 f5 hrw hF hh hs hw hl0 hl1 hl2 hl3 hl4 hl5 hl6
  have hF : pz_F bw_M V V := pz_Fr hT
  have hh : (V 80 2).toInt = (V 80 2).toInt := rfl
  refine fm_iload_n X d_X8_bowls_0 rfl hl1 ?_
  refine fz_i2l X d_X8_bowls_1 (fun z92 hz92 => ?_)
  refine fz_lconst X d_X8_bowls_2 (fun z93 hz93 => ?_)
  replace hz93 : z93.toInt = 0 := hz93
  refine fz_ldc2 X d_X8_bowls_3 (klX8_ok (476, 511) (List.mem_of_getElem? (i := 22) rfl)) (fun z94 hz94 => ?_)
  refine gm_callS X Y fm_Ts_good d_X8_bowls_6 (g_lies hAd hZ) wl_X8_168 wm_X8_lies wy_X8_lies (by decide) (rest := []) rfl rfl hs (by simp [Value.category]) (fun r V95 hp => ?_)
  obtain ⟨rfl, x96, rfl, hzx96, hx96⟩ := hp
  show fm_W p l e { frames := 10, cells := 0, slots := 0, locals := 1000 } s m args below meth c (MQ below (rv_Qc D fm_cl fm_tm ad cy fm_nt Z (fun r V1 => (∃ x : Int32, r = some (.int x)) ∧ pz_F bw_M V V1 ∧ (V1 80 2).toInt = (V 80 2).toInt)) args s 0 0 (fm_A fm_tm ad)) D fm_cl fm_tm ad cy (fm_A fm_tm ad) V 9 ls [.int x96]
  refine fz_if_eq X 50 d_X8_bowls_9 (by decide) (fun h97 => ?_) (fun h97 => ?_)
  · skip
    refine fz_iconst X d_X8_bowls_50 (by decide) (fun v98 hv98 => ?_)
    refine gm_iret X Y hr hlk d_X8_bowls_51 ⟨⟨_, rfl⟩, hF, hh⟩
  · skip
    refine fm_iload_n X d_X8_bowls_12 rfl hl1 ?_
    have hsz := sz_cb x1.toInt.toNat (by omega)
    rw [zi_ofN (by omega)] at hsz
    refine gm_callS X Y fm_Ts_good d_X8_bowls_13 (g_sizeOf hAd hZ (V := V) hsz.1) wl_X8_452 wm_X8_sizeOf wy_X8_sizeOf (by decide) (rest := []) rfl rfl hs (by simp [Value.category]) (fun r V99 hp => ?_)
    obtain ⟨rfl, x100, rfl, hx100⟩ := hp
    rw [hsz.2] at hx100
    show fm_W p l e { frames := 10, cells := 0, slots := 0, locals := 1000 } s m args below meth c (MQ below (rv_Qc D fm_cl fm_tm ad cy fm_nt Z (fun r V1 => (∃ x : Int32, r = some (.int x)) ∧ pz_F bw_M V V1 ∧ (V1 80 2).toInt = (V 80 2).toInt)) args s 0 0 (fm_A fm_tm ad)) D fm_cl fm_tm ad cy (fm_A fm_tm ad) V 16 ls [.int x100]
    refine fz_i2l X d_X8_bowls_16 (fun z101 hz101 => ?_)
    refine fz_ldc2 X d_X8_bowls_17 (klX8_ok (478, 2) (List.mem_of_getElem? (i := 23) rfl)) (fun z102 hz102 => ?_)
    refine fz_ldc2 X d_X8_bowls_20 (klX8_ok (480, 6) (List.mem_of_getElem? (i := 24) rfl)) (fun z103 hz103 => ?_)
    refine gm_callS X Y fm_Ts_good d_X8_bowls_23 (g_lies hAd hZ) wl_X8_168 wm_X8_lies wy_X8_lies (by decide) (rest := []) rfl rfl hs (by simp [Value.category]) (fun r V104 hp => ?_)
    obtain ⟨rfl, x105, rfl, hzx105, hx105⟩ := hp
    show fm_W p l e { frames := 10, cells := 0, slots := 0, locals := 1000 } s m args below meth c (MQ below (rv_Qc D fm_cl fm_tm ad cy fm_nt Z (fun r V1 => (∃ x : Int32, r = some (.int x)) ∧ pz_F bw_M V V1 ∧ (V1 80 2).toInt = (V 80 2).toInt)) args s 0 0 (fm_A fm_tm ad)) D fm_cl fm_tm ad cy (fm_A fm_tm ad) V 26 ls [.int x105]
    refine fz_if_eq X 50 d_X8_bowls_26 (by decide) (fun h106 => ?_) (fun h106 => ?_)
    · skip
      refine fz_iconst X d_X8_bowls_50 (by decide) (fun v107 hv107 => ?_)
      refine gm_iret X Y hr hlk d_X8_bowls_51 ⟨⟨_, rfl⟩, hF, hh⟩
    · skip
      refine fm_iload_n X d_X8_bowls_29 rfl hl2 ?_
      refine gm_callS X Y fm_Ts_good d_X8_bowls_30 (m_X8_areFew_0 hAd hZ V [.int x2] ⟨hT, hG, ⟨rv_full_ok _, trivial⟩, fun f hf => absurd hf List.not_mem_nil⟩) wl_X8_464 wm_X8_areFew wy_X8_areFew (by decide) (rest := []) rfl rfl hs (by simp [Value.category]) (fun r V108 hp => ?_)
      obtain ⟨x109, rfl, -, -, -, hcs⟩ := hp.2.2.1
      have hcs2 : (x109).toInt ≠ 0 → 1 ≤ x2.toInt ∧ x2.toInt ≤ 20 := fun z => hcs z (.inl 0, 1, 20) (List.mem_singleton.mpr rfl)
      obtain rfl : V = V108 := funext fun i => funext fun k => (hp.2.1 i k rfl).symm
      show fm_W p l e { frames := 10, cells := 0, slots := 0, locals := 1000 } s m args below meth c (MQ below (rv_Qc D fm_cl fm_tm ad cy fm_nt Z (fun r V1 => (∃ x : Int32, r = some (.int x)) ∧ pz_F bw_M V V1 ∧ (V1 80 2).toInt = (V 80 2).toInt)) args s 0 0 (fm_A fm_tm ad)) D fm_cl fm_tm ad cy (fm_A fm_tm ad) V 33 ls [.int x109]
      refine fz_if_eq X 50 d_X8_bowls_33 (by decide) (fun h110 => ?_) (fun h110 => ?_)
      · skip
        refine fz_iconst X d_X8_bowls_50 (by decide) (fun v111 hv111 => ?_)
        refine gm_iret X Y hr hlk d_X8_bowls_51 ⟨⟨_, rfl⟩, hF, hh⟩
      · skip
        refine fm_iload_n X d_X8_bowls_36 rfl hl3 ?_
        refine fz_i2l X d_X8_bowls_37 (fun z112 hz112 => ?_)
        refine fz_ldc2 X d_X8_bowls_38 (klX8_ok (469, -1) (List.mem_of_getElem? (i := 21) rfl)) (fun z113 hz113 => ?_)
        refine fz_ldc2 X d_X8_bowls_41 (klX8_ok (180, 9) (List.mem_of_getElem? (i := 3) rfl)) (fun z114 hz114 => ?_)
        refine gm_callS X Y fm_Ts_good d_X8_bowls_44 (g_lies hAd hZ) wl_X8_168 wm_X8_lies wy_X8_lies (by decide) (rest := []) rfl rfl hs (by simp [Value.category]) (fun r V115 hp => ?_)
        obtain ⟨rfl, x116, rfl, hzx116, hx116⟩ := hp
        show fm_W p l e { frames := 10, cells := 0, slots := 0, locals := 1000 } s m args below meth c (MQ below (rv_Qc D fm_cl fm_tm ad cy fm_nt Z (fun r V1 => (∃ x : Int32, r = some (.int x)) ∧ pz_F bw_M V V1 ∧ (V1 80 2).toInt = (V 80 2).toInt)) args s 0 0 (fm_A fm_tm ad)) D fm_cl fm_tm ad cy (fm_A fm_tm ad) V 47 ls [.int x116]
        refine fz_if_ne X 52 d_X8_bowls_47 (by decide) (fun h117 => ?_) (fun h117 => ?_)
        · skip
          refine fz_iconst X d_X8_bowls_52 (by decide) (fun v118 hv118 => ?_)
          refine fm_istore X d_X8_bowls_53 hs hw (by decide) (fun ls hst => ?_)
          have hl0 := hst.2.2.2.1 0 _ (by decide) hl0 rfl
          have hl1 := hst.2.2.2.1 1 _ (by decide) hl1 rfl
          have hl2 := hst.2.2.2.1 2 _ (by decide) hl2 rfl
          have hl3 := hst.2.2.2.1 3 _ (by decide) hl3 rfl
          have hl4 := hst.2.2.1
          have hs := hst.1.trans hs
          have hw := hst.2.1
          clear hst
          refine fz_iconst X d_X8_bowls_55 (by decide) (fun v120 hv120 => ?_)
          refine fm_istore X d_X8_bowls_56 hs hw (by decide) (fun ls hst => ?_)
          have hl0 := hst.2.2.2.1 0 _ (by decide) hl0 rfl
          have hl1 := hst.2.2.2.1 1 _ (by decide) hl1 rfl
          have hl2 := hst.2.2.2.1 2 _ (by decide) hl2 rfl
          have hl3 := hst.2.2.2.1 3 _ (by decide) hl3 rfl
          have hl4 := hst.2.2.2.1 4 _ (by decide) hl4 rfl
          have hl5 := hst.2.2.1
          have hs := hst.1.trans hs
          have hw := hst.2.1
          clear hst
          refine fz_iconst X d_X8_bowls_58 (by decide) (fun v122 hv122 => ?_)
          refine fm_istore X d_X8_bowls_59 hs hw (by decide) (fun ls hst => ?_)
          have hl0 := hst.2.2.2.1 0 _ (by decide) hl0 rfl
          have hl1 := hst.2.2.2.1 1 _ (by decide) hl1 rfl
          have hl2 := hst.2.2.2.1 2 _ (by decide) hl2 rfl
          have hl3 := hst.2.2.2.1 3 _ (by decide) hl3 rfl
          have hl4 := hst.2.2.2.1 4 _ (by decide) hl4 rfl
          have hl5 := hst.2.2.2.1 5 _ (by decide) hl5 rfl
          have hl6 := hst.2.2.1
          have hs := hst.1.trans hs
          have hw := hst.2.1
          clear hst
          exact first (by omega) (by omega) (hcs2 (by omega)) _ V _ _ _ ls (Nat.lt_succ_self _) (by omega) (by omega) (by rw [show (v122).toInt.toNat = 0 by omega]; show _ = ((0 : Nat) : Int); omega) (by omega) (by omega) (fun i hi => by omega) hF hh hs hw hl0 hl1 hl2 hl3 hl4 hl5 hl6
        · skip
          refine fz_iconst X d_X8_bowls_50 (by decide) (fun v124 hv124 => ?_)
          refine gm_iret X Y hr hlk d_X8_bowls_51 ⟨⟨_, rfl⟩, hF, hh⟩
