theorem g_tells {l : Launch} {D : va_G} {ad : Nat → Nat} {cy : Nat → ClassId} {Z : State → Heap → Prop} (hAd : fm_Ad fm_tm ad) (hZ : fm_Zk (fm_A fm_tm ad) Z) {V : fm_V} {x1 x2 x3 x4 : Int32} (hT : fm_Tm fm_tm V) (hG : fm_G V) (hH : 0 ≤ (V 80 2).toInt ∧ (V 80 2).toInt ≤ 2000000000) (h2 : 0 ≤ x2.toInt ∧ x2.toInt ≤ 19) (h3 : -1 ≤ x3.toInt ∧ x3.toInt ≤ 8) (h4 : -1 ≤ x4.toInt ∧ x4.toInt ≤ 5) : gm_M l D fm_cl fm_tm ad cy fm_nt Z yX8_tells (.code yX8_tells prog_10_method_51_code 7 (some .int) :: fm_Ts) { frames := 5, cells := 0, slots := 0, locals := 500 } V [.ref (ad 80), .int x1, .int x2, .int x3, .int x4] (rv_Post fm_tm K_tells V [.ref (ad 80), .int x1, .int x2, .int x3, .int x4]) := by
  refine gm_at hAd hZ (by decide +kernel) (by simp [lg_sl, Value.category]) ?_
  intro p e s m args below meth c ls hr hlk X Y hl
  have hl0 : ls[0]? = some (.val (.ref (ad 80))) := hl.2.2 (0, .ref (ad 80)) (by simp [lv_args, Value.category])
  have hl1 : ls[1]? = some (.val (.int x1)) := hl.2.2 (1, .int x1) (by simp [lv_args, Value.category])
  have hl2 : ls[2]? = some (.val (.int x2)) := hl.2.2 (2, .int x2) (by simp [lv_args, Value.category])
  have hl3 : ls[3]? = some (.val (.int x3)) := hl.2.2 (3, .int x3) (by simp [lv_args, Value.category])
  have hl4 : ls[4]? = some (.val (.int x4)) := hl.2.2 (4, .int x4) (by simp [lv_args, Value.category])
  have hs := hl.1
  have hw := hl.2.1
  clear hl
  have hGm : ∀ U, pz_F [(80, 43), (80, 44), (80, 45), (108, 9999), (109, 9999)] V U → fm_G U := fun U h => fm_gm fm_G_gd (M := [(80, 43), (80, 44), (80, 45), (108, 9999), (109, 9999)]) (by decide) V U h.2 hG
  have hHm : ∀ U, pz_F [(80, 43), (80, 44), (80, 45), (108, 9999), (109, 9999)] V U → 0 ≤ (U 80 2).toInt ∧ (U 80 2).toInt ≤ 2000000000 := fun U h => by rw [h.2 80 2 (by decide)]; exact hH
  have h20 : ∀ U, pz_F [(80, 43), (80, 44), (80, 45), (108, 9999), (109, 9999)] V U → (U 80 20).toInt = (V 80 20).toInt := fun U h => by rw [h.2 80 20 (by decide)]
  have loop : ∀ (N : Nat), ∀ (W : fm_V) (x5 : Int32) (ls : Array Slot), ((V 80 20).toInt - x5.toInt).toNat < N → 0 ≤ x5.toInt → x5.toInt ≤ (V 80 20).toInt → pz_F [(80, 43), (80, 44), (80, 45), (108, 9999), (109, 9999)] V W → ls.size = 7 → lv_wf ls → ls[0]? = some (.val (.ref (ad 80))) → ls[1]? = some (.val (.int x1)) → ls[2]? = some (.val (.int x2)) → ls[3]? = some (.val (.int x3)) → ls[4]? = some (.val (.int x4)) → ls[5]? = some (.val (.int x5)) → fm_W p l e { frames := 5, cells := 0, slots := 0, locals := 500 } s m args below meth c (MQ below (rv_Qc D fm_cl fm_tm ad cy fm_nt Z (rv_Post fm_tm K_tells V [.ref (ad 80), .int x1, .int x2, .int x3, .int x4])) args s 0 0 (fm_A fm_tm ad)) D fm_cl fm_tm ad cy (fm_A fm_tm ad) W 19 ls [] := by
    intro N
    induction N with
    | zero => intro W x5 ls h; omega
    | succ N ih =>
      intro W x5 ls hN f1 f2 hF hs hw hl0 hl1 hl2 hl3 hl4 hl5
      have e20 := h20 W hF
      obtain ⟨g1, g2, g3⟩ := hGm W hF
      refine fm_iload X d_X8_tells_19 hl5 ?_
      refine fm_aload_n X d_X8_tells_21 rfl hl0 ?_
      refine fz_getI X 80 d_X8_tells_22 lkX8_318 rfl rfl ?_
      refine fz_icmp_ge X 151 d_X8_tells_25 (by decide) (fun h11 => ?_) (fun h11 => ?_)
      · skip
        refine fz_iconst X d_X8_tells_151 (by decide) (fun v12 hv12 => ?_)
        refine gm_iret X Y hr hlk d_X8_tells_152 ⟨hF.1, hF.2, ⟨_, rfl, by show (0 : Int) ≤ _; omega, by show _ ≤ (99 : Int); omega, fun q => absurd (show (0 : Nat) = 1 from q) (by decide), fun _ q hq => absurd hq List.not_mem_nil⟩, fun f hf => absurd hf List.not_mem_nil⟩
      · skip
        refine fm_aload_n X d_X8_tells_28 rfl hl0 ?_
        refine fz_getR X 80 d_X8_tells_29 lkX8_58 rfl rfl ?_
        refine fm_iload X d_X8_tells_32 hl5 ?_
        refine fz_ialoadZ X 95 d_X8_tells_34 rfl (by constructor <;> omega) ?_
        refine fm_iload_n X d_X8_tells_35 rfl hl1 ?_
        refine fz_icmp_eq X 42 d_X8_tells_36 (by decide) (fun h13 => ?_) (fun h13 => ?_)
        · skip
          refine fm_aload_n X d_X8_tells_42 rfl hl0 ?_
          refine fm_aload_n X d_X8_tells_43 rfl hl0 ?_
          refine fz_getR X 80 d_X8_tells_44 lkX8_64 rfl rfl ?_
          refine fm_iload X d_X8_tells_47 hl5 ?_
          refine fz_ialoadZ X 97 d_X8_tells_49 rfl (by constructor <;> omega) ?_
          refine fm_aload_n X d_X8_tells_50 rfl hl0 ?_
          refine fz_getR X 80 d_X8_tells_51 lkX8_67 rfl rfl ?_
          refine fm_iload X d_X8_tells_54 hl5 ?_
          refine fz_ialoadZ X 98 d_X8_tells_56 rfl (by constructor <;> omega) ?_
          obtain ⟨ka, kb, kc, n1, n2, n3, n4, n5, n6, n7, n8⟩ := (hGm W hF).2.2 x5.toInt.toNat (by have := h20 W hF; omega)
          refine gm_callV X Y fm_Ts_good d_X8_tells_57 (g_works hAd hZ (V0 := W) (f := W 97 (x5).toInt.toNat) (t := W 98 (x5).toInt.toNat) hF.1 (hGm W hF) (hHm W hF) n2 n3 (by omega) n8) wl_X8_359 wm_X8_works wy_X8_works (by decide) ⟨rfl, rfl⟩ (rest := []) rfl rfl hs (by simp [Value.category]) (fun r V14 hp => ?_)
          obtain ⟨rfl, hF2⟩ := hp
          have hF := pz_Ft hF hF2 (by decide)
          show fm_W p l e { frames := 5, cells := 0, slots := 0, locals := 500 } s m args below meth c (MQ below (rv_Qc D fm_cl fm_tm ad cy fm_nt Z (rv_Post fm_tm K_tells V [.ref (ad 80), .int x1, .int x2, .int x3, .int x4])) args s 0 0 (fm_A fm_tm ad)) D fm_cl fm_tm ad cy (fm_A fm_tm ad) V14 60 ls []
          refine fm_aload_n X d_X8_tells_60 rfl hl0 ?_
          refine fz_getR X 80 d_X8_tells_61 lkX8_100 rfl rfl ?_
          refine fz_iconst X d_X8_tells_64 (by decide) (fun v16 hv16 => ?_)
          refine fz_baloadZ X 109 d_X8_tells_65 rfl (by constructor <;> omega) ?_
          refine fz_if_ne X 145 d_X8_tells_66 (by decide) (fun h17 => ?_) (fun h17 => ?_)
          · skip
            refine fm_iinc X d_X8_tells_145 hl5 hs hw (by decide) (fun ls hst => ?_)
            have hl0 := hst.2.2.2.1 0 _ (by decide) hl0 rfl
            have hl1 := hst.2.2.2.1 1 _ (by decide) hl1 rfl
            have hl2 := hst.2.2.2.1 2 _ (by decide) hl2 rfl
            have hl3 := hst.2.2.2.1 3 _ (by decide) hl3 rfl
            have hl4 := hst.2.2.2.1 4 _ (by decide) hl4 rfl
            obtain ⟨z18, hz18⟩ : ∃ z : Int32, z.toInt = (x5).toInt + 1 ∧ ls[5]? = some (.val (.int z)) := ⟨_, zi_inc (by omega) (by omega) (by decide) (by decide), hst.2.2.1⟩
            have hl5 := hz18.2
            have hz18 := hz18.1
            have hs := hst.1.trans hs
            have hw := hst.2.1
            clear hst
            refine fz_goto X 19 d_X8_tells_148 (by decide) ?_
            exact ih V14 _ ls (by omega) (by omega) (by omega) hF hs hw hl0 hl1 hl2 hl3 hl4 hl5
          · skip
            refine fm_aload_n X d_X8_tells_69 rfl hl0 ?_
            refine fz_getR X 80 d_X8_tells_70 lkX8_97 rfl rfl ?_
            refine fz_iconst X d_X8_tells_73 (by decide) (fun v19 hv19 => ?_)
            refine fz_ialoadZ X 108 d_X8_tells_74 rfl (by constructor <;> omega) ?_
            refine fz_iconst X d_X8_tells_75 (by decide) (fun v20 hv20 => ?_)
            refine fz_icmp_eq X 82 d_X8_tells_76 (by decide) (fun h21 => ?_) (fun h21 => ?_)
            · skip
              refine fm_aload_n X d_X8_tells_82 rfl hl0 ?_
              refine fm_aload_n X d_X8_tells_83 rfl hl0 ?_
              refine fz_getR X 80 d_X8_tells_84 lkX8_61 rfl rfl ?_
              refine fm_iload X d_X8_tells_87 hl5 ?_
              refine fz_ialoadZ X 96 d_X8_tells_89 rfl (by constructor <;> omega) ?_
              refine fm_aload_n X d_X8_tells_90 rfl hl0 ?_
              refine fz_getR X 80 d_X8_tells_91 lkX8_64 rfl rfl ?_
              refine fm_iload X d_X8_tells_94 hl5 ?_
              refine fz_ialoadZ X 97 d_X8_tells_96 rfl (by constructor <;> omega) ?_
              obtain ⟨ka, kb, kc, n1, n2, n3, n4, n5, n6, n7, n8⟩ := (hGm V14 hF).2.2 x5.toInt.toNat (by have := h20 V14 hF; omega)
              refine gm_callV X Y fm_Ts_good d_X8_tells_97 (g_works hAd hZ (V0 := V14) (f := V14 96 (x5).toInt.toNat) (t := V14 97 (x5).toInt.toNat) hF.1 (hGm V14 hF) (hHm V14 hF) n1 n2 (by omega) n7) wl_X8_359 wm_X8_works wy_X8_works (by decide) ⟨rfl, rfl⟩ (rest := []) rfl rfl hs (by simp [Value.category]) (fun r V22 hp => ?_)
              obtain ⟨rfl, hF2⟩ := hp
              have hF := pz_Ft hF hF2 (by decide)
              show fm_W p l e { frames := 5, cells := 0, slots := 0, locals := 500 } s m args below meth c (MQ below (rv_Qc D fm_cl fm_tm ad cy fm_nt Z (rv_Post fm_tm K_tells V [.ref (ad 80), .int x1, .int x2, .int x3, .int x4])) args s 0 0 (fm_A fm_tm ad)) D fm_cl fm_tm ad cy (fm_A fm_tm ad) V22 100 ls []
              refine fm_aload_n X d_X8_tells_100 rfl hl0 ?_
              refine fz_getR X 80 d_X8_tells_101 lkX8_100 rfl rfl ?_
              refine fz_iconst X d_X8_tells_104 (by decide) (fun v24 hv24 => ?_)
              refine fz_baloadZ X 109 d_X8_tells_105 rfl (by constructor <;> omega) ?_
              refine fz_if_eq X 113 d_X8_tells_106 (by decide) (fun h25 => ?_) (fun h25 => ?_)
              · skip
                refine fm_aload_n X d_X8_tells_113 rfl hl0 ?_
                refine fz_getR X 80 d_X8_tells_114 lkX8_97 rfl rfl ?_
                refine fz_iconst X d_X8_tells_117 (by decide) (fun v26 hv26 => ?_)
                refine fz_ialoadZ X 108 d_X8_tells_118 rfl (by constructor <;> omega) ?_
                refine fm_istore X d_X8_tells_119 hs hw (by decide) (fun ls hst => ?_)
                have hl0 := hst.2.2.2.1 0 _ (by decide) hl0 rfl
                have hl1 := hst.2.2.2.1 1 _ (by decide) hl1 rfl
                have hl2 := hst.2.2.2.1 2 _ (by decide) hl2 rfl
                have hl3 := hst.2.2.2.1 3 _ (by decide) hl3 rfl
                have hl4 := hst.2.2.2.1 4 _ (by decide) hl4 rfl
                have hl5 := hst.2.2.2.1 5 _ (by decide) hl5 rfl
                have hl6 := hst.2.2.1
                have hs := hst.1.trans hs
                have hw := hst.2.1
                clear hst
                refine fm_iload X d_X8_tells_121 hl6 ?_
                refine fz_if_ge X 130 d_X8_tells_123 (by decide) (fun h28 => ?_) (fun h28 => ?_)
                · skip
                  refine fm_iload X d_X8_tells_130 hl6 ?_
                  refine fz_bipush X d_X8_tells_132 (by decide) (fun v29 hv29 => ?_)
                  refine fz_icmp_le X 142 d_X8_tells_134 (by decide) (fun h30 => ?_) (fun h30 => ?_)
                  · skip
                    refine fm_iload X d_X8_tells_142 hl6 ?_
                    refine gm_iret X Y hr hlk d_X8_tells_144 ⟨hF.1, hF.2, ⟨_, rfl, by show (0 : Int) ≤ _; omega, by show _ ≤ (99 : Int); omega, fun q => absurd (show (0 : Nat) = 1 from q) (by decide), fun _ q hq => absurd hq List.not_mem_nil⟩, fun f hf => absurd hf List.not_mem_nil⟩
                  · skip
                    refine fz_bipush X d_X8_tells_137 (by decide) (fun v31 hv31 => ?_)
                    refine fz_goto X 144 d_X8_tells_139 (by decide) ?_
                    refine gm_iret X Y hr hlk d_X8_tells_144 ⟨hF.1, hF.2, ⟨_, rfl, by show (0 : Int) ≤ _; omega, by show _ ≤ (99 : Int); omega, fun q => absurd (show (0 : Nat) = 1 from q) (by decide), fun _ q hq => absurd hq List.not_mem_nil⟩, fun f hf => absurd hf List.not_mem_nil⟩
                · skip
                  refine fz_iconst X d_X8_tells_126 (by decide) (fun v32 hv32 => ?_)
                  refine fz_goto X 144 d_X8_tells_127 (by decide) ?_
                  refine gm_iret X Y hr hlk d_X8_tells_144 ⟨hF.1, hF.2, ⟨_, rfl, by show (0 : Int) ≤ _; omega, by show _ ≤ (99 : Int); omega, fun q => absurd (show (0 : Nat) = 1 from q) (by decide), fun _ q hq => absurd hq List.not_mem_nil⟩, fun f hf => absurd hf List.not_mem_nil⟩
              · skip
                refine fz_iconst X d_X8_tells_109 (by decide) (fun v33 hv33 => ?_)
                refine fz_goto X 119 d_X8_tells_110 (by decide) ?_
                refine fm_istore X d_X8_tells_119 hs hw (by decide) (fun ls hst => ?_)
                have hl0 := hst.2.2.2.1 0 _ (by decide) hl0 rfl
                have hl1 := hst.2.2.2.1 1 _ (by decide) hl1 rfl
                have hl2 := hst.2.2.2.1 2 _ (by decide) hl2 rfl
                have hl3 := hst.2.2.2.1 3 _ (by decide) hl3 rfl
                have hl4 := hst.2.2.2.1 4 _ (by decide) hl4 rfl
                have hl5 := hst.2.2.2.1 5 _ (by decide) hl5 rfl
                have hl6 := hst.2.2.1
                have hs := hst.1.trans hs
                have hw := hst.2.1
                clear hst
                refine fm_iload X d_X8_tells_121 hl6 ?_
                refine fz_if_ge X 130 d_X8_tells_123 (by decide) (fun h35 => ?_) (fun h35 => ?_)
                · skip
                  refine fm_iload X d_X8_tells_130 hl6 ?_
                  refine fz_bipush X d_X8_tells_132 (by decide) (fun v36 hv36 => ?_)
                  refine fz_icmp_le X 142 d_X8_tells_134 (by decide) (fun h37 => ?_) (fun h37 => ?_)
                  · skip
                    refine fm_iload X d_X8_tells_142 hl6 ?_
                    refine gm_iret X Y hr hlk d_X8_tells_144 ⟨hF.1, hF.2, ⟨_, rfl, by show (0 : Int) ≤ _; omega, by show _ ≤ (99 : Int); omega, fun q => absurd (show (0 : Nat) = 1 from q) (by decide), fun _ q hq => absurd hq List.not_mem_nil⟩, fun f hf => absurd hf List.not_mem_nil⟩
                  · skip
                    refine fz_bipush X d_X8_tells_137 (by decide) (fun v38 hv38 => ?_)
                    refine fz_goto X 144 d_X8_tells_139 (by decide) ?_
                    refine gm_iret X Y hr hlk d_X8_tells_144 ⟨hF.1, hF.2, ⟨_, rfl, by show (0 : Int) ≤ _; omega, by show _ ≤ (99 : Int); omega, fun q => absurd (show (0 : Nat) = 1 from q) (by decide), fun _ q hq => absurd hq List.not_mem_nil⟩, fun f hf => absurd hf List.not_mem_nil⟩
                · skip
                  refine fz_iconst X d_X8_tells_126 (by decide) (fun v39 hv39 => ?_)
                  refine fz_goto X 144 d_X8_tells_127 (by decide) ?_
                  refine gm_iret X Y hr hlk d_X8_tells_144 ⟨hF.1, hF.2, ⟨_, rfl, by show (0 : Int) ≤ _; omega, by show _ ≤ (99 : Int); omega, fun q => absurd (show (0 : Nat) = 1 from q) (by decide), fun _ q hq => absurd hq List.not_mem_nil⟩, fun f hf => absurd hf List.not_mem_nil⟩
            · skip
              refine fz_goto X 145 d_X8_tells_79 (by decide) ?_
              refine fm_iinc X d_X8_tells_145 hl5 hs hw (by decide) (fun ls hst => ?_)
              have hl0 := hst.2.2.2.1 0 _ (by decide) hl0 rfl
              have hl1 := hst.2.2.2.1 1 _ (by decide) hl1 rfl
              have hl2 := hst.2.2.2.1 2 _ (by decide) hl2 rfl
              have hl3 := hst.2.2.2.1 3 _ (by decide) hl3 rfl
              have hl4 := hst.2.2.2.1 4 _ (by decide) hl4 rfl
              obtain ⟨z40, hz40⟩ : ∃ z : Int32, z.toInt = (x5).toInt + 1 ∧ ls[5]? = some (.val (.int z)) := ⟨_, zi_inc (by omega) (by omega) (by decide) (by decide), hst.2.2.1⟩
              have hl5 := hz40.2
              have hz40 := hz40.1
              have hs := hst.1.trans hs
              have hw := hst.2.1
              clear hst
              refine fz_goto X 19 d_X8_tells_148 (by decide) ?_
              exact ih V14 _ ls (by omega) (by omega) (by omega) hF hs hw hl0 hl1 hl2 hl3 hl4 hl5
        · skip
          refine fz_goto X 145 d_X8_tells_39 (by decide) ?_
          refine fm_iinc X d_X8_tells_145 hl5 hs hw (by decide) (fun ls hst => ?_)
          have hl0 := hst.2.2.2.1 0 _ (by decide) hl0 rfl
          have hl1 := hst.2.2.2.1 1 _ (by decide) hl1 rfl
          have hl2 := hst.2.2.2.1 2 _ (by decide) hl2 rfl
          have hl3 := hst.2.2.2.1 3 _ (by decide) hl3 rfl
          have hl4 := hst.2.2.2.1 4 _ (by decide) hl4 rfl
          obtain ⟨z41, hz41⟩ : ∃ z : Int32, z.toInt = (x5).toInt + 1 ∧ ls[5]? = some (.val (.int z)) := ⟨_, zi_inc (by omega) (by omega) (by decide) (by decide), hst.2.2.1⟩
          have hl5 := hz41.2
          have hz41 := hz41.1
          have hs := hst.1.trans hs
          have hw := hst.2.1
          clear hst
          refine fz_goto X 19 d_X8_tells_148 (by decide) ?_
          exact ih W _ ls (by omega) (by omega) (by omega) hF hs hw hl0 hl1 hl2 hl3 hl4 hl5
  have hF : pz_F [(80, 43), (80, 44), (80, 45), (108, 9999), (109, 9999)] V V := pz_Fr hT
  have g1 := hG.1
  refine fm_aload_n X d_X8_tells_0 rfl hl0 ?_
  refine fm_iload_n X d_X8_tells_1 rfl hl2 ?_
  refine fz_put X 80 d_X8_tells_2 lkX8_324 wr_8_43 rfl rfl (by first | exact Or.inl rfl | (refine Or.inr ?_; constructor <;> omega)) (fun V42 hV42 => ?_)
  have hF := pz_Fo hF hV42 rfl rfl (by constructor <;> omega) (by decide)
  refine fm_aload_n X d_X8_tells_5 rfl hl0 ?_
  refine fm_iload_n X d_X8_tells_6 rfl hl3 ?_
  refine fz_put X 80 d_X8_tells_7 lkX8_330 wr_8_44 rfl rfl (by first | exact Or.inl rfl | (refine Or.inr ?_; constructor <;> omega)) (fun V43 hV43 => ?_)
  have hF := pz_Fo hF hV43 rfl rfl (by constructor <;> omega) (by decide)
  refine fm_aload_n X d_X8_tells_10 rfl hl0 ?_
  refine fm_iload X d_X8_tells_11 hl4 ?_
  refine fz_put X 80 d_X8_tells_13 lkX8_343 wr_8_45 rfl rfl (by first | exact Or.inl rfl | (refine Or.inr ?_; constructor <;> omega)) (fun V44 hV44 => ?_)
  have hF := pz_Fo hF hV44 rfl rfl (by constructor <;> omega) (by decide)
  refine fz_iconst X d_X8_tells_16 (by decide) (fun v45 hv45 => ?_)
  refine fm_istore X d_X8_tells_17 hs hw (by decide) (fun ls hst => ?_)
  have hl0 := hst.2.2.2.1 0 _ (by decide) hl0 rfl
  have hl1 := hst.2.2.2.1 1 _ (by decide) hl1 rfl
  have hl2 := hst.2.2.2.1 2 _ (by decide) hl2 rfl
  have hl3 := hst.2.2.2.1 3 _ (by decide) hl3 rfl
  have hl4 := hst.2.2.2.1 4 _ (by decide) hl4 rfl
  have hl5 := hst.2.2.1
  have hs := hst.1.trans hs
  have hw := hst.2.1
  clear hst
  exact loop _ V44 _ ls (Nat.lt_succ_self _) (by omega) (by omega) hF hs hw hl0 hl1 hl2 hl3 hl4 hl5
theorem m_tells {l : Launch} {D : va_G} {ad : Nat → Nat} {cy : Nat → ClassId} {Z : State → Heap → Prop} (hAd : fm_Ad fm_tm ad) (hZ : fm_Zk (fm_A fm_tm ad) Z) : rv_Met l D fm_cl fm_tm ad cy fm_nt Z fm_G yX8_tells (.code yX8_tells prog_10_method_51_code 7 (some .int) :: fm_Ts) { frames := 5, cells := 0, slots := 0, locals := 500 } K_tells := by
  intro V avs hpre
  obtain ⟨hT, hG, hsk, hf⟩ := hpre
  obtain ⟨v0, r0, rfl, q0, hsk⟩ := rv_sk_cons hsk
  obtain ⟨v1, r1, rfl, q1, hsk⟩ := rv_sk_cons hsk
  obtain ⟨v2, r2, rfl, q2, hsk⟩ := rv_sk_cons hsk
  obtain ⟨v3, r3, rfl, q3, hsk⟩ := rv_sk_cons hsk
  obtain ⟨v4, r4, rfl, q4, hsk⟩ := rv_sk_cons hsk
  obtain rfl := rv_sk_nil hsk
  obtain rfl : v0 = .ref (ad 80) := rv_okR rfl q0
  obtain ⟨x1, rfl, -⟩ := rv_okI rfl q1
  obtain ⟨x2, rfl, a2, b2, -⟩ := rv_okI rfl q2
  obtain ⟨x3, rfl, a3, b3, -⟩ := rv_okI rfl q3
  obtain ⟨x4, rfl, a4, b4, -⟩ := rv_okI rfl q4
  have hH := hf ((80, 2), 0, 2000000000, []) (List.mem_singleton.mpr rfl)
  exact g_tells hAd hZ hT hG hH ⟨a2, b2⟩ ⟨a3, b3⟩ ⟨a4, b4⟩
