theorem g_works {l : Launch} {D : va_G} {ad : Nat → Nat} {cy : Nat → ClassId} {Z : State → Heap → Prop} (hAd : fm_Ad fm_tm ad) (hZ : fm_Zk (fm_A fm_tm ad) Z) {V0 : fm_V} {f t : Int32} {a b : Nat} (hT : fm_Tm fm_tm V0) (hG : fm_G V0) (hH : 0 ≤ (V0 80 2).toInt ∧ (V0 80 2).toInt ≤ 2000000000) (hf : f.toInt = a) (ht : t.toInt = b) (hab : a ≤ b ∧ b ≤ 200) (hdp : dp_ (V0 99) a (b - a) ≠ none) : gm_M l D fm_cl fm_tm ad cy fm_nt Z yX8_works (.code yX8_works prog_10_method_50_code 5 none :: fm_Ts) { frames := 3, cells := 0, slots := 0, locals := 300 } V0 [.ref (ad 80), .int f, .int t] (fun r V1 => r = none ∧ pz_F [(108, 9999), (109, 9999)] V0 V1) := by
  refine gm_at hAd hZ (by decide +kernel) (by simp [lg_sl, Value.category]) ?_
  intro p e s m args below meth c ls hr hlk X Y hl
  have hl0 : ls[0]? = some (.val (.ref (ad 80))) := hl.2.2 (0, .ref (ad 80)) (by simp [lv_args, Value.category])
  have hl1 : ls[1]? = some (.val (.int f)) := hl.2.2 (1, .int f) (by simp [lv_args, Value.category])
  have hl2 : ls[2]? = some (.val (.int t)) := hl.2.2 (2, .int t) (by simp [lv_args, Value.category])
  have hs := hl.1
  have hw := hl.2.1
  clear hl
  have loop : ∀ (k j dd : Nat) (V : fm_V) (ls : Array Slot) (x3 x4 : Int32), j + k = b - a → dp_ (V0 99) a j = some dd → dd ≤ j → pz_F [(108, 9999), (109, 9999)] V0 V → x4.toInt = a + j → x3.toInt = dd → ls.size = 5 → lv_wf ls → ls[0]? = some (.val (.ref (ad 80))) → ls[1]? = some (.val (.int f)) → ls[2]? = some (.val (.int t)) → ls[3]? = some (.val (.int x3)) → ls[4]? = some (.val (.int x4)) → fm_W p l e { frames := 3, cells := 0, slots := 0, locals := 300 } s m args below meth c (MQ below (rv_Qc D fm_cl fm_tm ad cy fm_nt Z (fun r V1 => r = none ∧ pz_F [(108, 9999), (109, 9999)] V0 V1)) args s 0 0 (fm_A fm_tm ad)) D fm_cl fm_tm ad cy (fm_A fm_tm ad) V 5 ls [] := by
    intro k
    induction k with
    | zero =>
      intro j dd V ls x3 x4 hjk hdd hdj hF hx4 hx3 hs hw hl0 hl1 hl2 hl3 hl4
      refine fm_iload X d_X8_works_5 hl4 ?_
      refine fm_iload_n X d_X8_works_7 rfl hl2 ?_
      refine fz_icmp_ge X 127 d_X8_works_8 (by decide) (fun c1 => ?_) (fun c1 => absurd (show t.toInt ≤ x4.toInt by omega) c1)
      exact gm_vret X Y hr hlk d_X8_works_127 ⟨rfl, hF⟩
    | succ k ih =>
      intro j dd V ls x3 x4 hjk hdd hdj hF hx4 hx3 hs hw hl0 hl1 hl2 hl3 hl4
      have hix : x4.toInt.toNat = a + j := by omega
      have e99 : ∀ q, V 99 q = V0 99 q := fun q => hF.2 99 q (by simp [rv_in])
      obtain ⟨s1, s2, s3⟩ := dp_step hdd (dp_mono (n := b - a) (by omega) hdp)
      have hcv : (V 99 x4.toInt.toNat).toInt = (V0 99 (a + j)).toInt := by rw [e99, hix]
      rw [← hcv] at s1 s2 s3
      have hTm := hF.1
      have hGm : fm_G V := fm_gm fm_G_gd (M := [(108, 9999), (109, 9999)]) (by decide) V0 V hF.2 hG
      refine fm_iload X d_X8_works_5 hl4 ?_
      refine fm_iload_n X d_X8_works_7 rfl hl2 ?_
      refine fz_icmp_ge X 127 d_X8_works_8 (by decide) (fun h11 => ?_) (fun h11 => ?_)
      · skip
        exact absurd (show ¬ (t.toInt ≤ x4.toInt) by omega) (fun z => z (by assumption))
      · skip
        refine fm_aload_n X d_X8_works_11 rfl hl0 ?_
        refine fz_getR X 80 d_X8_works_12 lkX8_70 rfl rfl ?_
        refine fm_iload X d_X8_works_15 hl4 ?_
        refine fz_ialoadZ X 99 d_X8_works_17 rfl (by constructor <;> omega) ?_
        refine fz_iconst X d_X8_works_18 (by decide) (fun v12 hv12 => ?_)
        refine fz_icmp_le X 42 d_X8_works_19 (by decide) (fun h13 => ?_) (fun h13 => ?_)
        · skip
          refine fm_aload_n X d_X8_works_42 rfl hl0 ?_
          refine fz_getR X 80 d_X8_works_43 lkX8_70 rfl rfl ?_
          refine fm_iload X d_X8_works_46 hl4 ?_
          refine fz_ialoadZ X 99 d_X8_works_48 rfl (by constructor <;> omega) ?_
          refine fz_iconst X d_X8_works_49 (by decide) (fun v14 hv14 => ?_)
          refine fz_icmp_ne X 74 d_X8_works_50 (by decide) (fun h15 => ?_) (fun h15 => ?_)
          · skip
            have hs3 := s3 (by omega)
            refine fm_aload_n X d_X8_works_74 rfl hl0 ?_
            refine fz_getR X 80 d_X8_works_75 lkX8_100 rfl rfl ?_
            refine fm_iload_n X d_X8_works_78 rfl hl3 ?_
            refine fz_iconst X d_X8_works_79 (by decide) (fun v16 hv16 => ?_)
            refine fz_zastore X 109 d_X8_works_80 rfl (by constructor <;> omega) (by constructor <;> omega) (fun V17 hV17 => ?_)
            have hF := pz_Fa hF hV17 (i := 109) rfl (by constructor <;> first | exact (zi_rng _).1 | exact (zi_rng _).2 | omega) (by simp [rv_in])
            refine fm_aload_n X d_X8_works_81 rfl hl0 ?_
            refine fz_getR X 80 d_X8_works_82 lkX8_97 rfl rfl ?_
            refine fm_iload_n X d_X8_works_85 rfl hl3 ?_
            refine fm_aload_n X d_X8_works_86 rfl hl0 ?_
            refine fz_getR X 80 d_X8_works_87 lkX8_70 rfl rfl ?_
            refine fm_iload X d_X8_works_90 hl4 ?_
            refine fz_ialoadZ X 99 d_X8_works_92 rfl (by constructor <;> omega) ?_
            refine fz_if_ne X 106 d_X8_works_93 (by decide) (fun h18 => ?_) (fun h18 => ?_)
            · skip
              refine fm_aload_n X d_X8_works_106 rfl hl0 ?_
              refine fm_aload_n X d_X8_works_107 rfl hl0 ?_
              refine fz_getR X 80 d_X8_works_108 lkX8_73 rfl rfl ?_
              refine fm_iload X d_X8_works_111 hl4 ?_
              refine fz_ialoadZ X 100 d_X8_works_113 rfl (by constructor <;> omega) ?_
              refine gm_callV X Y fm_Ts_good d_X8_works_114 (m_X8_valueOf_0 hAd hZ V17 [.ref (ad 80), .int (V17 100 (x4).toInt.toNat)] ⟨hF.1, fm_gm fm_G_gd (M := [(108, 9999), (109, 9999)]) (by decide) V0 _ hF.2 hG, ⟨rv_okR' rfl rfl, rv_full_ok _, trivial⟩, fun f hf => ?hour⟩) wl_X8_356 wm_X8_valueOf wy_X8_valueOf (by decide) ⟨rfl, rfl⟩ (rest := [.int x3, .ref (ad 108)]) rfl rfl hs (by simp [Value.category]) (fun r V19 hp => ?_)
              case hour =>
                rw [List.mem_singleton.mp (show f ∈ [(((80, 2), 0, 2000000000, []) : rv_Fa)] from hf)]
                show 0 ≤ (V17 80 2).toInt ∧ (V17 80 2).toInt ≤ 2000000000
                rw [hF.2 80 2 (by decide)]
                exact hH
              have hF := pz_Ft hF (⟨hp.1, hp.2.1⟩ : pz_F K_X8_valueOf_0.2.2.1 _ _) (by decide)
              obtain ⟨y20, rfl, -⟩ := hp.2.2.1
              show fm_W p l e { frames := 3, cells := 0, slots := 0, locals := 300 } s m args below meth c (MQ below (rv_Qc D fm_cl fm_tm ad cy fm_nt Z (fun r V1 => r = none ∧ pz_F [(108, 9999), (109, 9999)] V0 V1)) args s 0 0 (fm_A fm_tm ad)) D fm_cl fm_tm ad cy (fm_A fm_tm ad) V19 117 ls (.int y20 :: [.int x3, .ref (ad 108)])
              refine fz_iastore X 108 d_X8_works_117 rfl (by constructor <;> omega) (fun V21 hV21 => ?_)
              have hF := pz_Fa hF hV21 (i := 108) rfl (by constructor <;> first | exact (zi_rng _).1 | exact (zi_rng _).2 | omega) (by simp [rv_in])
              refine fm_iinc X d_X8_works_118 hl3 hs hw (by decide) (fun ls hst => ?_)
              have hl0 := hst.2.2.2.1 0 _ (by decide) hl0 rfl
              have hl1 := hst.2.2.2.1 1 _ (by decide) hl1 rfl
              have hl2 := hst.2.2.2.1 2 _ (by decide) hl2 rfl
              have hl4 := hst.2.2.2.1 4 _ (by decide) hl4 rfl
              obtain ⟨z22, hz22⟩ : ∃ z : Int32, z.toInt = (x3).toInt + 1 ∧ ls[3]? = some (.val (.int z)) := ⟨_, zi_inc (by omega) (by omega) (by decide) (by decide), hst.2.2.1⟩
              have hl3 := hz22.2
              have hz22 := hz22.1
              have hs := hst.1.trans hs
              have hw := hst.2.1
              clear hst
              refine fm_iinc X d_X8_works_121 hl4 hs hw (by decide) (fun ls hst => ?_)
              have hl0 := hst.2.2.2.1 0 _ (by decide) hl0 rfl
              have hl1 := hst.2.2.2.1 1 _ (by decide) hl1 rfl
              have hl2 := hst.2.2.2.1 2 _ (by decide) hl2 rfl
              have hl3 := hst.2.2.2.1 3 _ (by decide) hl3 rfl
              obtain ⟨z23, hz23⟩ : ∃ z : Int32, z.toInt = (x4).toInt + 1 ∧ ls[4]? = some (.val (.int z)) := ⟨_, zi_inc (by omega) (by omega) (by decide) (by decide), hst.2.2.1⟩
              have hl4 := hz23.2
              have hz23 := hz23.1
              have hs := hst.1.trans hs
              have hw := hst.2.1
              clear hst
              refine fz_goto X 5 d_X8_works_124 (by decide) ?_
              exact ih (j + 1) (dd + 1) V21 ls _ _ (by omega) (s3 (by omega)) (by omega) hF (by omega) (by omega) hs hw hl0 hl1 hl2 hl3 hl4
            · skip
              refine fm_aload_n X d_X8_works_96 rfl hl0 ?_
              refine fz_getR X 80 d_X8_works_97 lkX8_73 rfl rfl ?_
              refine fm_iload X d_X8_works_100 hl4 ?_
              refine fz_ialoadZ X 100 d_X8_works_102 rfl (by constructor <;> omega) ?_
              refine fz_goto X 117 d_X8_works_103 (by decide) ?_
              refine fz_iastore X 108 d_X8_works_117 rfl (by constructor <;> omega) (fun V24 hV24 => ?_)
              have hF := pz_Fa hF hV24 (i := 108) rfl (by constructor <;> first | exact (zi_rng _).1 | exact (zi_rng _).2 | omega) (by simp [rv_in])
              refine fm_iinc X d_X8_works_118 hl3 hs hw (by decide) (fun ls hst => ?_)
              have hl0 := hst.2.2.2.1 0 _ (by decide) hl0 rfl
              have hl1 := hst.2.2.2.1 1 _ (by decide) hl1 rfl
              have hl2 := hst.2.2.2.1 2 _ (by decide) hl2 rfl
              have hl4 := hst.2.2.2.1 4 _ (by decide) hl4 rfl
              obtain ⟨z25, hz25⟩ : ∃ z : Int32, z.toInt = (x3).toInt + 1 ∧ ls[3]? = some (.val (.int z)) := ⟨_, zi_inc (by omega) (by omega) (by decide) (by decide), hst.2.2.1⟩
              have hl3 := hz25.2
              have hz25 := hz25.1
              have hs := hst.1.trans hs
              have hw := hst.2.1
              clear hst
              refine fm_iinc X d_X8_works_121 hl4 hs hw (by decide) (fun ls hst => ?_)
              have hl0 := hst.2.2.2.1 0 _ (by decide) hl0 rfl
              have hl1 := hst.2.2.2.1 1 _ (by decide) hl1 rfl
              have hl2 := hst.2.2.2.1 2 _ (by decide) hl2 rfl
              have hl3 := hst.2.2.2.1 3 _ (by decide) hl3 rfl
              obtain ⟨z26, hz26⟩ : ∃ z : Int32, z.toInt = (x4).toInt + 1 ∧ ls[4]? = some (.val (.int z)) := ⟨_, zi_inc (by omega) (by omega) (by decide) (by decide), hst.2.2.1⟩
              have hl4 := hz26.2
              have hz26 := hz26.1
              have hs := hst.1.trans hs
              have hw := hst.2.1
              clear hst
              refine fz_goto X 5 d_X8_works_124 (by decide) ?_
              exact ih (j + 1) (dd + 1) V24 ls _ _ (by omega) (s3 (by omega)) (by omega) hF (by omega) (by omega) hs hw hl0 hl1 hl2 hl3 hl4
          · skip
            have hs2 := s2 (by omega)
            refine fm_aload_n X d_X8_works_53 rfl hl0 ?_
            refine fz_getR X 80 d_X8_works_54 lkX8_97 rfl rfl ?_
            refine fm_iload_n X d_X8_works_57 rfl hl3 ?_
            refine fz_iconst X d_X8_works_58 (by decide) (fun v27 hv27 => ?_)
            refine fz_isub X d_X8_works_59 (by constructor <;> omega) (fun z28 hz28 => ?_)
            refine fz_iconst X d_X8_works_60 (by decide) (fun v29 hv29 => ?_)
            refine fm_aload_n X d_X8_works_61 rfl hl0 ?_
            refine fz_getR X 80 d_X8_works_62 lkX8_97 rfl rfl ?_
            refine fm_iload_n X d_X8_works_65 rfl hl3 ?_
            refine fz_iconst X d_X8_works_66 (by decide) (fun v30 hv30 => ?_)
            refine fz_isub X d_X8_works_67 (by constructor <;> omega) (fun z31 hz31 => ?_)
            refine fz_ialoadZ X 108 d_X8_works_68 rfl (by constructor <;> omega) ?_
            refine fa_isub X d_X8_works_69 (fun z32 => ?_)
            refine fz_iastore X 108 d_X8_works_70 rfl (by constructor <;> omega) (fun V33 hV33 => ?_)
            have hF := pz_Fa hF hV33 (i := 108) rfl (by constructor <;> first | exact (zi_rng _).1 | exact (zi_rng _).2 | omega) (by simp [rv_in])
            refine fz_goto X 121 d_X8_works_71 (by decide) ?_
            refine fm_iinc X d_X8_works_121 hl4 hs hw (by decide) (fun ls hst => ?_)
            have hl0 := hst.2.2.2.1 0 _ (by decide) hl0 rfl
            have hl1 := hst.2.2.2.1 1 _ (by decide) hl1 rfl
            have hl2 := hst.2.2.2.1 2 _ (by decide) hl2 rfl
            have hl3 := hst.2.2.2.1 3 _ (by decide) hl3 rfl
            obtain ⟨z34, hz34⟩ : ∃ z : Int32, z.toInt = (x4).toInt + 1 ∧ ls[4]? = some (.val (.int z)) := ⟨_, zi_inc (by omega) (by omega) (by decide) (by decide), hst.2.2.1⟩
            have hl4 := hz34.2
            have hz34 := hz34.1
            have hs := hst.1.trans hs
            have hw := hst.2.1
            clear hst
            refine fz_goto X 5 d_X8_works_124 (by decide) ?_
            exact ih (j + 1) dd V33 ls _ _ (by omega) ((s2 (by omega)).2) (by omega) hF (by omega) (by omega) hs hw hl0 hl1 hl2 hl3 hl4
        · skip
          have hs1 := s1 (by omega)
          refine fm_iinc X d_X8_works_22 hl3 hs hw (by decide) (fun ls hst => ?_)
          have hl0 := hst.2.2.2.1 0 _ (by decide) hl0 rfl
          have hl1 := hst.2.2.2.1 1 _ (by decide) hl1 rfl
          have hl2 := hst.2.2.2.1 2 _ (by decide) hl2 rfl
          have hl4 := hst.2.2.2.1 4 _ (by decide) hl4 rfl
          obtain ⟨z35, hz35⟩ : ∃ z : Int32, z.toInt = (x3).toInt + (-1) ∧ ls[3]? = some (.val (.int z)) := ⟨_, zi_inc (by omega) (by omega) (by decide) (by decide), hst.2.2.1⟩
          have hl3 := hz35.2
          have hz35 := hz35.1
          have hs := hst.1.trans hs
          have hw := hst.2.1
          clear hst
          refine fm_aload_n X d_X8_works_25 rfl hl0 ?_
          refine fm_aload_n X d_X8_works_26 rfl hl0 ?_
          refine fz_getR X 80 d_X8_works_27 lkX8_70 rfl rfl ?_
          refine fm_iload X d_X8_works_30 hl4 ?_
          refine fz_ialoadZ X 99 d_X8_works_32 rfl (by constructor <;> omega) ?_
          refine fm_iload_n X d_X8_works_33 rfl hl3 ?_
          refine fz_iconst X d_X8_works_34 (by decide) (fun v36 hv36 => ?_)
          refine fz_isub X d_X8_works_35 (by constructor <;> omega) (fun z37 hz37 => ?_)
          refine gm_callV X Y fm_Ts_good d_X8_works_36 (m_X8_does_0 hAd hZ V [.ref (ad 80), .int (V 99 (x4).toInt.toNat), .int z37] ⟨hF.1, hGm, ⟨rv_okR' rfl rfl, rv_full_ok _, rv_okB (lo := 0) (hi := 238) (by omega) (by omega), trivial⟩, fun f hf => absurd hf List.not_mem_nil⟩) wl_X8_353 wm_X8_does wy_X8_does (by decide) ⟨rfl, rfl⟩ (rest := []) rfl rfl hs (by decide) (fun r V38 hp => ?_)
          have hF := pz_Ft hF (⟨hp.1, hp.2.1⟩ : pz_F K_X8_does_0.2.2.1 _ _) (by decide)
          obtain rfl : r = none := hp.2.2.1
          show fm_W p l e { frames := 3, cells := 0, slots := 0, locals := 300 } s m args below meth c (MQ below (rv_Qc D fm_cl fm_tm ad cy fm_nt Z (fun r V1 => r = none ∧ pz_F [(108, 9999), (109, 9999)] V0 V1)) args s 0 0 (fm_A fm_tm ad)) D fm_cl fm_tm ad cy (fm_A fm_tm ad) V38 39 ls []
          refine fz_goto X 121 d_X8_works_39 (by decide) ?_
          refine fm_iinc X d_X8_works_121 hl4 hs hw (by decide) (fun ls hst => ?_)
          have hl0 := hst.2.2.2.1 0 _ (by decide) hl0 rfl
          have hl1 := hst.2.2.2.1 1 _ (by decide) hl1 rfl
          have hl2 := hst.2.2.2.1 2 _ (by decide) hl2 rfl
          have hl3 := hst.2.2.2.1 3 _ (by decide) hl3 rfl
          obtain ⟨z39, hz39⟩ : ∃ z : Int32, z.toInt = (x4).toInt + 1 ∧ ls[4]? = some (.val (.int z)) := ⟨_, zi_inc (by omega) (by omega) (by decide) (by decide), hst.2.2.1⟩
          have hl4 := hz39.2
          have hz39 := hz39.1
          have hs := hst.1.trans hs
          have hw := hst.2.1
          clear hst
          refine fz_goto X 5 d_X8_works_124 (by decide) ?_
          exact ih (j + 1) (dd - 1) V38 ls _ _ (by omega) ((s1 (by omega)).2) (by omega) hF (by omega) (by omega) hs hw hl0 hl1 hl2 hl3 hl4
  refine fz_iconst X d_X8_works_0 (by decide) (fun z hz => ?_)
  refine fm_istore_n X d_X8_works_1 hs hw (by decide) (fun ls hst => ?_)
  have hl0 := hst.2.2.2.1 0 _ (by decide) hl0 rfl
  have hl1 := hst.2.2.2.1 1 _ (by decide) hl1 rfl
  have hl2 := hst.2.2.2.1 2 _ (by decide) hl2 rfl
  have hl3 := hst.2.2.1
  have hs := hst.1.trans hs
  have hw := hst.2.1
  clear hst
  refine fm_iload_n X d_X8_works_2 rfl hl1 ?_
  refine fm_istore X d_X8_works_3 hs hw (by decide) (fun ls hst => ?_)
  exact loop (b - a) 0 0 V0 ls z f (by omega) rfl (by omega) (pz_Fr hT) (by omega) (by omega) (hst.1.trans hs) hst.2.1 (hst.2.2.2.1 0 _ (by decide) hl0 rfl) (hst.2.2.2.1 1 _ (by decide) hl1 rfl) (hst.2.2.2.1 2 _ (by decide) hl2 rfl) (hst.2.2.2.1 3 _ (by decide) hl3 rfl) hst.2.2.1
