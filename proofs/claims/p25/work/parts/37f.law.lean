/-! the reader: the law -/
def pz_LM : List (Nat × Nat) := [(80, 1), (80, 20), (80, 33), (80, 34), (80, 35), (80, 36), (80, 37), (80, 38), (80, 39), (80, 40), (80, 41), (95, 9999), (96, 9999), (97, 9999), (98, 9999), (99, 9999), (100, 9999), (101, 9999), (102, 9999), (103, 9999), (104, 9999), (105, 9999), (106, 9999), (107, 9999)]
def pz_L0 : List (Nat × Nat) := [(80, 1), (80, 33), (80, 34), (80, 35), (80, 36), (80, 37), (80, 38), (80, 39), (80, 40), (80, 41), (101, 9999), (102, 9999), (103, 9999), (104, 9999), (105, 9999), (106, 9999), (107, 9999)]
theorem g_law {l : Launch} {D : va_G} {ad : Nat → Nat} {cy : Nat → ClassId} {Z : State → Heap → Prop} (hAd : fm_Ad fm_tm ad) (hZ : fm_Zk (fm_A fm_tm ad) Z) {V : fm_V} {x1 : Int32} (hT : fm_Tm fm_tm V) (hG : fm_G V) : gm_M l D fm_cl fm_tm ad cy fm_nt Z yX8_law (.code yX8_law prog_10_method_42_code 4 (some .int) :: fm_Ts) { frames := 8, cells := 0, slots := 0, locals := 800 } V [.ref (ad 80), .int x1] (fun r V1 => (∃ x : Int32, r = some (.int x)) ∧ pz_F pz_LM V V1 ∧ fm_G V1) := by
  refine gm_at hAd hZ (by decide +kernel) (by simp [lg_sl, Value.category]) ?_
  intro p e s m args below meth c ls hr hlk X Y hl
  have hl0 : ls[0]? = some (.val (.ref (ad 80))) := hl.2.2 (0, .ref (ad 80)) (by simp [lv_args, Value.category])
  have hl1 : ls[1]? = some (.val (.int x1)) := hl.2.2 (1, .int x1) (by simp [lv_args, Value.category])
  have hs := hl.1
  have hw := hl.2.1
  clear hl
  have hF : pz_F pz_L0 V V := pz_Fr hT
  have hFm : ∀ U, pz_F pz_L0 V U → pz_F pz_LM V U := fun U h => pz_Ft (pz_Fr hT) h (by decide)
  have hGm : ∀ U, pz_F pz_L0 V U → fm_G U := fun U h => fm_gm fm_G_gd (M := pz_L0) (by decide) V U h.2 hG
  have loop2 : ∀ (A : fm_V) (hA : pz_F pz_L0 V A) (hC : pz_C A) (hl_ : lw_ A) (N : Nat), ∀ (U : fm_V) (x2 x3 : Int32) (ls : Array Slot), ((A 80 37).toInt - x3.toInt).toNat < N → 0 ≤ x3.toInt → x3.toInt ≤ (A 80 37).toInt → pz_F [(95, 9999), (96, 9999), (97, 9999), (98, 9999), (99, 9999), (100, 9999)] A U → (∀ k : Nat, (k : Int) < (A 80 36).toInt → U 96 k = A 102 k ∧ U 97 k = A 103 k ∧ U 98 k = A 104 k) → (∀ k : Nat, (k : Int) < x3.toInt → U 99 k = A 105 k) → ls.size = 4 → lv_wf ls → ls[0]? = some (.val (.ref (ad 80))) → ls[1]? = some (.val (.int x1)) → ls[2]? = some (.val (.int x2)) → ls[3]? = some (.val (.int x3)) → fm_W p l e { frames := 8, cells := 0, slots := 0, locals := 800 } s m args below meth c (MQ below (rv_Qc D fm_cl fm_tm ad cy fm_nt Z (fun r V1 => (∃ x : Int32, r = some (.int x)) ∧ pz_F pz_LM V V1 ∧ fm_G V1)) args s 0 0 (fm_A fm_tm ad)) D fm_cl fm_tm ad cy (fm_A fm_tm ad) U 206 ls [] := by
    intro A hA hC hl_ N
    induction N with
    | zero => intro U x2 x3 ls h; omega
    | succ N ih =>
      intro U x2 x3 ls hN f1 f2 hU hr1 hr2 hs hw hl0 hl1 hl2 hl3
      obtain ⟨c1, c2, c3, c4, c5, c6, c7, c8⟩ := id hC
      have u36 : (U 80 36).toInt = (A 80 36).toInt := by rw [hU.2 80 36 (by decide)]
      have u37 : (U 80 37).toInt = (A 80 37).toInt := by rw [hU.2 80 37 (by decide)]
      have hU0 := hU
      refine fm_iload_n X d_X8_law_206 rfl hl3 ?_
      refine fm_aload_n X d_X8_law_207 rfl hl0 ?_
      refine fz_getI X 80 d_X8_law_208 lkX8_221 rfl rfl ?_
      refine fz_icmp_ge X 244 d_X8_law_211 (by decide) (fun h11 => ?_) (fun h11 => ?_)
      · skip
        refine fm_aload_n X d_X8_law_244 rfl hl0 ?_
        refine fm_aload_n X d_X8_law_245 rfl hl0 ?_
        refine fz_getI X 80 d_X8_law_246 lkX8_307 rfl rfl ?_
        refine fz_put X 80 d_X8_law_249 lkX8_318 wr_8_20 rfl rfl (by first | exact Or.inl rfl | (refine Or.inr ?_; constructor <;> omega)) (fun V12 hV12 => ?_)
        have tV12_1 : (V12 80 1).toInt = (U 80 1).toInt := by rw [hV12, fm_up_ne (by decide)]
        have tV12_20 : (V12 80 20).toInt = (U 80 36).toInt := by rw [hV12, fm_up_self]
        have tV12_33 : (V12 80 33).toInt = (U 80 33).toInt := by rw [hV12, fm_up_ne (by decide)]
        have tV12_34 : (V12 80 34).toInt = (U 80 34).toInt := by rw [hV12, fm_up_ne (by decide)]
        have tV12_35 : (V12 80 35).toInt = (U 80 35).toInt := by rw [hV12, fm_up_ne (by decide)]
        have tV12_36 : (V12 80 36).toInt = (U 80 36).toInt := by rw [hV12, fm_up_ne (by decide)]
        have tV12_37 : (V12 80 37).toInt = (U 80 37).toInt := by rw [hV12, fm_up_ne (by decide)]
        have tV12_38 : (V12 80 38).toInt = (U 80 38).toInt := by rw [hV12, fm_up_ne (by decide)]
        have tV12_39 : (V12 80 39).toInt = (U 80 39).toInt := by rw [hV12, fm_up_ne (by decide)]
        have tV12_40 : (V12 80 40).toInt = (U 80 40).toInt := by rw [hV12, fm_up_ne (by decide)]
        have tV12_41 : (V12 80 41).toInt = (U 80 41).toInt := by rw [hV12, fm_up_ne (by decide)]
        have hFL : pz_F pz_LM V V12 := by
          refine pz_Fo (i := 80) (k := 20) (pz_Ft (hFm A hA) hU (by decide)) hV12 rfl rfl (zi_rng _) (by decide)
        have hGL : fm_G V12 := by
          have e20 : (V12 80 20).toInt = (A 80 36).toInt := by omega
          have er : ∀ i k, i ≠ 80 → V12 i k = U i k := fun i k hi => by rw [hV12, fm_up_ne (fun q => hi q.1)]
          refine ⟨by omega, by omega, fun k hk => ?_⟩
          obtain ⟨a, b, c, h1, h2, h3, h4, h5, h6, h7, h8⟩ := hl_ k (by omega)
          obtain ⟨r1, r2, r3⟩ := hr1 k (by omega)
          refine ⟨a, b, c, by rw [er _ _ (by decide), r1]; exact h1, by rw [er _ _ (by decide), r2]; exact h2, by rw [er _ _ (by decide), r3]; exact h3, h4, h5, by omega, ?_, ?_⟩
          · rw [dp_eq (g := A 105) (fun j hj => by rw [er _ _ (by decide)]; exact hr2 j (by omega))]; exact h7
          · rw [dp_eq (g := A 105) (fun j hj => by rw [er _ _ (by decide)]; exact hr2 j (by omega))]; exact h8
        refine fm_aload_n X d_X8_law_252 rfl hl0 ?_
        refine fz_getI X 80 d_X8_law_253 lkX8_318 rfl rfl ?_
        refine gm_iret X Y hr hlk d_X8_law_256 ⟨⟨_, rfl⟩, hFL, hGL⟩
      · skip
        refine fm_aload_n X d_X8_law_214 rfl hl0 ?_
        refine fz_getR X 80 d_X8_law_215 lkX8_70 rfl rfl ?_
        refine fm_iload_n X d_X8_law_218 rfl hl3 ?_
        refine fm_aload_n X d_X8_law_219 rfl hl0 ?_
        refine fz_getR X 80 d_X8_law_220 lkX8_88 rfl rfl ?_
        refine fm_iload_n X d_X8_law_223 rfl hl3 ?_
        refine fz_ialoadZ X 105 d_X8_law_224 rfl (by constructor <;> omega) ?_
        refine fz_iastore X 99 d_X8_law_225 rfl (by constructor <;> omega) (fun V13 hV13 => ?_)
        have tV13_1 : (V13 80 1).toInt = (U 80 1).toInt := by rw [hV13, fm_up_ne (fun q => absurd q.1 (by decide))]
        have tV13_20 : (V13 80 20).toInt = (U 80 20).toInt := by rw [hV13, fm_up_ne (fun q => absurd q.1 (by decide))]
        have tV13_33 : (V13 80 33).toInt = (U 80 33).toInt := by rw [hV13, fm_up_ne (fun q => absurd q.1 (by decide))]
        have tV13_34 : (V13 80 34).toInt = (U 80 34).toInt := by rw [hV13, fm_up_ne (fun q => absurd q.1 (by decide))]
        have tV13_35 : (V13 80 35).toInt = (U 80 35).toInt := by rw [hV13, fm_up_ne (fun q => absurd q.1 (by decide))]
        have tV13_36 : (V13 80 36).toInt = (U 80 36).toInt := by rw [hV13, fm_up_ne (fun q => absurd q.1 (by decide))]
        have tV13_37 : (V13 80 37).toInt = (U 80 37).toInt := by rw [hV13, fm_up_ne (fun q => absurd q.1 (by decide))]
        have tV13_38 : (V13 80 38).toInt = (U 80 38).toInt := by rw [hV13, fm_up_ne (fun q => absurd q.1 (by decide))]
        have tV13_39 : (V13 80 39).toInt = (U 80 39).toInt := by rw [hV13, fm_up_ne (fun q => absurd q.1 (by decide))]
        have tV13_40 : (V13 80 40).toInt = (U 80 40).toInt := by rw [hV13, fm_up_ne (fun q => absurd q.1 (by decide))]
        have tV13_41 : (V13 80 41).toInt = (U 80 41).toInt := by rw [hV13, fm_up_ne (fun q => absurd q.1 (by decide))]
        have hU := pz_Fa hU hV13 (i := 99) rfl (zi_rng _) (by simp [rv_in])
        refine fm_aload_n X d_X8_law_226 rfl hl0 ?_
        refine fz_getR X 80 d_X8_law_227 lkX8_73 rfl rfl ?_
        refine fm_iload_n X d_X8_law_230 rfl hl3 ?_
        refine fm_aload_n X d_X8_law_231 rfl hl0 ?_
        refine fz_getR X 80 d_X8_law_232 lkX8_91 rfl rfl ?_
        refine fm_iload_n X d_X8_law_235 rfl hl3 ?_
        refine fz_ialoadZ X 106 d_X8_law_236 rfl (by constructor <;> omega) ?_
        refine fz_iastore X 100 d_X8_law_237 rfl (by constructor <;> omega) (fun V14 hV14 => ?_)
        have tV14_1 : (V14 80 1).toInt = (V13 80 1).toInt := by rw [hV14, fm_up_ne (fun q => absurd q.1 (by decide))]
        have tV14_20 : (V14 80 20).toInt = (V13 80 20).toInt := by rw [hV14, fm_up_ne (fun q => absurd q.1 (by decide))]
        have tV14_33 : (V14 80 33).toInt = (V13 80 33).toInt := by rw [hV14, fm_up_ne (fun q => absurd q.1 (by decide))]
        have tV14_34 : (V14 80 34).toInt = (V13 80 34).toInt := by rw [hV14, fm_up_ne (fun q => absurd q.1 (by decide))]
        have tV14_35 : (V14 80 35).toInt = (V13 80 35).toInt := by rw [hV14, fm_up_ne (fun q => absurd q.1 (by decide))]
        have tV14_36 : (V14 80 36).toInt = (V13 80 36).toInt := by rw [hV14, fm_up_ne (fun q => absurd q.1 (by decide))]
        have tV14_37 : (V14 80 37).toInt = (V13 80 37).toInt := by rw [hV14, fm_up_ne (fun q => absurd q.1 (by decide))]
        have tV14_38 : (V14 80 38).toInt = (V13 80 38).toInt := by rw [hV14, fm_up_ne (fun q => absurd q.1 (by decide))]
        have tV14_39 : (V14 80 39).toInt = (V13 80 39).toInt := by rw [hV14, fm_up_ne (fun q => absurd q.1 (by decide))]
        have tV14_40 : (V14 80 40).toInt = (V13 80 40).toInt := by rw [hV14, fm_up_ne (fun q => absurd q.1 (by decide))]
        have tV14_41 : (V14 80 41).toInt = (V13 80 41).toInt := by rw [hV14, fm_up_ne (fun q => absurd q.1 (by decide))]
        have hU := pz_Fa hU hV14 (i := 100) rfl (zi_rng _) (by simp [rv_in])
        refine fm_iinc X d_X8_law_238 hl3 hs hw (by decide) (fun ls hst => ?_)
        have hl0 := hst.2.2.2.1 0 _ (by decide) hl0 rfl
        have hl1 := hst.2.2.2.1 1 _ (by decide) hl1 rfl
        have hl2 := hst.2.2.2.1 2 _ (by decide) hl2 rfl
        obtain ⟨z15, hz15⟩ : ∃ z : Int32, z.toInt = (x3).toInt + 1 ∧ ls[3]? = some (.val (.int z)) := ⟨_, zi_inc (by omega) (by omega) (by decide) (by decide), hst.2.2.1⟩
        have hl3 := hz15.2
        have hz15 := hz15.1
        have hs := hst.1.trans hs
        have hw := hst.2.1
        clear hst
        refine fz_goto X 206 d_X8_law_241 (by decide) ?_
        refine ih V14 _ _ ls (by omega) (by omega) (by omega) hU (fun k hk => ?_) (fun k hk => ?_) hs hw hl0 hl1 hl2 hl3
        · obtain ⟨r1, r2, r3⟩ := hr1 k hk
          rw [← r1, ← r2, ← r3, hV14, hV13]
          exact ⟨by simp [fm_up], by simp [fm_up], by simp [fm_up]⟩
        · by_cases e : k = x3.toInt.toNat
          · have a1 : V14 99 k = U 105 x3.toInt.toNat := by rw [hV14, hV13]; simp [fm_up, e, -Int32.toNat_toInt]
            rw [a1, e, hU0.2 105 _ (by simp [rv_in])]
          · have a1 : V14 99 k = U 99 k := by rw [hV14, hV13]; simp [fm_up, e, -Int32.toNat_toInt]
            rw [a1]; exact hr2 k (by omega)
  have loop1 : ∀ (A : fm_V) (hA : pz_F pz_L0 V A) (hC : pz_C A) (hl_ : lw_ A) (N : Nat), ∀ (U : fm_V) (x2 x3 : Int32) (ls : Array Slot), ((A 80 36).toInt - x3.toInt).toNat < N → 0 ≤ x3.toInt → x3.toInt ≤ (A 80 36).toInt → pz_F [(95, 9999), (96, 9999), (97, 9999), (98, 9999), (99, 9999), (100, 9999)] A U → (∀ k : Nat, (k : Int) < x3.toInt → U 96 k = A 102 k ∧ U 97 k = A 103 k ∧ U 98 k = A 104 k) → ls.size = 4 → lv_wf ls → ls[0]? = some (.val (.ref (ad 80))) → ls[1]? = some (.val (.int x1)) → ls[2]? = some (.val (.int x2)) → ls[3]? = some (.val (.int x3)) → fm_W p l e { frames := 8, cells := 0, slots := 0, locals := 800 } s m args below meth c (MQ below (rv_Qc D fm_cl fm_tm ad cy fm_nt Z (fun r V1 => (∃ x : Int32, r = some (.int x)) ∧ pz_F pz_LM V V1 ∧ fm_G V1)) args s 0 0 (fm_A fm_tm ad)) D fm_cl fm_tm ad cy (fm_A fm_tm ad) U 142 ls [] := by
    intro A hA hC hl_ N
    induction N with
    | zero => intro U x2 x3 ls h; omega
    | succ N ih =>
      intro U x2 x3 ls hN f1 f2 hU hr1 hs hw hl0 hl1 hl2 hl3
      obtain ⟨c1, c2, c3, c4, c5, c6, c7, c8⟩ := id hC
      have u36 : (U 80 36).toInt = (A 80 36).toInt := by rw [hU.2 80 36 (by decide)]
      have hU0 := hU
      refine fm_iload_n X d_X8_law_142 rfl hl3 ?_
      refine fm_aload_n X d_X8_law_143 rfl hl0 ?_
      refine fz_getI X 80 d_X8_law_144 lkX8_307 rfl rfl ?_
      refine fz_icmp_ge X 204 d_X8_law_147 (by decide) (fun h16 => ?_) (fun h16 => ?_)
      · skip
        refine fz_iconst X d_X8_law_204 (by decide) (fun v17 hv17 => ?_)
        refine fm_istore_n X d_X8_law_205 hs hw (by decide) (fun ls hst => ?_)
        have hl0 := hst.2.2.2.1 0 _ (by decide) hl0 rfl
        have hl1 := hst.2.2.2.1 1 _ (by decide) hl1 rfl
        have hl2 := hst.2.2.2.1 2 _ (by decide) hl2 rfl
        have hl3 := hst.2.2.1
        have hs := hst.1.trans hs
        have hw := hst.2.1
        clear hst
        exact loop2 A hA hC hl_ _ U _ _ ls (Nat.lt_succ_self _) (by omega) (by omega) hU (fun k hk => hr1 k (by omega)) (fun k hk => by omega) hs hw hl0 hl1 hl2 hl3
      · skip
        refine fm_aload_n X d_X8_law_150 rfl hl0 ?_
        refine fz_getR X 80 d_X8_law_151 lkX8_58 rfl rfl ?_
        refine fm_iload_n X d_X8_law_154 rfl hl3 ?_
        refine fm_aload_n X d_X8_law_155 rfl hl0 ?_
        refine fz_getR X 80 d_X8_law_156 lkX8_76 rfl rfl ?_
        refine fm_iload_n X d_X8_law_159 rfl hl3 ?_
        refine fz_ialoadZ X 101 d_X8_law_160 rfl (by constructor <;> omega) ?_
        refine fz_iastore X 95 d_X8_law_161 rfl (by constructor <;> omega) (fun V19 hV19 => ?_)
        have tV19_1 : (V19 80 1).toInt = (U 80 1).toInt := by rw [hV19, fm_up_ne (fun q => absurd q.1 (by decide))]
        have tV19_20 : (V19 80 20).toInt = (U 80 20).toInt := by rw [hV19, fm_up_ne (fun q => absurd q.1 (by decide))]
        have tV19_33 : (V19 80 33).toInt = (U 80 33).toInt := by rw [hV19, fm_up_ne (fun q => absurd q.1 (by decide))]
        have tV19_34 : (V19 80 34).toInt = (U 80 34).toInt := by rw [hV19, fm_up_ne (fun q => absurd q.1 (by decide))]
        have tV19_35 : (V19 80 35).toInt = (U 80 35).toInt := by rw [hV19, fm_up_ne (fun q => absurd q.1 (by decide))]
        have tV19_36 : (V19 80 36).toInt = (U 80 36).toInt := by rw [hV19, fm_up_ne (fun q => absurd q.1 (by decide))]
        have tV19_37 : (V19 80 37).toInt = (U 80 37).toInt := by rw [hV19, fm_up_ne (fun q => absurd q.1 (by decide))]
        have tV19_38 : (V19 80 38).toInt = (U 80 38).toInt := by rw [hV19, fm_up_ne (fun q => absurd q.1 (by decide))]
        have tV19_39 : (V19 80 39).toInt = (U 80 39).toInt := by rw [hV19, fm_up_ne (fun q => absurd q.1 (by decide))]
        have tV19_40 : (V19 80 40).toInt = (U 80 40).toInt := by rw [hV19, fm_up_ne (fun q => absurd q.1 (by decide))]
        have tV19_41 : (V19 80 41).toInt = (U 80 41).toInt := by rw [hV19, fm_up_ne (fun q => absurd q.1 (by decide))]
        have hU := pz_Fa hU hV19 (i := 95) rfl (zi_rng _) (by simp [rv_in])
        refine fm_aload_n X d_X8_law_162 rfl hl0 ?_
        refine fz_getR X 80 d_X8_law_163 lkX8_61 rfl rfl ?_
        refine fm_iload_n X d_X8_law_166 rfl hl3 ?_
        refine fm_aload_n X d_X8_law_167 rfl hl0 ?_
        refine fz_getR X 80 d_X8_law_168 lkX8_79 rfl rfl ?_
        refine fm_iload_n X d_X8_law_171 rfl hl3 ?_
        refine fz_ialoadZ X 102 d_X8_law_172 rfl (by constructor <;> omega) ?_
        refine fz_iastore X 96 d_X8_law_173 rfl (by constructor <;> omega) (fun V20 hV20 => ?_)
        have tV20_1 : (V20 80 1).toInt = (V19 80 1).toInt := by rw [hV20, fm_up_ne (fun q => absurd q.1 (by decide))]
        have tV20_20 : (V20 80 20).toInt = (V19 80 20).toInt := by rw [hV20, fm_up_ne (fun q => absurd q.1 (by decide))]
        have tV20_33 : (V20 80 33).toInt = (V19 80 33).toInt := by rw [hV20, fm_up_ne (fun q => absurd q.1 (by decide))]
        have tV20_34 : (V20 80 34).toInt = (V19 80 34).toInt := by rw [hV20, fm_up_ne (fun q => absurd q.1 (by decide))]
        have tV20_35 : (V20 80 35).toInt = (V19 80 35).toInt := by rw [hV20, fm_up_ne (fun q => absurd q.1 (by decide))]
        have tV20_36 : (V20 80 36).toInt = (V19 80 36).toInt := by rw [hV20, fm_up_ne (fun q => absurd q.1 (by decide))]
        have tV20_37 : (V20 80 37).toInt = (V19 80 37).toInt := by rw [hV20, fm_up_ne (fun q => absurd q.1 (by decide))]
        have tV20_38 : (V20 80 38).toInt = (V19 80 38).toInt := by rw [hV20, fm_up_ne (fun q => absurd q.1 (by decide))]
        have tV20_39 : (V20 80 39).toInt = (V19 80 39).toInt := by rw [hV20, fm_up_ne (fun q => absurd q.1 (by decide))]
        have tV20_40 : (V20 80 40).toInt = (V19 80 40).toInt := by rw [hV20, fm_up_ne (fun q => absurd q.1 (by decide))]
        have tV20_41 : (V20 80 41).toInt = (V19 80 41).toInt := by rw [hV20, fm_up_ne (fun q => absurd q.1 (by decide))]
        have hU := pz_Fa hU hV20 (i := 96) rfl (zi_rng _) (by simp [rv_in])
        refine fm_aload_n X d_X8_law_174 rfl hl0 ?_
        refine fz_getR X 80 d_X8_law_175 lkX8_64 rfl rfl ?_
        refine fm_iload_n X d_X8_law_178 rfl hl3 ?_
        refine fm_aload_n X d_X8_law_179 rfl hl0 ?_
        refine fz_getR X 80 d_X8_law_180 lkX8_82 rfl rfl ?_
        refine fm_iload_n X d_X8_law_183 rfl hl3 ?_
        refine fz_ialoadZ X 103 d_X8_law_184 rfl (by constructor <;> omega) ?_
        refine fz_iastore X 97 d_X8_law_185 rfl (by constructor <;> omega) (fun V21 hV21 => ?_)
        have tV21_1 : (V21 80 1).toInt = (V20 80 1).toInt := by rw [hV21, fm_up_ne (fun q => absurd q.1 (by decide))]
        have tV21_20 : (V21 80 20).toInt = (V20 80 20).toInt := by rw [hV21, fm_up_ne (fun q => absurd q.1 (by decide))]
        have tV21_33 : (V21 80 33).toInt = (V20 80 33).toInt := by rw [hV21, fm_up_ne (fun q => absurd q.1 (by decide))]
        have tV21_34 : (V21 80 34).toInt = (V20 80 34).toInt := by rw [hV21, fm_up_ne (fun q => absurd q.1 (by decide))]
        have tV21_35 : (V21 80 35).toInt = (V20 80 35).toInt := by rw [hV21, fm_up_ne (fun q => absurd q.1 (by decide))]
        have tV21_36 : (V21 80 36).toInt = (V20 80 36).toInt := by rw [hV21, fm_up_ne (fun q => absurd q.1 (by decide))]
        have tV21_37 : (V21 80 37).toInt = (V20 80 37).toInt := by rw [hV21, fm_up_ne (fun q => absurd q.1 (by decide))]
        have tV21_38 : (V21 80 38).toInt = (V20 80 38).toInt := by rw [hV21, fm_up_ne (fun q => absurd q.1 (by decide))]
        have tV21_39 : (V21 80 39).toInt = (V20 80 39).toInt := by rw [hV21, fm_up_ne (fun q => absurd q.1 (by decide))]
        have tV21_40 : (V21 80 40).toInt = (V20 80 40).toInt := by rw [hV21, fm_up_ne (fun q => absurd q.1 (by decide))]
        have tV21_41 : (V21 80 41).toInt = (V20 80 41).toInt := by rw [hV21, fm_up_ne (fun q => absurd q.1 (by decide))]
        have hU := pz_Fa hU hV21 (i := 97) rfl (zi_rng _) (by simp [rv_in])
        refine fm_aload_n X d_X8_law_186 rfl hl0 ?_
        refine fz_getR X 80 d_X8_law_187 lkX8_67 rfl rfl ?_
        refine fm_iload_n X d_X8_law_190 rfl hl3 ?_
        refine fm_aload_n X d_X8_law_191 rfl hl0 ?_
        refine fz_getR X 80 d_X8_law_192 lkX8_85 rfl rfl ?_
        refine fm_iload_n X d_X8_law_195 rfl hl3 ?_
        refine fz_ialoadZ X 104 d_X8_law_196 rfl (by constructor <;> omega) ?_
        refine fz_iastore X 98 d_X8_law_197 rfl (by constructor <;> omega) (fun V22 hV22 => ?_)
        have tV22_1 : (V22 80 1).toInt = (V21 80 1).toInt := by rw [hV22, fm_up_ne (fun q => absurd q.1 (by decide))]
        have tV22_20 : (V22 80 20).toInt = (V21 80 20).toInt := by rw [hV22, fm_up_ne (fun q => absurd q.1 (by decide))]
        have tV22_33 : (V22 80 33).toInt = (V21 80 33).toInt := by rw [hV22, fm_up_ne (fun q => absurd q.1 (by decide))]
        have tV22_34 : (V22 80 34).toInt = (V21 80 34).toInt := by rw [hV22, fm_up_ne (fun q => absurd q.1 (by decide))]
        have tV22_35 : (V22 80 35).toInt = (V21 80 35).toInt := by rw [hV22, fm_up_ne (fun q => absurd q.1 (by decide))]
        have tV22_36 : (V22 80 36).toInt = (V21 80 36).toInt := by rw [hV22, fm_up_ne (fun q => absurd q.1 (by decide))]
        have tV22_37 : (V22 80 37).toInt = (V21 80 37).toInt := by rw [hV22, fm_up_ne (fun q => absurd q.1 (by decide))]
        have tV22_38 : (V22 80 38).toInt = (V21 80 38).toInt := by rw [hV22, fm_up_ne (fun q => absurd q.1 (by decide))]
        have tV22_39 : (V22 80 39).toInt = (V21 80 39).toInt := by rw [hV22, fm_up_ne (fun q => absurd q.1 (by decide))]
        have tV22_40 : (V22 80 40).toInt = (V21 80 40).toInt := by rw [hV22, fm_up_ne (fun q => absurd q.1 (by decide))]
        have tV22_41 : (V22 80 41).toInt = (V21 80 41).toInt := by rw [hV22, fm_up_ne (fun q => absurd q.1 (by decide))]
        have hU := pz_Fa hU hV22 (i := 98) rfl (zi_rng _) (by simp [rv_in])
        refine fm_iinc X d_X8_law_198 hl3 hs hw (by decide) (fun ls hst => ?_)
        have hl0 := hst.2.2.2.1 0 _ (by decide) hl0 rfl
        have hl1 := hst.2.2.2.1 1 _ (by decide) hl1 rfl
        have hl2 := hst.2.2.2.1 2 _ (by decide) hl2 rfl
        obtain ⟨z23, hz23⟩ : ∃ z : Int32, z.toInt = (x3).toInt + 1 ∧ ls[3]? = some (.val (.int z)) := ⟨_, zi_inc (by omega) (by omega) (by decide) (by decide), hst.2.2.1⟩
        have hl3 := hz23.2
        have hz23 := hz23.1
        have hs := hst.1.trans hs
        have hw := hst.2.1
        clear hst
        refine fz_goto X 142 d_X8_law_201 (by decide) ?_
        refine ih V22 _ _ ls (by omega) (by omega) (by omega) hU (fun k hk => ?_) hs hw hl0 hl1 hl2 hl3
        by_cases e : k = x3.toInt.toNat
        · have a0 : V22 96 k = U 102 x3.toInt.toNat ∧ V22 97 k = U 103 x3.toInt.toNat ∧ V22 98 k = U 104 x3.toInt.toNat := by rw [hV22, hV21, hV20, hV19]; exact ⟨by simp [fm_up, e, -Int32.toNat_toInt], by simp [fm_up, e, -Int32.toNat_toInt], by simp [fm_up, e, -Int32.toNat_toInt]⟩
          rw [a0.1, a0.2.1, a0.2.2, e, hU0.2 102 _ (by simp [rv_in]), hU0.2 103 _ (by simp [rv_in]), hU0.2 104 _ (by simp [rv_in])]
          exact ⟨rfl, rfl, rfl⟩
        · have a0 : V22 96 k = U 96 k ∧ V22 97 k = U 97 k ∧ V22 98 k = U 98 k := by rw [hV22, hV21, hV20, hV19]; exact ⟨by simp [fm_up, e, -Int32.toNat_toInt], by simp [fm_up, e, -Int32.toNat_toInt], by simp [fm_up, e, -Int32.toNat_toInt]⟩
          rw [a0.1, a0.2.1, a0.2.2]; exact hr1 k (by omega)
  have tail : ∀ (W : fm_V) (x2 : Int32) (ls : Array Slot), pz_F pz_L0 V W → pz_C W → ((W 80 35).toInt = 0 → lw_ W) → ls.size = 4 → lv_wf ls → ls[0]? = some (.val (.ref (ad 80))) → ls[1]? = some (.val (.int x1)) → ls[2]? = some (.val (.int x2)) → fm_W p l e { frames := 8, cells := 0, slots := 0, locals := 800 } s m args below meth c (MQ below (rv_Qc D fm_cl fm_tm ad cy fm_nt Z (fun r V1 => (∃ x : Int32, r = some (.int x)) ∧ pz_F pz_LM V V1 ∧ fm_G V1)) args s 0 0 (fm_A fm_tm ad)) D fm_cl fm_tm ad cy (fm_A fm_tm ad) W 128 ls [] := by
    intro W x2 ls hW hC hl_ hs hw hl0 hl1 hl2
    obtain ⟨c1, c2, c3, c4, c5, c6, c7, c8⟩ := id hC
    refine fm_aload_n X d_X8_law_128 rfl hl0 ?_
    refine fz_getI X 80 d_X8_law_129 lkX8_214 rfl rfl ?_
    refine fz_if_ge X 140 d_X8_law_132 (by decide) (fun h24 => ?_) (fun h24 => ?_)
    · skip
      refine fz_iconst X d_X8_law_140 (by decide) (fun v25 hv25 => ?_)
      refine fm_istore_n X d_X8_law_141 hs hw (by decide) (fun ls hst => ?_)
      have hl0 := hst.2.2.2.1 0 _ (by decide) hl0 rfl
      have hl1 := hst.2.2.2.1 1 _ (by decide) hl1 rfl
      have hl2 := hst.2.2.2.1 2 _ (by decide) hl2 rfl
      have hl3 := hst.2.2.1
      have hs := hst.1.trans hs
      have hw := hst.2.1
      clear hst
      exact loop1 W hW hC (hl_ (by omega)) _ W _ _ ls (Nat.lt_succ_self _) (by omega) (by omega) (pz_Fr hW.1) (fun k hk => by omega) hs hw hl0 hl1 hl2 hl3
    · skip
      refine fm_aload_n X d_X8_law_135 rfl hl0 ?_
      refine fz_getI X 80 d_X8_law_136 lkX8_214 rfl rfl ?_
      refine gm_iret X Y hr hlk d_X8_law_139 ⟨⟨_, rfl⟩, hFm W hW, hGm W hW⟩
  have exit : ∀ (W : fm_V) (x2 : Int32) (ls : Array Slot), x2.toInt = 0 → pz_F pz_L0 V W → pz_C W → ((W 80 35).toInt = 0 → lw_ W) → ls.size = 4 → lv_wf ls → ls[0]? = some (.val (.ref (ad 80))) → ls[1]? = some (.val (.int x1)) → ls[2]? = some (.val (.int x2)) → fm_W p l e { frames := 8, cells := 0, slots := 0, locals := 800 } s m args below meth c (MQ below (rv_Qc D fm_cl fm_tm ad cy fm_nt Z (fun r V1 => (∃ x : Int32, r = some (.int x)) ∧ pz_F pz_LM V V1 ∧ fm_G V1)) args s 0 0 (fm_A fm_tm ad)) D fm_cl fm_tm ad cy (fm_A fm_tm ad) W 54 ls [] := by
    intro W x2 ls hx hW hC hl_ hs hw hl0 hl1 hl2
    refine fm_iload_n X d_X8_law_54 rfl hl2 ?_
    refine fz_if_eq X 128 d_X8_law_55 (by decide) (fun _ => tail W x2 ls hW hC hl_ hs hw hl0 hl1 hl2) (fun q => absurd hx q)
  have loop : ∀ (N : Nat), ∀ (W : fm_V) (x2 : Int32) (ls : Array Slot), ((W 80 34).toInt - (W 80 33).toInt).toNat < N → pz_F pz_L0 V W → pz_C W → ((W 80 35).toInt = 0 → lw_ W) → ls.size = 4 → lv_wf ls → ls[0]? = some (.val (.ref (ad 80))) → ls[1]? = some (.val (.int x1)) → ls[2]? = some (.val (.int x2)) → fm_W p l e { frames := 8, cells := 0, slots := 0, locals := 800 } s m args below meth c (MQ below (rv_Qc D fm_cl fm_tm ad cy fm_nt Z (fun r V1 => (∃ x : Int32, r = some (.int x)) ∧ pz_F pz_LM V V1 ∧ fm_G V1)) args s 0 0 (fm_A fm_tm ad)) D fm_cl fm_tm ad cy (fm_A fm_tm ad) W 54 ls [] := by
    intro N
    induction N with
    | zero => intro W x2 ls h; omega
    | succ N ih =>
      intro W x2 ls hN hW hC hl_ hs hw hl0 hl1 hl2
      obtain ⟨c1, c2, c3, c4, c5, c6, c7, c8⟩ := id hC
      refine fm_iload_n X d_X8_law_54 rfl hl2 ?_
      refine fz_if_eq X 128 d_X8_law_55 (by decide) (fun h27 => ?_) (fun h27 => ?_)
      · skip
        exact tail W x2 ls hW hC hl_ hs hw hl0 hl1 hl2
      · skip
        refine fm_aload_n X d_X8_law_58 rfl hl0 ?_
        refine gm_callV X Y fm_Ts_good d_X8_law_59 (g_isGood hAd hZ (V := W)) wl_X8_217 wm_X8_isGood wy_X8_isGood (by decide) ⟨rfl, rfl⟩ (rest := []) rfl rfl hs (by simp [Value.category]) (fun r V28 hp => ?_)
        obtain ⟨rfl, x29, rfl, hzx29, hx29⟩ := hp
        show fm_W p l e { frames := 8, cells := 0, slots := 0, locals := 800 } s m args below meth c (MQ below (rv_Qc D fm_cl fm_tm ad cy fm_nt Z (fun r V1 => (∃ x : Int32, r = some (.int x)) ∧ pz_F pz_LM V V1 ∧ fm_G V1)) args s 0 0 (fm_A fm_tm ad)) D fm_cl fm_tm ad cy (fm_A fm_tm ad) W 62 ls [.int x29]
        refine fz_if_eq X 128 d_X8_law_62 (by decide) (fun h30 => ?_) (fun h30 => ?_)
        · skip
          exact tail W x2 ls hW hC hl_ hs hw hl0 hl1 hl2
        · skip
          refine fm_aload_n X d_X8_law_65 rfl hl0 ?_
          refine gm_callV X Y fm_Ts_good d_X8_law_66 (g_clause hAd hZ (V := W) hW.1 hC (by omega) (hl_ (by omega))) wl_X8_315 wm_X8_clause wy_X8_clause (by decide) ⟨rfl, rfl⟩ (rest := []) rfl rfl hs (by simp [Value.category]) (fun r V31 hp => ?_)
          obtain ⟨rfl, hF2, hC, k1, hl_⟩ := hp
          obtain ⟨d1, d2, d3, d4, d5, d6, d7, d8⟩ := id hC
          have e34 : (V31 80 34).toInt = (W 80 34).toInt := by rw [hF2.2 80 34 (by decide)]
          have hW := pz_Ft hW hF2 (by decide)
          show fm_W p l e { frames := 8, cells := 0, slots := 0, locals := 800 } s m args below meth c (MQ below (rv_Qc D fm_cl fm_tm ad cy fm_nt Z (fun r V1 => (∃ x : Int32, r = some (.int x)) ∧ pz_F pz_LM V V1 ∧ fm_G V1)) args s 0 0 (fm_A fm_tm ad)) D fm_cl fm_tm ad cy (fm_A fm_tm ad) V31 69 ls []
          refine fm_aload_n X d_X8_law_69 rfl hl0 ?_
          refine gm_callV X Y fm_Ts_good d_X8_law_70 (g_isGood hAd hZ (V := V31)) wl_X8_217 wm_X8_isGood wy_X8_isGood (by decide) ⟨rfl, rfl⟩ (rest := []) rfl rfl hs (by simp [Value.category]) (fun r V33 hp => ?_)
          obtain ⟨rfl, x34, rfl, hzx34, hx34⟩ := hp
          show fm_W p l e { frames := 8, cells := 0, slots := 0, locals := 800 } s m args below meth c (MQ below (rv_Qc D fm_cl fm_tm ad cy fm_nt Z (fun r V1 => (∃ x : Int32, r = some (.int x)) ∧ pz_F pz_LM V V1 ∧ fm_G V1)) args s 0 0 (fm_A fm_tm ad)) D fm_cl fm_tm ad cy (fm_A fm_tm ad) V31 73 ls [.int x34]
          refine fz_if_eq X 91 d_X8_law_73 (by decide) (fun h35 => ?_) (fun h35 => ?_)
          · skip
            refine fz_iconst X d_X8_law_91 (by decide) (fun v36 hv36 => ?_)
            refine fm_istore_n X d_X8_law_92 hs hw (by decide) (fun ls hst => ?_)
            have hl0 := hst.2.2.2.1 0 _ (by decide) hl0 rfl
            have hl1 := hst.2.2.2.1 1 _ (by decide) hl1 rfl
            have hl2 := hst.2.2.1
            have hs := hst.1.trans hs
            have hw := hst.2.1
            clear hst
            refine fm_iload_n X d_X8_law_93 rfl hl2 ?_
            refine fz_if_eq X 54 d_X8_law_94 (by decide) (fun h38 => ?_) (fun h38 => ?_)
            · skip
              first | exact exit _ _ ls hv36 hW hC hl_ hs hw hl0 hl1 hl2 | exact exit _ _ ls (by omega) hW hC hl_ hs hw hl0 hl1 hl2 | omega
            · skip
              refine fm_aload_n X d_X8_law_97 rfl hl0 ?_
              refine gm_callV X Y fm_Ts_good d_X8_law_98 (g_here hAd hZ (V := V31) (by omega) (by omega)) wl_X8_234 wm_X8_here wy_X8_here (by decide) ⟨rfl, rfl⟩ (rest := []) rfl rfl hs (by simp [Value.category]) (fun r V39 hp => ?_)
              obtain ⟨rfl, x40, rfl, hx40⟩ := hp
              show fm_W p l e { frames := 8, cells := 0, slots := 0, locals := 800 } s m args below meth c (MQ below (rv_Qc D fm_cl fm_tm ad cy fm_nt Z (fun r V1 => (∃ x : Int32, r = some (.int x)) ∧ pz_F pz_LM V V1 ∧ fm_G V1)) args s 0 0 (fm_A fm_tm ad)) D fm_cl fm_tm ad cy (fm_A fm_tm ad) V31 101 ls [.int x40]
              refine fz_bipush X d_X8_law_101 (by decide) (fun v41 hv41 => ?_)
              refine fz_icmp_eq X 115 d_X8_law_103 (by decide) (fun h42 => ?_) (fun h42 => ?_)
              · skip
                refine fm_aload_n X d_X8_law_115 rfl hl0 ?_
                refine fm_dup X d_X8_law_116 rfl ?_
                refine fz_getI X 80 d_X8_law_117 lkX8_208 rfl rfl ?_
                refine fz_iconst X d_X8_law_120 (by decide) (fun v43 hv43 => ?_)
                refine fz_iadd X d_X8_law_121 (by constructor <;> omega) (fun z44 hz44 => ?_)
                refine fz_put X 80 d_X8_law_122 lkX8_208 wr_8_33 rfl rfl (by first | exact Or.inl rfl | (refine Or.inr ?_; constructor <;> omega)) (fun V45 hV45 => ?_)
                have tV45_1 : (V45 80 1).toInt = (V31 80 1).toInt := by rw [hV45, fm_up_ne (by decide)]
                have tV45_20 : (V45 80 20).toInt = (V31 80 20).toInt := by rw [hV45, fm_up_ne (by decide)]
                have tV45_33 : (V45 80 33).toInt = (z44).toInt := by rw [hV45, fm_up_self]
                have tV45_34 : (V45 80 34).toInt = (V31 80 34).toInt := by rw [hV45, fm_up_ne (by decide)]
                have tV45_35 : (V45 80 35).toInt = (V31 80 35).toInt := by rw [hV45, fm_up_ne (by decide)]
                have tV45_36 : (V45 80 36).toInt = (V31 80 36).toInt := by rw [hV45, fm_up_ne (by decide)]
                have tV45_37 : (V45 80 37).toInt = (V31 80 37).toInt := by rw [hV45, fm_up_ne (by decide)]
                have tV45_38 : (V45 80 38).toInt = (V31 80 38).toInt := by rw [hV45, fm_up_ne (by decide)]
                have tV45_39 : (V45 80 39).toInt = (V31 80 39).toInt := by rw [hV45, fm_up_ne (by decide)]
                have tV45_40 : (V45 80 40).toInt = (V31 80 40).toInt := by rw [hV45, fm_up_ne (by decide)]
                have tV45_41 : (V45 80 41).toInt = (V31 80 41).toInt := by rw [hV45, fm_up_ne (by decide)]
                have hW := pz_Fo hW hV45 rfl rfl (zi_rng _) (by decide)
                have hC : pz_C V45 := by unfold pz_C; omega
                have hl_ : (V45 80 35).toInt = 0 → lw_ V45 := fun q => by
                  have z := hl_ (by omega)
                  unfold lw_ at z ⊢
                  have er : ∀ i k, i ≠ 80 → V45 i k = V31 i k := fun i k hi => by rw [hV45, fm_up_ne (fun q => hi q.1)]
                  have e105 : V45 105 = V31 105 := funext fun k => er 105 k (by decide)
                  intro k hk
                  rw [er 102 k (by decide), er 103 k (by decide), er 104 k (by decide), e105]
                  obtain ⟨a, b, c, h1, h2, h3, h4, h5, h6, h7, h8⟩ := z k (by omega)
                  exact ⟨a, b, c, h1, h2, h3, h4, h5, by omega, h7, h8⟩
                refine fz_goto X 54 d_X8_law_125 (by decide) ?_
                exact ih _ _ ls (by omega) hW hC hl_ hs hw hl0 hl1 hl2
              · skip
                refine fm_aload_n X d_X8_law_106 rfl hl0 ?_
                refine fz_iconst X d_X8_law_107 (by decide) (fun v46 hv46 => ?_)
                refine fm_aload_n X d_X8_law_108 rfl hl0 ?_
                refine fz_getI X 80 d_X8_law_109 lkX8_208 rfl rfl ?_
                refine gm_callV X Y fm_Ts_good d_X8_law_112 (g_wrongs hAd hZ (V := V31) (by omega) (by omega) (by omega)) wl_X8_230 wm_X8_wrongs wy_X8_wrongs (by decide) ⟨rfl, rfl⟩ (rest := []) rfl rfl hs (by simp [Value.category]) (fun r V47 hp => ?_)
                obtain ⟨rfl, yx48, hyx48, hV47⟩ := hp
                have tV47_1 : (V47 80 1).toInt = (V31 80 1).toInt := by rw [hV47, fm_up_ne (by decide)]
                have tV47_20 : (V47 80 20).toInt = (V31 80 20).toInt := by rw [hV47, fm_up_ne (by decide)]
                have tV47_33 : (V47 80 33).toInt = (V31 80 33).toInt := by rw [hV47, fm_up_ne (by decide)]
                have tV47_34 : (V47 80 34).toInt = (V31 80 34).toInt := by rw [hV47, fm_up_ne (by decide)]
                have tV47_35 : (V47 80 35).toInt = (yx48).toInt := by rw [hV47, fm_up_self]
                have tV47_36 : (V47 80 36).toInt = (V31 80 36).toInt := by rw [hV47, fm_up_ne (by decide)]
                have tV47_37 : (V47 80 37).toInt = (V31 80 37).toInt := by rw [hV47, fm_up_ne (by decide)]
                have tV47_38 : (V47 80 38).toInt = (V31 80 38).toInt := by rw [hV47, fm_up_ne (by decide)]
                have tV47_39 : (V47 80 39).toInt = (V31 80 39).toInt := by rw [hV47, fm_up_ne (by decide)]
                have tV47_40 : (V47 80 40).toInt = (V31 80 40).toInt := by rw [hV47, fm_up_ne (by decide)]
                have tV47_41 : (V47 80 41).toInt = (V31 80 41).toInt := by rw [hV47, fm_up_ne (by decide)]
                show fm_W p l e { frames := 8, cells := 0, slots := 0, locals := 800 } s m args below meth c (MQ below (rv_Qc D fm_cl fm_tm ad cy fm_nt Z (fun r V1 => (∃ x : Int32, r = some (.int x)) ∧ pz_F pz_LM V V1 ∧ fm_G V1)) args s 0 0 (fm_A fm_tm ad)) D fm_cl fm_tm ad cy (fm_A fm_tm ad) V47 115 ls []
                have hW := pz_Fo hW hV47 rfl rfl (zi_rng _) (by decide)
                have hl_ : (V47 80 35).toInt = 0 → lw_ V47 := fun q => by omega
                refine fm_aload_n X d_X8_law_115 rfl hl0 ?_
                refine fm_dup X d_X8_law_116 rfl ?_
                refine fz_getI X 80 d_X8_law_117 lkX8_208 rfl rfl ?_
                refine fz_iconst X d_X8_law_120 (by decide) (fun v49 hv49 => ?_)
                refine fz_iadd X d_X8_law_121 (by constructor <;> omega) (fun z50 hz50 => ?_)
                refine fz_put X 80 d_X8_law_122 lkX8_208 wr_8_33 rfl rfl (by first | exact Or.inl rfl | (refine Or.inr ?_; constructor <;> omega)) (fun V51 hV51 => ?_)
                have tV51_1 : (V51 80 1).toInt = (V47 80 1).toInt := by rw [hV51, fm_up_ne (by decide)]
                have tV51_20 : (V51 80 20).toInt = (V47 80 20).toInt := by rw [hV51, fm_up_ne (by decide)]
                have tV51_33 : (V51 80 33).toInt = (z50).toInt := by rw [hV51, fm_up_self]
                have tV51_34 : (V51 80 34).toInt = (V47 80 34).toInt := by rw [hV51, fm_up_ne (by decide)]
                have tV51_35 : (V51 80 35).toInt = (V47 80 35).toInt := by rw [hV51, fm_up_ne (by decide)]
                have tV51_36 : (V51 80 36).toInt = (V47 80 36).toInt := by rw [hV51, fm_up_ne (by decide)]
                have tV51_37 : (V51 80 37).toInt = (V47 80 37).toInt := by rw [hV51, fm_up_ne (by decide)]
                have tV51_38 : (V51 80 38).toInt = (V47 80 38).toInt := by rw [hV51, fm_up_ne (by decide)]
                have tV51_39 : (V51 80 39).toInt = (V47 80 39).toInt := by rw [hV51, fm_up_ne (by decide)]
                have tV51_40 : (V51 80 40).toInt = (V47 80 40).toInt := by rw [hV51, fm_up_ne (by decide)]
                have tV51_41 : (V51 80 41).toInt = (V47 80 41).toInt := by rw [hV51, fm_up_ne (by decide)]
                have hW := pz_Fo hW hV51 rfl rfl (zi_rng _) (by decide)
                have hC : pz_C V51 := by unfold pz_C; omega
                have hl_ : (V51 80 35).toInt = 0 → lw_ V51 := fun q => by
                  have z := hl_ (by omega)
                  unfold lw_ at z ⊢
                  have er : ∀ i k, i ≠ 80 → V51 i k = V47 i k := fun i k hi => by rw [hV51, fm_up_ne (fun q => hi q.1)]
                  have e105 : V51 105 = V47 105 := funext fun k => er 105 k (by decide)
                  intro k hk
                  rw [er 102 k (by decide), er 103 k (by decide), er 104 k (by decide), e105]
                  obtain ⟨a, b, c, h1, h2, h3, h4, h5, h6, h7, h8⟩ := z k (by omega)
                  exact ⟨a, b, c, h1, h2, h3, h4, h5, by omega, h7, h8⟩
                refine fz_goto X 54 d_X8_law_125 (by decide) ?_
                exact ih _ _ ls (by omega) hW hC hl_ hs hw hl0 hl1 hl2
          · skip
            refine fm_aload_n X d_X8_law_76 rfl hl0 ?_
            refine fz_getI X 80 d_X8_law_77 lkX8_208 rfl rfl ?_
            refine fm_aload_n X d_X8_law_80 rfl hl0 ?_
            refine fz_getI X 80 d_X8_law_81 lkX8_211 rfl rfl ?_
            refine fz_icmp_ge X 91 d_X8_law_84 (by decide) (fun h52 => ?_) (fun h52 => ?_)
            · skip
              refine fz_iconst X d_X8_law_91 (by decide) (fun v53 hv53 => ?_)
              refine fm_istore_n X d_X8_law_92 hs hw (by decide) (fun ls hst => ?_)
              have hl0 := hst.2.2.2.1 0 _ (by decide) hl0 rfl
              have hl1 := hst.2.2.2.1 1 _ (by decide) hl1 rfl
              have hl2 := hst.2.2.1
              have hs := hst.1.trans hs
              have hw := hst.2.1
              clear hst
              refine fm_iload_n X d_X8_law_93 rfl hl2 ?_
              refine fz_if_eq X 54 d_X8_law_94 (by decide) (fun h55 => ?_) (fun h55 => ?_)
              · skip
                first | exact exit _ _ ls hv53 hW hC hl_ hs hw hl0 hl1 hl2 | exact exit _ _ ls (by omega) hW hC hl_ hs hw hl0 hl1 hl2 | omega
              · skip
                refine fm_aload_n X d_X8_law_97 rfl hl0 ?_
                refine gm_callV X Y fm_Ts_good d_X8_law_98 (g_here hAd hZ (V := V31) (by omega) (by omega)) wl_X8_234 wm_X8_here wy_X8_here (by decide) ⟨rfl, rfl⟩ (rest := []) rfl rfl hs (by simp [Value.category]) (fun r V56 hp => ?_)
                obtain ⟨rfl, x57, rfl, hx57⟩ := hp
                show fm_W p l e { frames := 8, cells := 0, slots := 0, locals := 800 } s m args below meth c (MQ below (rv_Qc D fm_cl fm_tm ad cy fm_nt Z (fun r V1 => (∃ x : Int32, r = some (.int x)) ∧ pz_F pz_LM V V1 ∧ fm_G V1)) args s 0 0 (fm_A fm_tm ad)) D fm_cl fm_tm ad cy (fm_A fm_tm ad) V31 101 ls [.int x57]
                refine fz_bipush X d_X8_law_101 (by decide) (fun v58 hv58 => ?_)
                refine fz_icmp_eq X 115 d_X8_law_103 (by decide) (fun h59 => ?_) (fun h59 => ?_)
                · skip
                  refine fm_aload_n X d_X8_law_115 rfl hl0 ?_
                  refine fm_dup X d_X8_law_116 rfl ?_
                  refine fz_getI X 80 d_X8_law_117 lkX8_208 rfl rfl ?_
                  refine fz_iconst X d_X8_law_120 (by decide) (fun v60 hv60 => ?_)
                  refine fz_iadd X d_X8_law_121 (by constructor <;> omega) (fun z61 hz61 => ?_)
                  refine fz_put X 80 d_X8_law_122 lkX8_208 wr_8_33 rfl rfl (by first | exact Or.inl rfl | (refine Or.inr ?_; constructor <;> omega)) (fun V62 hV62 => ?_)
                  have tV62_1 : (V62 80 1).toInt = (V31 80 1).toInt := by rw [hV62, fm_up_ne (by decide)]
                  have tV62_20 : (V62 80 20).toInt = (V31 80 20).toInt := by rw [hV62, fm_up_ne (by decide)]
                  have tV62_33 : (V62 80 33).toInt = (z61).toInt := by rw [hV62, fm_up_self]
                  have tV62_34 : (V62 80 34).toInt = (V31 80 34).toInt := by rw [hV62, fm_up_ne (by decide)]
                  have tV62_35 : (V62 80 35).toInt = (V31 80 35).toInt := by rw [hV62, fm_up_ne (by decide)]
                  have tV62_36 : (V62 80 36).toInt = (V31 80 36).toInt := by rw [hV62, fm_up_ne (by decide)]
                  have tV62_37 : (V62 80 37).toInt = (V31 80 37).toInt := by rw [hV62, fm_up_ne (by decide)]
                  have tV62_38 : (V62 80 38).toInt = (V31 80 38).toInt := by rw [hV62, fm_up_ne (by decide)]
                  have tV62_39 : (V62 80 39).toInt = (V31 80 39).toInt := by rw [hV62, fm_up_ne (by decide)]
                  have tV62_40 : (V62 80 40).toInt = (V31 80 40).toInt := by rw [hV62, fm_up_ne (by decide)]
                  have tV62_41 : (V62 80 41).toInt = (V31 80 41).toInt := by rw [hV62, fm_up_ne (by decide)]
                  have hW := pz_Fo hW hV62 rfl rfl (zi_rng _) (by decide)
                  have hC : pz_C V62 := by unfold pz_C; omega
                  have hl_ : (V62 80 35).toInt = 0 → lw_ V62 := fun q => by
                    have z := hl_ (by omega)
                    unfold lw_ at z ⊢
                    have er : ∀ i k, i ≠ 80 → V62 i k = V31 i k := fun i k hi => by rw [hV62, fm_up_ne (fun q => hi q.1)]
                    have e105 : V62 105 = V31 105 := funext fun k => er 105 k (by decide)
                    intro k hk
                    rw [er 102 k (by decide), er 103 k (by decide), er 104 k (by decide), e105]
                    obtain ⟨a, b, c, h1, h2, h3, h4, h5, h6, h7, h8⟩ := z k (by omega)
                    exact ⟨a, b, c, h1, h2, h3, h4, h5, by omega, h7, h8⟩
                  refine fz_goto X 54 d_X8_law_125 (by decide) ?_
                  exact ih _ _ ls (by omega) hW hC hl_ hs hw hl0 hl1 hl2
                · skip
                  refine fm_aload_n X d_X8_law_106 rfl hl0 ?_
                  refine fz_iconst X d_X8_law_107 (by decide) (fun v63 hv63 => ?_)
                  refine fm_aload_n X d_X8_law_108 rfl hl0 ?_
                  refine fz_getI X 80 d_X8_law_109 lkX8_208 rfl rfl ?_
                  refine gm_callV X Y fm_Ts_good d_X8_law_112 (g_wrongs hAd hZ (V := V31) (by omega) (by omega) (by omega)) wl_X8_230 wm_X8_wrongs wy_X8_wrongs (by decide) ⟨rfl, rfl⟩ (rest := []) rfl rfl hs (by simp [Value.category]) (fun r V64 hp => ?_)
                  obtain ⟨rfl, yx65, hyx65, hV64⟩ := hp
                  have tV64_1 : (V64 80 1).toInt = (V31 80 1).toInt := by rw [hV64, fm_up_ne (by decide)]
                  have tV64_20 : (V64 80 20).toInt = (V31 80 20).toInt := by rw [hV64, fm_up_ne (by decide)]
                  have tV64_33 : (V64 80 33).toInt = (V31 80 33).toInt := by rw [hV64, fm_up_ne (by decide)]
                  have tV64_34 : (V64 80 34).toInt = (V31 80 34).toInt := by rw [hV64, fm_up_ne (by decide)]
                  have tV64_35 : (V64 80 35).toInt = (yx65).toInt := by rw [hV64, fm_up_self]
                  have tV64_36 : (V64 80 36).toInt = (V31 80 36).toInt := by rw [hV64, fm_up_ne (by decide)]
                  have tV64_37 : (V64 80 37).toInt = (V31 80 37).toInt := by rw [hV64, fm_up_ne (by decide)]
                  have tV64_38 : (V64 80 38).toInt = (V31 80 38).toInt := by rw [hV64, fm_up_ne (by decide)]
                  have tV64_39 : (V64 80 39).toInt = (V31 80 39).toInt := by rw [hV64, fm_up_ne (by decide)]
                  have tV64_40 : (V64 80 40).toInt = (V31 80 40).toInt := by rw [hV64, fm_up_ne (by decide)]
                  have tV64_41 : (V64 80 41).toInt = (V31 80 41).toInt := by rw [hV64, fm_up_ne (by decide)]
                  show fm_W p l e { frames := 8, cells := 0, slots := 0, locals := 800 } s m args below meth c (MQ below (rv_Qc D fm_cl fm_tm ad cy fm_nt Z (fun r V1 => (∃ x : Int32, r = some (.int x)) ∧ pz_F pz_LM V V1 ∧ fm_G V1)) args s 0 0 (fm_A fm_tm ad)) D fm_cl fm_tm ad cy (fm_A fm_tm ad) V64 115 ls []
                  have hW := pz_Fo hW hV64 rfl rfl (zi_rng _) (by decide)
                  have hl_ : (V64 80 35).toInt = 0 → lw_ V64 := fun q => by omega
                  refine fm_aload_n X d_X8_law_115 rfl hl0 ?_
                  refine fm_dup X d_X8_law_116 rfl ?_
                  refine fz_getI X 80 d_X8_law_117 lkX8_208 rfl rfl ?_
                  refine fz_iconst X d_X8_law_120 (by decide) (fun v66 hv66 => ?_)
                  refine fz_iadd X d_X8_law_121 (by constructor <;> omega) (fun z67 hz67 => ?_)
                  refine fz_put X 80 d_X8_law_122 lkX8_208 wr_8_33 rfl rfl (by first | exact Or.inl rfl | (refine Or.inr ?_; constructor <;> omega)) (fun V68 hV68 => ?_)
                  have tV68_1 : (V68 80 1).toInt = (V64 80 1).toInt := by rw [hV68, fm_up_ne (by decide)]
                  have tV68_20 : (V68 80 20).toInt = (V64 80 20).toInt := by rw [hV68, fm_up_ne (by decide)]
                  have tV68_33 : (V68 80 33).toInt = (z67).toInt := by rw [hV68, fm_up_self]
                  have tV68_34 : (V68 80 34).toInt = (V64 80 34).toInt := by rw [hV68, fm_up_ne (by decide)]
                  have tV68_35 : (V68 80 35).toInt = (V64 80 35).toInt := by rw [hV68, fm_up_ne (by decide)]
                  have tV68_36 : (V68 80 36).toInt = (V64 80 36).toInt := by rw [hV68, fm_up_ne (by decide)]
                  have tV68_37 : (V68 80 37).toInt = (V64 80 37).toInt := by rw [hV68, fm_up_ne (by decide)]
                  have tV68_38 : (V68 80 38).toInt = (V64 80 38).toInt := by rw [hV68, fm_up_ne (by decide)]
                  have tV68_39 : (V68 80 39).toInt = (V64 80 39).toInt := by rw [hV68, fm_up_ne (by decide)]
                  have tV68_40 : (V68 80 40).toInt = (V64 80 40).toInt := by rw [hV68, fm_up_ne (by decide)]
                  have tV68_41 : (V68 80 41).toInt = (V64 80 41).toInt := by rw [hV68, fm_up_ne (by decide)]
                  have hW := pz_Fo hW hV68 rfl rfl (zi_rng _) (by decide)
                  have hC : pz_C V68 := by unfold pz_C; omega
                  have hl_ : (V68 80 35).toInt = 0 → lw_ V68 := fun q => by
                    have z := hl_ (by omega)
                    unfold lw_ at z ⊢
                    have er : ∀ i k, i ≠ 80 → V68 i k = V64 i k := fun i k hi => by rw [hV68, fm_up_ne (fun q => hi q.1)]
                    have e105 : V68 105 = V64 105 := funext fun k => er 105 k (by decide)
                    intro k hk
                    rw [er 102 k (by decide), er 103 k (by decide), er 104 k (by decide), e105]
                    obtain ⟨a, b, c, h1, h2, h3, h4, h5, h6, h7, h8⟩ := z k (by omega)
                    exact ⟨a, b, c, h1, h2, h3, h4, h5, by omega, h7, h8⟩
                  refine fz_goto X 54 d_X8_law_125 (by decide) ?_
                  exact ih _ _ ls (by omega) hW hC hl_ hs hw hl0 hl1 hl2
            · skip
              refine fz_iconst X d_X8_law_87 (by decide) (fun v69 hv69 => ?_)
              refine fz_goto X 92 d_X8_law_88 (by decide) ?_
              refine fm_istore_n X d_X8_law_92 hs hw (by decide) (fun ls hst => ?_)
              have hl0 := hst.2.2.2.1 0 _ (by decide) hl0 rfl
              have hl1 := hst.2.2.2.1 1 _ (by decide) hl1 rfl
              have hl2 := hst.2.2.1
              have hs := hst.1.trans hs
              have hw := hst.2.1
              clear hst
              refine fm_iload_n X d_X8_law_93 rfl hl2 ?_
              refine fz_if_eq X 54 d_X8_law_94 (by decide) (fun h71 => ?_) (fun h71 => ?_)
              · skip
                first | exact exit _ _ ls hv69 hW hC hl_ hs hw hl0 hl1 hl2 | exact exit _ _ ls (by omega) hW hC hl_ hs hw hl0 hl1 hl2 | omega
              · skip
                refine fm_aload_n X d_X8_law_97 rfl hl0 ?_
                refine gm_callV X Y fm_Ts_good d_X8_law_98 (g_here hAd hZ (V := V31) (by omega) (by omega)) wl_X8_234 wm_X8_here wy_X8_here (by decide) ⟨rfl, rfl⟩ (rest := []) rfl rfl hs (by simp [Value.category]) (fun r V72 hp => ?_)
                obtain ⟨rfl, x73, rfl, hx73⟩ := hp
                show fm_W p l e { frames := 8, cells := 0, slots := 0, locals := 800 } s m args below meth c (MQ below (rv_Qc D fm_cl fm_tm ad cy fm_nt Z (fun r V1 => (∃ x : Int32, r = some (.int x)) ∧ pz_F pz_LM V V1 ∧ fm_G V1)) args s 0 0 (fm_A fm_tm ad)) D fm_cl fm_tm ad cy (fm_A fm_tm ad) V31 101 ls [.int x73]
                refine fz_bipush X d_X8_law_101 (by decide) (fun v74 hv74 => ?_)
                refine fz_icmp_eq X 115 d_X8_law_103 (by decide) (fun h75 => ?_) (fun h75 => ?_)
                · skip
                  refine fm_aload_n X d_X8_law_115 rfl hl0 ?_
                  refine fm_dup X d_X8_law_116 rfl ?_
                  refine fz_getI X 80 d_X8_law_117 lkX8_208 rfl rfl ?_
                  refine fz_iconst X d_X8_law_120 (by decide) (fun v76 hv76 => ?_)
                  refine fz_iadd X d_X8_law_121 (by constructor <;> omega) (fun z77 hz77 => ?_)
                  refine fz_put X 80 d_X8_law_122 lkX8_208 wr_8_33 rfl rfl (by first | exact Or.inl rfl | (refine Or.inr ?_; constructor <;> omega)) (fun V78 hV78 => ?_)
                  have tV78_1 : (V78 80 1).toInt = (V31 80 1).toInt := by rw [hV78, fm_up_ne (by decide)]
                  have tV78_20 : (V78 80 20).toInt = (V31 80 20).toInt := by rw [hV78, fm_up_ne (by decide)]
                  have tV78_33 : (V78 80 33).toInt = (z77).toInt := by rw [hV78, fm_up_self]
                  have tV78_34 : (V78 80 34).toInt = (V31 80 34).toInt := by rw [hV78, fm_up_ne (by decide)]
                  have tV78_35 : (V78 80 35).toInt = (V31 80 35).toInt := by rw [hV78, fm_up_ne (by decide)]
                  have tV78_36 : (V78 80 36).toInt = (V31 80 36).toInt := by rw [hV78, fm_up_ne (by decide)]
                  have tV78_37 : (V78 80 37).toInt = (V31 80 37).toInt := by rw [hV78, fm_up_ne (by decide)]
                  have tV78_38 : (V78 80 38).toInt = (V31 80 38).toInt := by rw [hV78, fm_up_ne (by decide)]
                  have tV78_39 : (V78 80 39).toInt = (V31 80 39).toInt := by rw [hV78, fm_up_ne (by decide)]
                  have tV78_40 : (V78 80 40).toInt = (V31 80 40).toInt := by rw [hV78, fm_up_ne (by decide)]
                  have tV78_41 : (V78 80 41).toInt = (V31 80 41).toInt := by rw [hV78, fm_up_ne (by decide)]
                  have hW := pz_Fo hW hV78 rfl rfl (zi_rng _) (by decide)
                  have hC : pz_C V78 := by unfold pz_C; omega
                  have hl_ : (V78 80 35).toInt = 0 → lw_ V78 := fun q => by
                    have z := hl_ (by omega)
                    unfold lw_ at z ⊢
                    have er : ∀ i k, i ≠ 80 → V78 i k = V31 i k := fun i k hi => by rw [hV78, fm_up_ne (fun q => hi q.1)]
                    have e105 : V78 105 = V31 105 := funext fun k => er 105 k (by decide)
                    intro k hk
                    rw [er 102 k (by decide), er 103 k (by decide), er 104 k (by decide), e105]
                    obtain ⟨a, b, c, h1, h2, h3, h4, h5, h6, h7, h8⟩ := z k (by omega)
                    exact ⟨a, b, c, h1, h2, h3, h4, h5, by omega, h7, h8⟩
                  refine fz_goto X 54 d_X8_law_125 (by decide) ?_
                  exact ih _ _ ls (by omega) hW hC hl_ hs hw hl0 hl1 hl2
                · skip
                  refine fm_aload_n X d_X8_law_106 rfl hl0 ?_
                  refine fz_iconst X d_X8_law_107 (by decide) (fun v79 hv79 => ?_)
                  refine fm_aload_n X d_X8_law_108 rfl hl0 ?_
                  refine fz_getI X 80 d_X8_law_109 lkX8_208 rfl rfl ?_
                  refine gm_callV X Y fm_Ts_good d_X8_law_112 (g_wrongs hAd hZ (V := V31) (by omega) (by omega) (by omega)) wl_X8_230 wm_X8_wrongs wy_X8_wrongs (by decide) ⟨rfl, rfl⟩ (rest := []) rfl rfl hs (by simp [Value.category]) (fun r V80 hp => ?_)
                  obtain ⟨rfl, yx81, hyx81, hV80⟩ := hp
                  have tV80_1 : (V80 80 1).toInt = (V31 80 1).toInt := by rw [hV80, fm_up_ne (by decide)]
                  have tV80_20 : (V80 80 20).toInt = (V31 80 20).toInt := by rw [hV80, fm_up_ne (by decide)]
                  have tV80_33 : (V80 80 33).toInt = (V31 80 33).toInt := by rw [hV80, fm_up_ne (by decide)]
                  have tV80_34 : (V80 80 34).toInt = (V31 80 34).toInt := by rw [hV80, fm_up_ne (by decide)]
                  have tV80_35 : (V80 80 35).toInt = (yx81).toInt := by rw [hV80, fm_up_self]
                  have tV80_36 : (V80 80 36).toInt = (V31 80 36).toInt := by rw [hV80, fm_up_ne (by decide)]
                  have tV80_37 : (V80 80 37).toInt = (V31 80 37).toInt := by rw [hV80, fm_up_ne (by decide)]
                  have tV80_38 : (V80 80 38).toInt = (V31 80 38).toInt := by rw [hV80, fm_up_ne (by decide)]
                  have tV80_39 : (V80 80 39).toInt = (V31 80 39).toInt := by rw [hV80, fm_up_ne (by decide)]
                  have tV80_40 : (V80 80 40).toInt = (V31 80 40).toInt := by rw [hV80, fm_up_ne (by decide)]
                  have tV80_41 : (V80 80 41).toInt = (V31 80 41).toInt := by rw [hV80, fm_up_ne (by decide)]
                  show fm_W p l e { frames := 8, cells := 0, slots := 0, locals := 800 } s m args below meth c (MQ below (rv_Qc D fm_cl fm_tm ad cy fm_nt Z (fun r V1 => (∃ x : Int32, r = some (.int x)) ∧ pz_F pz_LM V V1 ∧ fm_G V1)) args s 0 0 (fm_A fm_tm ad)) D fm_cl fm_tm ad cy (fm_A fm_tm ad) V80 115 ls []
                  have hW := pz_Fo hW hV80 rfl rfl (zi_rng _) (by decide)
                  have hl_ : (V80 80 35).toInt = 0 → lw_ V80 := fun q => by omega
                  refine fm_aload_n X d_X8_law_115 rfl hl0 ?_
                  refine fm_dup X d_X8_law_116 rfl ?_
                  refine fz_getI X 80 d_X8_law_117 lkX8_208 rfl rfl ?_
                  refine fz_iconst X d_X8_law_120 (by decide) (fun v82 hv82 => ?_)
                  refine fz_iadd X d_X8_law_121 (by constructor <;> omega) (fun z83 hz83 => ?_)
                  refine fz_put X 80 d_X8_law_122 lkX8_208 wr_8_33 rfl rfl (by first | exact Or.inl rfl | (refine Or.inr ?_; constructor <;> omega)) (fun V84 hV84 => ?_)
                  have tV84_1 : (V84 80 1).toInt = (V80 80 1).toInt := by rw [hV84, fm_up_ne (by decide)]
                  have tV84_20 : (V84 80 20).toInt = (V80 80 20).toInt := by rw [hV84, fm_up_ne (by decide)]
                  have tV84_33 : (V84 80 33).toInt = (z83).toInt := by rw [hV84, fm_up_self]
                  have tV84_34 : (V84 80 34).toInt = (V80 80 34).toInt := by rw [hV84, fm_up_ne (by decide)]
                  have tV84_35 : (V84 80 35).toInt = (V80 80 35).toInt := by rw [hV84, fm_up_ne (by decide)]
                  have tV84_36 : (V84 80 36).toInt = (V80 80 36).toInt := by rw [hV84, fm_up_ne (by decide)]
                  have tV84_37 : (V84 80 37).toInt = (V80 80 37).toInt := by rw [hV84, fm_up_ne (by decide)]
                  have tV84_38 : (V84 80 38).toInt = (V80 80 38).toInt := by rw [hV84, fm_up_ne (by decide)]
                  have tV84_39 : (V84 80 39).toInt = (V80 80 39).toInt := by rw [hV84, fm_up_ne (by decide)]
                  have tV84_40 : (V84 80 40).toInt = (V80 80 40).toInt := by rw [hV84, fm_up_ne (by decide)]
                  have tV84_41 : (V84 80 41).toInt = (V80 80 41).toInt := by rw [hV84, fm_up_ne (by decide)]
                  have hW := pz_Fo hW hV84 rfl rfl (zi_rng _) (by decide)
                  have hC : pz_C V84 := by unfold pz_C; omega
                  have hl_ : (V84 80 35).toInt = 0 → lw_ V84 := fun q => by
                    have z := hl_ (by omega)
                    unfold lw_ at z ⊢
                    have er : ∀ i k, i ≠ 80 → V84 i k = V80 i k := fun i k hi => by rw [hV84, fm_up_ne (fun q => hi q.1)]
                    have e105 : V84 105 = V80 105 := funext fun k => er 105 k (by decide)
                    intro k hk
                    rw [er 102 k (by decide), er 103 k (by decide), er 104 k (by decide), e105]
                    obtain ⟨a, b, c, h1, h2, h3, h4, h5, h6, h7, h8⟩ := z k (by omega)
                    exact ⟨a, b, c, h1, h2, h3, h4, h5, by omega, h7, h8⟩
                  refine fz_goto X 54 d_X8_law_125 (by decide) ?_
                  exact ih _ _ ls (by omega) hW hC hl_ hs hw hl0 hl1 hl2
  refine fm_iload_n X d_X8_law_0 rfl hl1 ?_
  refine fz_i2l X d_X8_law_1 (fun z85 hz85 => ?_)
  refine fz_lconst X d_X8_law_2 (fun z86 hz86 => ?_)
  replace hz86 : z86.toInt = 1 := hz86
  refine fz_ldc2 X d_X8_law_3 (klX8_ok (313, 200) (List.mem_of_getElem? (i := 11) rfl)) (fun z87 hz87 => ?_)
  refine gm_callS X Y fm_Ts_good d_X8_law_6 (g_lies hAd hZ) wl_X8_168 wm_X8_lies wy_X8_lies (by decide) (rest := []) rfl rfl hs (by simp [Value.category]) (fun r V88 hp => ?_)
  obtain ⟨rfl, x89, rfl, hzx89, hx89⟩ := hp
  show fm_W p l e { frames := 8, cells := 0, slots := 0, locals := 800 } s m args below meth c (MQ below (rv_Qc D fm_cl fm_tm ad cy fm_nt Z (fun r V1 => (∃ x : Int32, r = some (.int x)) ∧ pz_F pz_LM V V1 ∧ fm_G V1)) args s 0 0 (fm_A fm_tm ad)) D fm_cl fm_tm ad cy (fm_A fm_tm ad) V 9 ls [.int x89]
  refine fz_if_eq X 20 d_X8_law_9 (by decide) (fun h90 => ?_) (fun h90 => ?_)
  · skip
    refine fz_iconst X d_X8_law_20 (by decide) (fun v91 hv91 => ?_)
    refine gm_iret X Y hr hlk d_X8_law_21 ⟨⟨_, rfl⟩, hFm V hF, hG⟩
  · skip
    refine fm_iload_n X d_X8_law_12 rfl hl1 ?_
    refine fm_aload_n X d_X8_law_13 rfl hl0 ?_
    refine fz_getI X 80 d_X8_law_14 lkX8_201 rfl rfl ?_
    refine fz_icmp_le X 22 d_X8_law_17 (by decide) (fun h92 => ?_) (fun h92 => ?_)
    · skip
      refine fm_aload_n X d_X8_law_22 rfl hl0 ?_
      refine fz_iconst X d_X8_law_23 (by decide) (fun v93 hv93 => ?_)
      refine fz_put X 80 d_X8_law_24 lkX8_201 wr_8_1 rfl rfl (by first | exact Or.inl rfl | (refine Or.inr ?_; constructor <;> omega)) (fun V94 hV94 => ?_)
      have tV94_1 : (V94 80 1).toInt = (v93).toInt := by rw [hV94, fm_up_self]
      have tV94_20 : (V94 80 20).toInt = (V 80 20).toInt := by rw [hV94, fm_up_ne (by decide)]
      have tV94_33 : (V94 80 33).toInt = (V 80 33).toInt := by rw [hV94, fm_up_ne (by decide)]
      have tV94_34 : (V94 80 34).toInt = (V 80 34).toInt := by rw [hV94, fm_up_ne (by decide)]
      have tV94_35 : (V94 80 35).toInt = (V 80 35).toInt := by rw [hV94, fm_up_ne (by decide)]
      have tV94_36 : (V94 80 36).toInt = (V 80 36).toInt := by rw [hV94, fm_up_ne (by decide)]
      have tV94_37 : (V94 80 37).toInt = (V 80 37).toInt := by rw [hV94, fm_up_ne (by decide)]
      have tV94_38 : (V94 80 38).toInt = (V 80 38).toInt := by rw [hV94, fm_up_ne (by decide)]
      have tV94_39 : (V94 80 39).toInt = (V 80 39).toInt := by rw [hV94, fm_up_ne (by decide)]
      have tV94_40 : (V94 80 40).toInt = (V 80 40).toInt := by rw [hV94, fm_up_ne (by decide)]
      have tV94_41 : (V94 80 41).toInt = (V 80 41).toInt := by rw [hV94, fm_up_ne (by decide)]
      have hF := pz_Fo hF hV94 rfl rfl (by first | exact zi_rng _ | (constructor <;> omega)) (by decide)
      refine fm_aload_n X d_X8_law_27 rfl hl0 ?_
      refine fz_iconst X d_X8_law_28 (by decide) (fun v95 hv95 => ?_)
      refine fz_put X 80 d_X8_law_29 lkX8_208 wr_8_33 rfl rfl (by first | exact Or.inl rfl | (refine Or.inr ?_; constructor <;> omega)) (fun V96 hV96 => ?_)
      have tV96_1 : (V96 80 1).toInt = (V94 80 1).toInt := by rw [hV96, fm_up_ne (by decide)]
      have tV96_20 : (V96 80 20).toInt = (V94 80 20).toInt := by rw [hV96, fm_up_ne (by decide)]
      have tV96_33 : (V96 80 33).toInt = (v95).toInt := by rw [hV96, fm_up_self]
      have tV96_34 : (V96 80 34).toInt = (V94 80 34).toInt := by rw [hV96, fm_up_ne (by decide)]
      have tV96_35 : (V96 80 35).toInt = (V94 80 35).toInt := by rw [hV96, fm_up_ne (by decide)]
      have tV96_36 : (V96 80 36).toInt = (V94 80 36).toInt := by rw [hV96, fm_up_ne (by decide)]
      have tV96_37 : (V96 80 37).toInt = (V94 80 37).toInt := by rw [hV96, fm_up_ne (by decide)]
      have tV96_38 : (V96 80 38).toInt = (V94 80 38).toInt := by rw [hV96, fm_up_ne (by decide)]
      have tV96_39 : (V96 80 39).toInt = (V94 80 39).toInt := by rw [hV96, fm_up_ne (by decide)]
      have tV96_40 : (V96 80 40).toInt = (V94 80 40).toInt := by rw [hV96, fm_up_ne (by decide)]
      have tV96_41 : (V96 80 41).toInt = (V94 80 41).toInt := by rw [hV96, fm_up_ne (by decide)]
      have hF := pz_Fo hF hV96 rfl rfl (by first | exact zi_rng _ | (constructor <;> omega)) (by decide)
      refine fm_aload_n X d_X8_law_32 rfl hl0 ?_
      refine fm_iload_n X d_X8_law_33 rfl hl1 ?_
      refine fz_put X 80 d_X8_law_34 lkX8_211 wr_8_34 rfl rfl (by first | exact Or.inl rfl | (refine Or.inr ?_; constructor <;> omega)) (fun V97 hV97 => ?_)
      have tV97_1 : (V97 80 1).toInt = (V96 80 1).toInt := by rw [hV97, fm_up_ne (by decide)]
      have tV97_20 : (V97 80 20).toInt = (V96 80 20).toInt := by rw [hV97, fm_up_ne (by decide)]
      have tV97_33 : (V97 80 33).toInt = (V96 80 33).toInt := by rw [hV97, fm_up_ne (by decide)]
      have tV97_34 : (V97 80 34).toInt = (x1).toInt := by rw [hV97, fm_up_self]
      have tV97_35 : (V97 80 35).toInt = (V96 80 35).toInt := by rw [hV97, fm_up_ne (by decide)]
      have tV97_36 : (V97 80 36).toInt = (V96 80 36).toInt := by rw [hV97, fm_up_ne (by decide)]
      have tV97_37 : (V97 80 37).toInt = (V96 80 37).toInt := by rw [hV97, fm_up_ne (by decide)]
      have tV97_38 : (V97 80 38).toInt = (V96 80 38).toInt := by rw [hV97, fm_up_ne (by decide)]
      have tV97_39 : (V97 80 39).toInt = (V96 80 39).toInt := by rw [hV97, fm_up_ne (by decide)]
      have tV97_40 : (V97 80 40).toInt = (V96 80 40).toInt := by rw [hV97, fm_up_ne (by decide)]
      have tV97_41 : (V97 80 41).toInt = (V96 80 41).toInt := by rw [hV97, fm_up_ne (by decide)]
      have hF := pz_Fo hF hV97 rfl rfl (by first | exact zi_rng _ | (constructor <;> omega)) (by decide)
      refine fm_aload_n X d_X8_law_37 rfl hl0 ?_
      refine fz_iconst X d_X8_law_38 (by decide) (fun v98 hv98 => ?_)
      refine fz_put X 80 d_X8_law_39 lkX8_214 wr_8_35 rfl rfl (by first | exact Or.inl rfl | (refine Or.inr ?_; constructor <;> omega)) (fun V99 hV99 => ?_)
      have tV99_1 : (V99 80 1).toInt = (V97 80 1).toInt := by rw [hV99, fm_up_ne (by decide)]
      have tV99_20 : (V99 80 20).toInt = (V97 80 20).toInt := by rw [hV99, fm_up_ne (by decide)]
      have tV99_33 : (V99 80 33).toInt = (V97 80 33).toInt := by rw [hV99, fm_up_ne (by decide)]
      have tV99_34 : (V99 80 34).toInt = (V97 80 34).toInt := by rw [hV99, fm_up_ne (by decide)]
      have tV99_35 : (V99 80 35).toInt = (v98).toInt := by rw [hV99, fm_up_self]
      have tV99_36 : (V99 80 36).toInt = (V97 80 36).toInt := by rw [hV99, fm_up_ne (by decide)]
      have tV99_37 : (V99 80 37).toInt = (V97 80 37).toInt := by rw [hV99, fm_up_ne (by decide)]
      have tV99_38 : (V99 80 38).toInt = (V97 80 38).toInt := by rw [hV99, fm_up_ne (by decide)]
      have tV99_39 : (V99 80 39).toInt = (V97 80 39).toInt := by rw [hV99, fm_up_ne (by decide)]
      have tV99_40 : (V99 80 40).toInt = (V97 80 40).toInt := by rw [hV99, fm_up_ne (by decide)]
      have tV99_41 : (V99 80 41).toInt = (V97 80 41).toInt := by rw [hV99, fm_up_ne (by decide)]
      have hF := pz_Fo hF hV99 rfl rfl (by first | exact zi_rng _ | (constructor <;> omega)) (by decide)
      refine fm_aload_n X d_X8_law_42 rfl hl0 ?_
      refine fz_iconst X d_X8_law_43 (by decide) (fun v100 hv100 => ?_)
      refine fz_put X 80 d_X8_law_44 lkX8_307 wr_8_36 rfl rfl (by first | exact Or.inl rfl | (refine Or.inr ?_; constructor <;> omega)) (fun V101 hV101 => ?_)
      have tV101_1 : (V101 80 1).toInt = (V99 80 1).toInt := by rw [hV101, fm_up_ne (by decide)]
      have tV101_20 : (V101 80 20).toInt = (V99 80 20).toInt := by rw [hV101, fm_up_ne (by decide)]
      have tV101_33 : (V101 80 33).toInt = (V99 80 33).toInt := by rw [hV101, fm_up_ne (by decide)]
      have tV101_34 : (V101 80 34).toInt = (V99 80 34).toInt := by rw [hV101, fm_up_ne (by decide)]
      have tV101_35 : (V101 80 35).toInt = (V99 80 35).toInt := by rw [hV101, fm_up_ne (by decide)]
      have tV101_36 : (V101 80 36).toInt = (v100).toInt := by rw [hV101, fm_up_self]
      have tV101_37 : (V101 80 37).toInt = (V99 80 37).toInt := by rw [hV101, fm_up_ne (by decide)]
      have tV101_38 : (V101 80 38).toInt = (V99 80 38).toInt := by rw [hV101, fm_up_ne (by decide)]
      have tV101_39 : (V101 80 39).toInt = (V99 80 39).toInt := by rw [hV101, fm_up_ne (by decide)]
      have tV101_40 : (V101 80 40).toInt = (V99 80 40).toInt := by rw [hV101, fm_up_ne (by decide)]
      have tV101_41 : (V101 80 41).toInt = (V99 80 41).toInt := by rw [hV101, fm_up_ne (by decide)]
      have hF := pz_Fo hF hV101 rfl rfl (by first | exact zi_rng _ | (constructor <;> omega)) (by decide)
      refine fm_aload_n X d_X8_law_47 rfl hl0 ?_
      refine fz_iconst X d_X8_law_48 (by decide) (fun v102 hv102 => ?_)
      refine fz_put X 80 d_X8_law_49 lkX8_221 wr_8_37 rfl rfl (by first | exact Or.inl rfl | (refine Or.inr ?_; constructor <;> omega)) (fun V103 hV103 => ?_)
      have tV103_1 : (V103 80 1).toInt = (V101 80 1).toInt := by rw [hV103, fm_up_ne (by decide)]
      have tV103_20 : (V103 80 20).toInt = (V101 80 20).toInt := by rw [hV103, fm_up_ne (by decide)]
      have tV103_33 : (V103 80 33).toInt = (V101 80 33).toInt := by rw [hV103, fm_up_ne (by decide)]
      have tV103_34 : (V103 80 34).toInt = (V101 80 34).toInt := by rw [hV103, fm_up_ne (by decide)]
      have tV103_35 : (V103 80 35).toInt = (V101 80 35).toInt := by rw [hV103, fm_up_ne (by decide)]
      have tV103_36 : (V103 80 36).toInt = (V101 80 36).toInt := by rw [hV103, fm_up_ne (by decide)]
      have tV103_37 : (V103 80 37).toInt = (v102).toInt := by rw [hV103, fm_up_self]
      have tV103_38 : (V103 80 38).toInt = (V101 80 38).toInt := by rw [hV103, fm_up_ne (by decide)]
      have tV103_39 : (V103 80 39).toInt = (V101 80 39).toInt := by rw [hV103, fm_up_ne (by decide)]
      have tV103_40 : (V103 80 40).toInt = (V101 80 40).toInt := by rw [hV103, fm_up_ne (by decide)]
      have tV103_41 : (V103 80 41).toInt = (V101 80 41).toInt := by rw [hV103, fm_up_ne (by decide)]
      have hF := pz_Fo hF hV103 rfl rfl (by first | exact zi_rng _ | (constructor <;> omega)) (by decide)
      refine fz_iconst X d_X8_law_52 (by decide) (fun v104 hv104 => ?_)
      refine fm_istore_n X d_X8_law_53 hs hw (by decide) (fun ls hst => ?_)
      have hl0 := hst.2.2.2.1 0 _ (by decide) hl0 rfl
      have hl1 := hst.2.2.2.1 1 _ (by decide) hl1 rfl
      have hl2 := hst.2.2.1
      have hs := hst.1.trans hs
      have hw := hst.2.1
      clear hst
      exact loop _ V103 _ ls (Nat.lt_succ_self _) hF (by unfold pz_C; omega) (fun _ k hk => by omega) hs hw hl0 hl1 hl2
    · skip
      refine fz_iconst X d_X8_law_20 (by decide) (fun v106 hv106 => ?_)
      refine gm_iret X Y hr hlk d_X8_law_21 ⟨⟨_, rfl⟩, hFm V hF, hG⟩
