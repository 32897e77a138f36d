/-! goesToNext -/
def dz_ (f : Nat → Int32) (n : Nat) : Prop := ∀ i j, i < n → j < n → f i = f j → i = j
theorem dz_swap {f g : Nat → Int32} {n a b : Nat} (h : dz_ f n) (ha : a < n) (hb : b < n) (ga : g a = f b) (gb : g b = f a) (go : ∀ i, i ≠ a → i ≠ b → g i = f i) : dz_ g n := by
  intro i j hi hj e
  by_cases i1 : i = a
  · by_cases j1 : j = a
    · omega
    · by_cases j2 : j = b
      · rw [i1, j2, ga, gb] at e
        have := h _ _ hb ha e
        omega
      · rw [i1, ga, go j j1 j2] at e
        have := h _ _ hb hj e
        omega
  · by_cases i2 : i = b
    · by_cases j1 : j = a
      · rw [i2, j1, ga, gb] at e
        have := h _ _ ha hb e
        omega
      · by_cases j2 : j = b
        · omega
        · rw [i2, gb, go j j1 j2] at e
          have := h _ _ ha hj e
          omega
    · by_cases j1 : j = a
      · rw [j1, ga, go i i1 i2] at e
        have := h _ _ hi hb e
        omega
      · by_cases j2 : j = b
        · rw [j2, gb, go i i1 i2] at e
          have := h _ _ hi ha e
          omega
        · rw [go i i1 i2, go j j1 j2] at e
          exact h _ _ hi hj e
def rz_ (f : Nat → Int32) (n i : Nat) : Int := if i < n then (f i).toInt else 0
/-- a row of up to six digits as a number -/
def rw_ (f : Nat → Int32) (n : Nat) : Int := 7776 * rz_ f n 0 + 1296 * rz_ f n 1 + 216 * rz_ f n 2 + 36 * rz_ f n 3 + 6 * rz_ f n 4 + rz_ f n 5
theorem rz_b {V : fm_V} (hT : fm_Tm fm_tm V) {n i : Nat} (hn : n ≤ 6) : 0 ≤ rz_ (V 127) n i ∧ rz_ (V 127) n i ≤ 5 := by
  unfold rz_
  by_cases c : i < n
  · rw [if_pos c]
    exact hT.1 127 0 6 0 5 i rfl (by omega)
  · rw [if_neg c]
    decide
theorem rw_b {V : fm_V} (hT : fm_Tm fm_tm V) {n : Nat} (hn : n ≤ 6) : 0 ≤ rw_ (V 127) n ∧ rw_ (V 127) n ≤ 46655 := by
  have h0 := rz_b hT (i := 0) hn
  have h1 := rz_b hT (i := 1) hn
  have h2 := rz_b hT (i := 2) hn
  have h3 := rz_b hT (i := 3) hn
  have h4 := rz_b hT (i := 4) hn
  have h5 := rz_b hT (i := 5) hn
  unfold rw_
  omega
theorem rw_lt {V V1 : fm_V} (hT : fm_Tm fm_tm V) (hT1 : fm_Tm fm_tm V1) {n k : Nat} (hn : n ≤ 6) (hk : k < n) (he : ∀ i, i < k → V1 127 i = V 127 i) (hl : (V 127 k).toInt < (V1 127 k).toInt) : rw_ (V 127) n < rw_ (V1 127) n := by
  have a : ∀ i, i < k → rz_ (V1 127) n i = rz_ (V 127) n i := fun i hi => by unfold rz_; rw [he i hi]
  have b : rz_ (V 127) n k < rz_ (V1 127) n k := by unfold rz_; rw [if_pos hk, if_pos hk]; exact hl
  have h0 := rz_b hT (i := 0) hn
  have h1 := rz_b hT (i := 1) hn
  have h2 := rz_b hT (i := 2) hn
  have h3 := rz_b hT (i := 3) hn
  have h4 := rz_b hT (i := 4) hn
  have h5 := rz_b hT (i := 5) hn
  have g0 := rz_b hT1 (i := 0) hn
  have g1 := rz_b hT1 (i := 1) hn
  have g2 := rz_b hT1 (i := 2) hn
  have g3 := rz_b hT1 (i := 3) hn
  have g4 := rz_b hT1 (i := 4) hn
  have g5 := rz_b hT1 (i := 5) hn
  unfold rw_
  match k, hk with
  | 0, _ => omega
  | 1, _ => have := a 0 (by decide); omega
  | 2, _ => have := a 0 (by decide); have := a 1 (by decide); omega
  | 3, _ => have := a 0 (by decide); have := a 1 (by decide); have := a 2 (by decide); omega
  | 4, _ => have := a 0 (by decide); have := a 1 (by decide); have := a 2 (by decide); have := a 3 (by decide); omega
  | 5, _ => have := a 0 (by decide); have := a 1 (by decide); have := a 2 (by decide); have := a 3 (by decide); have := a 4 (by decide); omega
  | k + 6, hk => omega
theorem g_goesToNext {l : Launch} {D : va_G} {ad : Nat → Nat} {cy : Nat → ClassId} {Z : State → Heap → Prop} (hAd : fm_Ad fm_tm ad) (hZ : fm_Zk (fm_A fm_tm ad) Z) {V : fm_V} {x1 : Int32} {n : Nat} (hT : fm_Tm fm_tm V) (hn : x1.toInt = n ∧ 1 ≤ n ∧ n ≤ 6) (hdz : dz_ (V 127) n) : gm_M l D fm_cl fm_tm ad cy fm_nt Z yX8_goesToNext (.code yX8_goesToNext prog_10_method_77_code 7 (some .boolean) :: fm_Ts) { frames := 0, cells := 0, slots := 0, locals := 0 } V [.ref (ad 80), .int x1] (fun r V1 => ∃ x : Int32, r = some (.int x) ∧ pz_F [(127, 9999)] V V1 ∧ dz_ (V1 127) n ∧ (x.toInt ≠ 0 → rw_ (V 127) n < rw_ (V1 127) n)) := by
  refine gm_at hAd hZ (by decide +kernel) (by simp [lg_sl, Value.category]) ?_
  intro p e s m args below meth c ls hr hlk X Y hl
  have hl0 : ls[0]? = some (.val (.ref (ad 80))) := hl.2.2 (0, .ref (ad 80)) (by simp [lv_args, Value.category])
  have hl1 : ls[1]? = some (.val (.int x1)) := hl.2.2 (1, .int x1) (by simp [lv_args, Value.category])
  have hs := hl.1
  have hw := hl.2.1
  clear hl
  have hrow : ∀ U, fm_Tm fm_tm U → ∀ j, j < 6 → 0 ≤ (U 127 j).toInt ∧ (U 127 j).toInt ≤ 5 := fun U h j hj => h.1 127 0 6 0 5 j rfl hj
  have r0 := hrow V hT
  have turn : ∀ (W1 : fm_V) (k : Nat) (hk : k + 1 < n + 1) (hw1 : ∀ i, i < k → W1 127 i = V 127 i) (hlt : (V 127 k).toInt < (W1 127 k).toInt) (hT1 : fm_Tm fm_tm W1) (N : Nat), ∀ (W : fm_V) (x2 x3 x4 x5 x6 : Int32) (ls : Array Slot), (x6.toInt - x5.toInt).toNat < N → (k : Int) < x5.toInt → x6.toInt < n → pz_F [(127, 9999)] V W → dz_ (W 127) n → (∀ i, i ≤ k → W 127 i = W1 127 i) → ls.size = 7 → lv_wf ls → ls[0]? = some (.val (.ref (ad 80))) → ls[1]? = some (.val (.int x1)) → ls[2]? = some (.val (.int x2)) → ls[3]? = some (.val (.int x3)) → ls[4]? = some (.val (.int x4)) → ls[5]? = some (.val (.int x5)) → ls[6]? = some (.val (.int x6)) → fm_W p l e { frames := 0, cells := 0, slots := 0, locals := 0 } s m args below meth c (MQ below (rv_Qc D fm_cl fm_tm ad cy fm_nt Z (fun r V1 => ∃ x : Int32, r = some (.int x) ∧ pz_F [(127, 9999)] V V1 ∧ dz_ (V1 127) n ∧ (x.toInt ≠ 0 → rw_ (V 127) n < rw_ (V1 127) n))) args s 0 0 (fm_A fm_tm ad)) D fm_cl fm_tm ad cy (fm_A fm_tm ad) W 100 ls [] := by
    intro W1 k hk hw1 hlt hT1 N
    induction N with
    | zero => intro W x2 x3 x4 x5 x6 ls h; omega
    | succ N ih =>
      intro W x2 x3 x4 x5 x6 ls hN f1 f2 hF hd he hs hw hl0 hl1 hl2 hl3 hl4 hl5 hl6
      have rW := hrow W hF.1
      refine fm_iload X d_X8_goesToNext_100 hl5 ?_
      refine fm_iload X d_X8_goesToNext_102 hl6 ?_
      refine fz_icmp_ge X 148 d_X8_goesToNext_104 (by decide) (fun h11 => ?_) (fun h11 => ?_)
      · skip
        refine fz_iconst X d_X8_goesToNext_148 (by decide) (fun v12 hv12 => ?_)
        refine gm_zret X Y hr hlk (by first | exact Or.inl (zi_inj hv12) | exact Or.inr (zi_inj hv12) | assumption) d_X8_goesToNext_149 ⟨_, rfl, hF, hd, fun _ => ?_⟩
        exact rw_lt (n := n) (k := k) hT hF.1 (by omega) (by omega) (fun i hi => by rw [he i (by omega)]; exact hw1 i hi) (by rw [he k (Nat.le_refl k)]; exact hlt)
      · skip
        refine fm_aload_n X d_X8_goesToNext_107 rfl hl0 ?_
        refine fz_getR X 80 d_X8_goesToNext_108 lkX8_154 rfl rfl ?_
        refine fm_iload X d_X8_goesToNext_111 hl5 ?_
        refine fz_ialoadZ X 127 d_X8_goesToNext_113 rfl (by constructor <;> omega) ?_
        refine fm_istore X d_X8_goesToNext_114 hs hw (by decide) (fun ls hst => ?_)
        have hl0 := hst.2.2.2.1 0 _ (by decide) hl0 rfl
        have hl1 := hst.2.2.2.1 1 _ (by decide) hl1 rfl
        have hl2 := hst.2.2.2.1 2 _ (by decide) hl2 rfl
        have hl3 := hst.2.2.2.1 3 _ (by decide) hl3 rfl
        have hl5 := hst.2.2.2.1 5 _ (by decide) hl5 rfl
        have hl6 := hst.2.2.2.1 6 _ (by decide) hl6 rfl
        have hl4 := hst.2.2.1
        have hs := hst.1.trans hs
        have hw := hst.2.1
        clear hst
        refine fm_aload_n X d_X8_goesToNext_116 rfl hl0 ?_
        refine fz_getR X 80 d_X8_goesToNext_117 lkX8_154 rfl rfl ?_
        refine fm_iload X d_X8_goesToNext_120 hl5 ?_
        refine fm_aload_n X d_X8_goesToNext_122 rfl hl0 ?_
        refine fz_getR X 80 d_X8_goesToNext_123 lkX8_154 rfl rfl ?_
        refine fm_iload X d_X8_goesToNext_126 hl6 ?_
        refine fz_ialoadZ X 127 d_X8_goesToNext_128 rfl (by constructor <;> omega) ?_
        refine fz_iastore X 127 d_X8_goesToNext_129 rfl (by constructor <;> omega) (fun V14 hV14 => ?_)
        have hF0 := hF
        have hF := pz_Fa hF hV14 (i := 127) rfl (rW _ (by omega)) (by simp [rv_in])
        refine fm_aload_n X d_X8_goesToNext_130 rfl hl0 ?_
        refine fz_getR X 80 d_X8_goesToNext_131 lkX8_154 rfl rfl ?_
        refine fm_iload X d_X8_goesToNext_134 hl6 ?_
        refine fm_iload X d_X8_goesToNext_136 hl4 ?_
        refine fz_iastore X 127 d_X8_goesToNext_138 rfl (by constructor <;> omega) (fun V15 hV15 => ?_)
        have hF := pz_Fa hF hV15 (i := 127) rfl (rW _ (by omega)) (by simp [rv_in])
        refine fm_iinc X d_X8_goesToNext_139 hl5 hs hw (by decide) (fun ls hst => ?_)
        have hl0 := hst.2.2.2.1 0 _ (by decide) hl0 rfl
        have hl1 := hst.2.2.2.1 1 _ (by decide) hl1 rfl
        have hl2 := hst.2.2.2.1 2 _ (by decide) hl2 rfl
        have hl3 := hst.2.2.2.1 3 _ (by decide) hl3 rfl
        have hl4 := hst.2.2.2.1 4 _ (by decide) hl4 rfl
        have hl6 := hst.2.2.2.1 6 _ (by decide) hl6 rfl
        obtain ⟨z16, hz16⟩ : ∃ z : Int32, z.toInt = (x5).toInt + 1 ∧ ls[5]? = some (.val (.int z)) := ⟨_, zi_inc (by omega) (by omega) (by decide) (by decide), hst.2.2.1⟩
        have hl5 := hz16.2
        have hz16 := hz16.1
        have hs := hst.1.trans hs
        have hw := hst.2.1
        clear hst
        refine fm_iinc X d_X8_goesToNext_142 hl6 hs hw (by decide) (fun ls hst => ?_)
        have hl0 := hst.2.2.2.1 0 _ (by decide) hl0 rfl
        have hl1 := hst.2.2.2.1 1 _ (by decide) hl1 rfl
        have hl2 := hst.2.2.2.1 2 _ (by decide) hl2 rfl
        have hl3 := hst.2.2.2.1 3 _ (by decide) hl3 rfl
        have hl4 := hst.2.2.2.1 4 _ (by decide) hl4 rfl
        have hl5 := hst.2.2.2.1 5 _ (by decide) hl5 rfl
        obtain ⟨z17, hz17⟩ : ∃ z : Int32, z.toInt = (x6).toInt + (-1) ∧ ls[6]? = some (.val (.int z)) := ⟨_, zi_inc (by omega) (by omega) (by decide) (by decide), hst.2.2.1⟩
        have hl6 := hz17.2
        have hz17 := hz17.1
        have hs := hst.1.trans hs
        have hw := hst.2.1
        clear hst
        refine fz_goto X 100 d_X8_goesToNext_145 (by decide) ?_
        have sa : V15 127 x5.toInt.toNat = W 127 x6.toInt.toNat := by rw [hV15, hV14]; by_cases e : x5.toInt.toNat = x6.toInt.toNat <;> simp [fm_up, e, -Int32.toNat_toInt]
        have sb : V15 127 x6.toInt.toNat = W 127 x5.toInt.toNat := by rw [hV15, hV14]; simp [fm_up, -Int32.toNat_toInt]
        have so : ∀ i, i ≠ x5.toInt.toNat → i ≠ x6.toInt.toNat → V15 127 i = W 127 i := fun i h1 h2 => by rw [hV15, hV14]; simp [fm_up, h1, h2, -Int32.toNat_toInt]
        exact ih V15 _ _ _ _ _ ls (by omega) (by omega) (by omega) hF (dz_swap hd (a := x5.toInt.toNat) (b := x6.toInt.toNat) (by omega) (by omega) sa sb so) (fun i hi => by rw [so i (by omega) (by omega)]; exact he i hi) hs hw hl0 hl1 hl2 hl3 hl4 hl5 hl6
  have down : ∀ (N : Nat), ∀ (x2 x3 : Int32) (ls : Array Slot), x3.toInt.toNat < N → 0 ≤ x2.toInt → x2.toInt < x3.toInt → x3.toInt < n → (V 127 x2.toInt.toNat).toInt ≤ (V 127 (x2.toInt.toNat + 1)).toInt → ls.size = 7 → lv_wf ls → ls[0]? = some (.val (.ref (ad 80))) → ls[1]? = some (.val (.int x1)) → ls[2]? = some (.val (.int x2)) → ls[3]? = some (.val (.int x3)) → fm_W p l e { frames := 0, cells := 0, slots := 0, locals := 0 } s m args below meth c (MQ below (rv_Qc D fm_cl fm_tm ad cy fm_nt Z (fun r V1 => ∃ x : Int32, r = some (.int x) ∧ pz_F [(127, 9999)] V V1 ∧ dz_ (V1 127) n ∧ (x.toInt ≠ 0 → rw_ (V 127) n < rw_ (V1 127) n))) args s 0 0 (fm_A fm_tm ad)) D fm_cl fm_tm ad cy (fm_A fm_tm ad) V 41 ls [] := by
    intro N
    induction N with
    | zero => intro x2 x3 ls h; omega
    | succ N ih =>
      intro x2 x3 ls hN f1 f2 f3 f4 hs hw hl0 hl1 hl2 hl3
      have hF : pz_F [(127, 9999)] V V := pz_Fr hT
      have rW := r0
      refine fm_aload_n X d_X8_goesToNext_41 rfl hl0 ?_
      refine fz_getR X 80 d_X8_goesToNext_42 lkX8_154 rfl rfl ?_
      refine fm_iload_n X d_X8_goesToNext_45 rfl hl3 ?_
      refine fz_ialoadZ X 127 d_X8_goesToNext_46 rfl (by constructor <;> omega) ?_
      refine fm_aload_n X d_X8_goesToNext_47 rfl hl0 ?_
      refine fz_getR X 80 d_X8_goesToNext_48 lkX8_154 rfl rfl ?_
      refine fm_iload_n X d_X8_goesToNext_51 rfl hl2 ?_
      refine fz_ialoadZ X 127 d_X8_goesToNext_52 rfl (by constructor <;> omega) ?_
      refine fz_icmp_ge X 62 d_X8_goesToNext_53 (by decide) (fun h18 => ?_) (fun h18 => ?_)
      · skip
        refine fm_aload_n X d_X8_goesToNext_62 rfl hl0 ?_
        refine fz_getR X 80 d_X8_goesToNext_63 lkX8_154 rfl rfl ?_
        refine fm_iload_n X d_X8_goesToNext_66 rfl hl2 ?_
        refine fz_ialoadZ X 127 d_X8_goesToNext_67 rfl (by constructor <;> omega) ?_
        refine fm_istore X d_X8_goesToNext_68 hs hw (by decide) (fun ls hst => ?_)
        have hl0 := hst.2.2.2.1 0 _ (by decide) hl0 rfl
        have hl1 := hst.2.2.2.1 1 _ (by decide) hl1 rfl
        have hl2 := hst.2.2.2.1 2 _ (by decide) hl2 rfl
        have hl3 := hst.2.2.2.1 3 _ (by decide) hl3 rfl
        have hl4 := hst.2.2.1
        have hs := hst.1.trans hs
        have hw := hst.2.1
        clear hst
        refine fm_aload_n X d_X8_goesToNext_70 rfl hl0 ?_
        refine fz_getR X 80 d_X8_goesToNext_71 lkX8_154 rfl rfl ?_
        refine fm_iload_n X d_X8_goesToNext_74 rfl hl2 ?_
        refine fm_aload_n X d_X8_goesToNext_75 rfl hl0 ?_
        refine fz_getR X 80 d_X8_goesToNext_76 lkX8_154 rfl rfl ?_
        refine fm_iload_n X d_X8_goesToNext_79 rfl hl3 ?_
        refine fz_ialoadZ X 127 d_X8_goesToNext_80 rfl (by constructor <;> omega) ?_
        refine fz_iastore X 127 d_X8_goesToNext_81 rfl (by constructor <;> omega) (fun V20 hV20 => ?_)
        have hF0 := hF
        have hF := pz_Fa hF hV20 (i := 127) rfl (rW _ (by omega)) (by simp [rv_in])
        refine fm_aload_n X d_X8_goesToNext_82 rfl hl0 ?_
        refine fz_getR X 80 d_X8_goesToNext_83 lkX8_154 rfl rfl ?_
        refine fm_iload_n X d_X8_goesToNext_86 rfl hl3 ?_
        refine fm_iload X d_X8_goesToNext_87 hl4 ?_
        refine fz_iastore X 127 d_X8_goesToNext_89 rfl (by constructor <;> omega) (fun V21 hV21 => ?_)
        have hF := pz_Fa hF hV21 (i := 127) rfl (rW _ (by omega)) (by simp [rv_in])
        refine fm_iload_n X d_X8_goesToNext_90 rfl hl2 ?_
        refine fz_iconst X d_X8_goesToNext_91 (by decide) (fun v22 hv22 => ?_)
        refine fz_iadd X d_X8_goesToNext_92 (by constructor <;> omega) (fun z23 hz23 => ?_)
        refine fm_istore X d_X8_goesToNext_93 hs hw (by decide) (fun ls hst => ?_)
        have hl0 := hst.2.2.2.1 0 _ (by decide) hl0 rfl
        have hl1 := hst.2.2.2.1 1 _ (by decide) hl1 rfl
        have hl2 := hst.2.2.2.1 2 _ (by decide) hl2 rfl
        have hl3 := hst.2.2.2.1 3 _ (by decide) hl3 rfl
        have hl4 := hst.2.2.2.1 4 _ (by decide) hl4 rfl
        have hl5 := hst.2.2.1
        have hs := hst.1.trans hs
        have hw := hst.2.1
        clear hst
        refine fm_iload_n X d_X8_goesToNext_95 rfl hl1 ?_
        refine fz_iconst X d_X8_goesToNext_96 (by decide) (fun v25 hv25 => ?_)
        refine fz_isub X d_X8_goesToNext_97 (by constructor <;> omega) (fun z26 hz26 => ?_)
        refine fm_istore X d_X8_goesToNext_98 hs hw (by decide) (fun ls hst => ?_)
        have hl0 := hst.2.2.2.1 0 _ (by decide) hl0 rfl
        have hl1 := hst.2.2.2.1 1 _ (by decide) hl1 rfl
        have hl2 := hst.2.2.2.1 2 _ (by decide) hl2 rfl
        have hl3 := hst.2.2.2.1 3 _ (by decide) hl3 rfl
        have hl4 := hst.2.2.2.1 4 _ (by decide) hl4 rfl
        have hl5 := hst.2.2.2.1 5 _ (by decide) hl5 rfl
        have hl6 := hst.2.2.1
        have hs := hst.1.trans hs
        have hw := hst.2.1
        clear hst
        have sa : V21 127 x2.toInt.toNat = V 127 x3.toInt.toNat := by rw [hV21, hV20]; by_cases e : x2.toInt.toNat = x3.toInt.toNat <;> simp [fm_up, e, -Int32.toNat_toInt]
        have sb : V21 127 x3.toInt.toNat = V 127 x2.toInt.toNat := by rw [hV21, hV20]; simp [fm_up, -Int32.toNat_toInt]
        have so : ∀ i, i ≠ x2.toInt.toNat → i ≠ x3.toInt.toNat → V21 127 i = V 127 i := fun i h1 h2 => by rw [hV21, hV20]; simp [fm_up, h1, h2, -Int32.toNat_toInt]
        have hne : V 127 x2.toInt.toNat ≠ V 127 x3.toInt.toNat := fun e => by have := hdz _ _ (by omega) (by omega) e; omega
        have hne2 : (V 127 x2.toInt.toNat).toInt ≠ (V 127 x3.toInt.toNat).toInt := fun e => hne (zi_inj e)
        exact turn V21 x2.toInt.toNat (by omega) (fun i hi => so i (by omega) (by omega)) (by rw [sa]; omega) hF.1 _ V21 _ _ _ _ _ ls (Nat.lt_succ_self _) (by omega) (by omega) hF (dz_swap hdz (a := x2.toInt.toNat) (b := x3.toInt.toNat) (by omega) (by omega) sa sb so) (fun _ _ => rfl) hs hw hl0 hl1 hl2 hl3 hl4 hl5 hl6
      · skip
        refine fm_iinc X d_X8_goesToNext_56 hl3 hs hw (by decide) (fun ls hst => ?_)
        have hl0 := hst.2.2.2.1 0 _ (by decide) hl0 rfl
        have hl1 := hst.2.2.2.1 1 _ (by decide) hl1 rfl
        have hl2 := hst.2.2.2.1 2 _ (by decide) hl2 rfl
        obtain ⟨z28, hz28⟩ : ∃ z : Int32, z.toInt = (x3).toInt + (-1) ∧ ls[3]? = some (.val (.int z)) := ⟨_, zi_inc (by omega) (by omega) (by decide) (by decide), hst.2.2.1⟩
        have hl3 := hz28.2
        have hz28 := hz28.1
        have hs := hst.1.trans hs
        have hw := hst.2.1
        clear hst
        refine fz_goto X 41 d_X8_goesToNext_59 (by decide) ?_
        have hne : x3.toInt ≠ x2.toInt + 1 := fun e => by rw [show x3.toInt.toNat = x2.toInt.toNat + 1 by omega] at *; omega
        exact ih _ _ ls (by omega) (by omega) (by omega) (by omega) f4 hs hw hl0 hl1 hl2 hl3
  have first : ∀ (N : Nat), ∀ (x2 : Int32) (ls : Array Slot), (x2.toInt + 1).toNat < N → -1 ≤ x2.toInt → x2.toInt + 1 < n → ls.size = 7 → lv_wf ls → ls[0]? = some (.val (.ref (ad 80))) → ls[1]? = some (.val (.int x1)) → ls[2]? = some (.val (.int x2)) → fm_W p l e { frames := 0, cells := 0, slots := 0, locals := 0 } s m args below meth c (MQ below (rv_Qc D fm_cl fm_tm ad cy fm_nt Z (fun r V1 => ∃ x : Int32, r = some (.int x) ∧ pz_F [(127, 9999)] V V1 ∧ dz_ (V1 127) n ∧ (x.toInt ≠ 0 → rw_ (V 127) n < rw_ (V1 127) n))) args s 0 0 (fm_A fm_tm ad)) D fm_cl fm_tm ad cy (fm_A fm_tm ad) V 4 ls [] := by
    intro N
    induction N with
    | zero => intro x2 ls h; omega
    | succ N ih =>
      intro x2 ls hN f1 f2 hs hw hl0 hl1 hl2
      refine fm_iload_n X d_X8_goesToNext_4 rfl hl2 ?_
      refine fz_if_lt X 31 d_X8_goesToNext_5 (by decide) (fun h29 => ?_) (fun h29 => ?_)
      · skip
        refine fm_iload_n X d_X8_goesToNext_31 rfl hl2 ?_
        refine fz_if_ge X 37 d_X8_goesToNext_32 (by decide) (fun h30 => ?_) (fun h30 => ?_)
        · skip
          refine fm_iload_n X d_X8_goesToNext_37 rfl hl1 ?_
          refine fz_iconst X d_X8_goesToNext_38 (by decide) (fun v31 hv31 => ?_)
          refine fz_isub X d_X8_goesToNext_39 (by constructor <;> omega) (fun z32 hz32 => ?_)
          refine fm_istore_n X d_X8_goesToNext_40 hs hw (by decide) (fun ls hst => ?_)
          have hl0 := hst.2.2.2.1 0 _ (by decide) hl0 rfl
          have hl1 := hst.2.2.2.1 1 _ (by decide) hl1 rfl
          have hl2 := hst.2.2.2.1 2 _ (by decide) hl2 rfl
          have hl3 := hst.2.2.1
          have hs := hst.1.trans hs
          have hw := hst.2.1
          clear hst
          first | omega | exact down _ _ _ ls (Nat.lt_succ_self _) (by omega) (by omega) (by omega) (by rw [show x2.toInt.toNat + 1 = x2.toInt.toNat by omega]; omega) hs hw hl0 hl1 hl2 hl3
        · skip
          refine fz_iconst X d_X8_goesToNext_35 (by decide) (fun v34 hv34 => ?_)
          refine gm_zret X Y hr hlk (by first | exact Or.inl (zi_inj hv34) | exact Or.inr (zi_inj hv34) | assumption) d_X8_goesToNext_36 ⟨_, rfl, pz_Fr hT, hdz, fun q => by omega⟩
      · skip
        refine fm_aload_n X d_X8_goesToNext_8 rfl hl0 ?_
        refine fz_getR X 80 d_X8_goesToNext_9 lkX8_154 rfl rfl ?_
        refine fm_iload_n X d_X8_goesToNext_12 rfl hl2 ?_
        refine fz_ialoadZ X 127 d_X8_goesToNext_13 rfl (by constructor <;> omega) ?_
        refine fm_aload_n X d_X8_goesToNext_14 rfl hl0 ?_
        refine fz_getR X 80 d_X8_goesToNext_15 lkX8_154 rfl rfl ?_
        refine fm_iload_n X d_X8_goesToNext_18 rfl hl2 ?_
        refine fz_iconst X d_X8_goesToNext_19 (by decide) (fun v35 hv35 => ?_)
        refine fz_iadd X d_X8_goesToNext_20 (by constructor <;> omega) (fun z36 hz36 => ?_)
        refine fz_ialoadZ X 127 d_X8_goesToNext_21 rfl (by constructor <;> omega) ?_
        refine fz_icmp_le X 31 d_X8_goesToNext_22 (by decide) (fun h37 => ?_) (fun h37 => ?_)
        · skip
          refine fm_iload_n X d_X8_goesToNext_31 rfl hl2 ?_
          refine fz_if_ge X 37 d_X8_goesToNext_32 (by decide) (fun h38 => ?_) (fun h38 => ?_)
          · skip
            refine fm_iload_n X d_X8_goesToNext_37 rfl hl1 ?_
            refine fz_iconst X d_X8_goesToNext_38 (by decide) (fun v39 hv39 => ?_)
            refine fz_isub X d_X8_goesToNext_39 (by constructor <;> omega) (fun z40 hz40 => ?_)
            refine fm_istore_n X d_X8_goesToNext_40 hs hw (by decide) (fun ls hst => ?_)
            have hl0 := hst.2.2.2.1 0 _ (by decide) hl0 rfl
            have hl1 := hst.2.2.2.1 1 _ (by decide) hl1 rfl
            have hl2 := hst.2.2.2.1 2 _ (by decide) hl2 rfl
            have hl3 := hst.2.2.1
            have hs := hst.1.trans hs
            have hw := hst.2.1
            clear hst
            first | omega | exact down _ _ _ ls (Nat.lt_succ_self _) (by omega) (by omega) (by omega) (by rw [show x2.toInt.toNat + 1 = z36.toInt.toNat by omega]; omega) hs hw hl0 hl1 hl2 hl3
          · skip
            refine fz_iconst X d_X8_goesToNext_35 (by decide) (fun v42 hv42 => ?_)
            refine gm_zret X Y hr hlk (by first | exact Or.inl (zi_inj hv42) | exact Or.inr (zi_inj hv42) | assumption) d_X8_goesToNext_36 ⟨_, rfl, pz_Fr hT, hdz, fun q => by omega⟩
        · skip
          refine fm_iinc X d_X8_goesToNext_25 hl2 hs hw (by decide) (fun ls hst => ?_)
          have hl0 := hst.2.2.2.1 0 _ (by decide) hl0 rfl
          have hl1 := hst.2.2.2.1 1 _ (by decide) hl1 rfl
          obtain ⟨z43, hz43⟩ : ∃ z : Int32, z.toInt = (x2).toInt + (-1) ∧ ls[2]? = some (.val (.int z)) := ⟨_, zi_inc (by omega) (by omega) (by decide) (by decide), hst.2.2.1⟩
          have hl2 := hz43.2
          have hz43 := hz43.1
          have hs := hst.1.trans hs
          have hw := hst.2.1
          clear hst
          refine fz_goto X 4 d_X8_goesToNext_28 (by decide) ?_
          exact ih _ ls (by omega) (by omega) (by omega) hs hw hl0 hl1 hl2
  refine fm_iload_n X d_X8_goesToNext_0 rfl hl1 ?_
  refine fz_iconst X d_X8_goesToNext_1 (by decide) (fun v44 hv44 => ?_)
  refine fz_isub X d_X8_goesToNext_2 (by constructor <;> omega) (fun z45 hz45 => ?_)
  refine fm_istore_n X d_X8_goesToNext_3 hs hw (by decide) (fun ls hst => ?_)
  have hl0 := hst.2.2.2.1 0 _ (by decide) hl0 rfl
  have hl1 := hst.2.2.2.1 1 _ (by decide) hl1 rfl
  have hl2 := hst.2.2.1
  have hs := hst.1.trans hs
  have hw := hst.2.1
  clear hst
  exact first _ _ ls (Nat.lt_succ_self _) (by omega) (by omega) hs hw hl0 hl1 hl2
