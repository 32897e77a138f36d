/-! the law from its entry to its end -/
theorem lw_loop {p : Program} {l : Launch} {e : Env} {s : State} {m : MethodId} {below : List Frame} {meth : Method} {c : Code} {D : va_G} {ad : Nat → Nat} {cy : Nat → ClassId} {Z : State → Heap → Prop} {b : Nat} (hAd : fm_Ad fm_tm ad) (hZ : fm_Zk (fm_A fm_tm ad) Z) (hr : meth.sig.returnType = ret) (hlk : meth.locks = false) (X : fm_X p s m #[Value.ref b] c code R_law D fm_cl fm_tm ad cy (lw_Aq s) fm_Ts 4) (Y : fm_Y s fm_nt Z fm_tm ad (lw_Aq s)) {L : Nat} {xs : Nat → Int32} (hX : va_X b L xs s s.heap) (hbl : b < s.heap.size) (hL : L ≤ 3072) :
    ∀ (N n : Nat) (V : fm_V) (ls : Array Slot) (x3 : Int32), (L - x3.toInt).toNat < N → x3.toInt = 6 * (n : Int) → lw_I n V → ls.size = 4 → lv_wf ls → ls[0]? = some (.val (.ref b)) → ls[1]? = some (.val (.ref (ad 0))) → ls[2]? = some (.val (.ref (ad 80))) → ls[3]? = some (.val (.int x3)) → lz_W p l e s m #[Value.ref b] below meth c (lw_Z below #[Value.ref b] s) D ad cy V 18 ls [] := by
  have eL : (Int32.ofNat L - 6).toInt = (L : Int) - 6 := by
    obtain ⟨k, hk⟩ := zi_sub (Int32.ofNat L) 6
    have e1 : (Int32.ofNat L).toInt = L := Int32.toInt_ofNat_of_lt (by omega)
    have e2 : (6 : Int32).toInt = 6 := rfl
    have e3 := zi_rng (Int32.ofNat L - 6)
    omega
  intro N
  induction N with
  | zero => intro n V ls x3 h; omega
  | succ N ih =>
    intro n V ls x3 hN h3 hI hs hw hl0 hl1 hl2 hl3
    refine lz_iload_n X d_law_18 rfl hl3 ?_
    refine lz_aload_n X d_law_19 rfl hl0 ?_
    refine lz_len X d_law_20 hX hbl ?_
    refine lz_bipush X d_law_21 (v := 6) (by decide) ?_
    refine lz_isub X d_law_23 ?_
    refine lz_icmp_gt X 1159 d_law_24 (by decide) (fun h => ?_) (fun h => ?_)
    · refine lz_iconst X d_law_1159 (v := 1) rfl ?_
      intro H locs hP hS
      exact va_forget (fun q hq => hS.2.2 q hq) (lw_ret X.1 X.2.1 hr hlk d_law_1160)
    · rw [eL] at h
      have hn : n < 512 := by omega
      have hx3 : 0 ≤ x3.toInt ∧ x3.toInt + 6 ≤ L := by omega
      have nx : ∀ V1, lw_I (n + 1) V1 → lz_W p l e s m #[Value.ref b] below meth c (lw_Z below #[Value.ref b] s) D ad cy V1 1153 ls [] := by
        intro V1 h1
        refine lz_iinc X d_law_1153 hl3 hs hw (by decide) (fun ls2 hst => ?_)
        refine lz_goto X 18 d_law_1156 (by decide) ?_
        have e6 := zj_inc (x := x3) (n := 6) (by omega) (by omega) (by decide) (by decide)
        exact ih (n + 1) V1 ls2 _ (by omega) (by omega) h1 (hst.1.trans hs) hst.2.1 (hst.2.2.2.1 0 _ (by decide) hl0 rfl) (hst.2.2.2.1 1 _ (by decide) hl1 rfl) (hst.2.2.2.1 2 _ (by decide) hl2 rfl) hst.2.2.1
      refine lz_aload_n X d_law_27 rfl hl0 ?_
      refine lz_iload_n X d_law_28 rfl hl3 ?_
      refine lz_sld X d_law_29 hX hbl ⟨by omega, by omega⟩ ?_
      refine lz_bipush X d_law_30 (v := 31) (by decide) ?_
      refine lz_iand X d_law_32 ?_
      have hz := zi_and (x := xs x3.toNatClampNeg) (y := 31) (by decide)
      generalize hze : xs x3.toNatClampNeg &&& 31 = z at hz ⊢
      have hz2 : (31 : Int32).toInt = 31 := rfl
      rw [hz2] at hz
      by_cases h0 : z.toInt = 0
      · exact lz_tab X 0 156 d_law_33 rfl h0 (by decide) rfl (by decide) (lw_c0 hAd hZ X Y hX hbl hL hx3 hI hn hl0 hl1 hl2 hl3 hs nx)
      by_cases h1 : z.toInt = 1
      · exact lz_tab X 1 225 d_law_33 rfl h1 (by decide) rfl (by decide) (lw_c1 hAd hZ X Y hX hbl hL hx3 hI hn hl0 hl1 hl2 hl3 hs nx)
      by_cases h2 : z.toInt = 2
      · exact lz_tab X 2 258 d_law_33 rfl h2 (by decide) rfl (by decide) (lw_c2 hAd hZ X Y hX hbl hL hx3 hI hn hl0 hl1 hl2 hl3 hs nx)
      by_cases h3 : z.toInt = 3
      · exact lz_tab X 3 321 d_law_33 rfl h3 (by decide) rfl (by decide) (lw_c3 hAd hZ X Y hX hbl hL hx3 hI hn hl0 hl1 hl2 hl3 hs nx)
      by_cases h4 : z.toInt = 4
      · exact lz_tab X 4 354 d_law_33 rfl h4 (by decide) rfl (by decide) (lw_c4 hAd hZ X Y hX hbl hL hx3 hI hn hl0 hl1 hl2 hl3 hs nx)
      by_cases h5 : z.toInt = 5
      · exact lz_tab X 5 387 d_law_33 rfl h5 (by decide) rfl (by decide) (lw_c5 hAd hZ X Y hX hbl hL hx3 hI hn hl0 hl1 hl2 hl3 hs nx)
      by_cases h6 : z.toInt = 6
      · exact lz_tab X 6 450 d_law_33 rfl h6 (by decide) rfl (by decide) (lw_c6 hAd hZ X Y hX hbl hL hx3 hI hn hl0 hl1 hl2 hl3 hs nx)
      by_cases h7 : z.toInt = 7
      · exact lz_tab X 7 473 d_law_33 rfl h7 (by decide) rfl (by decide) (lw_c7 hAd hZ X Y hX hbl hL hx3 hI hn hl0 hl1 hl2 hl3 hs nx)
      by_cases h8 : z.toInt = 8
      · exact lz_tab X 8 496 d_law_33 rfl h8 (by decide) rfl (by decide) (lw_c8 hAd hZ X Y hX hbl hL hx3 hI hn hl0 hl1 hl2 hl3 hs nx)
      by_cases h9 : z.toInt = 9
      · exact lz_tab X 9 519 d_law_33 rfl h9 (by decide) rfl (by decide) (lw_c9 hAd hZ X Y hX hbl hL hx3 hI hn hl0 hl1 hl2 hl3 hs nx)
      by_cases h10 : z.toInt = 10
      · exact lz_tab X 10 552 d_law_33 rfl h10 (by decide) rfl (by decide) (lw_c10 hAd hZ X Y hX hbl hL hx3 hI hn hl0 hl1 hl2 hl3 hs nx)
      by_cases h11 : z.toInt = 11
      · exact lz_tab X 11 585 d_law_33 rfl h11 (by decide) rfl (by decide) (lw_c11 hAd hZ X Y hX hbl hL hx3 hI hn hl0 hl1 hl2 hl3 hs nx)
      by_cases h12 : z.toInt = 12
      · exact lz_tab X 12 618 d_law_33 rfl h12 (by decide) rfl (by decide) (lw_c12 hAd hZ X Y hX hbl hL hx3 hI hn hl0 hl1 hl2 hl3 hs nx)
      by_cases h13 : z.toInt = 13
      · exact lz_tab X 13 681 d_law_33 rfl h13 (by decide) rfl (by decide) (lw_c13 hAd hZ X Y hX hbl hL hx3 hI hn hl0 hl1 hl2 hl3 hs nx)
      by_cases h14 : z.toInt = 14
      · exact lz_tab X 14 724 d_law_33 rfl h14 (by decide) rfl (by decide) (lw_c14 hAd hZ X Y hX hbl hL hx3 hI hn hl0 hl1 hl2 hl3 hs nx)
      by_cases h15 : z.toInt = 15
      · exact lz_tab X 15 757 d_law_33 rfl h15 (by decide) rfl (by decide) (lw_c15 hAd hZ X Y hX hbl hL hx3 hI hn hl0 hl1 hl2 hl3 hs nx)
      by_cases h16 : z.toInt = 16
      · exact lz_tab X 16 810 d_law_33 rfl h16 (by decide) rfl (by decide) (lw_c16 hAd hZ X Y hX hbl hL hx3 hI hn hl0 hl1 hl2 hl3 hs nx)
      by_cases h17 : z.toInt = 17
      · exact lz_tab X 17 853 d_law_33 rfl h17 (by decide) rfl (by decide) (lw_c17 hAd hZ X Y hX hbl hL hx3 hI hn hl0 hl1 hl2 hl3 hs nx)
      by_cases h18 : z.toInt = 18
      · exact lz_tab X 18 896 d_law_33 rfl h18 (by decide) rfl (by decide) (lw_c18 hAd hZ X Y hX hbl hL hx3 hI hn hl0 hl1 hl2 hl3 hs nx)
      by_cases h19 : z.toInt = 19
      · exact lz_tab X 19 939 d_law_33 rfl h19 (by decide) rfl (by decide) (lw_c19 hAd hZ X Y hX hbl hL hx3 hI hn hl0 hl1 hl2 hl3 hs nx)
      by_cases h20 : z.toInt = 20
      · exact lz_tab X 20 972 d_law_33 rfl h20 (by decide) rfl (by decide) (lw_c20 hAd hZ X Y hX hbl hL hx3 hI hn hl0 hl1 hl2 hl3 hs nx)
      by_cases h21 : z.toInt = 21
      · exact lz_tab X 21 1015 d_law_33 rfl h21 (by decide) rfl (by decide) (lw_c21 hAd hZ X Y hX hbl hL hx3 hI hn hl0 hl1 hl2 hl3 hs nx)
      by_cases h22 : z.toInt = 22
      · exact lz_tab X 22 1058 d_law_33 rfl h22 (by decide) rfl (by decide) (lw_c22 hAd hZ X Y hX hbl hL hx3 hI hn hl0 hl1 hl2 hl3 hs nx)
      by_cases h23 : z.toInt = 23
      · exact lz_tab X 23 1081 d_law_33 rfl h23 (by decide) rfl (by decide) (lw_c23 hAd hZ X Y hX hbl hL hx3 hI hn hl0 hl1 hl2 hl3 hs nx)
      by_cases h24 : z.toInt = 24
      · exact lz_tab X 24 1094 d_law_33 rfl h24 (by decide) rfl (by decide) (lw_c24 hAd hZ X Y hX hbl hL hx3 hI hn hl0 hl1 hl2 hl3 hs nx)
      by_cases h25 : z.toInt = 25
      · exact lz_tab X 25 1107 d_law_33 rfl h25 (by decide) rfl (by decide) (lw_c25 hAd hZ X Y hX hbl hL hx3 hI hn hl0 hl1 hl2 hl3 hs nx)
      by_cases h26 : z.toInt = 26
      · exact lz_tab X 26 1130 d_law_33 rfl h26 (by decide) rfl (by decide) (lw_c26 hAd hZ X Y hX hbl hL hx3 hI hn hl0 hl1 hl2 hl3 hs nx)
      exact lz_tabO X 1153 d_law_33 (by omega) (by decide) (nx V hI.up)
theorem ct_astore_n {p : Program} {l : Launch} {e : Env} {R : Room} {s : State} {m : MethodId} {args : Array Value} {below : List Frame} {meth : Method} {c : Code} {Q : State → Prop} {cc : ByteArray} {own : String} {D : va_G} {cy : Nat → ClassId} {A : Nat → Prop} {nL pc cells slots : Nat} {ls : Array Slot} {rest : List Value} {ws : va_W} (X : ct_X p s m args c cc own D cy A nL) {i : Fin 4} {x : Nat} (hd : decode cc pc = .ok (.astore_n i, 1)) (hs : ls.size = nL) (hw : lv_wf ls) (hi : (i : Nat) < nL) (kk : ∀ ls', rv_sto ls ls' i (.ref x) → ct_W p l e R s m args below meth c Q D A ws cells slots (pc + 1) ls' rest) : ct_W p l e R s m args below meth c Q D A ws cells slots pc ls (.ref x :: rest) := by
  obtain ⟨hx, hb, -⟩ := X
  obtain ⟨ls', e', h'⟩ := rv_sto_of (v := .ref x) hw (show (i : Nat) < ls.size by omega) rfl
  intro H locs hP hD hS T hT X
  obtain ⟨t, a, b⟩ := kk ls' h' H locs hP hD hS T hT X
  refine ⟨t, ?_, b⟩
  jvm_step X.here [X.here.top, ↓top_set X.here.top, hx, hb, hd, e']
  exact ⟨rfl, a⟩
theorem whole_start {p : Program} {e : Env} {s : State} {m : MethodId} {below : List Frame} {meth : Method} {c : Code} (l : Launch) {b L : Nat} {xs : Nat → Int32} (hL : L ≤ 3072) (C0 : lw_At p s m meth c b L xs) : W p l e room_1 s m #[Value.ref b] below meth c s.heap [] 0 0 (lw_Z below #[Value.ref b] s) (entryFrame m ([Value.ref b] : List Value).toArray 4) := by
  obtain ⟨hx, hb, hr, hml, hown, hts, hX, hbl, hlocks, hgv⟩ := id C0
  have hT : ∀ w ∈ fm_Ts, w.before #[Value.ref b] s = true := fun w hw => hts w (List.mem_filter.mp hw).1
  obtain ⟨D, cy, hK⟩ := lw_K hT
  have hN := lw_N hts
  have X0 : ct_X p s m #[Value.ref b] c code R_law D cy (lw_Aq s) 4 := ⟨hx, hb, hown, hT, hK, hml, fun _ h => h, hN⟩
  have hl := lv_entry ([.ref b]) (n := 4) (Nat.le_of_ble_eq_true rfl)
  rw [lg_entry_eq]
  generalize (lg_sl ([.ref b]) ++ List.replicate (4 - (lg_sl ([.ref b])).length) Slot.unset).toArray = ls at hl ⊢
  have hl0 : ls[0]? = some (.val (.ref b)) := hl.2.2 (0, .ref b) (by simp [lv_args, Value.category])
  have hs := hl.1
  have hw := hl.2.1
  clear hl
  have main : ct_W p l e room_1 s m #[Value.ref b] below meth c (lw_Z below #[Value.ref b] s) D (lw_Aq s) [] 0 0 0 ls [] := by
    refine ct_new X0 (ci := 7) d_law_0 inX7 tyX7_ok wn_L_X7 rfl zz_X7 (by decide) (by decide) (fun q1 => ?_)
    refine ct_dup X0 d_law_3 rfl ?_
    refine ct_call X0 (c_X7 l D cy) d_law_4 (Or.inl wl_L_9) wi_X7 wq_X7 (by decide) (rest := [.ref q1]) rfl rfl hs (by simp [Value.category]) (by decide) (fun u _ => ?_)
    refine ct_astore_n X0 d_law_7 hs hw (by decide) (fun ls hst => ?_)
    have hl0 := hst.2.2.2.1 0 _ (by decide) hl0 rfl
    have hl1 := hst.2.2.1
    have hs := hst.1.trans hs
    have hw := hst.2.1
    clear hst
    refine ct_new X0 (ci := 8) d_law_8 inX8 tyX8_ok wn_L_X8 rfl zz_X8 (by decide) (by decide) (fun q2 => ?_)
    refine ct_dup X0 d_law_11 rfl ?_
    refine ct_call X0 (c_X8 l D cy) d_law_12 (Or.inl wl_L_12) wi_X8 wq_X8 (by decide) (rest := [.ref q2]) rfl rfl hs (by simp [Value.category]) (by decide) (fun v hv => ?_)
    refine ct_astore_n X0 d_law_15 hs hw (by decide) (fun ls hst => ?_)
    have hl0 := hst.2.2.2.1 0 _ (by decide) hl0 rfl
    have hl1 := hst.2.2.2.1 1 _ (by decide) hl1 rfl
    have hl2 := hst.2.2.1
    have hs := hst.1.trans hs
    have hw := hst.2.1
    clear hst
    refine ct_iconst X0 d_law_16 (v := 0) (by decide) ?_
    refine ct_istore_n X0 d_law_17 hs hw (by decide) (fun ls hst => ?_)
    have hl0 := hst.2.2.2.1 0 _ (by decide) hl0 rfl
    have hl1 := hst.2.2.2.1 1 _ (by decide) hl1 rfl
    have hl2 := hst.2.2.2.1 2 _ (by decide) hl2 rfl
    have hl3 := hst.2.2.1
    have hs := hst.1.trans hs
    have hw := hst.2.1
    clear hst
    intro H locs hP hD hS
    obtain ⟨hP, hD⟩ := lw_conv hP hD
    obtain ⟨hAd, hAq⟩ := lw_Ad hD
    obtain ⟨adK, adV, hZ0⟩ := lw_Zof hts hgv (A := fm_A fm_tm (lw_ad q1 q2 u v)) (fun a ha h => absurd (hAq a h) (Nat.not_le.mpr ha))
    have hDD : ∀ V, va_D (lw_Aq s) (fm_ws fm_tm (lw_ad q1 q2 u v) cy V) := fun V => (fm_D hAd cy V).weaken (fun _ q _ h => hAq q.1 h)
    have X : fm_X p s m #[Value.ref b] c code R_law D fm_cl fm_tm (lw_ad q1 q2 u v) cy (lw_Aq s) fm_Ts 4 := ⟨hx, hb, hown, hT, hK, hDD, hml⟩
    have Y : fm_Y s fm_nt (sk_Z (fm_A fm_tm (lw_ad q1 q2 u v)) adK adV) fm_tm (lw_ad q1 q2 u v) (lw_Aq s) := ⟨sk_Zk, fun q h1 h2 => absurd h1 (Nat.not_lt.mpr h2), hAq, hN, hZ0⟩
    refine W.widen (k := 600000) (n := 7302249) (by decide) (by decide) ?_
    exact lw_loop hAd sk_Zk hr hlocks X Y hX hbl hL _ 0 _ ls 0 (Nat.lt_succ_self _) rfl (lw_I0 hv) hs hw hl0 hl1 hl2 hl3 H locs hP hS
  exact main s.heap [] (fun k q h => by simp at h) ⟨fun i j p q h => by simp at h, fun k q h => by simp at h⟩ va_S.rf
