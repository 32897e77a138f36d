/-! the tail of sieved: the lowest bit of what is not 0 -/
theorem hb_n : ∀ b : Nat, b < 32 → ((Int32.ofNat b &&& 31).toBitVec.smod 32).toNat = b := by decide +kernel
theorem hb_bit (a : Int32) {b : Nat} (hb : b < 32) : hb_ a (Int32.ofNat b) = a.toBitVec.getLsbD b := by
  have e : (a >>> (Int32.ofNat b &&& 31)).toBitVec = a.toBitVec.sshiftRight b := by
    show BitVec.sshiftRight' a.toBitVec ((Int32.ofNat b &&& 31).toBitVec.smod 32) = _
    unfold BitVec.sshiftRight'
    rw [hb_n b hb]
  have e1 : ((a >>> (Int32.ofNat b &&& 31)) &&& 1).toBitVec = a.toBitVec.sshiftRight b &&& 1#32 := by
    rw [Int32.toBitVec_and, e]
    rfl
  have e2 : (a.toBitVec.sshiftRight b).getLsbD 0 = a.toBitVec.getLsbD b := by
    rw [BitVec.getLsbD_sshiftRight]
    simp [hb]
  unfold hb_
  rw [← e2]
  generalize hv : a.toBitVec.sshiftRight b = v at e1
  by_cases c : v.getLsbD 0 = true
  · rw [c]
    apply decide_eq_true
    apply Int32.toBitVec_inj.mp
    rw [e1]
    apply BitVec.eq_of_getLsbD_eq
    intro i hi
    rw [BitVec.getLsbD_and]
    by_cases z : i = 0
    · subst z; rw [c]; rfl
    · have : (1#32).getLsbD i = false := by
        rw [BitVec.getLsbD_one]
        simp [z]
      rw [this, Bool.and_false]
      exact this.symm
  · have c' : v.getLsbD 0 = false := by
      cases h : v.getLsbD 0 with
      | false => rfl
      | true => exact absurd h c
    rw [c']
    apply decide_eq_false
    intro z
    have z1 := congrArg Int32.toBitVec z
    rw [e1] at z1
    have z2 := congrArg (fun q => BitVec.getLsbD q 0) z1
    simp only [BitVec.getLsbD_and, c', Bool.false_and] at z2
    exact absurd z2 (by decide)
theorem hb_ex {a : Int32} (ha : a.toInt ≠ 0) : ∃ b, b < 32 ∧ hb_ a (Int32.ofNat b) = true := by
  by_cases h : ∃ b, b < 32 ∧ hb_ a (Int32.ofNat b) = true
  · exact h
  · exfalso
    apply ha
    have e : a = 0 := by
      apply Int32.toBitVec_inj.mp
      apply BitVec.eq_of_getLsbD_eq
      intro i hi
      have : ¬ (hb_ a (Int32.ofNat i) = true) := fun z => h ⟨i, hi, z⟩
      rw [hb_bit a hi] at this
      have e2 : a.toBitVec.getLsbD i = false := by
        cases q : a.toBitVec.getLsbD i with
        | false => rfl
        | true => exact absurd q this
      rw [e2]
      simp
    rw [e]
    rfl
theorem d_X8_sieved_347 : decode prog_10_method_76_code 347 = .ok (.iload 7, 2) := by decide +kernel
theorem d_X8_sieved_349 : decode prog_10_method_76_code 349 = .ok (.iload 8, 2) := by decide +kernel
theorem d_X8_sieved_351 : decode prog_10_method_76_code 351 = .ok (.invokestatic 448, 3) := by decide +kernel
theorem d_X8_sieved_354 : decode prog_10_method_76_code 354 = .ok (.ifCond .ne 9, 3) := by decide +kernel
theorem d_X8_sieved_357 : decode prog_10_method_76_code 357 = .ok (.iinc 8 1, 3) := by decide +kernel
theorem d_X8_sieved_360 : decode prog_10_method_76_code 360 = .ok (.goto (-13), 3) := by decide +kernel
theorem d_X8_sieved_363 : decode prog_10_method_76_code 363 = .ok (.iload 8, 2) := by decide +kernel
theorem d_X8_sieved_365 : decode prog_10_method_76_code 365 = .ok (.ireturn, 1) := by decide +kernel
theorem x_sieved {l : Launch} {D : va_G} {ad : Nat → Nat} {cy : Nat → ClassId} {Z : State → Heap → Prop} (hAd : fm_Ad fm_tm ad) (hZ : fm_Zk (fm_A fm_tm ad) Z) {p : Program} {e : Env} {R : Room} {s : State} {m : MethodId} {args : Array Value} {below : List Frame} {meth : Method} {c : Code} {V : fm_V} {po : Option Value → fm_V → Prop} (hr : meth.sig.returnType = some .int) (hlk : meth.locks = false) (X : fm_X p s m args c prog_10_method_76_code yX8_sieved.cls D fm_cl fm_tm ad cy (fm_A fm_tm ad) fm_Ts 10) (Y : fm_Y s fm_nt Z fm_tm ad (fm_A fm_tm ad)) (hR : 1 ≤ R.frames ∧ 21 ≤ R.locals) {x7 : Int32} (h7 : x7.toInt ≠ 0) (hpo : ∀ x : Int32, po (some (.int x)) V) :
    ∀ (N : Nat) (b : Nat) (ls : Array Slot) (x8 : Int32), b < 32 → hb_ x7 (Int32.ofNat b) = true → x8.toInt ≤ b → 0 ≤ x8.toInt → (b - x8.toInt).toNat < N → ls.size = 10 → lv_wf ls → ls[7]? = some (.val (.int x7)) → ls[8]? = some (.val (.int x8)) → fm_W p l e R s m args below meth c (MQ below (rv_Qc D fm_cl fm_tm ad cy fm_nt Z po) args s 0 0 (fm_A fm_tm ad)) D fm_cl fm_tm ad cy (fm_A fm_tm ad) V 347 ls [] := by
  intro N
  induction N with
  | zero => intro b ls x8 _ _ _ _ h; omega
  | succ N ih =>
    intro b ls x8 hb hbt f1 f2 hN hs hw hl7 hl8
    refine fm_iload X d_X8_sieved_347 hl7 ?_
    refine fm_iload X d_X8_sieved_349 hl8 ?_
    refine gm_callS X Y fm_Ts_good d_X8_sieved_351 (g_has hAd hZ (V := V)) wl_X8_448 wm_X8_has wy_X8_has ⟨⟨rfl, rfl⟩, by show 0 + 1 ≤ R.frames; omega, by show 8 + (2 + 11) + 0 ≤ R.locals; omega⟩ (rest := []) rfl rfl hs (by simp [Value.category]) (fun r V2 hp => ?_)
    obtain ⟨rfl, y, rfl, hz, hy⟩ := hp
    refine fz_if_ne X 363 d_X8_sieved_354 (by decide) (fun c1 => ?_) (fun c1 => ?_)
    · refine fm_iload X d_X8_sieved_363 hl8 ?_
      exact gm_iret X Y hr hlk d_X8_sieved_365 (hpo _)
    · have hne : x8.toInt ≠ b := fun z => by
        have e8 := zi_ofN f2
        rw [z] at e8
        have : hb_ x7 x8 = true := by rw [← e8]; exact hbt
        exact hy.mpr this c1
      refine fm_iinc X d_X8_sieved_357 hl8 hs hw (by decide) (fun ls hst => ?_)
      have hl7 := hst.2.2.2.1 7 _ (by decide) hl7 rfl
      obtain ⟨z, hz1⟩ : ∃ z : Int32, z.toInt = x8.toInt + 1 ∧ ls[8]? = some (.val (.int z)) := ⟨_, zi_inc (by omega) (by omega) (by decide) (by decide), hst.2.2.1⟩
      refine fz_goto X 347 d_X8_sieved_360 (by decide) ?_
      exact ih b ls z hb hbt (by omega) (by omega) (by omega) (hst.1.trans hs) hst.2.1 hl7 hz1.2
