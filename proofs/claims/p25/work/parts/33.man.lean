/-! BY HAND: small ones -/
theorem zi_inc {x : Int32} {n : Int} (h1 : -2147483648 ≤ x.toInt + n) (h2 : x.toInt + n ≤ 2147483647) (h3 : -2147483648 ≤ n) (h4 : n ≤ 2147483647) : (x + Int32.ofInt n).toInt = x.toInt + n := by
  obtain ⟨k, hk⟩ := zi_add x (Int32.ofInt n)
  rw [zi_of h3 h4] at hk
  have hr := zi_rng (x + Int32.ofInt n)
  omega
def K_lies (lo hi : Int) : rv_K := ([(3, 0, (-2147483648), 2147483647, [], []), (3, 0, lo, lo, [], []), (3, 0, hi, hi, [], [])], [], [], [(0, 0, 1)], [(.inl 0, lo, hi)], [])
theorem lies_avs {ad : Nat → Nat} {V : fm_V} {lo hi : Int} {avs : List Value} (h : rv_sk (rv_ok ad V #[]) ((K_lies lo hi).1.map rv_bare) avs) : ∃ x y z : Int64, avs = [.long x, .long y, .long z] ∧ y.toInt = lo ∧ z.toInt = hi := by
  obtain ⟨v0, r0, rfl, q0, h⟩ := rv_sk_cons h
  obtain ⟨v1, r1, rfl, q1, h⟩ := rv_sk_cons h
  obtain ⟨v2, r2, rfl, q2, h⟩ := rv_sk_cons h
  rw [rv_sk_nil h]
  obtain ⟨x, rfl, -⟩ := rv_okL rfl q0
  obtain ⟨y, rfl, y1, y2, -⟩ := rv_okL rfl q1
  obtain ⟨z, rfl, z1, z2, -⟩ := rv_okL rfl q2
  refine ⟨x, y, z, rfl, ?_, ?_⟩
  · have a : lo ≤ y.toInt := y1
    have b : y.toInt ≤ lo := y2
    omega
  · have a : hi ≤ z.toInt := z1
    have b : z.toInt ≤ hi := z2
    omega
theorem m_lies {l : Launch} {D : va_G} {ad : Nat → Nat} {cy : Nat → ClassId} {Z : State → Heap → Prop} (hAd : fm_Ad fm_tm ad) (hZ : fm_Zk (fm_A fm_tm ad) Z) (lo hi : Int) : rv_Met l D fm_cl fm_tm ad cy fm_nt Z fm_G yX8_lies (.code yX8_lies prog_10_method_2_code 6 (some .boolean) :: fm_Ts) { frames := 0, cells := 0, slots := 0, locals := 0 } (K_lies lo hi) := by
  intro V avs hpre
  obtain ⟨x, y, z, rfl, ey, ez⟩ := lies_avs hpre.2.2.1
  refine gm_at hAd hZ (by decide +kernel) ?_ ?_
  · simp [lg_sl, Value.category]
  · intro p e s m args below meth c ls hr hlk X Y hl
    have h0 : ls[0]? = some (.val (.long x)) := hl.2.2 (0, .long x) (by simp [lv_args, Value.category])
    have h2 : ls[2]? = some (.val (.long y)) := hl.2.2 (2, .long y) (by simp [lv_args, Value.category])
    have h4 : ls[4]? = some (.val (.long z)) := hl.2.2 (4, .long z) (by simp [lv_args, Value.category])
    have p0 : rv_Post fm_tm (K_lies lo hi) V [.long x, .long y, .long z] (some (.int 0)) V := ⟨hpre.1, fun _ _ _ => rfl, ⟨0, rfl, by decide, by decide, fun q => absurd (show (0 : Nat) = 1 from q) (by decide), fun q => absurd rfl q⟩, fun f hf => absurd hf List.not_mem_nil⟩
    refine fm_lload_n X d_X8_lies_0 rfl h0 ?_
    refine fm_lload_n X d_X8_lies_1 rfl h2 ?_
    refine fm_lcmp X d_X8_lies_2 ?_
    refine fm_if_lt X (tgt := 17) d_X8_lies_3 (by decide) (fun c1 => ?_) (fun c1 => ?_)
    · refine fm_iconst X d_X8_lies_17 (v := 0) rfl ?_
      exact gm_zret X Y hr hlk (Or.inl rfl) d_X8_lies_18 p0
    · refine fm_lload_n X d_X8_lies_6 rfl h0 ?_
      refine fm_lload X d_X8_lies_7 h4 ?_
      refine fm_lcmp X d_X8_lies_9 ?_
      refine fm_if_gt X (tgt := 17) d_X8_lies_10 (by decide) (fun c2 => ?_) (fun c2 => ?_)
      · refine fm_iconst X d_X8_lies_17 (v := 0) rfl ?_
        exact gm_zret X Y hr hlk (Or.inl rfl) d_X8_lies_18 p0
      · refine fm_iconst X d_X8_lies_13 (v := 1) rfl ?_
        refine fm_goto X (tgt := 18) d_X8_lies_14 (by decide) ?_
        refine gm_zret X Y hr hlk (Or.inr rfl) d_X8_lies_18 ⟨hpre.1, fun _ _ _ => rfl, ⟨1, rfl, by decide, by decide, fun q => absurd (show (0 : Nat) = 1 from q) (by decide), fun _ q hq => ?_⟩, fun f hf => absurd hf List.not_mem_nil⟩
        rw [List.mem_singleton.mp (show q ∈ [((.inl 0 : rv_U), lo, hi)] from hq)]
        have a1 : ¬ x < y := fun w => c1 ((lg_cmp_lt x y).mpr w)
        have a2 : ¬ z < x := fun w => c2 ((lg_cmp_gt x z).mpr w)
        rw [Int64.lt_iff_toInt_lt] at a1 a2
        show lo ≤ x.toInt ∧ x.toInt ≤ hi
        omega
/-- one int of any kind -/
theorem one_avs {ad : Nat → Nat} {V : fm_V} {a : rv_A} {avs : List Value} (ha : a.1 = 1) (h : rv_sk (rv_ok ad V #[]) ([a].map rv_bare) avs) : ∃ x : Int32, avs = [.int x] := by
  obtain ⟨v0, r0, rfl, q0, h⟩ := rv_sk_cons h
  rw [rv_sk_nil h]
  obtain ⟨x, rfl, -⟩ := rv_okI (show (rv_bare a).1 = 1 from ha) q0
  exact ⟨x, rfl⟩
theorem zi_and1 {v w : Int32} (hv : ¬ v = 0) (hw : w.toInt = 1) : (v &&& (v - w)).toBitVec.toNat < v.toBitVec.toNat := by
  have ew : w = 1 := zi_inj hw
  subst ew
  have h0 : v.toBitVec.toNat ≠ 0 := by
    intro h
    apply hv
    apply Int32.toBitVec_inj.mp
    apply BitVec.eq_of_toNat_eq
    rw [h]
    rfl
  have h1 : (v - 1).toBitVec.toNat = v.toBitVec.toNat - 1 := by
    have e : (v - 1).toBitVec = v.toBitVec - 1#32 := rfl
    rw [e, BitVec.toNat_sub]
    have := v.toBitVec.isLt
    simp
    omega
  have h2 : (v &&& (v - 1)).toBitVec.toNat = v.toBitVec.toNat &&& (v - 1).toBitVec.toNat := by
    rw [Int32.toBitVec_and, BitVec.toNat_and]
  rw [h2, h1]
  have := @Nat.and_le_right v.toBitVec.toNat (v.toBitVec.toNat - 1)
  omega
theorem m_sizeOf {l : Launch} {D : va_G} {ad : Nat → Nat} {cy : Nat → ClassId} {Z : State → Heap → Prop} (hAd : fm_Ad fm_tm ad) (hZ : fm_Zk (fm_A fm_tm ad) Z) : rv_Met l D fm_cl fm_tm ad cy fm_nt Z fm_G yX8_sizeOf (.code yX8_sizeOf prog_10_method_4_code 3 (some .int) :: fm_Ts) { frames := 0, cells := 0, slots := 0, locals := 0 } K_sizeOf := by
  intro V avs hpre
  obtain ⟨x, rfl⟩ := one_avs (a := rv_full) rfl hpre.2.2.1
  refine gm_at hAd hZ (by decide +kernel) (by simp [lg_sl, Value.category]) ?_
  intro p e s m args below meth c ls hr hlk X Y hl
  have hl0 : ls[0]? = some (.val (.int x)) := hl.2.2 (0, .int x) (by simp [lv_args, Value.category])
  have hs := hl.1
  have hw := hl.2.1
  clear hl
  have loop : ∀ (N : Nat) (v nn : Int32) (ls : Array Slot), v.toBitVec.toNat < N → ls.size = 3 → lv_wf ls → ls[1]? = some (.val (.int nn)) → ls[2]? = some (.val (.int v)) → fm_W p l e { frames := 0, cells := 0, slots := 0, locals := 0 } s m args below meth c (MQ below (rv_Qc D fm_cl fm_tm ad cy fm_nt Z (rv_Post fm_tm K_sizeOf V [.int x])) args s 0 0 (fm_A fm_tm ad)) D fm_cl fm_tm ad cy (fm_A fm_tm ad) V 4 ls [] := by
    intro N
    induction N with
    | zero => intro v nn ls h; omega
    | succ N ih =>
      intro v nn ls hN hs hw hl1 hl2
      refine fm_iload_n X d_X8_sizeOf_4 rfl hl2 ?_
      refine fm_if_eq X (tgt := 20) d_X8_sizeOf_5 (by decide) (fun c1 => ?_) (fun c1 => ?_)
      · refine fm_iload_n X d_X8_sizeOf_20 rfl hl1 ?_
        exact gm_iret X Y hr hlk d_X8_sizeOf_21 ⟨hpre.1, fun _ _ _ => rfl, ⟨nn, rfl, (zi_rng nn).1, (zi_rng nn).2, fun q => absurd (show (0 : Nat) = 1 from q) (by decide), fun _ q hq => absurd hq List.not_mem_nil⟩, fun f hf => absurd hf List.not_mem_nil⟩
      · refine fm_iinc X d_X8_sizeOf_8 hl1 hs hw (by decide) (fun ls hst => ?_)
        have hl2 := hst.2.2.2.1 2 _ (by decide) hl2 rfl
        have hl1 := hst.2.2.1
        have hs := hst.1.trans hs
        have hw := hst.2.1
        clear hst
        refine fm_iload_n X d_X8_sizeOf_11 rfl hl2 ?_
        refine fm_iload_n X d_X8_sizeOf_12 rfl hl2 ?_
        refine fz_iconst X d_X8_sizeOf_13 (by decide) (fun w hw1 => ?_)
        refine fm_isub X d_X8_sizeOf_14 ?_
        refine fm_iand X d_X8_sizeOf_15 ?_
        refine fm_istore_n X d_X8_sizeOf_16 hs hw (by decide) (fun ls hst => ?_)
        have hl1 := hst.2.2.2.1 1 _ (by decide) hl1 rfl
        have hl2 := hst.2.2.1
        have hs := hst.1.trans hs
        have hw := hst.2.1
        refine fz_goto X 4 d_X8_sizeOf_17 (by decide) ?_
        refine ih _ _ _ ?_ hs hw hl1 hl2
        have := zi_and1 c1 hw1
        omega
  refine fz_iconst X d_X8_sizeOf_0 (by decide) (fun z hz => ?_)
  refine fm_istore_n X d_X8_sizeOf_1 hs hw (by decide) (fun ls hst => ?_)
  have hl0 := hst.2.2.2.1 0 _ (by decide) hl0 rfl
  have hl1 := hst.2.2.1
  have hs := hst.1.trans hs
  have hw := hst.2.1
  clear hst
  refine fm_iload_n X d_X8_sizeOf_2 rfl hl0 ?_
  refine fm_istore_n X d_X8_sizeOf_3 hs hw (by decide) (fun ls hst => ?_)
  exact loop _ x z ls (Nat.lt_succ_self _) (hst.1.trans hs) hst.2.1 (hst.2.2.2.1 1 _ (by decide) hl1 rfl) hst.2.2.1
theorem zi_div (x y : Int32) : ∃ k : Int, (x / y).toInt = x.toInt.tdiv y.toInt + 4294967296 * k := by
  rw [Int32.toInt_div]
  exact zi_bm _
theorem zi_rem {x y : Int32} (hy : ¬ y = 0) : (x - x / y * y).toInt.natAbs < y.toInt.natAbs := by
  obtain ⟨k1, h1⟩ := zi_div x y
  obtain ⟨k2, h2⟩ := zi_mul (x / y) y
  obtain ⟨k3, h3⟩ := zi_sub x (x / y * y)
  have hr := zi_rng (x - x / y * y)
  have hy0 : y.toInt ≠ 0 := fun q => hy (zi_inj q)
  have hyr := zi_rng y
  have hm := Int.mul_tdiv_add_tmod x.toInt y.toInt
  have hb : (x.toInt.tmod y.toInt).natAbs < y.toInt.natAbs := by
    have := Int.natAbs_tmod x.toInt y.toInt
    rw [this]
    exact Nat.mod_lt _ (by omega)
  have e : (x / y).toInt * y.toInt = x.toInt.tdiv y.toInt * y.toInt + 4294967296 * (k1 * y.toInt) := by
    rw [h1, Int.add_mul, Int.mul_assoc]
  have e2 : y.toInt * x.toInt.tdiv y.toInt = x.toInt.tdiv y.toInt * y.toInt := Int.mul_comm _ _
  generalize x.toInt.tdiv y.toInt * y.toInt = t at e e2
  generalize k1 * y.toInt = u at e
  generalize (x / y).toInt * y.toInt = v at e h2
  have : (x - x / y * y).toInt = x.toInt.tmod y.toInt := by omega
  rw [this]
  exact hb
theorem m_divisor {l : Launch} {D : va_G} {ad : Nat → Nat} {cy : Nat → ClassId} {Z : State → Heap → Prop} (hAd : fm_Ad fm_tm ad) (hZ : fm_Zk (fm_A fm_tm ad) Z) : rv_Met l D fm_cl fm_tm ad cy fm_nt Z fm_G yX8_divisor (.code yX8_divisor prog_10_method_89_code 5 (some .int) :: fm_Ts) { frames := 0, cells := 0, slots := 0, locals := 0 } K_divisor := by
  intro V avs hpre
  obtain ⟨v0, r0, rfl, q0, hsk⟩ := rv_sk_cons hpre.2.2.1
  obtain ⟨v1, r1, rfl, q1, hsk⟩ := rv_sk_cons hsk
  obtain rfl := rv_sk_nil hsk
  obtain ⟨x, rfl, -⟩ := rv_okI rfl q0
  obtain ⟨y, rfl, -, -, ynz, -⟩ := rv_okI rfl q1
  have ynz : y.toInt ≠ 0 := ynz rfl
  refine gm_at hAd hZ (by decide +kernel) (by simp [lg_sl, Value.category]) ?_
  intro p e s m args below meth c ls hr hlk X Y hl
  have hl0 : ls[0]? = some (.val (.int x)) := hl.2.2 (0, .int x) (by simp [lv_args, Value.category])
  have hl1 : ls[1]? = some (.val (.int y)) := hl.2.2 (1, .int y) (by simp [lv_args, Value.category])
  have hs := hl.1
  have hw := hl.2.1
  clear hl
  have loop : ∀ (N : Nat) (pp qq : Int32) (ls : Array Slot), qq.toInt.natAbs < N → (pp.toInt ≠ 0 ∨ qq.toInt ≠ 0) → ls.size = 5 → lv_wf ls → ls[2]? = some (.val (.int pp)) → ls[3]? = some (.val (.int qq)) → fm_W p l e { frames := 0, cells := 0, slots := 0, locals := 0 } s m args below meth c (MQ below (rv_Qc D fm_cl fm_tm ad cy fm_nt Z (rv_Post fm_tm K_divisor V [.int x, .int y])) args s 0 0 (fm_A fm_tm ad)) D fm_cl fm_tm ad cy (fm_A fm_tm ad) V 4 ls [] := by
    intro N
    induction N with
    | zero => intro pp qq ls h; omega
    | succ N ih =>
      intro pp qq ls hN hnz hs hw hl2 hl3
      refine fm_iload_n X d_X8_divisor_4 rfl hl3 ?_
      refine fm_if_eq X (tgt := 21) d_X8_divisor_5 (by decide) (fun c1 => ?_) (fun c1 => ?_)
      · refine fm_iload_n X d_X8_divisor_21 rfl hl2 ?_
        refine gm_iret X Y hr hlk d_X8_divisor_22 ⟨hpre.1, fun _ _ _ => rfl, ⟨pp, rfl, (zi_rng pp).1, (zi_rng pp).2, fun _ => ?_, fun _ q hq => absurd hq List.not_mem_nil⟩, fun f hf => absurd hf List.not_mem_nil⟩
        rw [c1] at hnz
        exact hnz.elim id (fun z => absurd rfl z)
      · refine fm_iload_n X d_X8_divisor_8 rfl hl2 ?_
        refine fm_iload_n X d_X8_divisor_9 rfl hl3 ?_
        refine fm_irem X d_X8_divisor_10 c1 ?_
        refine fm_istore X d_X8_divisor_11 hs hw (by decide) (fun ls hst => ?_)
        have hl3 := hst.2.2.2.1 3 _ (by decide) hl3 rfl
        have hl4 := hst.2.2.1
        have hs := hst.1.trans hs
        have hw := hst.2.1
        clear hst
        refine fm_iload_n X d_X8_divisor_13 rfl hl3 ?_
        refine fm_istore_n X d_X8_divisor_14 hs hw (by decide) (fun ls hst => ?_)
        have hl4 := hst.2.2.2.1 4 _ (by decide) hl4 rfl
        have hl2 := hst.2.2.1
        have hs := hst.1.trans hs
        have hw := hst.2.1
        clear hst
        refine fm_iload X d_X8_divisor_15 hl4 ?_
        refine fm_istore_n X d_X8_divisor_17 hs hw (by decide) (fun ls hst => ?_)
        have hl2 := hst.2.2.2.1 2 _ (by decide) hl2 rfl
        refine fz_goto X 4 d_X8_divisor_18 (by decide) ?_
        have hz := zi_rem (x := pp) c1
        exact ih _ _ _ (by omega) (Or.inl (fun q => c1 (zi_inj q))) (hst.1.trans hs) hst.2.1 hl2 hst.2.2.1
  refine fm_iload_n X d_X8_divisor_0 rfl hl0 ?_
  refine fm_istore_n X d_X8_divisor_1 hs hw (by decide) (fun ls hst => ?_)
  have hl1 := hst.2.2.2.1 1 _ (by decide) hl1 rfl
  have hl2 := hst.2.2.1
  have hs := hst.1.trans hs
  have hw := hst.2.1
  clear hst
  refine fm_iload_n X d_X8_divisor_2 rfl hl1 ?_
  refine fm_istore_n X d_X8_divisor_3 hs hw (by decide) (fun ls hst => ?_)
  exact loop _ x y ls (Nat.lt_succ_self _) (Or.inr ynz) (hst.1.trans hs) hst.2.1 (hst.2.2.2.1 2 _ (by decide) hl2 rfl) hst.2.2.1
