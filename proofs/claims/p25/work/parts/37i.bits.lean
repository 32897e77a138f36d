/-! bowls -/
section BOW
variable {p : Program} {l : Launch} {e : Env} {R : Room} {s : State} {m : MethodId} {args : Array Value} {below : List Frame} {meth : Method} {c : Code} {Q : State → Prop} {cc : ByteArray} {own : String} {D : va_G} {cl : List vw_C} {tm : List fm_C} {ad : Nat → Nat} {cy : Nat → ClassId} {A : Nat → Prop} {Ts : List Jvm.Cond} {nL : Nat}
variable {pc : Nat} {ls : Array Slot} {rest : List Value} {V : fm_V}
theorem fz_ldcw (X : fm_X p s m args c cc own D cl tm ad cy A Ts nL) {i : Nat} {n : Int} (hd : decode cc pc = .ok (.ldc_w i, 3)) (hk : (-2147483648 ≤ n ∧ n ≤ 2147483647) ∧ Jvm.Cond.constant own i (Int32.ofInt n) ∈ Ts) (kk : ∀ z : Int32, z.toInt = n → fm_W p l e R s m args below meth c Q D cl tm ad cy A V (pc + 3) ls (.int z :: rest)) : fm_W p l e R s m args below meth c Q D cl tm ad cy A V pc ls rest := by
  obtain ⟨hx, hb, hown, hts, -⟩ := X
  intro H locs hP hS
  exact lv_ldcw hx hb hown (hts _ hk.2) hd (kk _ (zi_of hk.1.1 hk.1.2) H locs hP hS)
end BOW
def hb_ (a b : Int32) : Bool := decide ((a >>> (b &&& 31)) &&& 1 = 1)
def it_ : Nat → Int32 → Int32
  | 0, v => v
  | f + 1, v => it_ f (v &&& (v - 1))
def sz_ : Nat → Int32 → Nat
  | 0, _ => 0
  | f + 1, v => if v = 0 then 0 else sz_ f (v &&& (v - 1)) + 1
def cb_ (a : Int32) : Nat → Nat
  | 0 => 0
  | p + 1 => cb_ a p + (if hb_ a (Int32.ofNat p) = true then 1 else 0)
theorem sz_cb : ∀ n : Nat, n < 512 → it_ 10 (Int32.ofNat n) = 0 ∧ sz_ 10 (Int32.ofNat n) = cb_ (Int32.ofNat n) 9 := by decide +kernel
theorem cb_mono {a : Int32} : ∀ {q p : Nat}, p ≤ q → cb_ a p ≤ cb_ a q := by
  intro q
  induction q with
  | zero => intro p h; rw [show p = 0 by omega]; exact Nat.le_refl _
  | succ q ih =>
    intro p h
    by_cases e : p = q + 1
    · rw [e]; exact Nat.le_refl _
    · have := ih (p := p) (by omega)
      show cb_ a p ≤ cb_ a q + _
      omega
theorem zi_ofN {x : Int32} (h : 0 ≤ x.toInt) : Int32.ofNat x.toInt.toNat = x := by
  apply zi_inj
  have hr := zi_rng x
  rw [Int32.toInt_ofNat_of_lt (by omega)]
  omega
theorem sz_le : ∀ (f : Nat) (v : Int32), sz_ f v ≤ f := by
  intro f
  induction f with
  | zero => intro v; exact Nat.le_refl _
  | succ f ih =>
    intro v
    unfold sz_
    by_cases c : v = 0
    · rw [if_pos c]; omega
    · rw [if_neg c]
      have := ih (v &&& (v - 1))
      omega
theorem sz_0 : ∀ f : Nat, sz_ f 0 = 0 := by
  intro f
  cases f with
  | zero => rfl
  | succ f => unfold sz_; rw [if_pos rfl]
theorem d_X8_has_0 : decode prog_10_method_3_code 0 = .ok (.iload_n 0, 1) := by decide +kernel
theorem d_X8_has_1 : decode prog_10_method_3_code 1 = .ok (.iload_n 1, 1) := by decide +kernel
theorem d_X8_has_2 : decode prog_10_method_3_code 2 = .ok (.ishr, 1) := by decide +kernel
theorem d_X8_has_3 : decode prog_10_method_3_code 3 = .ok (.iconst 1, 1) := by decide +kernel
theorem d_X8_has_4 : decode prog_10_method_3_code 4 = .ok (.iand, 1) := by decide +kernel
theorem d_X8_has_5 : decode prog_10_method_3_code 5 = .ok (.iconst 1, 1) := by decide +kernel
theorem d_X8_has_6 : decode prog_10_method_3_code 6 = .ok (.if_icmp .ne 7, 3) := by decide +kernel
theorem d_X8_has_9 : decode prog_10_method_3_code 9 = .ok (.iconst 1, 1) := by decide +kernel
theorem d_X8_has_10 : decode prog_10_method_3_code 10 = .ok (.goto 4, 3) := by decide +kernel
theorem d_X8_has_13 : decode prog_10_method_3_code 13 = .ok (.iconst 0, 1) := by decide +kernel
theorem d_X8_has_14 : decode prog_10_method_3_code 14 = .ok (.ireturn, 1) := by decide +kernel
theorem g_has {l : Launch} {D : va_G} {ad : Nat → Nat} {cy : Nat → ClassId} {Z : State → Heap → Prop} (hAd : fm_Ad fm_tm ad) (hZ : fm_Zk (fm_A fm_tm ad) Z) {V : fm_V} {x1 x2 : Int32}  : gm_M l D fm_cl fm_tm ad cy fm_nt Z yX8_has (.code yX8_has prog_10_method_3_code 2 (some .boolean) :: fm_Ts) { frames := 0, cells := 0, slots := 0, locals := 0 } V [.int x1, .int x2] (fun r V1 => V = V1 ∧ ∃ x : Int32, r = some (.int x) ∧ (x = 0 ∨ x = 1) ∧ (x.toInt ≠ 0 ↔ hb_ x1 x2 = true)) := by
  refine gm_at hAd hZ (by decide +kernel) (by simp [lg_sl, Value.category]) ?_
  intro p e s m args below meth c ls hr hlk X Y hl
  have hl0 : ls[0]? = some (.val (.int x1)) := hl.2.2 (0, .int x1) (by simp [lv_args, Value.category])
  have hl1 : ls[1]? = some (.val (.int x2)) := hl.2.2 (1, .int x2) (by simp [lv_args, Value.category])
  have hs := hl.1
  have hw := hl.2.1
  clear hl
  refine fm_iload_n X d_X8_has_0 rfl hl0 ?_
  refine fm_iload_n X d_X8_has_1 rfl hl1 ?_
  refine fm_ishr X d_X8_has_2 ?_
  refine fm_iconst X d_X8_has_3 (v := 1) rfl ?_
  refine fm_iand X d_X8_has_4 ?_
  refine fm_iconst X d_X8_has_5 (v := 1) rfl ?_
  refine fm_icmp_ne X (tgt := 13) d_X8_has_6 (by decide) (fun c1 => ?_) (fun c1 => ?_)
  · refine fm_iconst X d_X8_has_13 (v := 0) rfl ?_
    refine gm_zret X Y hr hlk (Or.inl rfl) d_X8_has_14 ⟨rfl, 0, rfl, Or.inl rfl, ⟨fun w => absurd rfl w, fun w => ?_⟩⟩
    unfold hb_ at w
    exact absurd (of_decide_eq_true w) c1
  · refine fm_iconst X d_X8_has_9 (v := 1) rfl ?_
    refine fm_goto X (tgt := 14) d_X8_has_10 (by decide) ?_
    refine gm_zret X Y hr hlk (Or.inr rfl) d_X8_has_14 ⟨rfl, 1, rfl, Or.inr rfl, ⟨fun w => ?_, fun w => by decide⟩⟩
    unfold hb_
    exact decide_eq_true c1
theorem g_sizeOf {l : Launch} {D : va_G} {ad : Nat → Nat} {cy : Nat → ClassId} {Z : State → Heap → Prop} (hAd : fm_Ad fm_tm ad) (hZ : fm_Zk (fm_A fm_tm ad) Z) {V : fm_V} {x1 : Int32} (h1 : it_ 10 x1 = 0) : gm_M l D fm_cl fm_tm ad cy fm_nt Z yX8_sizeOf (.code yX8_sizeOf prog_10_method_4_code 3 (some .int) :: fm_Ts) { frames := 0, cells := 0, slots := 0, locals := 0 } V [.int x1] (fun r V1 => V = V1 ∧ ∃ x : Int32, r = some (.int x) ∧ x.toInt = sz_ 10 x1) := by
  refine gm_at hAd hZ (by decide +kernel) (by simp [lg_sl, Value.category]) ?_
  intro p e s m args below meth c ls hr hlk X Y hl
  have hl0 : ls[0]? = some (.val (.int x1)) := hl.2.2 (0, .int x1) (by simp [lv_args, Value.category])
  have hs := hl.1
  have hw := hl.2.1
  clear hl
  have loop : ∀ (f : Nat), ∀ (n1 v2 : Int32) (ls : Array Slot), it_ f v2 = 0 → 0 ≤ n1.toInt → n1.toInt + f ≤ 100 → n1.toInt + sz_ f v2 = sz_ 10 x1 → ls.size = 3 → lv_wf ls → ls[0]? = some (.val (.int x1)) → ls[1]? = some (.val (.int n1)) → ls[2]? = some (.val (.int v2)) → fm_W p l e { frames := 0, cells := 0, slots := 0, locals := 0 } s m args below meth c (MQ below (rv_Qc D fm_cl fm_tm ad cy fm_nt Z (fun r V1 => V = V1 ∧ ∃ x : Int32, r = some (.int x) ∧ x.toInt = sz_ 10 x1)) args s 0 0 (fm_A fm_tm ad)) D fm_cl fm_tm ad cy (fm_A fm_tm ad) V 4 ls [] := by
    intro f
    induction f with
    | zero =>
      intro n1 v2 ls a1 a2 a3 a4 hs hw hl0 hl1 hl2
      have a5 : v2 = 0 := a1
      refine fm_iload_n X d_X8_sizeOf_4 rfl hl2 ?_
      refine fz_if_eq X 20 d_X8_sizeOf_5 (by decide) (fun h11 => ?_) (fun h11 => ?_)
      · skip
        refine fm_iload_n X d_X8_sizeOf_20 rfl hl1 ?_
        refine gm_iret X Y hr hlk d_X8_sizeOf_21 ⟨rfl, _, rfl, by have : sz_ 0 v2 = 0 := rfl; omega⟩
      · skip
        exact absurd (show v2.toInt = 0 by rw [a5]; rfl) (by omega)
    | succ f ih =>
      intro n1 v2 ls a1 a2 a3 a4 hs hw hl0 hl1 hl2
      refine fm_iload_n X d_X8_sizeOf_4 rfl hl2 ?_
      refine fz_if_eq X 20 d_X8_sizeOf_5 (by decide) (fun h12 => ?_) (fun h12 => ?_)
      · skip
        refine fm_iload_n X d_X8_sizeOf_20 rfl hl1 ?_
        refine gm_iret X Y hr hlk d_X8_sizeOf_21 ⟨rfl, _, rfl, by rw [show v2 = 0 from zi_inj h12, sz_0] at a4; omega⟩
      · skip
        refine fm_iinc X d_X8_sizeOf_8 hl1 hs hw (by decide) (fun ls hst => ?_)
        have hl0 := hst.2.2.2.1 0 _ (by decide) hl0 rfl
        have hl2 := hst.2.2.2.1 2 _ (by decide) hl2 rfl
        obtain ⟨z13, hz13⟩ : ∃ z : Int32, z.toInt = (n1).toInt + 1 ∧ ls[1]? = some (.val (.int z)) := ⟨_, zi_inc (by omega) (by omega) (by decide) (by decide), hst.2.2.1⟩
        have hl1 := hz13.2
        have hz13 := hz13.1
        have hs := hst.1.trans hs
        have hw := hst.2.1
        clear hst
        refine fm_iload_n X d_X8_sizeOf_11 rfl hl2 ?_
        refine fm_iload_n X d_X8_sizeOf_12 rfl hl2 ?_
        refine fz_iconst X d_X8_sizeOf_13 (by decide) (fun v14 hv14 => ?_)
        refine fm_isub X d_X8_sizeOf_14 ?_
        refine fm_iand X d_X8_sizeOf_15 ?_
        refine fm_istore_n X d_X8_sizeOf_16 hs hw (by decide) (fun ls hst => ?_)
        have hl0 := hst.2.2.2.1 0 _ (by decide) hl0 rfl
        have hl1 := hst.2.2.2.1 1 _ (by decide) hl1 rfl
        have hl2 := hst.2.2.1
        have hs := hst.1.trans hs
        have hw := hst.2.1
        clear hst
        refine fz_goto X 4 d_X8_sizeOf_17 (by decide) ?_
        rw [show v14 = 1 from zi_inj hv14] at *
        have e1 : sz_ (f + 1) v2 = sz_ f (v2 &&& (v2 - 1)) + 1 := by show (if v2 = 0 then 0 else sz_ f (v2 &&& (v2 - 1)) + 1) = _; rw [if_neg (fun z => h12 (by rw [z]; rfl))]
        exact ih _ _ ls a1 (by omega) (by omega) (by omega) hs hw hl0 hl1 hl2
  refine fz_iconst X d_X8_sizeOf_0 (by decide) (fun v16 hv16 => ?_)
  refine fm_istore_n X d_X8_sizeOf_1 hs hw (by decide) (fun ls hst => ?_)
  have hl0 := hst.2.2.2.1 0 _ (by decide) hl0 rfl
  have hl1 := hst.2.2.1
  have hs := hst.1.trans hs
  have hw := hst.2.1
  clear hst
  refine fm_iload_n X d_X8_sizeOf_2 rfl hl0 ?_
  refine fm_istore_n X d_X8_sizeOf_3 hs hw (by decide) (fun ls hst => ?_)
  have hl0 := hst.2.2.2.1 0 _ (by decide) hl0 rfl
  have hl1 := hst.2.2.2.1 1 _ (by decide) hl1 rfl
  have hl2 := hst.2.2.1
  have hs := hst.1.trans hs
  have hw := hst.2.1
  clear hst
  exact loop 10 _ _ ls h1 (by omega) (by omega) (by omega) hs hw hl0 hl1 hl2
