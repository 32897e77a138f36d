/-! Arrays.fill -/
def yJ7_fill_53178 : MethodName := ⟨"java/util/Arrays", "fill", "([II)V"⟩
set_option maxRecDepth 20000 in
theorem wz_ctor_0 : Jvm.Cond.code yJ7_fill_53178 prog_18_method_103_code 4 none ∈ fm_Ts := fm_t1 160 rfl rfl
set_option maxRecDepth 20000 in
theorem wz_ctor_1 : Jvm.Cond.static yJ7_fill_53178 ∈ fm_Ts := fm_t1 159 rfl rfl
theorem wz_ctor_2 : Jvm.Cond.initialized yJ7_fill_53178.cls ∈ fm_Ts := fm_t1 7 rfl rfl
theorem wm_J7_fill_53178 : Jvm.Cond.static yJ7_fill_53178 ∈ fm_Ts ∧ Jvm.Cond.initialized yJ7_fill_53178.cls ∈ fm_Ts ∧ Jvm.Cond.code yJ7_fill_53178 prog_18_method_103_code 4 none ∈ fm_Ts := ⟨wz_ctor_1, wz_ctor_2, wz_ctor_0⟩
theorem wyd_ctor_0 : (parseMethodDescriptor "([II)V").map (fun d => d.parameters.length) = some 2 := by decide +kernel
theorem wyc_ctor_1 : "java/util/Arrays" ≠ "java/lang/invoke/MethodHandle" ∧ "java/util/Arrays" ≠ "java/lang/invoke/VarHandle" := by decide +kernel
theorem wy_J7_fill_53178 : yJ7_fill_53178.cls ≠ "java/lang/invoke/MethodHandle" ∧ yJ7_fill_53178.cls ≠ "java/lang/invoke/VarHandle" ∧ (parseMethodDescriptor yJ7_fill_53178.desc).map (fun d => d.parameters.length) = some 2 := ⟨wyc_ctor_1.1, wyc_ctor_1.2, wyd_ctor_0⟩

theorem d_fill_0 : decode prog_18_method_103_code 0 = .ok (.iconst 0, 1) := by decide +kernel
theorem d_fill_1 : decode prog_18_method_103_code 1 = .ok (.istore_n 2, 1) := by decide +kernel
theorem d_fill_2 : decode prog_18_method_103_code 2 = .ok (.aload_n 0, 1) := by decide +kernel
theorem d_fill_3 : decode prog_18_method_103_code 3 = .ok (.arraylength, 1) := by decide +kernel
theorem d_fill_4 : decode prog_18_method_103_code 4 = .ok (.istore_n 3, 1) := by decide +kernel
theorem d_fill_5 : decode prog_18_method_103_code 5 = .ok (.iload_n 2, 1) := by decide +kernel
theorem d_fill_6 : decode prog_18_method_103_code 6 = .ok (.iload_n 3, 1) := by decide +kernel
theorem d_fill_7 : decode prog_18_method_103_code 7 = .ok (.if_icmp .ge 13, 3) := by decide +kernel
theorem d_fill_10 : decode prog_18_method_103_code 10 = .ok (.aload_n 0, 1) := by decide +kernel
theorem d_fill_11 : decode prog_18_method_103_code 11 = .ok (.iload_n 2, 1) := by decide +kernel
theorem d_fill_12 : decode prog_18_method_103_code 12 = .ok (.iload_n 1, 1) := by decide +kernel
theorem d_fill_13 : decode prog_18_method_103_code 13 = .ok (.iastore, 1) := by decide +kernel
theorem d_fill_14 : decode prog_18_method_103_code 14 = .ok (.iinc 2 1, 3) := by decide +kernel
theorem d_fill_17 : decode prog_18_method_103_code 17 = .ok (.goto (-12), 3) := by decide +kernel
theorem d_fill_20 : decode prog_18_method_103_code 20 = .ok (.return_, 1) := by decide +kernel
theorem c_fill (l : Launch) (D : va_G) (cy : Nat → ClassId) {n : Nat} (hn : n < 2147483648) (a sz : Nat) (f : Nat → Int32) (v : Int32) : Met l yJ7_fill_53178 (.code yJ7_fill_53178 prog_18_method_103_code 4 none :: fm_Ts) { frames := 0, cells := 0, slots := 0, locals := 0 } (va_Pc [.ref a, .int v] (fun U => U.heap.size = sz ∧ va_P D fm_cl [(a, .inl (cy 0, n, .inl f))] U.heap ∧ va_K D fm_cl (fm_tys cy) U)) (va_Qv (fun _ : Nat → Int32 => True) (fun f2 t => va_P D fm_cl [(a, .inl (cy 0, n, .inl f2))] t.heap) (va_A [(a, .inl (cy 0, n, .inl f))] sz)) 0 0 (va_A [(a, .inl (cy 0, n, .inl f))] sz) := by
  refine Met.ofW (cc := prog_18_method_103_code) (maxL := 4) (ret := none) (by decide +kernel) rfl ?_
  intro p e s m args below meth c s₁ B hml hv
  obtain ⟨rfl, rfl, hP, hK⟩ := hv
  have hts := atoms_spec (ws := Jvm.Cond.code yJ7_fill_53178 prog_18_method_103_code 4 none :: fm_Ts) B.pre
  have hx := B.exec
  have hb := B.bytes
  have hr := B.returns
  have hlk := B.notSynchronized
  have hl := lv_entry [.ref a, .int v] (n := 4) (by simp [lg_sl, Value.category])
  rw [lg_entry_eq]
  generalize (lg_sl [.ref a, .int v] ++ List.replicate (4 - (lg_sl [.ref a, .int v]).length) Slot.unset).toArray = ls at hl ⊢
  have hl : lv_has ls 4 [(0, .ref a), (1, .int v)] := hl
  have hD : va_D (va_A [((a, .inl (cy 0, n, .inl f)) : Nat × va_E)] s.heap.size) [((a, .inl (cy 0, n, .inl f)) : Nat × va_E)] := ⟨fun i j x y hx hy _ => by
    have h1 := (List.getElem?_eq_some_iff.mp hx).1
    have h2 := (List.getElem?_eq_some_iff.mp hy).1
    simp at h1 h2
    omega, fun _ _ hk => va_A.in hk⟩
  generalize hAe : va_A [((a, .inl (cy 0, n, .inl f)) : Nat × va_E)] s.heap.size = A at hD ⊢
  refine lv_iconst hx hb d_fill_0 (v := 0) rfl ?_
  refine lv_istore_n hx hb d_fill_1 rfl hl (by decide) rfl (fun ls hl => ?_)
  refine lv_aload_n hx hb d_fill_2 rfl (lv_at hl 1 rfl) ?_
  refine va_alen hx hb hK hP 0 0 rfl rfl rfl d_fill_3 ?_
  refine lv_istore_n hx hb d_fill_4 rfl hl (by decide) rfl (fun ls hl => ?_)
  have hl : lv_has ls 4 [(3, .int (Int32.ofNat n)), (2, .int 0), (0, .ref a), (1, .int v)] := hl
  have en : (Int32.ofNat n).toInt = n := Int32.toInt_ofNat_of_lt (by omega)
  have loop : ∀ (N : Nat) (ls : Array Slot) (j : Int32) (f : Nat → Int32) (H : Heap) (locs : List Loc), ((n : Int) - j.toInt).toNat < N → 0 ≤ j.toInt → lv_has ls 4 [(3, .int (Int32.ofNat n)), (2, .int j), (0, .ref a), (1, .int v)] → va_P D fm_cl [(a, .inl (cy 0, n, .inl f))] H → va_D A [(a, .inl (cy 0, n, .inl f))] → va_S A s.heap H locs → W p l e { frames := 0, cells := 0, slots := 0, locals := 0 } s m [Value.ref a, Value.int v].toArray below meth c H locs 0 0 (MQ below (va_Qv (fun _ : Nat → Int32 => True) (fun f2 t => va_P D fm_cl [(a, .inl (cy 0, n, .inl f2))] t.heap) A) [Value.ref a, Value.int v].toArray s 0 0 A) (F0 m 5 ls []) := by
    intro N
    induction N with
    | zero => intro ls j f H locs h; omega
    | succ N ih =>
      intro ls j f H locs hN hj hl hP hD hS
      refine lv_iload_n hx hb d_fill_5 rfl (lv_at hl 1 rfl) ?_
      refine lv_iload_n hx hb d_fill_6 rfl (lv_at hl 0 rfl) ?_
      refine lv_icmp_ge hx hb d_fill_7 (tgt := 20) (by decide) (fun h => ?_) (fun h => ?_)
      · exact W.vret hx hb hr (fun t ht hW => ⟨⟨f, rfl, trivial, by show va_P D fm_cl _ t.heap; rw [ht]; exact hP⟩, hS.F ht⟩) hS.2.2 d_fill_20 hlk
      · have h2 : ¬ ((n : Int) ≤ j.toInt) := fun z => h (zi_le.mpr (by rw [en]; exact z))
        refine lv_aload_n hx hb d_fill_10 rfl (lv_at hl 2 rfl) ?_
        refine lv_iload_n hx hb d_fill_11 rfl (lv_at hl 1 rfl) ?_
        refine lv_iload_n hx hb d_fill_12 rfl (lv_at hl 3 rfl) ?_
        refine va_iast hx hb hK hP hD hS 0 0 rfl rfl (zi_in hj (by omega)) d_fill_13 (fun H1 locs1 hP1 hD1 hS1 => ?_)
        refine lv_iinc hx hb d_fill_14 hl (k := 1) rfl rfl (by decide) rfl (fun ls hl => ?_)
        refine lv_goto hx hb d_fill_17 (tgt := 5) (by decide) ?_
        have e1 := zj_inc (x := j) (n := 1) (by omega) (by omega) (by decide) (by decide)
        exact ih ls _ _ H1 locs1 (by omega) (by omega) (lv_sub hl [1, 0, 2, 3] rfl) hP1 hD1 hS1
  exact loop _ ls 0 f s.heap [] (Nat.lt_succ_self _) (by decide) hl hP hD va_S.rf

/-! THE CONSTRUCTORS -/
section CTOR
variable {p : Program} {l : Launch} {e : Env} {R : Room} {s : State} {m : MethodId} {args : Array Value} {below : List Frame} {meth : Method} {c : Code} {Q : State → Prop} {cc : ByteArray} {own : String} {D : va_G} {cy : Nat → ClassId} {A : Nat → Prop} {nL : Nat}
variable {pc : Nat} {ls : Array Slot} {rest : List Value} {ws tl : va_W} {cells slots h0 : Nat}
def ct_X (p : Program) (s : State) (m : MethodId) (args : Array Value) (c : Code) (cc : ByteArray) (own : String) (D : va_G) (cy : Nat → ClassId) (A : Nat → Prop) (nL : Nat) : Prop := p.tables.exec = Jvm.exec ∧ c.code = cc ∧ s.vm.findClass own = some m.cls ∧ (∀ w ∈ fm_Ts, w.before args s = true) ∧ va_K D fm_cl (fm_tys cy) s ∧ c.maxLocals = nL ∧ (∀ q, s.heap.size ≤ q → A q) ∧ fm_Nw fm_nt s
def ct_W (p : Program) (l : Launch) (e : Env) (R : Room) (s : State) (m : MethodId) (args : Array Value) (below : List Frame) (meth : Method) (c : Code) (Q : State → Prop) (D : va_G) (A : Nat → Prop) (ws : va_W) (cells slots pc : Nat) (ls : Array Slot) (st : List Value) : Prop := ∀ (H : Heap) (locs : List Loc), va_P D fm_cl ws H → va_D A ws → va_S A s.heap H locs → W p l e R s m args below meth c H locs cells slots Q (F0 m pc ls st)
theorem ct_aload_n (X : ct_X p s m args c cc own D cy A nL) {k : Fin 4} {i x : Nat} (hd : decode cc pc = .ok (.aload_n k, 1)) (hi : (k : Nat) = i) (hl : ls[i]? = some (.val (.ref x))) (kk : ct_W p l e R s m args below meth c Q D A ws cells slots (pc + 1) ls (.ref x :: rest)) : ct_W p l e R s m args below meth c Q D A ws cells slots pc ls rest := fun H locs hP hD hS => lv_aload_n X.1 X.2.1 hd hi hl (kk H locs hP hD hS)
theorem ct_iload_n (X : ct_X p s m args c cc own D cy A nL) {k : Fin 4} {i : Nat} {x : Int32} (hd : decode cc pc = .ok (.iload_n k, 1)) (hi : (k : Nat) = i) (hl : ls[i]? = some (.val (.int x))) (kk : ct_W p l e R s m args below meth c Q D A ws cells slots (pc + 1) ls (.int x :: rest)) : ct_W p l e R s m args below meth c Q D A ws cells slots pc ls rest := fun H locs hP hD hS => lv_iload_n X.1 X.2.1 hd hi hl (kk H locs hP hD hS)
theorem ct_iconst (X : ct_X p s m args c cc own D cy A nL) {n : Int} {v : Int32} (hd : decode cc pc = .ok (.iconst n, 1)) (hv : Int32.ofInt n = v) (kk : ct_W p l e R s m args below meth c Q D A ws cells slots (pc + 1) ls (.int v :: rest)) : ct_W p l e R s m args below meth c Q D A ws cells slots pc ls rest := fun H locs hP hD hS => lv_iconst X.1 X.2.1 hd hv (kk H locs hP hD hS)
theorem ct_bipush (X : ct_X p s m args c cc own D cy A nL) {n : Int} {v : Int32} (hd : decode cc pc = .ok (.bipush n, 2)) (hv : (Int8.ofInt n).toInt32 = v) (kk : ct_W p l e R s m args below meth c Q D A ws cells slots (pc + 2) ls (.int v :: rest)) : ct_W p l e R s m args below meth c Q D A ws cells slots pc ls rest := fun H locs hP hD hS => lv_bipush X.1 X.2.1 hd hv (kk H locs hP hD hS)
theorem ct_sipush (X : ct_X p s m args c cc own D cy A nL) {n : Int} {v : Int32} (hd : decode cc pc = .ok (.sipush n, 3)) (hv : (Int16.ofInt n).toInt32 = v) (kk : ct_W p l e R s m args below meth c Q D A ws cells slots (pc + 3) ls (.int v :: rest)) : ct_W p l e R s m args below meth c Q D A ws cells slots pc ls rest := fun H locs hP hD hS => lv_sipush X.1 X.2.1 hd hv (kk H locs hP hD hS)
theorem ct_dup (X : ct_X p s m args c cc own D cy A nL) {va : Value} (hd : decode cc pc = .ok (.dup, 1)) (hva : va.category = 1) (kk : ct_W p l e R s m args below meth c Q D A ws cells slots (pc + 1) ls (va :: va :: rest)) : ct_W p l e R s m args below meth c Q D A ws cells slots pc ls (va :: rest) := fun H locs hP hD hS => lv_dup X.1 X.2.1 hd hva (kk H locs hP hD hS)
theorem ct_goto (X : ct_X p s m args c cc own D cy A nL) {off : Int} (tgt : Nat) (hd : decode cc pc = .ok (.goto off, 3)) (ht : (pc : Int) + off = (tgt : Int)) (kk : ct_W p l e R s m args below meth c Q D A ws cells slots tgt ls rest) : ct_W p l e R s m args below meth c Q D A ws cells slots pc ls rest := fun H locs hP hD hS => lv_goto X.1 X.2.1 hd ht (kk H locs hP hD hS)
theorem ct_icmp_ge (X : ct_X p s m args c cc own D cy A nL) {x y : Int32} {off : Int} (tgt : Nat) (hd : decode cc pc = .ok (.if_icmp .ge off, 3)) (ht : (pc : Int) + off = (tgt : Int)) (kt : y.toInt ≤ x.toInt → ct_W p l e R s m args below meth c Q D A ws cells slots tgt ls rest) (kf : ¬ y.toInt ≤ x.toInt → ct_W p l e R s m args below meth c Q D A ws cells slots (pc + 3) ls rest) : ct_W p l e R s m args below meth c Q D A ws cells slots pc ls (.int y :: .int x :: rest) := fun H locs hP hD hS => lv_icmp_ge X.1 X.2.1 hd ht (fun h => kt (zi_le.mp h) H locs hP hD hS) (fun h => kf (fun z => h (zi_le.mpr z)) H locs hP hD hS)
theorem ct_obj (X : ct_X p s m args c cc own D cy A nL) {idx a : Nat} (hd : decode cc pc = .ok (.invokespecial idx, 3)) (hl : Jvm.Cond.methodLink own idx Lib.objectInit ∈ fm_Ts) (hs : ls.size = nL) (hR : 1 ≤ R.frames ∧ 12 ≤ R.locals) (kk : ct_W p l e R s m args below meth c Q D A ws cells slots (pc + 3) ls []) : ct_W p l e R s m args below meth c Q D A ws cells slots pc ls [.ref a] := by
  obtain ⟨hx, hb, hown, hts, hK, hml, hA, hN⟩ := X
  intro H locs hP hD hS
  exact W.objInit hx hb hown (hts _ hl) (hts _ (fm_t1 25 rfl rfl)) (hts _ (fm_t1 26 rfl rfl)) rfl (by rw [hml]; exact hs) rfl hd hR.1 (by show 2 * 0 + 0 + 12 ≤ _; omega) (kk H locs hP hD hS)
theorem ct_newa (X : ct_X p s m args c cc own D cy A nL) {aty : ArrayType} {ty : FieldType} {t N : Nat} {n : Int32} {ws2 : Nat → va_W} {cells2 slots2 : Nat} (hd : decode cc pc = .ok (.newarray aty, 2)) (hty : newarray.typeOf aty = ty) (ht : (fm_tys cy)[t]? = some (cy t, ty)) (hra : ∀ a b : ClassId, va_RA s a ty → va_RA s b ty → a = b) (hw : Jvm.Cond.arrayClass ty ∈ fm_Ts) (ha : ∀ cA : ClassId, vp_cell cA (N, .inl fun _ => 0) = arrV cA N (fun _ => defaultValue ty)) (hn : ¬ n < 0) (hN : n.toNatClampNeg = N) (hby : N * componentBytes ty ≤ 536870912) (hws : ∀ q : Nat, ws ++ [(q, .inl (cy t, N, .inl fun _ => 0))] = ws2 q) (hc2 : cells + 1 = cells2 ∧ slots + N = slots2) (hc : cells2 ≤ R.cells ∧ slots2 ≤ R.slots)
    (kk : ∀ q : Nat, ct_W p l e R s m args below meth c Q D A (ws2 q) cells2 slots2 (pc + 2) ls (.ref q :: rest)) : ct_W p l e R s m args below meth c Q D A ws cells slots pc ls (.int n :: rest) := by
  obtain ⟨hx, hb, hown, hts, hK, hml, hA, -⟩ := X
  obtain ⟨rfl, rfl⟩ := hc2
  intro H locs hP hD hS
  refine va_newa hx hb (by rw [hty]; exact hts _ hw) hty hK hP hD hS hA ha hn hN hby hc.1 hc.2 hd (fun q cA H1 hK1 hP1 hD1 hS1 => ?_)
  obtain rfl : cA = cy t := hra _ _ ((hK1.2 3 (cA, ty) rfl).2) ((hK.2 t _ ht).2)
  rw [hws q] at hP1 hD1
  exact kk q H1 locs hP1 hD1 hS1
theorem ct_ra_int {s : State} (a b : ClassId) (h1 : va_RA s a .int) (h2 : va_RA s b .int) : a = b := Option.some.inj (Eq.trans (Eq.symm h1) h2)
theorem ct_ra_byte {s : State} (a b : ClassId) (h1 : va_RA s a .byte) (h2 : va_RA s b .byte) : a = b := Option.some.inj (Eq.trans (Eq.symm h1) h2)
theorem ct_ra_boolean {s : State} (a b : ClassId) (h1 : va_RA s a .boolean) (h2 : va_RA s b .boolean) : a = b := Option.some.inj (Eq.trans (Eq.symm h1) h2)
theorem ct_put (X : ct_X p s m args c cc own D cy A nL) {index ci k : Nat} {fs fs2 : List Value} {v : Value} (hd : decode cc pc = .ok (.putfield index, 3)) (hL : fm_Lk fm_cl fm_Ts own index ci k) (hC : fm_Cl fm_cl ci) (hfin : ∀ (C : String) (T : u_T) (N : Nat), fm_cl[ci]? = some (C, T, N) → (T k).2.2.2 = false ∧ ∃ ty, parseFieldDescriptor (T k).2.2.1 = some ty ∧ narrow ty v = v ∧ fits ty v = true) (hl : k < fs.length) (hfs : fs.set k v = fs2)
    (kk : ct_W p l e R s m args below meth c Q D A ((h0, .inr (ci, fs2)) :: tl) cells slots (pc + 3) ls rest) : ct_W p l e R s m args below meth c Q D A ((h0, .inr (ci, fs)) :: tl) cells slots pc ls (v :: .ref h0 :: rest) := by
  obtain ⟨hx, hb, hown, hts, hK, hml, hA, -⟩ := X
  obtain ⟨C, T, N, hc, hin, hkN, hlk, hT⟩ := hL
  obtain ⟨C', T', N', ty0, hc', hty, hnm⟩ := hC
  obtain ⟨rfl, rfl, rfl⟩ : C' = C ∧ T' = T ∧ N' = N := by
    have h := Option.some.inj (hc'.symm.trans hc)
    exact ⟨congrArg Prod.fst h, congrArg (fun q => q.2.1) h, congrArg (fun q => q.2.2) h⟩
  obtain ⟨hf, ty, h1, h2, h3⟩ := hfin _ _ _ hc
  intro H locs hP hD hS
  subst hfs
  exact va_put (D := D) (ci := ci) (ref := C') (fs := fs) hx hb hts hin ty0 hty hnm hown hK hP hD hS 0 rfl hc k hkN (hts _ hlk) (fun x h => by rw [hT] at h; exact h) hf h1 h2 h3 hl hd (fun H1 locs1 hP1 hD1 hS1 => kk H1 locs1 hP1 hD1 hS1)
theorem ct_putF (X : ct_X p s m args c cc own D cy A nL) (hnm2 : meth.name = "<init>") {index ci k : Nat} {fs fs2 : List Value} {v : Value} (hd : decode cc pc = .ok (.putfield index, 3)) (hL : fm_Lk fm_cl fm_Ts own index ci k) (hC : fm_Cl fm_cl ci) (hfin : ∀ (C : String) (T : u_T) (N : Nat), fm_cl[ci]? = some (C, T, N) → (T k).2.2.2 = true ∧ (T k).1 = own ∧ ∃ ty, parseFieldDescriptor (T k).2.2.1 = some ty ∧ narrow ty v = v ∧ fits ty v = true) (hl : k < fs.length) (hfs : fs.set k v = fs2)
    (kk : ct_W p l e R s m args below meth c Q D A ((h0, .inr (ci, fs2)) :: tl) cells slots (pc + 3) ls rest) : ct_W p l e R s m args below meth c Q D A ((h0, .inr (ci, fs)) :: tl) cells slots pc ls (v :: .ref h0 :: rest) := by
  obtain ⟨hx, hb, hown, hts, hK, hml, hA, -⟩ := X
  obtain ⟨C, T, N, hc, hin, hkN, hlk, hT⟩ := hL
  obtain ⟨C', T', N', ty0, hc', hty, hnm⟩ := hC
  obtain ⟨rfl, rfl, rfl⟩ : C' = C ∧ T' = T ∧ N' = N := by
    have h := Option.some.inj (hc'.symm.trans hc)
    exact ⟨congrArg Prod.fst h, congrArg (fun q => q.2.1) h, congrArg (fun q => q.2.2) h⟩
  obtain ⟨hf, how, ty, h1, h2, h3⟩ := hfin _ _ _ hc
  intro H locs hP hD hS
  subst hfs
  exact va_putF (D := D) (ci := ci) (ref := C') (fs := fs) hx hb hts hin ty0 hty hnm hown hK hP hD hS 0 rfl hc k hkN (hts _ hlk) (fun x h => by rw [hT] at h; exact h) hf hnm2 how h1 h2 h3 hl hd (fun H1 locs1 hP1 hD1 hS1 => kk H1 locs1 hP1 hD1 hS1)
theorem ct_get (X : ct_X p s m args c cc own D cy A nL) (j : Nat) {index ci k : Nat} {fs : List Value} {v : Value} (hd : decode cc pc = .ok (.getfield index, 3)) (hL : fm_Lk fm_cl fm_Ts own index ci k) (hj : ws[j]? = some (h0, .inr (ci, fs))) (hv : fs[k]? = some v) (kk : ct_W p l e R s m args below meth c Q D A ws cells slots (pc + 3) ls (v :: rest)) : ct_W p l e R s m args below meth c Q D A ws cells slots pc ls (.ref h0 :: rest) := by
  obtain ⟨hx, hb, hown, hts, hK, hml, hA, -⟩ := X
  obtain ⟨C, T, N, hc, hin, hkN, hlk, hT⟩ := hL
  intro H locs hP hD hS
  exact va_get (D := D) (ci := ci) (ref := C) hx hb hts hin hown hK hP j hj hc k hkN (hts _ hlk) (fun x h => by rw [hT] at h; exact h) hv hd (kk H locs hP hD hS)
theorem ct_new (X : ct_X p s m args c cc own D cy A nL) {C : String} {T : u_T} {N ci index : Nat} {ty : Nat → FieldType} {zs : List Value} (hd : decode cc pc = .ok (.new index, 3)) (hin : ∀ w ∈ u_ws C T N, w ∈ fm_Ts) (hty : ∀ k, k < N → parseFieldDescriptor (T k).2.2.1 = some (ty k)) (hw : Jvm.Cond.classLink own index C ∈ fm_Ts ∧ Jvm.Cond.instantiable C N ∈ fm_Ts ∧ Jvm.Cond.initialized C ∈ fm_Ts) (hc : fm_cl[ci]? = some (C, T, N)) (hfs : ∀ j, j < N → defaultValue (ty j) = vp_V zs j) (hce : cells + 1 ≤ R.cells) (hsl : slots + N ≤ R.slots)
    (kk : ∀ q : Nat, ct_W p l e R s m args below meth c Q D A (ws ++ [(q, .inr (ci, zs))]) (cells + 1) (slots + N) (pc + 3) ls (.ref q :: rest)) : ct_W p l e R s m args below meth c Q D A ws cells slots pc ls rest := by
  obtain ⟨hx, hb, hown, hts, hK, hml, hA, -⟩ := X
  intro H locs hP hD hS
  exact va_new hx hb hts hin ty hty hown (hts _ hw.1) (hts _ hw.2.1) (hts _ hw.2.2) hK hP hD hS hA hc hfs hce hsl hd (fun q H1 hP1 hD1 hS1 => kk q H1 locs hP1 hD1 hS1)
/-- a part of the world goes through a call: the last cell becomes the callee's world -/
theorem ct_join {A0 : Nat → Prop} {ws w1 : va_W} {q : Nat} {x : va_E} {H H1 : Heap} (hP : va_P D fm_cl (ws ++ [(q, x)]) H) (hD : va_D A0 (ws ++ [(q, x)])) (hk : ∀ a : Nat, a < H.size → ¬ va_A [(q, x)] H.size a → H1[a]? = H[a]?) (hF : ∀ a, va_A [(q, x)] H.size a → A0 a) (hP1 : va_P D fm_cl w1 H1) (hD1 : va_D (va_A [(q, x)] H.size) w1) : va_P D fm_cl (ws ++ w1) H1 ∧ va_D A0 (ws ++ w1) := by
  have g : ∀ (k : Nat) (z : Nat × va_E), ws[k]? = some z → (ws ++ [(q, x)])[k]? = some z := fun k z hz => by
    rw [List.getElem?_append_left (List.getElem?_eq_some_iff.mp hz).1]; exact hz
  have gl : (ws ++ [(q, x)])[ws.length]? = some (q, x) := by simp
  have hne : ∀ (k : Nat) (z : Nat × va_E), ws[k]? = some z → z.1 < H.size ∧ ¬ va_A [(q, x)] H.size z.1 := by
    intro k z hz
    have hlt := (hP k z (g k z hz)).lt
    refine ⟨hlt, fun hA => ?_⟩
    rcases hA with ⟨j, y, hj⟩ | hA
    · have hj0 : j = 0 := by
        have := (List.getElem?_eq_some_iff.mp hj).1
        simp at this
        exact this
      subst hj0
      have hj := Option.some.inj hj
      have := hD.1 k ws.length z (q, x) (g k z hz) gl (congrArg Prod.fst hj).symm
      have h2 := (List.getElem?_eq_some_iff.mp hz).1
      omega
    · omega
  refine ⟨va_P.app (fun k z hz => (hP k z (g k z hz)).kept (hk _ (hne k z hz).1 (hne k z hz).2)) hP1, va_D.app ⟨fun i j a b ha hb e => hD.1 i j a b (g i a ha) (g j b hb) e, fun k z hz => hD.2 k z (g k z hz)⟩ (hD1.weaken (fun _ _ _ h => hF _ h)) (fun i j a b ha hb e => ?_)⟩
  have h1 := hne i a ha
  exact h1.2 (by rw [e]; exact hD1.2 j b hb)
/-- a constructor's contract -/
def ct_M (l : Launch) (D : va_G) (cy : Nat → ClassId) (y : MethodName) (bytes : ByteArray) (maxL : Nat) (rm : Room) (ci : Nat) (zs refs : List Value) (cw : Nat → ((Nat → Nat) × (Nat → Nat → Int32)) → va_W) (po : ((Nat → Nat) × (Nat → Nat → Int32)) → Prop) : Prop := ∀ h0 sz : Nat, Met l y (.code y bytes maxL none :: fm_Ts) rm (va_Pc (.ref h0 :: refs) (fun U => U.heap.size = sz ∧ va_P D fm_cl [(h0, .inr (ci, zs))] U.heap ∧ va_K D fm_cl (fm_tys cy) U ∧ fm_Nw fm_nt U ∧ va_D (fun _ => True) [(h0, .inr (ci, zs))])) (va_Qv po (fun u t => va_P D fm_cl (cw h0 u) t.heap ∧ va_D (va_A [(h0, .inr (ci, zs))] sz) (cw h0 u)) (va_A [(h0, .inr (ci, zs))] sz)) rm.cells rm.slots (va_A [(h0, .inr (ci, zs))] sz)
variable {y : MethodName} {bytes : ByteArray} {maxL ci : Nat} {rm : Room} {zs refs : List Value} {cw : Nat → ((Nat → Nat) × (Nat → Nat → Int32)) → va_W} {po : ((Nat → Nat) × (Nat → Nat → Int32)) → Prop}
theorem ct_blind {h0 sz : Nat} : FrameBlind (va_Pc (.ref h0 :: refs) (fun U => U.heap.size = sz ∧ va_P D fm_cl [(h0, .inr (ci, zs))] U.heap ∧ va_K D fm_cl (fm_tys cy) U ∧ fm_Nw fm_nt U ∧ va_D (fun _ => True) [(h0, .inr (ci, zs))])) := by
  intro a U g mk q
  obtain ⟨q0, q1, qP, qK, qN, qD⟩ := q
  exact ⟨q0, q1, qP, va_K.moved (u := U) (U := U.calling g mk a) (Vm.Alike.refl U.vm) qK, fun w hw => va_Nw.same rfl rfl (qN w hw), qD⟩
theorem ct_call (X : ct_X p s m args c cc own D cy A nL) {idx n q : Nat} {st0 : List Value} (hM : ct_M l D cy y bytes maxL rm ci zs refs cw po) (hd : decode cc pc = .ok (.invokespecial idx, 3)) (hl : Jvm.Cond.methodLink own idx y ∈ fm_Ts ∨ ∃ host, (own, idx, y, host) ∈ fm_nt) (hw : Jvm.Cond.instanceMethod y ∈ fm_Ts ∧ Jvm.Cond.initialized y.cls ∈ fm_Ts ∧ Jvm.Cond.code y bytes maxL none ∈ fm_Ts) (hy : y.name = "<init>" ∧ y.cls ≠ "java/lang/invoke/MethodHandle" ∧ y.cls ≠ "java/lang/invoke/VarHandle" ∧ (parseMethodDescriptor y.desc).map (fun d => d.parameters.length) = some n)
    (hrm : rm.frames + 1 ≤ R.frames ∧ 8 + (maxL + 11) + rm.locals ≤ R.locals) (hst : st0 = refs.reverse ++ .ref q :: rest) (hlen : refs.length = n) (hls : ls.size = nL) (hcat : (rest.map fun v => v.category).sum ≤ 8) (hc : cells + rm.cells ≤ R.cells ∧ slots + rm.slots ≤ R.slots)
    (kk : ∀ u, po u → ct_W p l e R s m args below meth c Q D A (ws ++ cw q u) (cells + rm.cells) (slots + rm.slots) (pc + 3) ls rest) : ct_W p l e R s m args below meth c Q D A (ws ++ [(q, .inr (ci, zs))]) cells slots pc ls st0 := by
  obtain ⟨hx, hb, hown, hts, hK, hml, hA, hN⟩ := X
  subst hst
  intro H locs hP hD hS
  have gl : (ws ++ [(q, .inr (ci, zs))])[ws.length]? = some (q, .inr (ci, zs)) := by simp
  have hFc : ∀ x, va_A [(q, .inr (ci, zs))] H.size x → A x := by
    intro x h
    rcases h with ⟨k, z, h⟩ | h
    · have hk0 : k = 0 := by
        have := (List.getElem?_eq_some_iff.mp h).1
        simp at this
        exact this
      subst hk0
      have h := Option.some.inj h
      have := hD.2 _ _ gl
      rw [show x = q from (congrArg Prod.fst h).symm]
      exact this
    · exact hA x (Nat.le_trans hS.1 h)
  have hPc : va_P D fm_cl [(q, .inr (ci, zs))] H := fun k z hz => by
    have hk0 : k = 0 := by
      have := (List.getElem?_eq_some_iff.mp hz).1
      simp at this
      exact this
    subst hk0
    cases hz
    exact hP _ _ gl
  have hDc : va_D (fun _ => True) [((q, .inr (ci, zs)) : Nat × va_E)] := ⟨fun i j a b ha hb _ => by
    have h1 := (List.getElem?_eq_some_iff.mp ha).1
    have h2 := (List.getElem?_eq_some_iff.mp hb).1
    simp at h1 h2
    omega, fun _ _ _ => trivial⟩
  have hG : GoodIn fm_Ts (.code y bytes maxL none :: fm_Ts) := fm_Ts_good.of (fun w hw' => by
    rcases List.mem_cons.mp hw' with rfl | hw'
    · exact hw.2.2
    · exact hw')
  have hpre : PreS s H (va_Pc (.ref q :: refs) (fun U => U.heap.size = H.size ∧ va_P D fm_cl [(q, .inr (ci, zs))] U.heap ∧ va_K D fm_cl (fm_tys cy) U ∧ fm_Nw fm_nt U ∧ va_D (fun _ => True) [(q, .inr (ci, zs))])) (.ref q :: refs) := ⟨ct_blind, fun U hU hW => ⟨rfl, by rw [hU], by rw [hU]; exact hPc, va_K.moved hW.alike hK, fun w hw => va_Nw.warmM hW (hN w hw), hDc⟩⟩
  have fin : ∀ (u : (Nat → Nat) × (Nat → Nat → Int32)) (t : State) (H1 : Heap) (locs1 : List Loc), t.heap = H1 → s.vm.Alike t.vm → po u → (va_P D fm_cl (cw q u) t.heap ∧ va_D (va_A [(q, .inr (ci, zs))] H.size) (cw q u)) → H.size ≤ H1.size → (∀ x : Nat, x < H.size → ¬ va_A [(q, .inr (ci, zs))] H.size x → H1[x]? = H[x]?) → va_S A s.heap H1 locs1 → W p l e R s m args below meth c H1 locs1 (cells + rm.cells) (slots + rm.slots) Q (F0 m (pc + 3) ls rest) := by
    intro u t H1 locs1 ht hvm hpo hB hz1 hk1 hS1
    rw [ht] at hB
    obtain ⟨h1, h2⟩ := ct_join hP hD hk1 hFc hB.1 hB.2
    exact kk u hpo H1 locs1 h1 h2 hS1
  rcases hl with hl | ⟨host, hl⟩
  · exact va_callv (va_runI (As := refs) (rest := rest) ⟨hx, hb, hml, hown, hts⟩ (hM q H.size) (cwI n hts hG rfl rfl rfl (hts _ hw.2.1) (hts _ hl) (hts _ hw.1) hy.1 hy.2 hrm) hpre rfl hlen hls rfl (lv_room hcat) hd hc) hS (fun x _ h => hFc x h) hFc fin
  · exact va_callv (va_runIN (As := refs) (rest := rest) ⟨hx, hb, hml, hown, hts⟩ (hM q H.size) ⟨va_cnB n hts hG rfl rfl rfl (hN _ hl) (hts _ hw.2.1) hy.2 hrm, hy.1, hts _ hw.1⟩ hpre rfl hlen hls rfl (lv_room hcat) hd hc) hS (fun x _ h => hFc x h) hFc fin
theorem ct_at (hy : plainName y.cls = true) (hlen : ∀ h : Nat, (lg_sl (.ref h :: refs)).length ≤ maxL)
    (hbody : ∀ (p : Program) (e : Env) (s : State) (m : MethodId) (args : Array Value) (below : List Frame) (meth : Method) (c : Code) (ls : Array Slot) (h0 : Nat), meth.sig.returnType = none → meth.locks = false → meth.name = y.name → ct_X p s m args c bytes y.cls D cy (va_A [(h0, .inr (ci, zs))] s.heap.size) maxL → lv_has ls maxL (lv_args 0 (.ref h0 :: refs)) → ct_W p l e rm s m args below meth c (MQ below (va_Qv po (fun u t => va_P D fm_cl (cw h0 u) t.heap ∧ va_D (va_A [(h0, .inr (ci, zs))] s.heap.size) (cw h0 u)) (va_A [(h0, .inr (ci, zs))] s.heap.size)) args s rm.cells rm.slots (va_A [(h0, .inr (ci, zs))] s.heap.size)) D (va_A [(h0, .inr (ci, zs))] s.heap.size) [(h0, .inr (ci, zs))] 0 0 0 ls []) :
    ct_M l D cy y bytes maxL rm ci zs refs cw po := by
  intro h0 sz
  refine Met.ofW (cc := bytes) (maxL := maxL) (ret := none) hy rfl ?_
  intro p e s m args below meth c s₁ B hml hv
  obtain ⟨rfl, rfl, hP, hK, hN, hD0⟩ := hv
  have hts := atoms_spec (ws := Jvm.Cond.code y bytes maxL none :: fm_Ts) B.pre
  have hown : s.vm.findClass y.cls = some m.cls := findClass_of_methodNamed B.named
  have hin : meth.name = y.name := (name_of_methodNamed B.named B.method).1
  have hl := lv_entry (.ref h0 :: refs) (n := maxL) (hlen h0)
  rw [lg_entry_eq]
  generalize (lg_sl (.ref h0 :: refs) ++ List.replicate (maxL - (lg_sl (.ref h0 :: refs)).length) Slot.unset).toArray = ls at hl ⊢
  exact hbody p e s m _ below meth c ls h0 B.returns B.notSynchronized hin ⟨B.exec, B.bytes, hown, fun w hw => hts w (List.mem_cons_of_mem _ hw), hK, hml, fun q h => Or.inr h, hN⟩ hl s.heap [] hP hD0.self va_S.rf
theorem ct_vret {B : ((Nat → Nat) × (Nat → Nat → Int32)) → va_W} {mc ms : Nat} (X : ct_X p s m args c cc own D cy A nL) (hr : meth.sig.returnType = none) (hlk : meth.locks = false) (hd : decode cc pc = .ok (.return_, 1)) (h1 : cells ≤ mc) (h2 : slots ≤ ms) (u : (Nat → Nat) × (Nat → Nat → Int32)) (hpo : po u) (hws : ws = B u) : ct_W p l e R s m args below meth c (MQ below (va_Qv po (fun u t => va_P D fm_cl (B u) t.heap ∧ va_D A (B u)) A) args s mc ms A) D A ws cells slots pc ls [] := by
  obtain ⟨hx, hb, hown, hts, hK, hml, hA, -⟩ := X
  intro H locs hP hD hS
  rw [hws] at hP hD
  refine W.widen h1 h2 ?_
  exact W.vret hx hb hr (fun t ht hW => ⟨⟨u, rfl, hpo, by rw [ht]; exact hP, hD⟩, hS.F ht⟩) hS.2.2 hd hlk
/-- locals -/
theorem ct_istore_n (X : ct_X p s m args c cc own D cy A nL) {i : Fin 4} {x : Int32} (hd : decode cc pc = .ok (.istore_n i, 1)) (hs : ls.size = nL) (hw : lv_wf ls) (hi : (i : Nat) < nL) (kk : ∀ ls', rv_sto ls ls' i (.int x) → ct_W p l e R s m args below meth c Q D A ws cells slots (pc + 1) ls' rest) : ct_W p l e R s m args below meth c Q D A ws cells slots pc ls (.int x :: rest) := by
  obtain ⟨hx, hb, -⟩ := X
  obtain ⟨ls', e', h'⟩ := rv_sto_of (v := .int x) hw (show (i : Nat) < ls.size by omega) rfl
  intro H locs hP hD hS T hT X
  obtain ⟨t, a, b⟩ := kk ls' h' H locs hP hD hS T hT X
  refine ⟨t, ?_, b⟩
  jvm_step X.here [X.here.top, ↓top_set X.here.top, hx, hb, hd, e']
  exact a
theorem ct_iinc (X : ct_X p s m args c cc own D cy A nL) {i : Nat} {n : Int} {x : Int32} (hd : decode cc pc = .ok (.iinc i n, 3)) (hl : ls[i]? = some (.val (.int x))) (hs : ls.size = nL) (hw : lv_wf ls) (hi : i < nL) (kk : ∀ ls', rv_sto ls ls' i (.int (x + Int32.ofInt n)) → ct_W p l e R s m args below meth c Q D A ws cells slots (pc + 3) ls' rest) : ct_W p l e R s m args below meth c Q D A ws cells slots pc ls rest := by
  obtain ⟨hx, hb, -⟩ := X
  obtain ⟨ls', e', h'⟩ := rv_sto_of (v := .int (x + Int32.ofInt n)) hw (show i < ls.size by omega) rfl
  intro H locs hP hD hS T hT X
  obtain ⟨t, a, b⟩ := kk ls' h' H locs hP hD hS T hT X
  refine ⟨t, ?_, b⟩
  jvm_step X.here [X.here.top, ↓top_set X.here.top, hx, hb, hd, hl, e']
  exact a
theorem ct_iast (X : ct_X p s m args c cc own D cy A nL) (j : Nat) {a n : Nat} {f : Nat → Int32} {i x : Int32} (hd : decode cc pc = .ok (.iastore, 1)) (hj : ws[j]? = some (a, .inl (cy 0, n, .inl f))) (hin : 0 ≤ i.toInt ∧ i.toInt < n) (kk : ct_W p l e R s m args below meth c Q D A (ws.set j (a, .inl (cy 0, n, .inl (upd f i.toNatClampNeg x)))) cells slots (pc + 1) ls rest) : ct_W p l e R s m args below meth c Q D A ws cells slots pc ls (.int x :: .int i :: .ref a :: rest) := by
  obtain ⟨hx, hb, hown, hts, hK, hml, hA, -⟩ := X
  intro H locs hP hD hS
  exact va_iast hx hb hK hP hD hS j 0 hj rfl (zi_in hin.1 hin.2) hd (fun H1 locs1 hP1 hD1 hS1 => kk H1 locs1 hP1 hD1 hS1)
theorem ct_fill (X : ct_X p s m args c cc own D cy A nL) (j : Nat) {idx a n : Nat} {f : Nat → Int32} {v : Int32} (hn : n < 2147483648) (hd : decode cc pc = .ok (.invokestatic idx, 3)) (hl : Jvm.Cond.methodLink own idx yJ7_fill_53178 ∈ fm_Ts) (hrm : 1 ≤ R.frames ∧ 23 ≤ R.locals) (hj : ws[j]? = some (a, .inl (cy 0, n, .inl f))) (hls : ls.size = nL) (hc : cells ≤ R.cells ∧ slots ≤ R.slots) (kk : ∀ f2 : Nat → Int32, ct_W p l e R s m args below meth c Q D A (ws.set j (a, .inl (cy 0, n, .inl f2))) cells slots (pc + 3) ls []) : ct_W p l e R s m args below meth c Q D A ws cells slots pc ls [.int v, .ref a] := by
  obtain ⟨hx, hb, hown, hts, hK, hml, hA, hN⟩ := X
  intro H locs hP hD hS
  have hFc : ∀ x, va_A [((a, .inl (cy 0, n, .inl f)) : Nat × va_E)] H.size x → A x := by
    intro x h
    rcases h with ⟨k, z, h⟩ | h
    · have hk0 : k = 0 := by
        have := (List.getElem?_eq_some_iff.mp h).1
        simp at this
        exact this
      subst hk0
      have h := Option.some.inj h
      have := hD.2 _ _ hj
      rw [show x = a from (congrArg Prod.fst h).symm]
      exact this
    · exact hA x (Nat.le_trans hS.1 h)
  have hPc : va_P D fm_cl [(a, .inl (cy 0, n, .inl f))] H := fun k z hz => by
    have hk0 : k = 0 := by
      have := (List.getElem?_eq_some_iff.mp hz).1
      simp at this
      exact this
    subst hk0
    cases hz
    exact hP _ _ hj
  have hG : GoodIn fm_Ts (.code yJ7_fill_53178 prog_18_method_103_code 4 none :: fm_Ts) := fm_Ts_good.of (fun w hw' => by
    rcases List.mem_cons.mp hw' with rfl | hw'
    · exact wm_J7_fill_53178.2.2
    · exact hw')
  refine va_callv (va_runS (As := [.ref a, .int v]) (rest := []) (n := 2) ⟨hx, hb, hml, hown, hts⟩ (c_fill l D cy hn a H.size f v) (va_cwS 2 hts (fun w hw => ?_) rfl rfl rfl wy_J7_fill_53178 hrm) ⟨?_, fun U hU hW => ⟨rfl, by rw [hU], by rw [hU]; exact hPc, va_K.moved hW.alike hK⟩⟩ rfl rfl hls rfl (lv_room (by simp [Value.category])) hd hc) hS (fun x _ h => hFc x h) hFc (fun f2 t H1 locs1 ht hvm hw hB hz1 hk1 hS1 => ?_)
  · unfold va_wsS at hw
    rcases List.mem_append.mp hw with hw | hw
    · simp only [List.mem_cons, List.not_mem_nil, or_false] at hw
      rcases hw with rfl | rfl | rfl
      · exact ⟨hl, (hG _ (List.mem_cons_of_mem _ hl)).2⟩
      · exact ⟨wm_J7_fill_53178.1, (hG _ (List.mem_cons_of_mem _ wm_J7_fill_53178.1)).2⟩
      · exact ⟨wm_J7_fill_53178.2.1, (hG _ (List.mem_cons_of_mem _ wm_J7_fill_53178.2.1)).2⟩
    · exact hG w hw
  · intro aa U g mk q
    obtain ⟨q0, q1, qP, qK⟩ := q
    exact ⟨q0, q1, qP, va_K.moved (u := U) (U := U.calling g mk aa) (Vm.Alike.refl U.vm) qK⟩
  · rw [ht] at hB
    refine kk f2 H1 locs1 (fun k z hz => ?_) (hD.set hj) hS1
    rw [List.getElem?_set] at hz
    by_cases hkj : j = k
    · subst hkj
      rw [if_pos rfl, if_pos (List.getElem?_eq_some_iff.mp hj).1] at hz
      cases hz
      exact hB 0 _ rfl
    · rw [if_neg hkj] at hz
      have h0 := hP k z hz
      refine h0.kept (hk1 _ h0.lt (fun hA => ?_))
      rcases hA with ⟨k2, z2, h⟩ | h
      · have hk0 : k2 = 0 := by
          have := (List.getElem?_eq_some_iff.mp h).1
          simp at this
          exact this
        subst hk0
        have h := Option.some.inj h
        exact hkj (hD.1 j k _ z hj hz (show a = z.1 from congrArg Prod.fst h))
      · have := h0.lt
        omega
end CTOR

theorem wA_int : Jvm.Cond.arrayClass .int ∈ fm_Ts := fm_t1 42 rfl rfl
theorem wA_byte : Jvm.Cond.arrayClass .byte ∈ fm_Ts := fm_t3 70 rfl rfl
theorem wA_boolean : Jvm.Cond.arrayClass .boolean ∈ fm_Ts := fm_t5 148 rfl rfl
theorem wo_X6 : Jvm.Cond.methodLink RX6 3 Lib.objectInit ∈ fm_Ts := fm_t1 32 rfl rfl
theorem wi_X6 : Jvm.Cond.instanceMethod yX6_init ∈ fm_Ts ∧ Jvm.Cond.initialized yX6_init.cls ∈ fm_Ts ∧ Jvm.Cond.code yX6_init prog_8_method_1_code 1 none ∈ fm_Ts := ⟨fm_t1 30 rfl rfl, fm_t1 2 rfl rfl, fm_t1 31 rfl rfl⟩
theorem wq_X6 : yX6_init.name = "<init>" ∧ yX6_init.cls ≠ "java/lang/invoke/MethodHandle" ∧ yX6_init.cls ≠ "java/lang/invoke/VarHandle" ∧ (parseMethodDescriptor yX6_init.desc).map (fun d => d.parameters.length) = some 0 := by decide +kernel
theorem zz_X6 : ∀ j, j < 2 → defaultValue (tyX6 j) = vp_V [.null, .int 0] j := by
  intro j hj
  match j, hj with
  | 0, _ => rfl
  | 1, _ => rfl
  | k + 2, hj => exact absurd hj (by omega)
def cq_X6_init_0 : List (Nat × Instr × Nat) := [(0, .aload_n 0, 1), (1, .invokespecial 3, 3), (4, .aload_n 0, 1), (5, .sipush 220, 3), (8, .newarray .int, 2), (10, .putfield 9, 3), (13, .aload_n 0, 1), (14, .iconst 0, 1), (15, .putfield 15, 3), (18, .return_, 1)]
theorem dq_X6_init_0 : ∀ q ∈ cq_X6_init_0, decode prog_8_method_1_code q.1 = .ok (q.2.1, q.2.2) := by decide +kernel
theorem d_X6_init_0 : decode prog_8_method_1_code 0 = .ok (.aload_n 0, 1) := dq_X6_init_0 (0, .aload_n 0, 1) (List.mem_of_getElem? (i := 0) rfl)
theorem d_X6_init_1 : decode prog_8_method_1_code 1 = .ok (.invokespecial 3, 3) := dq_X6_init_0 (1, .invokespecial 3, 3) (List.mem_of_getElem? (i := 1) rfl)
theorem d_X6_init_4 : decode prog_8_method_1_code 4 = .ok (.aload_n 0, 1) := dq_X6_init_0 (4, .aload_n 0, 1) (List.mem_of_getElem? (i := 2) rfl)
theorem d_X6_init_5 : decode prog_8_method_1_code 5 = .ok (.sipush 220, 3) := dq_X6_init_0 (5, .sipush 220, 3) (List.mem_of_getElem? (i := 3) rfl)
theorem d_X6_init_8 : decode prog_8_method_1_code 8 = .ok (.newarray .int, 2) := dq_X6_init_0 (8, .newarray .int, 2) (List.mem_of_getElem? (i := 4) rfl)
theorem d_X6_init_10 : decode prog_8_method_1_code 10 = .ok (.putfield 9, 3) := dq_X6_init_0 (10, .putfield 9, 3) (List.mem_of_getElem? (i := 5) rfl)
theorem d_X6_init_13 : decode prog_8_method_1_code 13 = .ok (.aload_n 0, 1) := dq_X6_init_0 (13, .aload_n 0, 1) (List.mem_of_getElem? (i := 6) rfl)
theorem d_X6_init_14 : decode prog_8_method_1_code 14 = .ok (.iconst 0, 1) := dq_X6_init_0 (14, .iconst 0, 1) (List.mem_of_getElem? (i := 7) rfl)
theorem d_X6_init_15 : decode prog_8_method_1_code 15 = .ok (.putfield 15, 3) := dq_X6_init_0 (15, .putfield 15, 3) (List.mem_of_getElem? (i := 8) rfl)
theorem d_X6_init_18 : decode prog_8_method_1_code 18 = .ok (.return_, 1) := dq_X6_init_0 (18, .return_, 1) (List.mem_of_getElem? (i := 9) rfl)
theorem wo_X1 : Jvm.Cond.methodLink RX1 3 Lib.objectInit ∈ fm_Ts := fm_t1 48 rfl rfl
theorem wi_X1 : Jvm.Cond.instanceMethod yX1_init ∈ fm_Ts ∧ Jvm.Cond.initialized yX1_init.cls ∈ fm_Ts ∧ Jvm.Cond.code yX1_init prog_3_method_1_code 1 none ∈ fm_Ts := ⟨fm_t1 46 rfl rfl, fm_t1 3 rfl rfl, fm_t1 47 rfl rfl⟩
theorem wq_X1 : yX1_init.name = "<init>" ∧ yX1_init.cls ≠ "java/lang/invoke/MethodHandle" ∧ yX1_init.cls ≠ "java/lang/invoke/VarHandle" ∧ (parseMethodDescriptor yX1_init.desc).map (fun d => d.parameters.length) = some 0 := by decide +kernel
theorem zz_X1 : ∀ j, j < 11 → defaultValue (tyX1 j) = vp_V [.null, .null, .int 0, .null, .null, .null, .null, .int 0, .int 0, .null, .null] j := by
  intro j hj
  match j, hj with
  | 0, _ => rfl
  | 1, _ => rfl
  | 2, _ => rfl
  | 3, _ => rfl
  | 4, _ => rfl
  | 5, _ => rfl
  | 6, _ => rfl
  | 7, _ => rfl
  | 8, _ => rfl
  | 9, _ => rfl
  | 10, _ => rfl
  | k + 11, hj => exact absurd hj (by omega)
def cq_X1_init_0 : List (Nat × Instr × Nat) := [(0, .aload_n 0, 1), (1, .invokespecial 3, 3), (4, .aload_n 0, 1), (5, .sipush 200, 3), (8, .newarray .int, 2), (10, .putfield 9, 3), (13, .aload_n 0, 1), (14, .sipush 200, 3), (17, .newarray .int, 2), (19, .putfield 15, 3), (22, .aload_n 0, 1), (23, .iconst 0, 1), (24, .putfield 18, 3), (27, .aload_n 0, 1), (28, .bipush 14, 2), (30, .newarray .int, 2), (32, .putfield 22, 3), (35, .aload_n 0, 1), (36, .bipush 14, 2), (38, .newarray .int, 2)]
theorem dq_X1_init_0 : ∀ q ∈ cq_X1_init_0, decode prog_3_method_1_code q.1 = .ok (q.2.1, q.2.2) := by decide +kernel
theorem d_X1_init_0 : decode prog_3_method_1_code 0 = .ok (.aload_n 0, 1) := dq_X1_init_0 (0, .aload_n 0, 1) (List.mem_of_getElem? (i := 0) rfl)
theorem d_X1_init_1 : decode prog_3_method_1_code 1 = .ok (.invokespecial 3, 3) := dq_X1_init_0 (1, .invokespecial 3, 3) (List.mem_of_getElem? (i := 1) rfl)
theorem d_X1_init_4 : decode prog_3_method_1_code 4 = .ok (.aload_n 0, 1) := dq_X1_init_0 (4, .aload_n 0, 1) (List.mem_of_getElem? (i := 2) rfl)
theorem d_X1_init_5 : decode prog_3_method_1_code 5 = .ok (.sipush 200, 3) := dq_X1_init_0 (5, .sipush 200, 3) (List.mem_of_getElem? (i := 3) rfl)
theorem d_X1_init_8 : decode prog_3_method_1_code 8 = .ok (.newarray .int, 2) := dq_X1_init_0 (8, .newarray .int, 2) (List.mem_of_getElem? (i := 4) rfl)
theorem d_X1_init_10 : decode prog_3_method_1_code 10 = .ok (.putfield 9, 3) := dq_X1_init_0 (10, .putfield 9, 3) (List.mem_of_getElem? (i := 5) rfl)
theorem d_X1_init_13 : decode prog_3_method_1_code 13 = .ok (.aload_n 0, 1) := dq_X1_init_0 (13, .aload_n 0, 1) (List.mem_of_getElem? (i := 6) rfl)
theorem d_X1_init_14 : decode prog_3_method_1_code 14 = .ok (.sipush 200, 3) := dq_X1_init_0 (14, .sipush 200, 3) (List.mem_of_getElem? (i := 7) rfl)
theorem d_X1_init_17 : decode prog_3_method_1_code 17 = .ok (.newarray .int, 2) := dq_X1_init_0 (17, .newarray .int, 2) (List.mem_of_getElem? (i := 8) rfl)
theorem d_X1_init_19 : decode prog_3_method_1_code 19 = .ok (.putfield 15, 3) := dq_X1_init_0 (19, .putfield 15, 3) (List.mem_of_getElem? (i := 9) rfl)
theorem d_X1_init_22 : decode prog_3_method_1_code 22 = .ok (.aload_n 0, 1) := dq_X1_init_0 (22, .aload_n 0, 1) (List.mem_of_getElem? (i := 10) rfl)
theorem d_X1_init_23 : decode prog_3_method_1_code 23 = .ok (.iconst 0, 1) := dq_X1_init_0 (23, .iconst 0, 1) (List.mem_of_getElem? (i := 11) rfl)
theorem d_X1_init_24 : decode prog_3_method_1_code 24 = .ok (.putfield 18, 3) := dq_X1_init_0 (24, .putfield 18, 3) (List.mem_of_getElem? (i := 12) rfl)
theorem d_X1_init_27 : decode prog_3_method_1_code 27 = .ok (.aload_n 0, 1) := dq_X1_init_0 (27, .aload_n 0, 1) (List.mem_of_getElem? (i := 13) rfl)
theorem d_X1_init_28 : decode prog_3_method_1_code 28 = .ok (.bipush 14, 2) := dq_X1_init_0 (28, .bipush 14, 2) (List.mem_of_getElem? (i := 14) rfl)
theorem d_X1_init_30 : decode prog_3_method_1_code 30 = .ok (.newarray .int, 2) := dq_X1_init_0 (30, .newarray .int, 2) (List.mem_of_getElem? (i := 15) rfl)
theorem d_X1_init_32 : decode prog_3_method_1_code 32 = .ok (.putfield 22, 3) := dq_X1_init_0 (32, .putfield 22, 3) (List.mem_of_getElem? (i := 16) rfl)
theorem d_X1_init_35 : decode prog_3_method_1_code 35 = .ok (.aload_n 0, 1) := dq_X1_init_0 (35, .aload_n 0, 1) (List.mem_of_getElem? (i := 17) rfl)
theorem d_X1_init_36 : decode prog_3_method_1_code 36 = .ok (.bipush 14, 2) := dq_X1_init_0 (36, .bipush 14, 2) (List.mem_of_getElem? (i := 18) rfl)
theorem d_X1_init_38 : decode prog_3_method_1_code 38 = .ok (.newarray .int, 2) := dq_X1_init_0 (38, .newarray .int, 2) (List.mem_of_getElem? (i := 19) rfl)
def cq_X1_init_20 : List (Nat × Instr × Nat) := [(40, .putfield 25, 3), (43, .aload_n 0, 1), (44, .bipush 14, 2), (46, .newarray .int, 2), (48, .putfield 28, 3), (51, .aload_n 0, 1), (52, .bipush 14, 2), (54, .newarray .int, 2), (56, .putfield 31, 3), (59, .aload_n 0, 1), (60, .iconst 0, 1), (61, .putfield 34, 3), (64, .aload_n 0, 1), (65, .iconst 0, 1), (66, .putfield 37, 3), (69, .aload_n 0, 1), (70, .bipush 13, 2), (72, .newarray .int, 2), (74, .putfield 41, 3), (77, .aload_n 0, 1)]
theorem dq_X1_init_20 : ∀ q ∈ cq_X1_init_20, decode prog_3_method_1_code q.1 = .ok (q.2.1, q.2.2) := by decide +kernel
theorem d_X1_init_40 : decode prog_3_method_1_code 40 = .ok (.putfield 25, 3) := dq_X1_init_20 (40, .putfield 25, 3) (List.mem_of_getElem? (i := 0) rfl)
theorem d_X1_init_43 : decode prog_3_method_1_code 43 = .ok (.aload_n 0, 1) := dq_X1_init_20 (43, .aload_n 0, 1) (List.mem_of_getElem? (i := 1) rfl)
theorem d_X1_init_44 : decode prog_3_method_1_code 44 = .ok (.bipush 14, 2) := dq_X1_init_20 (44, .bipush 14, 2) (List.mem_of_getElem? (i := 2) rfl)
theorem d_X1_init_46 : decode prog_3_method_1_code 46 = .ok (.newarray .int, 2) := dq_X1_init_20 (46, .newarray .int, 2) (List.mem_of_getElem? (i := 3) rfl)
theorem d_X1_init_48 : decode prog_3_method_1_code 48 = .ok (.putfield 28, 3) := dq_X1_init_20 (48, .putfield 28, 3) (List.mem_of_getElem? (i := 4) rfl)
theorem d_X1_init_51 : decode prog_3_method_1_code 51 = .ok (.aload_n 0, 1) := dq_X1_init_20 (51, .aload_n 0, 1) (List.mem_of_getElem? (i := 5) rfl)
theorem d_X1_init_52 : decode prog_3_method_1_code 52 = .ok (.bipush 14, 2) := dq_X1_init_20 (52, .bipush 14, 2) (List.mem_of_getElem? (i := 6) rfl)
theorem d_X1_init_54 : decode prog_3_method_1_code 54 = .ok (.newarray .int, 2) := dq_X1_init_20 (54, .newarray .int, 2) (List.mem_of_getElem? (i := 7) rfl)
theorem d_X1_init_56 : decode prog_3_method_1_code 56 = .ok (.putfield 31, 3) := dq_X1_init_20 (56, .putfield 31, 3) (List.mem_of_getElem? (i := 8) rfl)
theorem d_X1_init_59 : decode prog_3_method_1_code 59 = .ok (.aload_n 0, 1) := dq_X1_init_20 (59, .aload_n 0, 1) (List.mem_of_getElem? (i := 9) rfl)
theorem d_X1_init_60 : decode prog_3_method_1_code 60 = .ok (.iconst 0, 1) := dq_X1_init_20 (60, .iconst 0, 1) (List.mem_of_getElem? (i := 10) rfl)
theorem d_X1_init_61 : decode prog_3_method_1_code 61 = .ok (.putfield 34, 3) := dq_X1_init_20 (61, .putfield 34, 3) (List.mem_of_getElem? (i := 11) rfl)
theorem d_X1_init_64 : decode prog_3_method_1_code 64 = .ok (.aload_n 0, 1) := dq_X1_init_20 (64, .aload_n 0, 1) (List.mem_of_getElem? (i := 12) rfl)
theorem d_X1_init_65 : decode prog_3_method_1_code 65 = .ok (.iconst 0, 1) := dq_X1_init_20 (65, .iconst 0, 1) (List.mem_of_getElem? (i := 13) rfl)
theorem d_X1_init_66 : decode prog_3_method_1_code 66 = .ok (.putfield 37, 3) := dq_X1_init_20 (66, .putfield 37, 3) (List.mem_of_getElem? (i := 14) rfl)
theorem d_X1_init_69 : decode prog_3_method_1_code 69 = .ok (.aload_n 0, 1) := dq_X1_init_20 (69, .aload_n 0, 1) (List.mem_of_getElem? (i := 15) rfl)
theorem d_X1_init_70 : decode prog_3_method_1_code 70 = .ok (.bipush 13, 2) := dq_X1_init_20 (70, .bipush 13, 2) (List.mem_of_getElem? (i := 16) rfl)
theorem d_X1_init_72 : decode prog_3_method_1_code 72 = .ok (.newarray .int, 2) := dq_X1_init_20 (72, .newarray .int, 2) (List.mem_of_getElem? (i := 17) rfl)
theorem d_X1_init_74 : decode prog_3_method_1_code 74 = .ok (.putfield 41, 3) := dq_X1_init_20 (74, .putfield 41, 3) (List.mem_of_getElem? (i := 18) rfl)
theorem d_X1_init_77 : decode prog_3_method_1_code 77 = .ok (.aload_n 0, 1) := dq_X1_init_20 (77, .aload_n 0, 1) (List.mem_of_getElem? (i := 19) rfl)
def cq_X1_init_40 : List (Nat × Instr × Nat) := [(78, .bipush 40, 2), (80, .newarray .int, 2), (82, .putfield 44, 3), (85, .return_, 1)]
theorem dq_X1_init_40 : ∀ q ∈ cq_X1_init_40, decode prog_3_method_1_code q.1 = .ok (q.2.1, q.2.2) := by decide +kernel
theorem d_X1_init_78 : decode prog_3_method_1_code 78 = .ok (.bipush 40, 2) := dq_X1_init_40 (78, .bipush 40, 2) (List.mem_of_getElem? (i := 0) rfl)
theorem d_X1_init_80 : decode prog_3_method_1_code 80 = .ok (.newarray .int, 2) := dq_X1_init_40 (80, .newarray .int, 2) (List.mem_of_getElem? (i := 1) rfl)
theorem d_X1_init_82 : decode prog_3_method_1_code 82 = .ok (.putfield 44, 3) := dq_X1_init_40 (82, .putfield 44, 3) (List.mem_of_getElem? (i := 2) rfl)
theorem d_X1_init_85 : decode prog_3_method_1_code 85 = .ok (.return_, 1) := dq_X1_init_40 (85, .return_, 1) (List.mem_of_getElem? (i := 3) rfl)
theorem wo_X2 : Jvm.Cond.methodLink RX2 3 Lib.objectInit ∈ fm_Ts := fm_t1 131 rfl rfl
theorem wi_X2 : Jvm.Cond.instanceMethod yX2_init ∈ fm_Ts ∧ Jvm.Cond.initialized yX2_init.cls ∈ fm_Ts ∧ Jvm.Cond.code yX2_init prog_4_method_1_code 1 none ∈ fm_Ts := ⟨fm_t1 129 rfl rfl, fm_t1 6 rfl rfl, fm_t1 130 rfl rfl⟩
theorem wq_X2 : yX2_init.name = "<init>" ∧ yX2_init.cls ≠ "java/lang/invoke/MethodHandle" ∧ yX2_init.cls ≠ "java/lang/invoke/VarHandle" ∧ (parseMethodDescriptor yX2_init.desc).map (fun d => d.parameters.length) = some 0 := by decide +kernel
theorem zz_X2 : ∀ j, j < 5 → defaultValue (tyX2 j) = vp_V [.int 0, .null, .null, .null, .null] j := by
  intro j hj
  match j, hj with
  | 0, _ => rfl
  | 1, _ => rfl
  | 2, _ => rfl
  | 3, _ => rfl
  | 4, _ => rfl
  | k + 5, hj => exact absurd hj (by omega)
def cq_X2_init_0 : List (Nat × Instr × Nat) := [(0, .aload_n 0, 1), (1, .invokespecial 3, 3), (4, .aload_n 0, 1), (5, .iconst 0, 1), (6, .putfield 9, 3), (9, .aload_n 0, 1), (10, .bipush 9, 2), (12, .newarray .int, 2), (14, .putfield 15, 3), (17, .aload_n 0, 1), (18, .bipush 9, 2), (20, .newarray .int, 2), (22, .putfield 19, 3), (25, .aload_n 0, 1), (26, .bipush 9, 2), (28, .newarray .int, 2), (30, .putfield 22, 3), (33, .aload_n 0, 1), (34, .bipush 9, 2), (36, .newarray .int, 2)]
theorem dq_X2_init_0 : ∀ q ∈ cq_X2_init_0, decode prog_4_method_1_code q.1 = .ok (q.2.1, q.2.2) := by decide +kernel
theorem d_X2_init_0 : decode prog_4_method_1_code 0 = .ok (.aload_n 0, 1) := dq_X2_init_0 (0, .aload_n 0, 1) (List.mem_of_getElem? (i := 0) rfl)
theorem d_X2_init_1 : decode prog_4_method_1_code 1 = .ok (.invokespecial 3, 3) := dq_X2_init_0 (1, .invokespecial 3, 3) (List.mem_of_getElem? (i := 1) rfl)
theorem d_X2_init_4 : decode prog_4_method_1_code 4 = .ok (.aload_n 0, 1) := dq_X2_init_0 (4, .aload_n 0, 1) (List.mem_of_getElem? (i := 2) rfl)
theorem d_X2_init_5 : decode prog_4_method_1_code 5 = .ok (.iconst 0, 1) := dq_X2_init_0 (5, .iconst 0, 1) (List.mem_of_getElem? (i := 3) rfl)
theorem d_X2_init_6 : decode prog_4_method_1_code 6 = .ok (.putfield 9, 3) := dq_X2_init_0 (6, .putfield 9, 3) (List.mem_of_getElem? (i := 4) rfl)
theorem d_X2_init_9 : decode prog_4_method_1_code 9 = .ok (.aload_n 0, 1) := dq_X2_init_0 (9, .aload_n 0, 1) (List.mem_of_getElem? (i := 5) rfl)
theorem d_X2_init_10 : decode prog_4_method_1_code 10 = .ok (.bipush 9, 2) := dq_X2_init_0 (10, .bipush 9, 2) (List.mem_of_getElem? (i := 6) rfl)
theorem d_X2_init_12 : decode prog_4_method_1_code 12 = .ok (.newarray .int, 2) := dq_X2_init_0 (12, .newarray .int, 2) (List.mem_of_getElem? (i := 7) rfl)
theorem d_X2_init_14 : decode prog_4_method_1_code 14 = .ok (.putfield 15, 3) := dq_X2_init_0 (14, .putfield 15, 3) (List.mem_of_getElem? (i := 8) rfl)
theorem d_X2_init_17 : decode prog_4_method_1_code 17 = .ok (.aload_n 0, 1) := dq_X2_init_0 (17, .aload_n 0, 1) (List.mem_of_getElem? (i := 9) rfl)
theorem d_X2_init_18 : decode prog_4_method_1_code 18 = .ok (.bipush 9, 2) := dq_X2_init_0 (18, .bipush 9, 2) (List.mem_of_getElem? (i := 10) rfl)
theorem d_X2_init_20 : decode prog_4_method_1_code 20 = .ok (.newarray .int, 2) := dq_X2_init_0 (20, .newarray .int, 2) (List.mem_of_getElem? (i := 11) rfl)
theorem d_X2_init_22 : decode prog_4_method_1_code 22 = .ok (.putfield 19, 3) := dq_X2_init_0 (22, .putfield 19, 3) (List.mem_of_getElem? (i := 12) rfl)
theorem d_X2_init_25 : decode prog_4_method_1_code 25 = .ok (.aload_n 0, 1) := dq_X2_init_0 (25, .aload_n 0, 1) (List.mem_of_getElem? (i := 13) rfl)
theorem d_X2_init_26 : decode prog_4_method_1_code 26 = .ok (.bipush 9, 2) := dq_X2_init_0 (26, .bipush 9, 2) (List.mem_of_getElem? (i := 14) rfl)
theorem d_X2_init_28 : decode prog_4_method_1_code 28 = .ok (.newarray .int, 2) := dq_X2_init_0 (28, .newarray .int, 2) (List.mem_of_getElem? (i := 15) rfl)
theorem d_X2_init_30 : decode prog_4_method_1_code 30 = .ok (.putfield 22, 3) := dq_X2_init_0 (30, .putfield 22, 3) (List.mem_of_getElem? (i := 16) rfl)
theorem d_X2_init_33 : decode prog_4_method_1_code 33 = .ok (.aload_n 0, 1) := dq_X2_init_0 (33, .aload_n 0, 1) (List.mem_of_getElem? (i := 17) rfl)
theorem d_X2_init_34 : decode prog_4_method_1_code 34 = .ok (.bipush 9, 2) := dq_X2_init_0 (34, .bipush 9, 2) (List.mem_of_getElem? (i := 18) rfl)
theorem d_X2_init_36 : decode prog_4_method_1_code 36 = .ok (.newarray .int, 2) := dq_X2_init_0 (36, .newarray .int, 2) (List.mem_of_getElem? (i := 19) rfl)
def cq_X2_init_20 : List (Nat × Instr × Nat) := [(38, .putfield 25, 3), (41, .return_, 1)]
theorem dq_X2_init_20 : ∀ q ∈ cq_X2_init_20, decode prog_4_method_1_code q.1 = .ok (q.2.1, q.2.2) := by decide +kernel
theorem d_X2_init_38 : decode prog_4_method_1_code 38 = .ok (.putfield 25, 3) := dq_X2_init_20 (38, .putfield 25, 3) (List.mem_of_getElem? (i := 0) rfl)
theorem d_X2_init_41 : decode prog_4_method_1_code 41 = .ok (.return_, 1) := dq_X2_init_20 (41, .return_, 1) (List.mem_of_getElem? (i := 1) rfl)
theorem wo_X5 : Jvm.Cond.methodLink RX5 3 Lib.objectInit ∈ fm_Ts := fm_t2 44 rfl rfl
theorem wi_X5 : Jvm.Cond.instanceMethod yX5_init ∈ fm_Ts ∧ Jvm.Cond.initialized yX5_init.cls ∈ fm_Ts ∧ Jvm.Cond.code yX5_init prog_7_method_1_code 1 none ∈ fm_Ts := ⟨fm_t2 42 rfl rfl, fm_t1 9 rfl rfl, fm_t2 43 rfl rfl⟩
theorem wq_X5 : yX5_init.name = "<init>" ∧ yX5_init.cls ≠ "java/lang/invoke/MethodHandle" ∧ yX5_init.cls ≠ "java/lang/invoke/VarHandle" ∧ (parseMethodDescriptor yX5_init.desc).map (fun d => d.parameters.length) = some 0 := by decide +kernel
theorem zz_X5 : ∀ j, j < 4 → defaultValue (tyX5 j) = vp_V [.null, .null, .null, .int 0] j := by
  intro j hj
  match j, hj with
  | 0, _ => rfl
  | 1, _ => rfl
  | 2, _ => rfl
  | 3, _ => rfl
  | k + 4, hj => exact absurd hj (by omega)
def cq_X5_init_0 : List (Nat × Instr × Nat) := [(0, .aload_n 0, 1), (1, .invokespecial 3, 3), (4, .aload_n 0, 1), (5, .bipush 6, 2), (7, .newarray .int, 2), (9, .putfield 9, 3), (12, .aload_n 0, 1), (13, .bipush 6, 2), (15, .newarray .int, 2), (17, .putfield 15, 3), (20, .aload_n 0, 1), (21, .bipush 6, 2), (23, .newarray .int, 2), (25, .putfield 18, 3), (28, .aload_n 0, 1), (29, .iconst 0, 1), (30, .putfield 21, 3), (33, .return_, 1)]
theorem dq_X5_init_0 : ∀ q ∈ cq_X5_init_0, decode prog_7_method_1_code q.1 = .ok (q.2.1, q.2.2) := by decide +kernel
theorem d_X5_init_0 : decode prog_7_method_1_code 0 = .ok (.aload_n 0, 1) := dq_X5_init_0 (0, .aload_n 0, 1) (List.mem_of_getElem? (i := 0) rfl)
theorem d_X5_init_1 : decode prog_7_method_1_code 1 = .ok (.invokespecial 3, 3) := dq_X5_init_0 (1, .invokespecial 3, 3) (List.mem_of_getElem? (i := 1) rfl)
theorem d_X5_init_4 : decode prog_7_method_1_code 4 = .ok (.aload_n 0, 1) := dq_X5_init_0 (4, .aload_n 0, 1) (List.mem_of_getElem? (i := 2) rfl)
theorem d_X5_init_5 : decode prog_7_method_1_code 5 = .ok (.bipush 6, 2) := dq_X5_init_0 (5, .bipush 6, 2) (List.mem_of_getElem? (i := 3) rfl)
theorem d_X5_init_7 : decode prog_7_method_1_code 7 = .ok (.newarray .int, 2) := dq_X5_init_0 (7, .newarray .int, 2) (List.mem_of_getElem? (i := 4) rfl)
theorem d_X5_init_9 : decode prog_7_method_1_code 9 = .ok (.putfield 9, 3) := dq_X5_init_0 (9, .putfield 9, 3) (List.mem_of_getElem? (i := 5) rfl)
theorem d_X5_init_12 : decode prog_7_method_1_code 12 = .ok (.aload_n 0, 1) := dq_X5_init_0 (12, .aload_n 0, 1) (List.mem_of_getElem? (i := 6) rfl)
theorem d_X5_init_13 : decode prog_7_method_1_code 13 = .ok (.bipush 6, 2) := dq_X5_init_0 (13, .bipush 6, 2) (List.mem_of_getElem? (i := 7) rfl)
theorem d_X5_init_15 : decode prog_7_method_1_code 15 = .ok (.newarray .int, 2) := dq_X5_init_0 (15, .newarray .int, 2) (List.mem_of_getElem? (i := 8) rfl)
theorem d_X5_init_17 : decode prog_7_method_1_code 17 = .ok (.putfield 15, 3) := dq_X5_init_0 (17, .putfield 15, 3) (List.mem_of_getElem? (i := 9) rfl)
theorem d_X5_init_20 : decode prog_7_method_1_code 20 = .ok (.aload_n 0, 1) := dq_X5_init_0 (20, .aload_n 0, 1) (List.mem_of_getElem? (i := 10) rfl)
theorem d_X5_init_21 : decode prog_7_method_1_code 21 = .ok (.bipush 6, 2) := dq_X5_init_0 (21, .bipush 6, 2) (List.mem_of_getElem? (i := 11) rfl)
theorem d_X5_init_23 : decode prog_7_method_1_code 23 = .ok (.newarray .int, 2) := dq_X5_init_0 (23, .newarray .int, 2) (List.mem_of_getElem? (i := 12) rfl)
theorem d_X5_init_25 : decode prog_7_method_1_code 25 = .ok (.putfield 18, 3) := dq_X5_init_0 (25, .putfield 18, 3) (List.mem_of_getElem? (i := 13) rfl)
theorem d_X5_init_28 : decode prog_7_method_1_code 28 = .ok (.aload_n 0, 1) := dq_X5_init_0 (28, .aload_n 0, 1) (List.mem_of_getElem? (i := 14) rfl)
theorem d_X5_init_29 : decode prog_7_method_1_code 29 = .ok (.iconst 0, 1) := dq_X5_init_0 (29, .iconst 0, 1) (List.mem_of_getElem? (i := 15) rfl)
theorem d_X5_init_30 : decode prog_7_method_1_code 30 = .ok (.putfield 21, 3) := dq_X5_init_0 (30, .putfield 21, 3) (List.mem_of_getElem? (i := 16) rfl)
theorem d_X5_init_33 : decode prog_7_method_1_code 33 = .ok (.return_, 1) := dq_X5_init_0 (33, .return_, 1) (List.mem_of_getElem? (i := 17) rfl)
theorem wo_X4 : Jvm.Cond.methodLink RX4 3 Lib.objectInit ∈ fm_Ts := fm_mem 324 (by decide +kernel) rfl
theorem wi_X4 : Jvm.Cond.instanceMethod yX4_init ∈ fm_Ts ∧ Jvm.Cond.initialized yX4_init.cls ∈ fm_Ts ∧ Jvm.Cond.code yX4_init prog_6_method_1_code 4 none ∈ fm_Ts := ⟨fm_mem 322 (by decide +kernel) rfl, fm_t1 8 rfl rfl, fm_mem 323 (by decide +kernel) rfl⟩
theorem wq_X4 : yX4_init.name = "<init>" ∧ yX4_init.cls ≠ "java/lang/invoke/MethodHandle" ∧ yX4_init.cls ≠ "java/lang/invoke/VarHandle" ∧ (parseMethodDescriptor yX4_init.desc).map (fun d => d.parameters.length) = some 3 := by decide +kernel
theorem zz_X4 : ∀ j, j < 12 → defaultValue (tyX4 j) = vp_V [.int 0, .int 0, .null, .null, .null, .null, .null, .null, .null, .int 0, .int 0, .int 0] j := by
  intro j hj
  match j, hj with
  | 0, _ => rfl
  | 1, _ => rfl
  | 2, _ => rfl
  | 3, _ => rfl
  | 4, _ => rfl
  | 5, _ => rfl
  | 6, _ => rfl
  | 7, _ => rfl
  | 8, _ => rfl
  | 9, _ => rfl
  | 10, _ => rfl
  | 11, _ => rfl
  | k + 12, hj => exact absurd hj (by omega)
def cq_X4_init_0 : List (Nat × Instr × Nat) := [(0, .aload_n 0, 1), (1, .invokespecial 3, 3), (4, .aload_n 0, 1), (5, .iconst 0, 1), (6, .putfield 9, 3), (9, .aload_n 0, 1), (10, .iconst 0, 1), (11, .putfield 15, 3), (14, .aload_n 0, 1), (15, .iconst 3, 1), (16, .newarray .int, 2), (18, .putfield 18, 3), (21, .aload_n 0, 1), (22, .iconst 3, 1), (23, .newarray .int, 2), (25, .putfield 22, 3), (28, .aload_n 0, 1), (29, .bipush 20, 2), (31, .newarray .int, 2), (33, .putfield 25, 3)]
theorem dq_X4_init_0 : ∀ q ∈ cq_X4_init_0, decode prog_6_method_1_code q.1 = .ok (q.2.1, q.2.2) := by decide +kernel
theorem d_X4_init_0 : decode prog_6_method_1_code 0 = .ok (.aload_n 0, 1) := dq_X4_init_0 (0, .aload_n 0, 1) (List.mem_of_getElem? (i := 0) rfl)
theorem d_X4_init_1 : decode prog_6_method_1_code 1 = .ok (.invokespecial 3, 3) := dq_X4_init_0 (1, .invokespecial 3, 3) (List.mem_of_getElem? (i := 1) rfl)
theorem d_X4_init_4 : decode prog_6_method_1_code 4 = .ok (.aload_n 0, 1) := dq_X4_init_0 (4, .aload_n 0, 1) (List.mem_of_getElem? (i := 2) rfl)
theorem d_X4_init_5 : decode prog_6_method_1_code 5 = .ok (.iconst 0, 1) := dq_X4_init_0 (5, .iconst 0, 1) (List.mem_of_getElem? (i := 3) rfl)
theorem d_X4_init_6 : decode prog_6_method_1_code 6 = .ok (.putfield 9, 3) := dq_X4_init_0 (6, .putfield 9, 3) (List.mem_of_getElem? (i := 4) rfl)
theorem d_X4_init_9 : decode prog_6_method_1_code 9 = .ok (.aload_n 0, 1) := dq_X4_init_0 (9, .aload_n 0, 1) (List.mem_of_getElem? (i := 5) rfl)
theorem d_X4_init_10 : decode prog_6_method_1_code 10 = .ok (.iconst 0, 1) := dq_X4_init_0 (10, .iconst 0, 1) (List.mem_of_getElem? (i := 6) rfl)
theorem d_X4_init_11 : decode prog_6_method_1_code 11 = .ok (.putfield 15, 3) := dq_X4_init_0 (11, .putfield 15, 3) (List.mem_of_getElem? (i := 7) rfl)
theorem d_X4_init_14 : decode prog_6_method_1_code 14 = .ok (.aload_n 0, 1) := dq_X4_init_0 (14, .aload_n 0, 1) (List.mem_of_getElem? (i := 8) rfl)
theorem d_X4_init_15 : decode prog_6_method_1_code 15 = .ok (.iconst 3, 1) := dq_X4_init_0 (15, .iconst 3, 1) (List.mem_of_getElem? (i := 9) rfl)
theorem d_X4_init_16 : decode prog_6_method_1_code 16 = .ok (.newarray .int, 2) := dq_X4_init_0 (16, .newarray .int, 2) (List.mem_of_getElem? (i := 10) rfl)
theorem d_X4_init_18 : decode prog_6_method_1_code 18 = .ok (.putfield 18, 3) := dq_X4_init_0 (18, .putfield 18, 3) (List.mem_of_getElem? (i := 11) rfl)
theorem d_X4_init_21 : decode prog_6_method_1_code 21 = .ok (.aload_n 0, 1) := dq_X4_init_0 (21, .aload_n 0, 1) (List.mem_of_getElem? (i := 12) rfl)
theorem d_X4_init_22 : decode prog_6_method_1_code 22 = .ok (.iconst 3, 1) := dq_X4_init_0 (22, .iconst 3, 1) (List.mem_of_getElem? (i := 13) rfl)
theorem d_X4_init_23 : decode prog_6_method_1_code 23 = .ok (.newarray .int, 2) := dq_X4_init_0 (23, .newarray .int, 2) (List.mem_of_getElem? (i := 14) rfl)
theorem d_X4_init_25 : decode prog_6_method_1_code 25 = .ok (.putfield 22, 3) := dq_X4_init_0 (25, .putfield 22, 3) (List.mem_of_getElem? (i := 15) rfl)
theorem d_X4_init_28 : decode prog_6_method_1_code 28 = .ok (.aload_n 0, 1) := dq_X4_init_0 (28, .aload_n 0, 1) (List.mem_of_getElem? (i := 16) rfl)
theorem d_X4_init_29 : decode prog_6_method_1_code 29 = .ok (.bipush 20, 2) := dq_X4_init_0 (29, .bipush 20, 2) (List.mem_of_getElem? (i := 17) rfl)
theorem d_X4_init_31 : decode prog_6_method_1_code 31 = .ok (.newarray .int, 2) := dq_X4_init_0 (31, .newarray .int, 2) (List.mem_of_getElem? (i := 18) rfl)
theorem d_X4_init_33 : decode prog_6_method_1_code 33 = .ok (.putfield 25, 3) := dq_X4_init_0 (33, .putfield 25, 3) (List.mem_of_getElem? (i := 19) rfl)
def cq_X4_init_20 : List (Nat × Instr × Nat) := [(36, .aload_n 0, 1), (37, .sipush 400, 3), (40, .newarray .int, 2), (42, .putfield 28, 3), (45, .aload_n 0, 1), (46, .iconst 0, 1), (47, .putfield 31, 3), (50, .aload_n 0, 1), (51, .iconst 0, 1), (52, .putfield 34, 3), (55, .aload_n 0, 1), (56, .iconst 0, 1), (57, .putfield 37, 3), (60, .aload_n 0, 1), (61, .aload_n 1, 1), (62, .putfield 40, 3), (65, .aload_n 0, 1), (66, .aload_n 2, 1), (67, .putfield 44, 3), (70, .aload_n 0, 1)]
theorem dq_X4_init_20 : ∀ q ∈ cq_X4_init_20, decode prog_6_method_1_code q.1 = .ok (q.2.1, q.2.2) := by decide +kernel
theorem d_X4_init_36 : decode prog_6_method_1_code 36 = .ok (.aload_n 0, 1) := dq_X4_init_20 (36, .aload_n 0, 1) (List.mem_of_getElem? (i := 0) rfl)
theorem d_X4_init_37 : decode prog_6_method_1_code 37 = .ok (.sipush 400, 3) := dq_X4_init_20 (37, .sipush 400, 3) (List.mem_of_getElem? (i := 1) rfl)
theorem d_X4_init_40 : decode prog_6_method_1_code 40 = .ok (.newarray .int, 2) := dq_X4_init_20 (40, .newarray .int, 2) (List.mem_of_getElem? (i := 2) rfl)
theorem d_X4_init_42 : decode prog_6_method_1_code 42 = .ok (.putfield 28, 3) := dq_X4_init_20 (42, .putfield 28, 3) (List.mem_of_getElem? (i := 3) rfl)
theorem d_X4_init_45 : decode prog_6_method_1_code 45 = .ok (.aload_n 0, 1) := dq_X4_init_20 (45, .aload_n 0, 1) (List.mem_of_getElem? (i := 4) rfl)
theorem d_X4_init_46 : decode prog_6_method_1_code 46 = .ok (.iconst 0, 1) := dq_X4_init_20 (46, .iconst 0, 1) (List.mem_of_getElem? (i := 5) rfl)
theorem d_X4_init_47 : decode prog_6_method_1_code 47 = .ok (.putfield 31, 3) := dq_X4_init_20 (47, .putfield 31, 3) (List.mem_of_getElem? (i := 6) rfl)
theorem d_X4_init_50 : decode prog_6_method_1_code 50 = .ok (.aload_n 0, 1) := dq_X4_init_20 (50, .aload_n 0, 1) (List.mem_of_getElem? (i := 7) rfl)
theorem d_X4_init_51 : decode prog_6_method_1_code 51 = .ok (.iconst 0, 1) := dq_X4_init_20 (51, .iconst 0, 1) (List.mem_of_getElem? (i := 8) rfl)
theorem d_X4_init_52 : decode prog_6_method_1_code 52 = .ok (.putfield 34, 3) := dq_X4_init_20 (52, .putfield 34, 3) (List.mem_of_getElem? (i := 9) rfl)
theorem d_X4_init_55 : decode prog_6_method_1_code 55 = .ok (.aload_n 0, 1) := dq_X4_init_20 (55, .aload_n 0, 1) (List.mem_of_getElem? (i := 10) rfl)
theorem d_X4_init_56 : decode prog_6_method_1_code 56 = .ok (.iconst 0, 1) := dq_X4_init_20 (56, .iconst 0, 1) (List.mem_of_getElem? (i := 11) rfl)
theorem d_X4_init_57 : decode prog_6_method_1_code 57 = .ok (.putfield 37, 3) := dq_X4_init_20 (57, .putfield 37, 3) (List.mem_of_getElem? (i := 12) rfl)
theorem d_X4_init_60 : decode prog_6_method_1_code 60 = .ok (.aload_n 0, 1) := dq_X4_init_20 (60, .aload_n 0, 1) (List.mem_of_getElem? (i := 13) rfl)
theorem d_X4_init_61 : decode prog_6_method_1_code 61 = .ok (.aload_n 1, 1) := dq_X4_init_20 (61, .aload_n 1, 1) (List.mem_of_getElem? (i := 14) rfl)
theorem d_X4_init_62 : decode prog_6_method_1_code 62 = .ok (.putfield 40, 3) := dq_X4_init_20 (62, .putfield 40, 3) (List.mem_of_getElem? (i := 15) rfl)
theorem d_X4_init_65 : decode prog_6_method_1_code 65 = .ok (.aload_n 0, 1) := dq_X4_init_20 (65, .aload_n 0, 1) (List.mem_of_getElem? (i := 16) rfl)
theorem d_X4_init_66 : decode prog_6_method_1_code 66 = .ok (.aload_n 2, 1) := dq_X4_init_20 (66, .aload_n 2, 1) (List.mem_of_getElem? (i := 17) rfl)
theorem d_X4_init_67 : decode prog_6_method_1_code 67 = .ok (.putfield 44, 3) := dq_X4_init_20 (67, .putfield 44, 3) (List.mem_of_getElem? (i := 18) rfl)
theorem d_X4_init_70 : decode prog_6_method_1_code 70 = .ok (.aload_n 0, 1) := dq_X4_init_20 (70, .aload_n 0, 1) (List.mem_of_getElem? (i := 19) rfl)
def cq_X4_init_40 : List (Nat × Instr × Nat) := [(71, .aload_n 3, 1), (72, .putfield 47, 3), (75, .return_, 1)]
theorem dq_X4_init_40 : ∀ q ∈ cq_X4_init_40, decode prog_6_method_1_code q.1 = .ok (q.2.1, q.2.2) := by decide +kernel
theorem d_X4_init_71 : decode prog_6_method_1_code 71 = .ok (.aload_n 3, 1) := dq_X4_init_40 (71, .aload_n 3, 1) (List.mem_of_getElem? (i := 0) rfl)
theorem d_X4_init_72 : decode prog_6_method_1_code 72 = .ok (.putfield 47, 3) := dq_X4_init_40 (72, .putfield 47, 3) (List.mem_of_getElem? (i := 1) rfl)
theorem d_X4_init_75 : decode prog_6_method_1_code 75 = .ok (.return_, 1) := dq_X4_init_40 (75, .return_, 1) (List.mem_of_getElem? (i := 2) rfl)
theorem wo_X3 : Jvm.Cond.methodLink RX3 3 Lib.objectInit ∈ fm_Ts := fm_t1 100 rfl rfl
theorem wi_X3 : Jvm.Cond.instanceMethod yX3_init ∈ fm_Ts ∧ Jvm.Cond.initialized yX3_init.cls ∈ fm_Ts ∧ Jvm.Cond.code yX3_init prog_5_method_1_code 2 none ∈ fm_Ts := ⟨fm_t1 98 rfl rfl, fm_t1 4 rfl rfl, fm_t1 99 rfl rfl⟩
theorem wq_X3 : yX3_init.name = "<init>" ∧ yX3_init.cls ≠ "java/lang/invoke/MethodHandle" ∧ yX3_init.cls ≠ "java/lang/invoke/VarHandle" ∧ (parseMethodDescriptor yX3_init.desc).map (fun d => d.parameters.length) = some 1 := by decide +kernel
theorem zz_X3 : ∀ j, j < 5 → defaultValue (tyX3 j) = vp_V [.null, .null, .int 0, .int 0, .int 0] j := by
  intro j hj
  match j, hj with
  | 0, _ => rfl
  | 1, _ => rfl
  | 2, _ => rfl
  | 3, _ => rfl
  | 4, _ => rfl
  | k + 5, hj => exact absurd hj (by omega)
theorem wn_X3_9 : Jvm.Cond.classLink RX3 9 RX1 ∈ fm_Ts ∧ Jvm.Cond.instantiable RX1 11 ∈ fm_Ts ∧ Jvm.Cond.initialized RX1 ∈ fm_Ts := ⟨fm_t1 101 rfl rfl, fm_t1 44 rfl rfl, fm_t1 3 rfl rfl⟩
theorem wl_X3_11 : (RX3, 11, yX1_init, "DustMint") ∈ fm_nt := List.mem_of_getElem? (i := 2) rfl
def cq_X3_init_0 : List (Nat × Instr × Nat) := [(0, .aload_n 0, 1), (1, .invokespecial 3, 3), (4, .aload_n 0, 1), (5, .new 9, 3), (8, .dup, 1), (9, .invokespecial 11, 3), (12, .putfield 12, 3), (15, .aload_n 0, 1), (16, .iconst 0, 1), (17, .putfield 18, 3), (20, .aload_n 0, 1), (21, .iconst 0, 1), (22, .putfield 22, 3), (25, .aload_n 0, 1), (26, .iconst 0, 1), (27, .putfield 25, 3), (30, .aload_n 0, 1), (31, .aload_n 1, 1), (32, .putfield 28, 3), (35, .return_, 1)]
theorem dq_X3_init_0 : ∀ q ∈ cq_X3_init_0, decode prog_5_method_1_code q.1 = .ok (q.2.1, q.2.2) := by decide +kernel
theorem d_X3_init_0 : decode prog_5_method_1_code 0 = .ok (.aload_n 0, 1) := dq_X3_init_0 (0, .aload_n 0, 1) (List.mem_of_getElem? (i := 0) rfl)
theorem d_X3_init_1 : decode prog_5_method_1_code 1 = .ok (.invokespecial 3, 3) := dq_X3_init_0 (1, .invokespecial 3, 3) (List.mem_of_getElem? (i := 1) rfl)
theorem d_X3_init_4 : decode prog_5_method_1_code 4 = .ok (.aload_n 0, 1) := dq_X3_init_0 (4, .aload_n 0, 1) (List.mem_of_getElem? (i := 2) rfl)
theorem d_X3_init_5 : decode prog_5_method_1_code 5 = .ok (.new 9, 3) := dq_X3_init_0 (5, .new 9, 3) (List.mem_of_getElem? (i := 3) rfl)
theorem d_X3_init_8 : decode prog_5_method_1_code 8 = .ok (.dup, 1) := dq_X3_init_0 (8, .dup, 1) (List.mem_of_getElem? (i := 4) rfl)
theorem d_X3_init_9 : decode prog_5_method_1_code 9 = .ok (.invokespecial 11, 3) := dq_X3_init_0 (9, .invokespecial 11, 3) (List.mem_of_getElem? (i := 5) rfl)
theorem d_X3_init_12 : decode prog_5_method_1_code 12 = .ok (.putfield 12, 3) := dq_X3_init_0 (12, .putfield 12, 3) (List.mem_of_getElem? (i := 6) rfl)
theorem d_X3_init_15 : decode prog_5_method_1_code 15 = .ok (.aload_n 0, 1) := dq_X3_init_0 (15, .aload_n 0, 1) (List.mem_of_getElem? (i := 7) rfl)
theorem d_X3_init_16 : decode prog_5_method_1_code 16 = .ok (.iconst 0, 1) := dq_X3_init_0 (16, .iconst 0, 1) (List.mem_of_getElem? (i := 8) rfl)
theorem d_X3_init_17 : decode prog_5_method_1_code 17 = .ok (.putfield 18, 3) := dq_X3_init_0 (17, .putfield 18, 3) (List.mem_of_getElem? (i := 9) rfl)
theorem d_X3_init_20 : decode prog_5_method_1_code 20 = .ok (.aload_n 0, 1) := dq_X3_init_0 (20, .aload_n 0, 1) (List.mem_of_getElem? (i := 10) rfl)
theorem d_X3_init_21 : decode prog_5_method_1_code 21 = .ok (.iconst 0, 1) := dq_X3_init_0 (21, .iconst 0, 1) (List.mem_of_getElem? (i := 11) rfl)
theorem d_X3_init_22 : decode prog_5_method_1_code 22 = .ok (.putfield 22, 3) := dq_X3_init_0 (22, .putfield 22, 3) (List.mem_of_getElem? (i := 12) rfl)
theorem d_X3_init_25 : decode prog_5_method_1_code 25 = .ok (.aload_n 0, 1) := dq_X3_init_0 (25, .aload_n 0, 1) (List.mem_of_getElem? (i := 13) rfl)
theorem d_X3_init_26 : decode prog_5_method_1_code 26 = .ok (.iconst 0, 1) := dq_X3_init_0 (26, .iconst 0, 1) (List.mem_of_getElem? (i := 14) rfl)
theorem d_X3_init_27 : decode prog_5_method_1_code 27 = .ok (.putfield 25, 3) := dq_X3_init_0 (27, .putfield 25, 3) (List.mem_of_getElem? (i := 15) rfl)
theorem d_X3_init_30 : decode prog_5_method_1_code 30 = .ok (.aload_n 0, 1) := dq_X3_init_0 (30, .aload_n 0, 1) (List.mem_of_getElem? (i := 16) rfl)
theorem d_X3_init_31 : decode prog_5_method_1_code 31 = .ok (.aload_n 1, 1) := dq_X3_init_0 (31, .aload_n 1, 1) (List.mem_of_getElem? (i := 17) rfl)
theorem d_X3_init_32 : decode prog_5_method_1_code 32 = .ok (.putfield 28, 3) := dq_X3_init_0 (32, .putfield 28, 3) (List.mem_of_getElem? (i := 18) rfl)
theorem d_X3_init_35 : decode prog_5_method_1_code 35 = .ok (.return_, 1) := dq_X3_init_0 (35, .return_, 1) (List.mem_of_getElem? (i := 19) rfl)
theorem wo_X0 : Jvm.Cond.methodLink RX0 3 Lib.objectInit ∈ fm_Ts := fm_t1 125 rfl rfl
theorem wi_X0 : Jvm.Cond.instanceMethod yX0_init ∈ fm_Ts ∧ Jvm.Cond.initialized yX0_init.cls ∈ fm_Ts ∧ Jvm.Cond.code yX0_init prog_2_method_1_code 1 none ∈ fm_Ts := ⟨fm_t1 123 rfl rfl, fm_t1 5 rfl rfl, fm_t1 124 rfl rfl⟩
theorem wq_X0 : yX0_init.name = "<init>" ∧ yX0_init.cls ≠ "java/lang/invoke/MethodHandle" ∧ yX0_init.cls ≠ "java/lang/invoke/VarHandle" ∧ (parseMethodDescriptor yX0_init.desc).map (fun d => d.parameters.length) = some 0 := by decide +kernel
theorem zz_X0 : ∀ j, j < 18 → defaultValue (tyX0 j) = vp_V [.null, .null, .null, .null, .null, .null, .null, .null, .null, .int 0, .int 0, .int 0, .int 0, .int 0, .int 0, .int 0, .int 0, .null] j := by
  intro j hj
  match j, hj with
  | 0, _ => rfl
  | 1, _ => rfl
  | 2, _ => rfl
  | 3, _ => rfl
  | 4, _ => rfl
  | 5, _ => rfl
  | 6, _ => rfl
  | 7, _ => rfl
  | 8, _ => rfl
  | 9, _ => rfl
  | 10, _ => rfl
  | 11, _ => rfl
  | 12, _ => rfl
  | 13, _ => rfl
  | 14, _ => rfl
  | 15, _ => rfl
  | 16, _ => rfl
  | 17, _ => rfl
  | k + 18, hj => exact absurd hj (by omega)
theorem wn_X0_30 : Jvm.Cond.classLink RX0 30 RX2 ∈ fm_Ts ∧ Jvm.Cond.instantiable RX2 5 ∈ fm_Ts ∧ Jvm.Cond.initialized RX2 ∈ fm_Ts := ⟨fm_t1 126 rfl rfl, fm_t1 127 rfl rfl, fm_t1 6 rfl rfl⟩
theorem wl_X0_32 : (RX0, 32, yX2_init, "DustMint") ∈ fm_nt := List.mem_of_getElem? (i := 3) rfl
theorem wl_X0_72 : Jvm.Cond.methodLink RX0 72 yJ7_fill_53178 ∈ fm_Ts := fm_t1 158 rfl rfl
def cq_X0_init_0 : List (Nat × Instr × Nat) := [(0, .aload_n 0, 1), (1, .invokespecial 3, 3), (4, .aload_n 0, 1), (5, .bipush 20, 2), (7, .newarray .int, 2), (9, .putfield 9, 3), (12, .aload_n 0, 1), (13, .bipush 20, 2), (15, .newarray .int, 2), (17, .putfield 15, 3), (20, .aload_n 0, 1), (21, .bipush 20, 2), (23, .newarray .int, 2), (25, .putfield 18, 3), (28, .aload_n 0, 1), (29, .bipush 20, 2), (31, .newarray .int, 2), (33, .putfield 21, 3), (36, .aload_n 0, 1), (37, .bipush 6, 2)]
theorem dq_X0_init_0 : ∀ q ∈ cq_X0_init_0, decode prog_2_method_1_code q.1 = .ok (q.2.1, q.2.2) := by decide +kernel
theorem d_X0_init_0 : decode prog_2_method_1_code 0 = .ok (.aload_n 0, 1) := dq_X0_init_0 (0, .aload_n 0, 1) (List.mem_of_getElem? (i := 0) rfl)
theorem d_X0_init_1 : decode prog_2_method_1_code 1 = .ok (.invokespecial 3, 3) := dq_X0_init_0 (1, .invokespecial 3, 3) (List.mem_of_getElem? (i := 1) rfl)
theorem d_X0_init_4 : decode prog_2_method_1_code 4 = .ok (.aload_n 0, 1) := dq_X0_init_0 (4, .aload_n 0, 1) (List.mem_of_getElem? (i := 2) rfl)
theorem d_X0_init_5 : decode prog_2_method_1_code 5 = .ok (.bipush 20, 2) := dq_X0_init_0 (5, .bipush 20, 2) (List.mem_of_getElem? (i := 3) rfl)
theorem d_X0_init_7 : decode prog_2_method_1_code 7 = .ok (.newarray .int, 2) := dq_X0_init_0 (7, .newarray .int, 2) (List.mem_of_getElem? (i := 4) rfl)
theorem d_X0_init_9 : decode prog_2_method_1_code 9 = .ok (.putfield 9, 3) := dq_X0_init_0 (9, .putfield 9, 3) (List.mem_of_getElem? (i := 5) rfl)
theorem d_X0_init_12 : decode prog_2_method_1_code 12 = .ok (.aload_n 0, 1) := dq_X0_init_0 (12, .aload_n 0, 1) (List.mem_of_getElem? (i := 6) rfl)
theorem d_X0_init_13 : decode prog_2_method_1_code 13 = .ok (.bipush 20, 2) := dq_X0_init_0 (13, .bipush 20, 2) (List.mem_of_getElem? (i := 7) rfl)
theorem d_X0_init_15 : decode prog_2_method_1_code 15 = .ok (.newarray .int, 2) := dq_X0_init_0 (15, .newarray .int, 2) (List.mem_of_getElem? (i := 8) rfl)
theorem d_X0_init_17 : decode prog_2_method_1_code 17 = .ok (.putfield 15, 3) := dq_X0_init_0 (17, .putfield 15, 3) (List.mem_of_getElem? (i := 9) rfl)
theorem d_X0_init_20 : decode prog_2_method_1_code 20 = .ok (.aload_n 0, 1) := dq_X0_init_0 (20, .aload_n 0, 1) (List.mem_of_getElem? (i := 10) rfl)
theorem d_X0_init_21 : decode prog_2_method_1_code 21 = .ok (.bipush 20, 2) := dq_X0_init_0 (21, .bipush 20, 2) (List.mem_of_getElem? (i := 11) rfl)
theorem d_X0_init_23 : decode prog_2_method_1_code 23 = .ok (.newarray .int, 2) := dq_X0_init_0 (23, .newarray .int, 2) (List.mem_of_getElem? (i := 12) rfl)
theorem d_X0_init_25 : decode prog_2_method_1_code 25 = .ok (.putfield 18, 3) := dq_X0_init_0 (25, .putfield 18, 3) (List.mem_of_getElem? (i := 13) rfl)
theorem d_X0_init_28 : decode prog_2_method_1_code 28 = .ok (.aload_n 0, 1) := dq_X0_init_0 (28, .aload_n 0, 1) (List.mem_of_getElem? (i := 14) rfl)
theorem d_X0_init_29 : decode prog_2_method_1_code 29 = .ok (.bipush 20, 2) := dq_X0_init_0 (29, .bipush 20, 2) (List.mem_of_getElem? (i := 15) rfl)
theorem d_X0_init_31 : decode prog_2_method_1_code 31 = .ok (.newarray .int, 2) := dq_X0_init_0 (31, .newarray .int, 2) (List.mem_of_getElem? (i := 16) rfl)
theorem d_X0_init_33 : decode prog_2_method_1_code 33 = .ok (.putfield 21, 3) := dq_X0_init_0 (33, .putfield 21, 3) (List.mem_of_getElem? (i := 17) rfl)
theorem d_X0_init_36 : decode prog_2_method_1_code 36 = .ok (.aload_n 0, 1) := dq_X0_init_0 (36, .aload_n 0, 1) (List.mem_of_getElem? (i := 18) rfl)
theorem d_X0_init_37 : decode prog_2_method_1_code 37 = .ok (.bipush 6, 2) := dq_X0_init_0 (37, .bipush 6, 2) (List.mem_of_getElem? (i := 19) rfl)
def cq_X0_init_20 : List (Nat × Instr × Nat) := [(39, .newarray .int, 2), (41, .putfield 24, 3), (44, .aload_n 0, 1), (45, .bipush 6, 2), (47, .newarray .int, 2), (49, .putfield 27, 3), (52, .aload_n 0, 1), (53, .new 30, 3), (56, .dup, 1), (57, .invokespecial 32, 3), (60, .putfield 33, 3), (63, .aload_n 0, 1), (64, .bipush 100, 2), (66, .newarray .int, 2), (68, .putfield 37, 3), (71, .aload_n 0, 1), (72, .sipush 180, 3), (75, .newarray .int, 2), (77, .putfield 40, 3), (80, .aload_n 0, 1)]
theorem dq_X0_init_20 : ∀ q ∈ cq_X0_init_20, decode prog_2_method_1_code q.1 = .ok (q.2.1, q.2.2) := by decide +kernel
theorem d_X0_init_39 : decode prog_2_method_1_code 39 = .ok (.newarray .int, 2) := dq_X0_init_20 (39, .newarray .int, 2) (List.mem_of_getElem? (i := 0) rfl)
theorem d_X0_init_41 : decode prog_2_method_1_code 41 = .ok (.putfield 24, 3) := dq_X0_init_20 (41, .putfield 24, 3) (List.mem_of_getElem? (i := 1) rfl)
theorem d_X0_init_44 : decode prog_2_method_1_code 44 = .ok (.aload_n 0, 1) := dq_X0_init_20 (44, .aload_n 0, 1) (List.mem_of_getElem? (i := 2) rfl)
theorem d_X0_init_45 : decode prog_2_method_1_code 45 = .ok (.bipush 6, 2) := dq_X0_init_20 (45, .bipush 6, 2) (List.mem_of_getElem? (i := 3) rfl)
theorem d_X0_init_47 : decode prog_2_method_1_code 47 = .ok (.newarray .int, 2) := dq_X0_init_20 (47, .newarray .int, 2) (List.mem_of_getElem? (i := 4) rfl)
theorem d_X0_init_49 : decode prog_2_method_1_code 49 = .ok (.putfield 27, 3) := dq_X0_init_20 (49, .putfield 27, 3) (List.mem_of_getElem? (i := 5) rfl)
theorem d_X0_init_52 : decode prog_2_method_1_code 52 = .ok (.aload_n 0, 1) := dq_X0_init_20 (52, .aload_n 0, 1) (List.mem_of_getElem? (i := 6) rfl)
theorem d_X0_init_53 : decode prog_2_method_1_code 53 = .ok (.new 30, 3) := dq_X0_init_20 (53, .new 30, 3) (List.mem_of_getElem? (i := 7) rfl)
theorem d_X0_init_56 : decode prog_2_method_1_code 56 = .ok (.dup, 1) := dq_X0_init_20 (56, .dup, 1) (List.mem_of_getElem? (i := 8) rfl)
theorem d_X0_init_57 : decode prog_2_method_1_code 57 = .ok (.invokespecial 32, 3) := dq_X0_init_20 (57, .invokespecial 32, 3) (List.mem_of_getElem? (i := 9) rfl)
theorem d_X0_init_60 : decode prog_2_method_1_code 60 = .ok (.putfield 33, 3) := dq_X0_init_20 (60, .putfield 33, 3) (List.mem_of_getElem? (i := 10) rfl)
theorem d_X0_init_63 : decode prog_2_method_1_code 63 = .ok (.aload_n 0, 1) := dq_X0_init_20 (63, .aload_n 0, 1) (List.mem_of_getElem? (i := 11) rfl)
theorem d_X0_init_64 : decode prog_2_method_1_code 64 = .ok (.bipush 100, 2) := dq_X0_init_20 (64, .bipush 100, 2) (List.mem_of_getElem? (i := 12) rfl)
theorem d_X0_init_66 : decode prog_2_method_1_code 66 = .ok (.newarray .int, 2) := dq_X0_init_20 (66, .newarray .int, 2) (List.mem_of_getElem? (i := 13) rfl)
theorem d_X0_init_68 : decode prog_2_method_1_code 68 = .ok (.putfield 37, 3) := dq_X0_init_20 (68, .putfield 37, 3) (List.mem_of_getElem? (i := 14) rfl)
theorem d_X0_init_71 : decode prog_2_method_1_code 71 = .ok (.aload_n 0, 1) := dq_X0_init_20 (71, .aload_n 0, 1) (List.mem_of_getElem? (i := 15) rfl)
theorem d_X0_init_72 : decode prog_2_method_1_code 72 = .ok (.sipush 180, 3) := dq_X0_init_20 (72, .sipush 180, 3) (List.mem_of_getElem? (i := 16) rfl)
theorem d_X0_init_75 : decode prog_2_method_1_code 75 = .ok (.newarray .int, 2) := dq_X0_init_20 (75, .newarray .int, 2) (List.mem_of_getElem? (i := 17) rfl)
theorem d_X0_init_77 : decode prog_2_method_1_code 77 = .ok (.putfield 40, 3) := dq_X0_init_20 (77, .putfield 40, 3) (List.mem_of_getElem? (i := 18) rfl)
theorem d_X0_init_80 : decode prog_2_method_1_code 80 = .ok (.aload_n 0, 1) := dq_X0_init_20 (80, .aload_n 0, 1) (List.mem_of_getElem? (i := 19) rfl)
def cq_X0_init_40 : List (Nat × Instr × Nat) := [(81, .iconst 0, 1), (82, .putfield 43, 3), (85, .aload_n 0, 1), (86, .iconst 1, 1), (87, .putfield 47, 3), (90, .aload_n 0, 1), (91, .iconst 0, 1), (92, .putfield 50, 3), (95, .aload_n 0, 1), (96, .iconst 0, 1), (97, .putfield 53, 3), (100, .aload_n 0, 1), (101, .iconst 0, 1), (102, .putfield 56, 3), (105, .aload_n 0, 1), (106, .iconst 1, 1), (107, .putfield 59, 3), (110, .aload_n 0, 1), (111, .bipush 6, 2), (113, .putfield 63, 3)]
theorem dq_X0_init_40 : ∀ q ∈ cq_X0_init_40, decode prog_2_method_1_code q.1 = .ok (q.2.1, q.2.2) := by decide +kernel
theorem d_X0_init_81 : decode prog_2_method_1_code 81 = .ok (.iconst 0, 1) := dq_X0_init_40 (81, .iconst 0, 1) (List.mem_of_getElem? (i := 0) rfl)
theorem d_X0_init_82 : decode prog_2_method_1_code 82 = .ok (.putfield 43, 3) := dq_X0_init_40 (82, .putfield 43, 3) (List.mem_of_getElem? (i := 1) rfl)
theorem d_X0_init_85 : decode prog_2_method_1_code 85 = .ok (.aload_n 0, 1) := dq_X0_init_40 (85, .aload_n 0, 1) (List.mem_of_getElem? (i := 2) rfl)
theorem d_X0_init_86 : decode prog_2_method_1_code 86 = .ok (.iconst 1, 1) := dq_X0_init_40 (86, .iconst 1, 1) (List.mem_of_getElem? (i := 3) rfl)
theorem d_X0_init_87 : decode prog_2_method_1_code 87 = .ok (.putfield 47, 3) := dq_X0_init_40 (87, .putfield 47, 3) (List.mem_of_getElem? (i := 4) rfl)
theorem d_X0_init_90 : decode prog_2_method_1_code 90 = .ok (.aload_n 0, 1) := dq_X0_init_40 (90, .aload_n 0, 1) (List.mem_of_getElem? (i := 5) rfl)
theorem d_X0_init_91 : decode prog_2_method_1_code 91 = .ok (.iconst 0, 1) := dq_X0_init_40 (91, .iconst 0, 1) (List.mem_of_getElem? (i := 6) rfl)
theorem d_X0_init_92 : decode prog_2_method_1_code 92 = .ok (.putfield 50, 3) := dq_X0_init_40 (92, .putfield 50, 3) (List.mem_of_getElem? (i := 7) rfl)
theorem d_X0_init_95 : decode prog_2_method_1_code 95 = .ok (.aload_n 0, 1) := dq_X0_init_40 (95, .aload_n 0, 1) (List.mem_of_getElem? (i := 8) rfl)
theorem d_X0_init_96 : decode prog_2_method_1_code 96 = .ok (.iconst 0, 1) := dq_X0_init_40 (96, .iconst 0, 1) (List.mem_of_getElem? (i := 9) rfl)
theorem d_X0_init_97 : decode prog_2_method_1_code 97 = .ok (.putfield 53, 3) := dq_X0_init_40 (97, .putfield 53, 3) (List.mem_of_getElem? (i := 10) rfl)
theorem d_X0_init_100 : decode prog_2_method_1_code 100 = .ok (.aload_n 0, 1) := dq_X0_init_40 (100, .aload_n 0, 1) (List.mem_of_getElem? (i := 11) rfl)
theorem d_X0_init_101 : decode prog_2_method_1_code 101 = .ok (.iconst 0, 1) := dq_X0_init_40 (101, .iconst 0, 1) (List.mem_of_getElem? (i := 12) rfl)
theorem d_X0_init_102 : decode prog_2_method_1_code 102 = .ok (.putfield 56, 3) := dq_X0_init_40 (102, .putfield 56, 3) (List.mem_of_getElem? (i := 13) rfl)
theorem d_X0_init_105 : decode prog_2_method_1_code 105 = .ok (.aload_n 0, 1) := dq_X0_init_40 (105, .aload_n 0, 1) (List.mem_of_getElem? (i := 14) rfl)
theorem d_X0_init_106 : decode prog_2_method_1_code 106 = .ok (.iconst 1, 1) := dq_X0_init_40 (106, .iconst 1, 1) (List.mem_of_getElem? (i := 15) rfl)
theorem d_X0_init_107 : decode prog_2_method_1_code 107 = .ok (.putfield 59, 3) := dq_X0_init_40 (107, .putfield 59, 3) (List.mem_of_getElem? (i := 16) rfl)
theorem d_X0_init_110 : decode prog_2_method_1_code 110 = .ok (.aload_n 0, 1) := dq_X0_init_40 (110, .aload_n 0, 1) (List.mem_of_getElem? (i := 17) rfl)
theorem d_X0_init_111 : decode prog_2_method_1_code 111 = .ok (.bipush 6, 2) := dq_X0_init_40 (111, .bipush 6, 2) (List.mem_of_getElem? (i := 18) rfl)
theorem d_X0_init_113 : decode prog_2_method_1_code 113 = .ok (.putfield 63, 3) := dq_X0_init_40 (113, .putfield 63, 3) (List.mem_of_getElem? (i := 19) rfl)
def cq_X0_init_60 : List (Nat × Instr × Nat) := [(116, .aload_n 0, 1), (117, .iconst 0, 1), (118, .putfield 66, 3), (121, .aload_n 0, 1), (122, .bipush 20, 2), (124, .newarray .int, 2), (126, .putfield 69, 3), (129, .aload_n 0, 1), (130, .getfield 21, 3), (133, .bipush 6, 2), (135, .invokestatic 72, 3), (138, .return_, 1)]
theorem dq_X0_init_60 : ∀ q ∈ cq_X0_init_60, decode prog_2_method_1_code q.1 = .ok (q.2.1, q.2.2) := by decide +kernel
theorem d_X0_init_116 : decode prog_2_method_1_code 116 = .ok (.aload_n 0, 1) := dq_X0_init_60 (116, .aload_n 0, 1) (List.mem_of_getElem? (i := 0) rfl)
theorem d_X0_init_117 : decode prog_2_method_1_code 117 = .ok (.iconst 0, 1) := dq_X0_init_60 (117, .iconst 0, 1) (List.mem_of_getElem? (i := 1) rfl)
theorem d_X0_init_118 : decode prog_2_method_1_code 118 = .ok (.putfield 66, 3) := dq_X0_init_60 (118, .putfield 66, 3) (List.mem_of_getElem? (i := 2) rfl)
theorem d_X0_init_121 : decode prog_2_method_1_code 121 = .ok (.aload_n 0, 1) := dq_X0_init_60 (121, .aload_n 0, 1) (List.mem_of_getElem? (i := 3) rfl)
theorem d_X0_init_122 : decode prog_2_method_1_code 122 = .ok (.bipush 20, 2) := dq_X0_init_60 (122, .bipush 20, 2) (List.mem_of_getElem? (i := 4) rfl)
theorem d_X0_init_124 : decode prog_2_method_1_code 124 = .ok (.newarray .int, 2) := dq_X0_init_60 (124, .newarray .int, 2) (List.mem_of_getElem? (i := 5) rfl)
theorem d_X0_init_126 : decode prog_2_method_1_code 126 = .ok (.putfield 69, 3) := dq_X0_init_60 (126, .putfield 69, 3) (List.mem_of_getElem? (i := 6) rfl)
theorem d_X0_init_129 : decode prog_2_method_1_code 129 = .ok (.aload_n 0, 1) := dq_X0_init_60 (129, .aload_n 0, 1) (List.mem_of_getElem? (i := 7) rfl)
theorem d_X0_init_130 : decode prog_2_method_1_code 130 = .ok (.getfield 21, 3) := dq_X0_init_60 (130, .getfield 21, 3) (List.mem_of_getElem? (i := 8) rfl)
theorem d_X0_init_133 : decode prog_2_method_1_code 133 = .ok (.bipush 6, 2) := dq_X0_init_60 (133, .bipush 6, 2) (List.mem_of_getElem? (i := 9) rfl)
theorem d_X0_init_135 : decode prog_2_method_1_code 135 = .ok (.invokestatic 72, 3) := dq_X0_init_60 (135, .invokestatic 72, 3) (List.mem_of_getElem? (i := 10) rfl)
theorem d_X0_init_138 : decode prog_2_method_1_code 138 = .ok (.return_, 1) := dq_X0_init_60 (138, .return_, 1) (List.mem_of_getElem? (i := 11) rfl)
theorem wo_X7 : Jvm.Cond.methodLink RX7 3 Lib.objectInit ∈ fm_Ts := fm_t1 24 rfl rfl
theorem wi_X7 : Jvm.Cond.instanceMethod yX7_init ∈ fm_Ts ∧ Jvm.Cond.initialized yX7_init.cls ∈ fm_Ts ∧ Jvm.Cond.code yX7_init prog_1_method_1_code 1 none ∈ fm_Ts := ⟨fm_t1 22 rfl rfl, fm_t1 1 rfl rfl, fm_t1 23 rfl rfl⟩
theorem wq_X7 : yX7_init.name = "<init>" ∧ yX7_init.cls ≠ "java/lang/invoke/MethodHandle" ∧ yX7_init.cls ≠ "java/lang/invoke/VarHandle" ∧ (parseMethodDescriptor yX7_init.desc).map (fun d => d.parameters.length) = some 0 := by decide +kernel
theorem zz_X7 : ∀ j, j < 12 → defaultValue (tyX7 j) = vp_V [.null, .null, .null, .null, .null, .null, .null, .null, .null, .null, .null, .int 0] j := by
  intro j hj
  match j, hj with
  | 0, _ => rfl
  | 1, _ => rfl
  | 2, _ => rfl
  | 3, _ => rfl
  | 4, _ => rfl
  | 5, _ => rfl
  | 6, _ => rfl
  | 7, _ => rfl
  | 8, _ => rfl
  | 9, _ => rfl
  | 10, _ => rfl
  | 11, _ => rfl
  | k + 12, hj => exact absurd hj (by omega)
theorem wn_X7_9 : Jvm.Cond.classLink RX7 9 RX6 ∈ fm_Ts ∧ Jvm.Cond.instantiable RX6 2 ∈ fm_Ts ∧ Jvm.Cond.initialized RX6 ∈ fm_Ts := ⟨fm_t1 27 rfl rfl, fm_t1 28 rfl rfl, fm_t1 2 rfl rfl⟩
theorem wl_X7_11 : (RX7, 11, yX6_init, "DustMint") ∈ fm_nt := List.mem_of_getElem? (i := 0) rfl
theorem wn_X7_19 : Jvm.Cond.classLink RX7 19 RX1 ∈ fm_Ts ∧ Jvm.Cond.instantiable RX1 11 ∈ fm_Ts ∧ Jvm.Cond.initialized RX1 ∈ fm_Ts := ⟨fm_t1 43 rfl rfl, fm_t1 44 rfl rfl, fm_t1 3 rfl rfl⟩
theorem wl_X7_21 : (RX7, 21, yX1_init, "DustMint") ∈ fm_nt := List.mem_of_getElem? (i := 1) rfl
theorem wn_X7_26 : Jvm.Cond.classLink RX7 26 RX3 ∈ fm_Ts ∧ Jvm.Cond.instantiable RX3 5 ∈ fm_Ts ∧ Jvm.Cond.initialized RX3 ∈ fm_Ts := ⟨fm_t1 95 rfl rfl, fm_t1 96 rfl rfl, fm_t1 4 rfl rfl⟩
theorem wl_X7_28 : Jvm.Cond.methodLink RX7 28 yX3_init ∈ fm_Ts := fm_t1 97 rfl rfl
theorem wn_X7_35 : Jvm.Cond.classLink RX7 35 RX0 ∈ fm_Ts ∧ Jvm.Cond.instantiable RX0 18 ∈ fm_Ts ∧ Jvm.Cond.initialized RX0 ∈ fm_Ts := ⟨fm_t1 120 rfl rfl, fm_t1 121 rfl rfl, fm_t1 5 rfl rfl⟩
theorem wl_X7_37 : Jvm.Cond.methodLink RX7 37 yX0_init ∈ fm_Ts := fm_t1 122 rfl rfl
theorem wn_X7_48 : Jvm.Cond.classLink RX7 48 RX4 ∈ fm_Ts ∧ Jvm.Cond.instantiable RX4 12 ∈ fm_Ts ∧ Jvm.Cond.initialized RX4 ∈ fm_Ts := ⟨fm_mem 319 (by decide +kernel) rfl, fm_mem 320 (by decide +kernel) rfl, fm_t1 8 rfl rfl⟩
theorem wl_X7_50 : Jvm.Cond.methodLink RX7 50 yX4_init ∈ fm_Ts := fm_mem 321 (by decide +kernel) rfl
theorem wn_X7_57 : Jvm.Cond.classLink RX7 57 RX5 ∈ fm_Ts ∧ Jvm.Cond.instantiable RX5 4 ∈ fm_Ts ∧ Jvm.Cond.initialized RX5 ∈ fm_Ts := ⟨fm_t2 39 rfl rfl, fm_t2 40 rfl rfl, fm_t1 9 rfl rfl⟩
theorem wl_X7_59 : (RX7, 59, yX5_init, "DustMint") ∈ fm_nt := List.mem_of_getElem? (i := 4) rfl
def cq_X7_init_0 : List (Nat × Instr × Nat) := [(0, .aload_n 0, 1), (1, .invokespecial 3, 3), (4, .aload_n 0, 1), (5, .new 9, 3), (8, .dup, 1), (9, .invokespecial 11, 3), (12, .putfield 12, 3), (15, .aload_n 0, 1), (16, .new 9, 3), (19, .dup, 1), (20, .invokespecial 11, 3), (23, .putfield 16, 3), (26, .aload_n 0, 1), (27, .new 19, 3), (30, .dup, 1), (31, .invokespecial 21, 3), (34, .putfield 22, 3), (37, .aload_n 0, 1), (38, .new 26, 3), (41, .dup, 1)]
theorem dq_X7_init_0 : ∀ q ∈ cq_X7_init_0, decode prog_1_method_1_code q.1 = .ok (q.2.1, q.2.2) := by decide +kernel
theorem d_X7_init_0 : decode prog_1_method_1_code 0 = .ok (.aload_n 0, 1) := dq_X7_init_0 (0, .aload_n 0, 1) (List.mem_of_getElem? (i := 0) rfl)
theorem d_X7_init_1 : decode prog_1_method_1_code 1 = .ok (.invokespecial 3, 3) := dq_X7_init_0 (1, .invokespecial 3, 3) (List.mem_of_getElem? (i := 1) rfl)
theorem d_X7_init_4 : decode prog_1_method_1_code 4 = .ok (.aload_n 0, 1) := dq_X7_init_0 (4, .aload_n 0, 1) (List.mem_of_getElem? (i := 2) rfl)
theorem d_X7_init_5 : decode prog_1_method_1_code 5 = .ok (.new 9, 3) := dq_X7_init_0 (5, .new 9, 3) (List.mem_of_getElem? (i := 3) rfl)
theorem d_X7_init_8 : decode prog_1_method_1_code 8 = .ok (.dup, 1) := dq_X7_init_0 (8, .dup, 1) (List.mem_of_getElem? (i := 4) rfl)
theorem d_X7_init_9 : decode prog_1_method_1_code 9 = .ok (.invokespecial 11, 3) := dq_X7_init_0 (9, .invokespecial 11, 3) (List.mem_of_getElem? (i := 5) rfl)
theorem d_X7_init_12 : decode prog_1_method_1_code 12 = .ok (.putfield 12, 3) := dq_X7_init_0 (12, .putfield 12, 3) (List.mem_of_getElem? (i := 6) rfl)
theorem d_X7_init_15 : decode prog_1_method_1_code 15 = .ok (.aload_n 0, 1) := dq_X7_init_0 (15, .aload_n 0, 1) (List.mem_of_getElem? (i := 7) rfl)
theorem d_X7_init_16 : decode prog_1_method_1_code 16 = .ok (.new 9, 3) := dq_X7_init_0 (16, .new 9, 3) (List.mem_of_getElem? (i := 8) rfl)
theorem d_X7_init_19 : decode prog_1_method_1_code 19 = .ok (.dup, 1) := dq_X7_init_0 (19, .dup, 1) (List.mem_of_getElem? (i := 9) rfl)
theorem d_X7_init_20 : decode prog_1_method_1_code 20 = .ok (.invokespecial 11, 3) := dq_X7_init_0 (20, .invokespecial 11, 3) (List.mem_of_getElem? (i := 10) rfl)
theorem d_X7_init_23 : decode prog_1_method_1_code 23 = .ok (.putfield 16, 3) := dq_X7_init_0 (23, .putfield 16, 3) (List.mem_of_getElem? (i := 11) rfl)
theorem d_X7_init_26 : decode prog_1_method_1_code 26 = .ok (.aload_n 0, 1) := dq_X7_init_0 (26, .aload_n 0, 1) (List.mem_of_getElem? (i := 12) rfl)
theorem d_X7_init_27 : decode prog_1_method_1_code 27 = .ok (.new 19, 3) := dq_X7_init_0 (27, .new 19, 3) (List.mem_of_getElem? (i := 13) rfl)
theorem d_X7_init_30 : decode prog_1_method_1_code 30 = .ok (.dup, 1) := dq_X7_init_0 (30, .dup, 1) (List.mem_of_getElem? (i := 14) rfl)
theorem d_X7_init_31 : decode prog_1_method_1_code 31 = .ok (.invokespecial 21, 3) := dq_X7_init_0 (31, .invokespecial 21, 3) (List.mem_of_getElem? (i := 15) rfl)
theorem d_X7_init_34 : decode prog_1_method_1_code 34 = .ok (.putfield 22, 3) := dq_X7_init_0 (34, .putfield 22, 3) (List.mem_of_getElem? (i := 16) rfl)
theorem d_X7_init_37 : decode prog_1_method_1_code 37 = .ok (.aload_n 0, 1) := dq_X7_init_0 (37, .aload_n 0, 1) (List.mem_of_getElem? (i := 17) rfl)
theorem d_X7_init_38 : decode prog_1_method_1_code 38 = .ok (.new 26, 3) := dq_X7_init_0 (38, .new 26, 3) (List.mem_of_getElem? (i := 18) rfl)
theorem d_X7_init_41 : decode prog_1_method_1_code 41 = .ok (.dup, 1) := dq_X7_init_0 (41, .dup, 1) (List.mem_of_getElem? (i := 19) rfl)
def cq_X7_init_20 : List (Nat × Instr × Nat) := [(42, .aload_n 0, 1), (43, .getfield 12, 3), (46, .invokespecial 28, 3), (49, .putfield 31, 3), (52, .aload_n 0, 1), (53, .new 35, 3), (56, .dup, 1), (57, .invokespecial 37, 3), (60, .putfield 38, 3), (63, .aload_n 0, 1), (64, .new 35, 3), (67, .dup, 1), (68, .invokespecial 37, 3), (71, .putfield 42, 3), (74, .aload_n 0, 1), (75, .new 35, 3), (78, .dup, 1), (79, .invokespecial 37, 3), (82, .putfield 45, 3), (85, .aload_n 0, 1)]
theorem dq_X7_init_20 : ∀ q ∈ cq_X7_init_20, decode prog_1_method_1_code q.1 = .ok (q.2.1, q.2.2) := by decide +kernel
theorem d_X7_init_42 : decode prog_1_method_1_code 42 = .ok (.aload_n 0, 1) := dq_X7_init_20 (42, .aload_n 0, 1) (List.mem_of_getElem? (i := 0) rfl)
theorem d_X7_init_43 : decode prog_1_method_1_code 43 = .ok (.getfield 12, 3) := dq_X7_init_20 (43, .getfield 12, 3) (List.mem_of_getElem? (i := 1) rfl)
theorem d_X7_init_46 : decode prog_1_method_1_code 46 = .ok (.invokespecial 28, 3) := dq_X7_init_20 (46, .invokespecial 28, 3) (List.mem_of_getElem? (i := 2) rfl)
theorem d_X7_init_49 : decode prog_1_method_1_code 49 = .ok (.putfield 31, 3) := dq_X7_init_20 (49, .putfield 31, 3) (List.mem_of_getElem? (i := 3) rfl)
theorem d_X7_init_52 : decode prog_1_method_1_code 52 = .ok (.aload_n 0, 1) := dq_X7_init_20 (52, .aload_n 0, 1) (List.mem_of_getElem? (i := 4) rfl)
theorem d_X7_init_53 : decode prog_1_method_1_code 53 = .ok (.new 35, 3) := dq_X7_init_20 (53, .new 35, 3) (List.mem_of_getElem? (i := 5) rfl)
theorem d_X7_init_56 : decode prog_1_method_1_code 56 = .ok (.dup, 1) := dq_X7_init_20 (56, .dup, 1) (List.mem_of_getElem? (i := 6) rfl)
theorem d_X7_init_57 : decode prog_1_method_1_code 57 = .ok (.invokespecial 37, 3) := dq_X7_init_20 (57, .invokespecial 37, 3) (List.mem_of_getElem? (i := 7) rfl)
theorem d_X7_init_60 : decode prog_1_method_1_code 60 = .ok (.putfield 38, 3) := dq_X7_init_20 (60, .putfield 38, 3) (List.mem_of_getElem? (i := 8) rfl)
theorem d_X7_init_63 : decode prog_1_method_1_code 63 = .ok (.aload_n 0, 1) := dq_X7_init_20 (63, .aload_n 0, 1) (List.mem_of_getElem? (i := 9) rfl)
theorem d_X7_init_64 : decode prog_1_method_1_code 64 = .ok (.new 35, 3) := dq_X7_init_20 (64, .new 35, 3) (List.mem_of_getElem? (i := 10) rfl)
theorem d_X7_init_67 : decode prog_1_method_1_code 67 = .ok (.dup, 1) := dq_X7_init_20 (67, .dup, 1) (List.mem_of_getElem? (i := 11) rfl)
theorem d_X7_init_68 : decode prog_1_method_1_code 68 = .ok (.invokespecial 37, 3) := dq_X7_init_20 (68, .invokespecial 37, 3) (List.mem_of_getElem? (i := 12) rfl)
theorem d_X7_init_71 : decode prog_1_method_1_code 71 = .ok (.putfield 42, 3) := dq_X7_init_20 (71, .putfield 42, 3) (List.mem_of_getElem? (i := 13) rfl)
theorem d_X7_init_74 : decode prog_1_method_1_code 74 = .ok (.aload_n 0, 1) := dq_X7_init_20 (74, .aload_n 0, 1) (List.mem_of_getElem? (i := 14) rfl)
theorem d_X7_init_75 : decode prog_1_method_1_code 75 = .ok (.new 35, 3) := dq_X7_init_20 (75, .new 35, 3) (List.mem_of_getElem? (i := 15) rfl)
theorem d_X7_init_78 : decode prog_1_method_1_code 78 = .ok (.dup, 1) := dq_X7_init_20 (78, .dup, 1) (List.mem_of_getElem? (i := 16) rfl)
theorem d_X7_init_79 : decode prog_1_method_1_code 79 = .ok (.invokespecial 37, 3) := dq_X7_init_20 (79, .invokespecial 37, 3) (List.mem_of_getElem? (i := 17) rfl)
theorem d_X7_init_82 : decode prog_1_method_1_code 82 = .ok (.putfield 45, 3) := dq_X7_init_20 (82, .putfield 45, 3) (List.mem_of_getElem? (i := 18) rfl)
theorem d_X7_init_85 : decode prog_1_method_1_code 85 = .ok (.aload_n 0, 1) := dq_X7_init_20 (85, .aload_n 0, 1) (List.mem_of_getElem? (i := 19) rfl)
def cq_X7_init_40 : List (Nat × Instr × Nat) := [(86, .new 48, 3), (89, .dup, 1), (90, .aload_n 0, 1), (91, .getfield 38, 3), (94, .aload_n 0, 1), (95, .getfield 45, 3), (98, .aload_n 0, 1), (99, .getfield 22, 3), (102, .invokespecial 50, 3), (105, .putfield 53, 3), (108, .aload_n 0, 1), (109, .new 57, 3), (112, .dup, 1), (113, .invokespecial 59, 3), (116, .putfield 60, 3), (119, .aload_n 0, 1), (120, .bipush 20, 2), (122, .newarray .int, 2), (124, .putfield 64, 3), (127, .aload_n 0, 1)]
theorem dq_X7_init_40 : ∀ q ∈ cq_X7_init_40, decode prog_1_method_1_code q.1 = .ok (q.2.1, q.2.2) := by decide +kernel
theorem d_X7_init_86 : decode prog_1_method_1_code 86 = .ok (.new 48, 3) := dq_X7_init_40 (86, .new 48, 3) (List.mem_of_getElem? (i := 0) rfl)
theorem d_X7_init_89 : decode prog_1_method_1_code 89 = .ok (.dup, 1) := dq_X7_init_40 (89, .dup, 1) (List.mem_of_getElem? (i := 1) rfl)
theorem d_X7_init_90 : decode prog_1_method_1_code 90 = .ok (.aload_n 0, 1) := dq_X7_init_40 (90, .aload_n 0, 1) (List.mem_of_getElem? (i := 2) rfl)
theorem d_X7_init_91 : decode prog_1_method_1_code 91 = .ok (.getfield 38, 3) := dq_X7_init_40 (91, .getfield 38, 3) (List.mem_of_getElem? (i := 3) rfl)
theorem d_X7_init_94 : decode prog_1_method_1_code 94 = .ok (.aload_n 0, 1) := dq_X7_init_40 (94, .aload_n 0, 1) (List.mem_of_getElem? (i := 4) rfl)
theorem d_X7_init_95 : decode prog_1_method_1_code 95 = .ok (.getfield 45, 3) := dq_X7_init_40 (95, .getfield 45, 3) (List.mem_of_getElem? (i := 5) rfl)
theorem d_X7_init_98 : decode prog_1_method_1_code 98 = .ok (.aload_n 0, 1) := dq_X7_init_40 (98, .aload_n 0, 1) (List.mem_of_getElem? (i := 6) rfl)
theorem d_X7_init_99 : decode prog_1_method_1_code 99 = .ok (.getfield 22, 3) := dq_X7_init_40 (99, .getfield 22, 3) (List.mem_of_getElem? (i := 7) rfl)
theorem d_X7_init_102 : decode prog_1_method_1_code 102 = .ok (.invokespecial 50, 3) := dq_X7_init_40 (102, .invokespecial 50, 3) (List.mem_of_getElem? (i := 8) rfl)
theorem d_X7_init_105 : decode prog_1_method_1_code 105 = .ok (.putfield 53, 3) := dq_X7_init_40 (105, .putfield 53, 3) (List.mem_of_getElem? (i := 9) rfl)
theorem d_X7_init_108 : decode prog_1_method_1_code 108 = .ok (.aload_n 0, 1) := dq_X7_init_40 (108, .aload_n 0, 1) (List.mem_of_getElem? (i := 10) rfl)
theorem d_X7_init_109 : decode prog_1_method_1_code 109 = .ok (.new 57, 3) := dq_X7_init_40 (109, .new 57, 3) (List.mem_of_getElem? (i := 11) rfl)
theorem d_X7_init_112 : decode prog_1_method_1_code 112 = .ok (.dup, 1) := dq_X7_init_40 (112, .dup, 1) (List.mem_of_getElem? (i := 12) rfl)
theorem d_X7_init_113 : decode prog_1_method_1_code 113 = .ok (.invokespecial 59, 3) := dq_X7_init_40 (113, .invokespecial 59, 3) (List.mem_of_getElem? (i := 13) rfl)
theorem d_X7_init_116 : decode prog_1_method_1_code 116 = .ok (.putfield 60, 3) := dq_X7_init_40 (116, .putfield 60, 3) (List.mem_of_getElem? (i := 14) rfl)
theorem d_X7_init_119 : decode prog_1_method_1_code 119 = .ok (.aload_n 0, 1) := dq_X7_init_40 (119, .aload_n 0, 1) (List.mem_of_getElem? (i := 15) rfl)
theorem d_X7_init_120 : decode prog_1_method_1_code 120 = .ok (.bipush 20, 2) := dq_X7_init_40 (120, .bipush 20, 2) (List.mem_of_getElem? (i := 16) rfl)
theorem d_X7_init_122 : decode prog_1_method_1_code 122 = .ok (.newarray .int, 2) := dq_X7_init_40 (122, .newarray .int, 2) (List.mem_of_getElem? (i := 17) rfl)
theorem d_X7_init_124 : decode prog_1_method_1_code 124 = .ok (.putfield 64, 3) := dq_X7_init_40 (124, .putfield 64, 3) (List.mem_of_getElem? (i := 18) rfl)
theorem d_X7_init_127 : decode prog_1_method_1_code 127 = .ok (.aload_n 0, 1) := dq_X7_init_40 (127, .aload_n 0, 1) (List.mem_of_getElem? (i := 19) rfl)
def cq_X7_init_60 : List (Nat × Instr × Nat) := [(128, .bipush 6, 2), (130, .newarray .int, 2), (132, .putfield 68, 3), (135, .aload_n 0, 1), (136, .iconst 0, 1), (137, .putfield 71, 3), (140, .return_, 1)]
theorem dq_X7_init_60 : ∀ q ∈ cq_X7_init_60, decode prog_1_method_1_code q.1 = .ok (q.2.1, q.2.2) := by decide +kernel
theorem d_X7_init_128 : decode prog_1_method_1_code 128 = .ok (.bipush 6, 2) := dq_X7_init_60 (128, .bipush 6, 2) (List.mem_of_getElem? (i := 0) rfl)
theorem d_X7_init_130 : decode prog_1_method_1_code 130 = .ok (.newarray .int, 2) := dq_X7_init_60 (130, .newarray .int, 2) (List.mem_of_getElem? (i := 1) rfl)
theorem d_X7_init_132 : decode prog_1_method_1_code 132 = .ok (.putfield 68, 3) := dq_X7_init_60 (132, .putfield 68, 3) (List.mem_of_getElem? (i := 2) rfl)
theorem d_X7_init_135 : decode prog_1_method_1_code 135 = .ok (.aload_n 0, 1) := dq_X7_init_60 (135, .aload_n 0, 1) (List.mem_of_getElem? (i := 3) rfl)
theorem d_X7_init_136 : decode prog_1_method_1_code 136 = .ok (.iconst 0, 1) := dq_X7_init_60 (136, .iconst 0, 1) (List.mem_of_getElem? (i := 4) rfl)
theorem d_X7_init_137 : decode prog_1_method_1_code 137 = .ok (.putfield 71, 3) := dq_X7_init_60 (137, .putfield 71, 3) (List.mem_of_getElem? (i := 5) rfl)
theorem d_X7_init_140 : decode prog_1_method_1_code 140 = .ok (.return_, 1) := dq_X7_init_60 (140, .return_, 1) (List.mem_of_getElem? (i := 6) rfl)
theorem wo_X8 : Jvm.Cond.methodLink RX8 1 Lib.objectInit ∈ fm_Ts := fm_t4 164 rfl rfl
theorem wi_X8 : Jvm.Cond.instanceMethod yX8_init ∈ fm_Ts ∧ Jvm.Cond.initialized yX8_init.cls ∈ fm_Ts ∧ Jvm.Cond.code yX8_init prog_10_method_1_code 2 none ∈ fm_Ts := ⟨fm_t4 162 rfl rfl, fm_t1 10 rfl rfl, fm_t4 163 rfl rfl⟩
theorem wq_X8 : yX8_init.name = "<init>" ∧ yX8_init.cls ≠ "java/lang/invoke/MethodHandle" ∧ yX8_init.cls ≠ "java/lang/invoke/VarHandle" ∧ (parseMethodDescriptor yX8_init.desc).map (fun d => d.parameters.length) = some 0 := by decide +kernel
theorem zz_X8 : ∀ j, j < 74 → defaultValue (tyX8 j) = vp_V [.null, .int 0, .int 0, .int 0, .int 0, .int 0, .int 0, .null, .null, .null, .null, .null, .null, .null, .null, .null, .null, .null, .null, .null, .int 0, .null, .null, .null, .null, .null, .null, .null, .null, .null, .null, .null, .null, .int 0, .int 0, .int 0, .int 0, .int 0, .int 0, .int 0, .int 0, .int 0, .null, .int 0, .int 0, .int 0, .int 0, .null, .null, .null, .null, .int 0, .null, .null, .null, .null, .null, .null, .null, .null, .null, .null, .null, .null, .null, .null, .int 0, .int 0, .null, .null, .null, .null, .null, .int 0] j := by
  intro j hj
  match j, hj with
  | 0, _ => rfl
  | 1, _ => rfl
  | 2, _ => rfl
  | 3, _ => rfl
  | 4, _ => rfl
  | 5, _ => rfl
  | 6, _ => rfl
  | 7, _ => rfl
  | 8, _ => rfl
  | 9, _ => rfl
  | 10, _ => rfl
  | 11, _ => rfl
  | 12, _ => rfl
  | 13, _ => rfl
  | 14, _ => rfl
  | 15, _ => rfl
  | 16, _ => rfl
  | 17, _ => rfl
  | 18, _ => rfl
  | 19, _ => rfl
  | 20, _ => rfl
  | 21, _ => rfl
  | 22, _ => rfl
  | 23, _ => rfl
  | 24, _ => rfl
  | 25, _ => rfl
  | 26, _ => rfl
  | 27, _ => rfl
  | 28, _ => rfl
  | 29, _ => rfl
  | 30, _ => rfl
  | 31, _ => rfl
  | 32, _ => rfl
  | 33, _ => rfl
  | 34, _ => rfl
  | 35, _ => rfl
  | 36, _ => rfl
  | 37, _ => rfl
  | 38, _ => rfl
  | 39, _ => rfl
  | 40, _ => rfl
  | 41, _ => rfl
  | 42, _ => rfl
  | 43, _ => rfl
  | 44, _ => rfl
  | 45, _ => rfl
  | 46, _ => rfl
  | 47, _ => rfl
  | 48, _ => rfl
  | 49, _ => rfl
  | 50, _ => rfl
  | 51, _ => rfl
  | 52, _ => rfl
  | 53, _ => rfl
  | 54, _ => rfl
  | 55, _ => rfl
  | 56, _ => rfl
  | 57, _ => rfl
  | 58, _ => rfl
  | 59, _ => rfl
  | 60, _ => rfl
  | 61, _ => rfl
  | 62, _ => rfl
  | 63, _ => rfl
  | 64, _ => rfl
  | 65, _ => rfl
  | 66, _ => rfl
  | 67, _ => rfl
  | 68, _ => rfl
  | 69, _ => rfl
  | 70, _ => rfl
  | 71, _ => rfl
  | 72, _ => rfl
  | 73, _ => rfl
  | k + 74, hj => exact absurd hj (by omega)
def cq_X8_init_0 : List (Nat × Instr × Nat) := [(0, .aload_n 0, 1), (1, .invokespecial 1, 3), (4, .aload_n 0, 1), (5, .sipush 220, 3), (8, .newarray .byte, 2), (10, .putfield 7, 3), (13, .aload_n 0, 1), (14, .iconst 1, 1), (15, .putfield 13, 3), (18, .aload_n 0, 1), (19, .bipush 20, 2), (21, .newarray .int, 2), (23, .putfield 17, 3), (26, .aload_n 0, 1), (27, .bipush 20, 2), (29, .newarray .int, 2), (31, .putfield 21, 3), (34, .aload_n 0, 1), (35, .bipush 20, 2), (37, .newarray .boolean, 2)]
theorem dq_X8_init_0 : ∀ q ∈ cq_X8_init_0, decode prog_10_method_1_code q.1 = .ok (q.2.1, q.2.2) := by decide +kernel
theorem d_X8_init_0 : decode prog_10_method_1_code 0 = .ok (.aload_n 0, 1) := dq_X8_init_0 (0, .aload_n 0, 1) (List.mem_of_getElem? (i := 0) rfl)
theorem d_X8_init_1 : decode prog_10_method_1_code 1 = .ok (.invokespecial 1, 3) := dq_X8_init_0 (1, .invokespecial 1, 3) (List.mem_of_getElem? (i := 1) rfl)
theorem d_X8_init_4 : decode prog_10_method_1_code 4 = .ok (.aload_n 0, 1) := dq_X8_init_0 (4, .aload_n 0, 1) (List.mem_of_getElem? (i := 2) rfl)
theorem d_X8_init_5 : decode prog_10_method_1_code 5 = .ok (.sipush 220, 3) := dq_X8_init_0 (5, .sipush 220, 3) (List.mem_of_getElem? (i := 3) rfl)
theorem d_X8_init_8 : decode prog_10_method_1_code 8 = .ok (.newarray .byte, 2) := dq_X8_init_0 (8, .newarray .byte, 2) (List.mem_of_getElem? (i := 4) rfl)
theorem d_X8_init_10 : decode prog_10_method_1_code 10 = .ok (.putfield 7, 3) := dq_X8_init_0 (10, .putfield 7, 3) (List.mem_of_getElem? (i := 5) rfl)
theorem d_X8_init_13 : decode prog_10_method_1_code 13 = .ok (.aload_n 0, 1) := dq_X8_init_0 (13, .aload_n 0, 1) (List.mem_of_getElem? (i := 6) rfl)
theorem d_X8_init_14 : decode prog_10_method_1_code 14 = .ok (.iconst 1, 1) := dq_X8_init_0 (14, .iconst 1, 1) (List.mem_of_getElem? (i := 7) rfl)
theorem d_X8_init_15 : decode prog_10_method_1_code 15 = .ok (.putfield 13, 3) := dq_X8_init_0 (15, .putfield 13, 3) (List.mem_of_getElem? (i := 8) rfl)
theorem d_X8_init_18 : decode prog_10_method_1_code 18 = .ok (.aload_n 0, 1) := dq_X8_init_0 (18, .aload_n 0, 1) (List.mem_of_getElem? (i := 9) rfl)
theorem d_X8_init_19 : decode prog_10_method_1_code 19 = .ok (.bipush 20, 2) := dq_X8_init_0 (19, .bipush 20, 2) (List.mem_of_getElem? (i := 10) rfl)
theorem d_X8_init_21 : decode prog_10_method_1_code 21 = .ok (.newarray .int, 2) := dq_X8_init_0 (21, .newarray .int, 2) (List.mem_of_getElem? (i := 11) rfl)
theorem d_X8_init_23 : decode prog_10_method_1_code 23 = .ok (.putfield 17, 3) := dq_X8_init_0 (23, .putfield 17, 3) (List.mem_of_getElem? (i := 12) rfl)
theorem d_X8_init_26 : decode prog_10_method_1_code 26 = .ok (.aload_n 0, 1) := dq_X8_init_0 (26, .aload_n 0, 1) (List.mem_of_getElem? (i := 13) rfl)
theorem d_X8_init_27 : decode prog_10_method_1_code 27 = .ok (.bipush 20, 2) := dq_X8_init_0 (27, .bipush 20, 2) (List.mem_of_getElem? (i := 14) rfl)
theorem d_X8_init_29 : decode prog_10_method_1_code 29 = .ok (.newarray .int, 2) := dq_X8_init_0 (29, .newarray .int, 2) (List.mem_of_getElem? (i := 15) rfl)
theorem d_X8_init_31 : decode prog_10_method_1_code 31 = .ok (.putfield 21, 3) := dq_X8_init_0 (31, .putfield 21, 3) (List.mem_of_getElem? (i := 16) rfl)
theorem d_X8_init_34 : decode prog_10_method_1_code 34 = .ok (.aload_n 0, 1) := dq_X8_init_0 (34, .aload_n 0, 1) (List.mem_of_getElem? (i := 17) rfl)
theorem d_X8_init_35 : decode prog_10_method_1_code 35 = .ok (.bipush 20, 2) := dq_X8_init_0 (35, .bipush 20, 2) (List.mem_of_getElem? (i := 18) rfl)
theorem d_X8_init_37 : decode prog_10_method_1_code 37 = .ok (.newarray .boolean, 2) := dq_X8_init_0 (37, .newarray .boolean, 2) (List.mem_of_getElem? (i := 19) rfl)
def cq_X8_init_20 : List (Nat × Instr × Nat) := [(39, .putfield 24, 3), (42, .aload_n 0, 1), (43, .bipush 20, 2), (45, .newarray .int, 2), (47, .putfield 28, 3), (50, .aload_n 0, 1), (51, .bipush 6, 2), (53, .newarray .int, 2), (55, .putfield 31, 3), (58, .aload_n 0, 1), (59, .bipush 6, 2), (61, .newarray .int, 2), (63, .putfield 34, 3), (66, .aload_n 0, 1), (67, .bipush 9, 2), (69, .newarray .boolean, 2), (71, .putfield 37, 3), (74, .aload_n 0, 1), (75, .bipush 9, 2), (77, .newarray .int, 2)]
theorem dq_X8_init_20 : ∀ q ∈ cq_X8_init_20, decode prog_10_method_1_code q.1 = .ok (q.2.1, q.2.2) := by decide +kernel
theorem d_X8_init_39 : decode prog_10_method_1_code 39 = .ok (.putfield 24, 3) := dq_X8_init_20 (39, .putfield 24, 3) (List.mem_of_getElem? (i := 0) rfl)
theorem d_X8_init_42 : decode prog_10_method_1_code 42 = .ok (.aload_n 0, 1) := dq_X8_init_20 (42, .aload_n 0, 1) (List.mem_of_getElem? (i := 1) rfl)
theorem d_X8_init_43 : decode prog_10_method_1_code 43 = .ok (.bipush 20, 2) := dq_X8_init_20 (43, .bipush 20, 2) (List.mem_of_getElem? (i := 2) rfl)
theorem d_X8_init_45 : decode prog_10_method_1_code 45 = .ok (.newarray .int, 2) := dq_X8_init_20 (45, .newarray .int, 2) (List.mem_of_getElem? (i := 3) rfl)
theorem d_X8_init_47 : decode prog_10_method_1_code 47 = .ok (.putfield 28, 3) := dq_X8_init_20 (47, .putfield 28, 3) (List.mem_of_getElem? (i := 4) rfl)
theorem d_X8_init_50 : decode prog_10_method_1_code 50 = .ok (.aload_n 0, 1) := dq_X8_init_20 (50, .aload_n 0, 1) (List.mem_of_getElem? (i := 5) rfl)
theorem d_X8_init_51 : decode prog_10_method_1_code 51 = .ok (.bipush 6, 2) := dq_X8_init_20 (51, .bipush 6, 2) (List.mem_of_getElem? (i := 6) rfl)
theorem d_X8_init_53 : decode prog_10_method_1_code 53 = .ok (.newarray .int, 2) := dq_X8_init_20 (53, .newarray .int, 2) (List.mem_of_getElem? (i := 7) rfl)
theorem d_X8_init_55 : decode prog_10_method_1_code 55 = .ok (.putfield 31, 3) := dq_X8_init_20 (55, .putfield 31, 3) (List.mem_of_getElem? (i := 8) rfl)
theorem d_X8_init_58 : decode prog_10_method_1_code 58 = .ok (.aload_n 0, 1) := dq_X8_init_20 (58, .aload_n 0, 1) (List.mem_of_getElem? (i := 9) rfl)
theorem d_X8_init_59 : decode prog_10_method_1_code 59 = .ok (.bipush 6, 2) := dq_X8_init_20 (59, .bipush 6, 2) (List.mem_of_getElem? (i := 10) rfl)
theorem d_X8_init_61 : decode prog_10_method_1_code 61 = .ok (.newarray .int, 2) := dq_X8_init_20 (61, .newarray .int, 2) (List.mem_of_getElem? (i := 11) rfl)
theorem d_X8_init_63 : decode prog_10_method_1_code 63 = .ok (.putfield 34, 3) := dq_X8_init_20 (63, .putfield 34, 3) (List.mem_of_getElem? (i := 12) rfl)
theorem d_X8_init_66 : decode prog_10_method_1_code 66 = .ok (.aload_n 0, 1) := dq_X8_init_20 (66, .aload_n 0, 1) (List.mem_of_getElem? (i := 13) rfl)
theorem d_X8_init_67 : decode prog_10_method_1_code 67 = .ok (.bipush 9, 2) := dq_X8_init_20 (67, .bipush 9, 2) (List.mem_of_getElem? (i := 14) rfl)
theorem d_X8_init_69 : decode prog_10_method_1_code 69 = .ok (.newarray .boolean, 2) := dq_X8_init_20 (69, .newarray .boolean, 2) (List.mem_of_getElem? (i := 15) rfl)
theorem d_X8_init_71 : decode prog_10_method_1_code 71 = .ok (.putfield 37, 3) := dq_X8_init_20 (71, .putfield 37, 3) (List.mem_of_getElem? (i := 16) rfl)
theorem d_X8_init_74 : decode prog_10_method_1_code 74 = .ok (.aload_n 0, 1) := dq_X8_init_20 (74, .aload_n 0, 1) (List.mem_of_getElem? (i := 17) rfl)
theorem d_X8_init_75 : decode prog_10_method_1_code 75 = .ok (.bipush 9, 2) := dq_X8_init_20 (75, .bipush 9, 2) (List.mem_of_getElem? (i := 18) rfl)
theorem d_X8_init_77 : decode prog_10_method_1_code 77 = .ok (.newarray .int, 2) := dq_X8_init_20 (77, .newarray .int, 2) (List.mem_of_getElem? (i := 19) rfl)
def cq_X8_init_40 : List (Nat × Instr × Nat) := [(79, .putfield 40, 3), (82, .aload_n 0, 1), (83, .bipush 9, 2), (85, .newarray .int, 2), (87, .putfield 43, 3), (90, .aload_n 0, 1), (91, .bipush 9, 2), (93, .newarray .int, 2), (95, .putfield 46, 3), (98, .aload_n 0, 1), (99, .bipush 9, 2), (101, .newarray .int, 2), (103, .putfield 49, 3), (106, .aload_n 0, 1), (107, .bipush 100, 2), (109, .newarray .int, 2), (111, .putfield 52, 3), (114, .aload_n 0, 1), (115, .sipush 180, 3), (118, .newarray .int, 2)]
theorem dq_X8_init_40 : ∀ q ∈ cq_X8_init_40, decode prog_10_method_1_code q.1 = .ok (q.2.1, q.2.2) := by decide +kernel
theorem d_X8_init_79 : decode prog_10_method_1_code 79 = .ok (.putfield 40, 3) := dq_X8_init_40 (79, .putfield 40, 3) (List.mem_of_getElem? (i := 0) rfl)
theorem d_X8_init_82 : decode prog_10_method_1_code 82 = .ok (.aload_n 0, 1) := dq_X8_init_40 (82, .aload_n 0, 1) (List.mem_of_getElem? (i := 1) rfl)
theorem d_X8_init_83 : decode prog_10_method_1_code 83 = .ok (.bipush 9, 2) := dq_X8_init_40 (83, .bipush 9, 2) (List.mem_of_getElem? (i := 2) rfl)
theorem d_X8_init_85 : decode prog_10_method_1_code 85 = .ok (.newarray .int, 2) := dq_X8_init_40 (85, .newarray .int, 2) (List.mem_of_getElem? (i := 3) rfl)
theorem d_X8_init_87 : decode prog_10_method_1_code 87 = .ok (.putfield 43, 3) := dq_X8_init_40 (87, .putfield 43, 3) (List.mem_of_getElem? (i := 4) rfl)
theorem d_X8_init_90 : decode prog_10_method_1_code 90 = .ok (.aload_n 0, 1) := dq_X8_init_40 (90, .aload_n 0, 1) (List.mem_of_getElem? (i := 5) rfl)
theorem d_X8_init_91 : decode prog_10_method_1_code 91 = .ok (.bipush 9, 2) := dq_X8_init_40 (91, .bipush 9, 2) (List.mem_of_getElem? (i := 6) rfl)
theorem d_X8_init_93 : decode prog_10_method_1_code 93 = .ok (.newarray .int, 2) := dq_X8_init_40 (93, .newarray .int, 2) (List.mem_of_getElem? (i := 7) rfl)
theorem d_X8_init_95 : decode prog_10_method_1_code 95 = .ok (.putfield 46, 3) := dq_X8_init_40 (95, .putfield 46, 3) (List.mem_of_getElem? (i := 8) rfl)
theorem d_X8_init_98 : decode prog_10_method_1_code 98 = .ok (.aload_n 0, 1) := dq_X8_init_40 (98, .aload_n 0, 1) (List.mem_of_getElem? (i := 9) rfl)
theorem d_X8_init_99 : decode prog_10_method_1_code 99 = .ok (.bipush 9, 2) := dq_X8_init_40 (99, .bipush 9, 2) (List.mem_of_getElem? (i := 10) rfl)
theorem d_X8_init_101 : decode prog_10_method_1_code 101 = .ok (.newarray .int, 2) := dq_X8_init_40 (101, .newarray .int, 2) (List.mem_of_getElem? (i := 11) rfl)
theorem d_X8_init_103 : decode prog_10_method_1_code 103 = .ok (.putfield 49, 3) := dq_X8_init_40 (103, .putfield 49, 3) (List.mem_of_getElem? (i := 12) rfl)
theorem d_X8_init_106 : decode prog_10_method_1_code 106 = .ok (.aload_n 0, 1) := dq_X8_init_40 (106, .aload_n 0, 1) (List.mem_of_getElem? (i := 13) rfl)
theorem d_X8_init_107 : decode prog_10_method_1_code 107 = .ok (.bipush 100, 2) := dq_X8_init_40 (107, .bipush 100, 2) (List.mem_of_getElem? (i := 14) rfl)
theorem d_X8_init_109 : decode prog_10_method_1_code 109 = .ok (.newarray .int, 2) := dq_X8_init_40 (109, .newarray .int, 2) (List.mem_of_getElem? (i := 15) rfl)
theorem d_X8_init_111 : decode prog_10_method_1_code 111 = .ok (.putfield 52, 3) := dq_X8_init_40 (111, .putfield 52, 3) (List.mem_of_getElem? (i := 16) rfl)
theorem d_X8_init_114 : decode prog_10_method_1_code 114 = .ok (.aload_n 0, 1) := dq_X8_init_40 (114, .aload_n 0, 1) (List.mem_of_getElem? (i := 17) rfl)
theorem d_X8_init_115 : decode prog_10_method_1_code 115 = .ok (.sipush 180, 3) := dq_X8_init_40 (115, .sipush 180, 3) (List.mem_of_getElem? (i := 18) rfl)
theorem d_X8_init_118 : decode prog_10_method_1_code 118 = .ok (.newarray .int, 2) := dq_X8_init_40 (118, .newarray .int, 2) (List.mem_of_getElem? (i := 19) rfl)
def cq_X8_init_60 : List (Nat × Instr × Nat) := [(120, .putfield 55, 3), (123, .aload_n 0, 1), (124, .bipush 14, 2), (126, .newarray .int, 2), (128, .putfield 58, 3), (131, .aload_n 0, 1), (132, .bipush 14, 2), (134, .newarray .int, 2), (136, .putfield 61, 3), (139, .aload_n 0, 1), (140, .bipush 14, 2), (142, .newarray .int, 2), (144, .putfield 64, 3), (147, .aload_n 0, 1), (148, .bipush 14, 2), (150, .newarray .int, 2), (152, .putfield 67, 3), (155, .aload_n 0, 1), (156, .sipush 200, 3), (159, .newarray .int, 2)]
theorem dq_X8_init_60 : ∀ q ∈ cq_X8_init_60, decode prog_10_method_1_code q.1 = .ok (q.2.1, q.2.2) := by decide +kernel
theorem d_X8_init_120 : decode prog_10_method_1_code 120 = .ok (.putfield 55, 3) := dq_X8_init_60 (120, .putfield 55, 3) (List.mem_of_getElem? (i := 0) rfl)
theorem d_X8_init_123 : decode prog_10_method_1_code 123 = .ok (.aload_n 0, 1) := dq_X8_init_60 (123, .aload_n 0, 1) (List.mem_of_getElem? (i := 1) rfl)
theorem d_X8_init_124 : decode prog_10_method_1_code 124 = .ok (.bipush 14, 2) := dq_X8_init_60 (124, .bipush 14, 2) (List.mem_of_getElem? (i := 2) rfl)
theorem d_X8_init_126 : decode prog_10_method_1_code 126 = .ok (.newarray .int, 2) := dq_X8_init_60 (126, .newarray .int, 2) (List.mem_of_getElem? (i := 3) rfl)
theorem d_X8_init_128 : decode prog_10_method_1_code 128 = .ok (.putfield 58, 3) := dq_X8_init_60 (128, .putfield 58, 3) (List.mem_of_getElem? (i := 4) rfl)
theorem d_X8_init_131 : decode prog_10_method_1_code 131 = .ok (.aload_n 0, 1) := dq_X8_init_60 (131, .aload_n 0, 1) (List.mem_of_getElem? (i := 5) rfl)
theorem d_X8_init_132 : decode prog_10_method_1_code 132 = .ok (.bipush 14, 2) := dq_X8_init_60 (132, .bipush 14, 2) (List.mem_of_getElem? (i := 6) rfl)
theorem d_X8_init_134 : decode prog_10_method_1_code 134 = .ok (.newarray .int, 2) := dq_X8_init_60 (134, .newarray .int, 2) (List.mem_of_getElem? (i := 7) rfl)
theorem d_X8_init_136 : decode prog_10_method_1_code 136 = .ok (.putfield 61, 3) := dq_X8_init_60 (136, .putfield 61, 3) (List.mem_of_getElem? (i := 8) rfl)
theorem d_X8_init_139 : decode prog_10_method_1_code 139 = .ok (.aload_n 0, 1) := dq_X8_init_60 (139, .aload_n 0, 1) (List.mem_of_getElem? (i := 9) rfl)
theorem d_X8_init_140 : decode prog_10_method_1_code 140 = .ok (.bipush 14, 2) := dq_X8_init_60 (140, .bipush 14, 2) (List.mem_of_getElem? (i := 10) rfl)
theorem d_X8_init_142 : decode prog_10_method_1_code 142 = .ok (.newarray .int, 2) := dq_X8_init_60 (142, .newarray .int, 2) (List.mem_of_getElem? (i := 11) rfl)
theorem d_X8_init_144 : decode prog_10_method_1_code 144 = .ok (.putfield 64, 3) := dq_X8_init_60 (144, .putfield 64, 3) (List.mem_of_getElem? (i := 12) rfl)
theorem d_X8_init_147 : decode prog_10_method_1_code 147 = .ok (.aload_n 0, 1) := dq_X8_init_60 (147, .aload_n 0, 1) (List.mem_of_getElem? (i := 13) rfl)
theorem d_X8_init_148 : decode prog_10_method_1_code 148 = .ok (.bipush 14, 2) := dq_X8_init_60 (148, .bipush 14, 2) (List.mem_of_getElem? (i := 14) rfl)
theorem d_X8_init_150 : decode prog_10_method_1_code 150 = .ok (.newarray .int, 2) := dq_X8_init_60 (150, .newarray .int, 2) (List.mem_of_getElem? (i := 15) rfl)
theorem d_X8_init_152 : decode prog_10_method_1_code 152 = .ok (.putfield 67, 3) := dq_X8_init_60 (152, .putfield 67, 3) (List.mem_of_getElem? (i := 16) rfl)
theorem d_X8_init_155 : decode prog_10_method_1_code 155 = .ok (.aload_n 0, 1) := dq_X8_init_60 (155, .aload_n 0, 1) (List.mem_of_getElem? (i := 17) rfl)
theorem d_X8_init_156 : decode prog_10_method_1_code 156 = .ok (.sipush 200, 3) := dq_X8_init_60 (156, .sipush 200, 3) (List.mem_of_getElem? (i := 18) rfl)
theorem d_X8_init_159 : decode prog_10_method_1_code 159 = .ok (.newarray .int, 2) := dq_X8_init_60 (159, .newarray .int, 2) (List.mem_of_getElem? (i := 19) rfl)
def cq_X8_init_80 : List (Nat × Instr × Nat) := [(161, .putfield 70, 3), (164, .aload_n 0, 1), (165, .sipush 200, 3), (168, .newarray .int, 2), (170, .putfield 73, 3), (173, .aload_n 0, 1), (174, .bipush 14, 2), (176, .newarray .int, 2), (178, .putfield 76, 3), (181, .aload_n 0, 1), (182, .bipush 14, 2), (184, .newarray .int, 2), (186, .putfield 79, 3), (189, .aload_n 0, 1), (190, .bipush 14, 2), (192, .newarray .int, 2), (194, .putfield 82, 3), (197, .aload_n 0, 1), (198, .bipush 14, 2), (200, .newarray .int, 2)]
theorem dq_X8_init_80 : ∀ q ∈ cq_X8_init_80, decode prog_10_method_1_code q.1 = .ok (q.2.1, q.2.2) := by decide +kernel
theorem d_X8_init_161 : decode prog_10_method_1_code 161 = .ok (.putfield 70, 3) := dq_X8_init_80 (161, .putfield 70, 3) (List.mem_of_getElem? (i := 0) rfl)
theorem d_X8_init_164 : decode prog_10_method_1_code 164 = .ok (.aload_n 0, 1) := dq_X8_init_80 (164, .aload_n 0, 1) (List.mem_of_getElem? (i := 1) rfl)
theorem d_X8_init_165 : decode prog_10_method_1_code 165 = .ok (.sipush 200, 3) := dq_X8_init_80 (165, .sipush 200, 3) (List.mem_of_getElem? (i := 2) rfl)
theorem d_X8_init_168 : decode prog_10_method_1_code 168 = .ok (.newarray .int, 2) := dq_X8_init_80 (168, .newarray .int, 2) (List.mem_of_getElem? (i := 3) rfl)
theorem d_X8_init_170 : decode prog_10_method_1_code 170 = .ok (.putfield 73, 3) := dq_X8_init_80 (170, .putfield 73, 3) (List.mem_of_getElem? (i := 4) rfl)
theorem d_X8_init_173 : decode prog_10_method_1_code 173 = .ok (.aload_n 0, 1) := dq_X8_init_80 (173, .aload_n 0, 1) (List.mem_of_getElem? (i := 5) rfl)
theorem d_X8_init_174 : decode prog_10_method_1_code 174 = .ok (.bipush 14, 2) := dq_X8_init_80 (174, .bipush 14, 2) (List.mem_of_getElem? (i := 6) rfl)
theorem d_X8_init_176 : decode prog_10_method_1_code 176 = .ok (.newarray .int, 2) := dq_X8_init_80 (176, .newarray .int, 2) (List.mem_of_getElem? (i := 7) rfl)
theorem d_X8_init_178 : decode prog_10_method_1_code 178 = .ok (.putfield 76, 3) := dq_X8_init_80 (178, .putfield 76, 3) (List.mem_of_getElem? (i := 8) rfl)
theorem d_X8_init_181 : decode prog_10_method_1_code 181 = .ok (.aload_n 0, 1) := dq_X8_init_80 (181, .aload_n 0, 1) (List.mem_of_getElem? (i := 9) rfl)
theorem d_X8_init_182 : decode prog_10_method_1_code 182 = .ok (.bipush 14, 2) := dq_X8_init_80 (182, .bipush 14, 2) (List.mem_of_getElem? (i := 10) rfl)
theorem d_X8_init_184 : decode prog_10_method_1_code 184 = .ok (.newarray .int, 2) := dq_X8_init_80 (184, .newarray .int, 2) (List.mem_of_getElem? (i := 11) rfl)
theorem d_X8_init_186 : decode prog_10_method_1_code 186 = .ok (.putfield 79, 3) := dq_X8_init_80 (186, .putfield 79, 3) (List.mem_of_getElem? (i := 12) rfl)
theorem d_X8_init_189 : decode prog_10_method_1_code 189 = .ok (.aload_n 0, 1) := dq_X8_init_80 (189, .aload_n 0, 1) (List.mem_of_getElem? (i := 13) rfl)
theorem d_X8_init_190 : decode prog_10_method_1_code 190 = .ok (.bipush 14, 2) := dq_X8_init_80 (190, .bipush 14, 2) (List.mem_of_getElem? (i := 14) rfl)
theorem d_X8_init_192 : decode prog_10_method_1_code 192 = .ok (.newarray .int, 2) := dq_X8_init_80 (192, .newarray .int, 2) (List.mem_of_getElem? (i := 15) rfl)
theorem d_X8_init_194 : decode prog_10_method_1_code 194 = .ok (.putfield 82, 3) := dq_X8_init_80 (194, .putfield 82, 3) (List.mem_of_getElem? (i := 16) rfl)
theorem d_X8_init_197 : decode prog_10_method_1_code 197 = .ok (.aload_n 0, 1) := dq_X8_init_80 (197, .aload_n 0, 1) (List.mem_of_getElem? (i := 17) rfl)
theorem d_X8_init_198 : decode prog_10_method_1_code 198 = .ok (.bipush 14, 2) := dq_X8_init_80 (198, .bipush 14, 2) (List.mem_of_getElem? (i := 18) rfl)
theorem d_X8_init_200 : decode prog_10_method_1_code 200 = .ok (.newarray .int, 2) := dq_X8_init_80 (200, .newarray .int, 2) (List.mem_of_getElem? (i := 19) rfl)
def cq_X8_init_100 : List (Nat × Instr × Nat) := [(202, .putfield 85, 3), (205, .aload_n 0, 1), (206, .sipush 200, 3), (209, .newarray .int, 2), (211, .putfield 88, 3), (214, .aload_n 0, 1), (215, .sipush 200, 3), (218, .newarray .int, 2), (220, .putfield 91, 3), (223, .aload_n 0, 1), (224, .sipush 240, 3), (227, .newarray .int, 2), (229, .putfield 94, 3), (232, .aload_n 0, 1), (233, .sipush 240, 3), (236, .newarray .int, 2), (238, .putfield 97, 3), (241, .aload_n 0, 1), (242, .sipush 240, 3), (245, .newarray .boolean, 2)]
theorem dq_X8_init_100 : ∀ q ∈ cq_X8_init_100, decode prog_10_method_1_code q.1 = .ok (q.2.1, q.2.2) := by decide +kernel
theorem d_X8_init_202 : decode prog_10_method_1_code 202 = .ok (.putfield 85, 3) := dq_X8_init_100 (202, .putfield 85, 3) (List.mem_of_getElem? (i := 0) rfl)
theorem d_X8_init_205 : decode prog_10_method_1_code 205 = .ok (.aload_n 0, 1) := dq_X8_init_100 (205, .aload_n 0, 1) (List.mem_of_getElem? (i := 1) rfl)
theorem d_X8_init_206 : decode prog_10_method_1_code 206 = .ok (.sipush 200, 3) := dq_X8_init_100 (206, .sipush 200, 3) (List.mem_of_getElem? (i := 2) rfl)
theorem d_X8_init_209 : decode prog_10_method_1_code 209 = .ok (.newarray .int, 2) := dq_X8_init_100 (209, .newarray .int, 2) (List.mem_of_getElem? (i := 3) rfl)
theorem d_X8_init_211 : decode prog_10_method_1_code 211 = .ok (.putfield 88, 3) := dq_X8_init_100 (211, .putfield 88, 3) (List.mem_of_getElem? (i := 4) rfl)
theorem d_X8_init_214 : decode prog_10_method_1_code 214 = .ok (.aload_n 0, 1) := dq_X8_init_100 (214, .aload_n 0, 1) (List.mem_of_getElem? (i := 5) rfl)
theorem d_X8_init_215 : decode prog_10_method_1_code 215 = .ok (.sipush 200, 3) := dq_X8_init_100 (215, .sipush 200, 3) (List.mem_of_getElem? (i := 6) rfl)
theorem d_X8_init_218 : decode prog_10_method_1_code 218 = .ok (.newarray .int, 2) := dq_X8_init_100 (218, .newarray .int, 2) (List.mem_of_getElem? (i := 7) rfl)
theorem d_X8_init_220 : decode prog_10_method_1_code 220 = .ok (.putfield 91, 3) := dq_X8_init_100 (220, .putfield 91, 3) (List.mem_of_getElem? (i := 8) rfl)
theorem d_X8_init_223 : decode prog_10_method_1_code 223 = .ok (.aload_n 0, 1) := dq_X8_init_100 (223, .aload_n 0, 1) (List.mem_of_getElem? (i := 9) rfl)
theorem d_X8_init_224 : decode prog_10_method_1_code 224 = .ok (.sipush 240, 3) := dq_X8_init_100 (224, .sipush 240, 3) (List.mem_of_getElem? (i := 10) rfl)
theorem d_X8_init_227 : decode prog_10_method_1_code 227 = .ok (.newarray .int, 2) := dq_X8_init_100 (227, .newarray .int, 2) (List.mem_of_getElem? (i := 11) rfl)
theorem d_X8_init_229 : decode prog_10_method_1_code 229 = .ok (.putfield 94, 3) := dq_X8_init_100 (229, .putfield 94, 3) (List.mem_of_getElem? (i := 12) rfl)
theorem d_X8_init_232 : decode prog_10_method_1_code 232 = .ok (.aload_n 0, 1) := dq_X8_init_100 (232, .aload_n 0, 1) (List.mem_of_getElem? (i := 13) rfl)
theorem d_X8_init_233 : decode prog_10_method_1_code 233 = .ok (.sipush 240, 3) := dq_X8_init_100 (233, .sipush 240, 3) (List.mem_of_getElem? (i := 14) rfl)
theorem d_X8_init_236 : decode prog_10_method_1_code 236 = .ok (.newarray .int, 2) := dq_X8_init_100 (236, .newarray .int, 2) (List.mem_of_getElem? (i := 15) rfl)
theorem d_X8_init_238 : decode prog_10_method_1_code 238 = .ok (.putfield 97, 3) := dq_X8_init_100 (238, .putfield 97, 3) (List.mem_of_getElem? (i := 16) rfl)
theorem d_X8_init_241 : decode prog_10_method_1_code 241 = .ok (.aload_n 0, 1) := dq_X8_init_100 (241, .aload_n 0, 1) (List.mem_of_getElem? (i := 17) rfl)
theorem d_X8_init_242 : decode prog_10_method_1_code 242 = .ok (.sipush 240, 3) := dq_X8_init_100 (242, .sipush 240, 3) (List.mem_of_getElem? (i := 18) rfl)
theorem d_X8_init_245 : decode prog_10_method_1_code 245 = .ok (.newarray .boolean, 2) := dq_X8_init_100 (245, .newarray .boolean, 2) (List.mem_of_getElem? (i := 19) rfl)
def cq_X8_init_120 : List (Nat × Instr × Nat) := [(247, .putfield 100, 3), (250, .aload_n 0, 1), (251, .bipush 9, 2), (253, .newarray .int, 2), (255, .putfield 103, 3), (258, .aload_n 0, 1), (259, .bipush 20, 2), (261, .newarray .int, 2), (263, .putfield 106, 3), (266, .aload_n 0, 1), (267, .bipush 40, 2), (269, .newarray .int, 2), (271, .putfield 109, 3), (274, .aload_n 0, 1), (275, .bipush 40, 2), (277, .newarray .int, 2), (279, .putfield 112, 3), (282, .aload_n 0, 1), (283, .bipush 40, 2), (285, .newarray .boolean, 2)]
theorem dq_X8_init_120 : ∀ q ∈ cq_X8_init_120, decode prog_10_method_1_code q.1 = .ok (q.2.1, q.2.2) := by decide +kernel
theorem d_X8_init_247 : decode prog_10_method_1_code 247 = .ok (.putfield 100, 3) := dq_X8_init_120 (247, .putfield 100, 3) (List.mem_of_getElem? (i := 0) rfl)
theorem d_X8_init_250 : decode prog_10_method_1_code 250 = .ok (.aload_n 0, 1) := dq_X8_init_120 (250, .aload_n 0, 1) (List.mem_of_getElem? (i := 1) rfl)
theorem d_X8_init_251 : decode prog_10_method_1_code 251 = .ok (.bipush 9, 2) := dq_X8_init_120 (251, .bipush 9, 2) (List.mem_of_getElem? (i := 2) rfl)
theorem d_X8_init_253 : decode prog_10_method_1_code 253 = .ok (.newarray .int, 2) := dq_X8_init_120 (253, .newarray .int, 2) (List.mem_of_getElem? (i := 3) rfl)
theorem d_X8_init_255 : decode prog_10_method_1_code 255 = .ok (.putfield 103, 3) := dq_X8_init_120 (255, .putfield 103, 3) (List.mem_of_getElem? (i := 4) rfl)
theorem d_X8_init_258 : decode prog_10_method_1_code 258 = .ok (.aload_n 0, 1) := dq_X8_init_120 (258, .aload_n 0, 1) (List.mem_of_getElem? (i := 5) rfl)
theorem d_X8_init_259 : decode prog_10_method_1_code 259 = .ok (.bipush 20, 2) := dq_X8_init_120 (259, .bipush 20, 2) (List.mem_of_getElem? (i := 6) rfl)
theorem d_X8_init_261 : decode prog_10_method_1_code 261 = .ok (.newarray .int, 2) := dq_X8_init_120 (261, .newarray .int, 2) (List.mem_of_getElem? (i := 7) rfl)
theorem d_X8_init_263 : decode prog_10_method_1_code 263 = .ok (.putfield 106, 3) := dq_X8_init_120 (263, .putfield 106, 3) (List.mem_of_getElem? (i := 8) rfl)
theorem d_X8_init_266 : decode prog_10_method_1_code 266 = .ok (.aload_n 0, 1) := dq_X8_init_120 (266, .aload_n 0, 1) (List.mem_of_getElem? (i := 9) rfl)
theorem d_X8_init_267 : decode prog_10_method_1_code 267 = .ok (.bipush 40, 2) := dq_X8_init_120 (267, .bipush 40, 2) (List.mem_of_getElem? (i := 10) rfl)
theorem d_X8_init_269 : decode prog_10_method_1_code 269 = .ok (.newarray .int, 2) := dq_X8_init_120 (269, .newarray .int, 2) (List.mem_of_getElem? (i := 11) rfl)
theorem d_X8_init_271 : decode prog_10_method_1_code 271 = .ok (.putfield 109, 3) := dq_X8_init_120 (271, .putfield 109, 3) (List.mem_of_getElem? (i := 12) rfl)
theorem d_X8_init_274 : decode prog_10_method_1_code 274 = .ok (.aload_n 0, 1) := dq_X8_init_120 (274, .aload_n 0, 1) (List.mem_of_getElem? (i := 13) rfl)
theorem d_X8_init_275 : decode prog_10_method_1_code 275 = .ok (.bipush 40, 2) := dq_X8_init_120 (275, .bipush 40, 2) (List.mem_of_getElem? (i := 14) rfl)
theorem d_X8_init_277 : decode prog_10_method_1_code 277 = .ok (.newarray .int, 2) := dq_X8_init_120 (277, .newarray .int, 2) (List.mem_of_getElem? (i := 15) rfl)
theorem d_X8_init_279 : decode prog_10_method_1_code 279 = .ok (.putfield 112, 3) := dq_X8_init_120 (279, .putfield 112, 3) (List.mem_of_getElem? (i := 16) rfl)
theorem d_X8_init_282 : decode prog_10_method_1_code 282 = .ok (.aload_n 0, 1) := dq_X8_init_120 (282, .aload_n 0, 1) (List.mem_of_getElem? (i := 17) rfl)
theorem d_X8_init_283 : decode prog_10_method_1_code 283 = .ok (.bipush 40, 2) := dq_X8_init_120 (283, .bipush 40, 2) (List.mem_of_getElem? (i := 18) rfl)
theorem d_X8_init_285 : decode prog_10_method_1_code 285 = .ok (.newarray .boolean, 2) := dq_X8_init_120 (285, .newarray .boolean, 2) (List.mem_of_getElem? (i := 19) rfl)
def cq_X8_init_140 : List (Nat × Instr × Nat) := [(287, .putfield 115, 3), (290, .aload_n 0, 1), (291, .bipush 40, 2), (293, .newarray .int, 2), (295, .putfield 118, 3), (298, .aload_n 0, 1), (299, .bipush 12, 2), (301, .newarray .int, 2), (303, .putfield 121, 3), (306, .aload_n 0, 1), (307, .bipush 12, 2), (309, .newarray .int, 2), (311, .putfield 124, 3), (314, .aload_n 0, 1), (315, .bipush 18, 2), (317, .newarray .boolean, 2), (319, .putfield 127, 3), (322, .aload_n 0, 1), (323, .bipush 18, 2), (325, .newarray .int, 2)]
theorem dq_X8_init_140 : ∀ q ∈ cq_X8_init_140, decode prog_10_method_1_code q.1 = .ok (q.2.1, q.2.2) := by decide +kernel
theorem d_X8_init_287 : decode prog_10_method_1_code 287 = .ok (.putfield 115, 3) := dq_X8_init_140 (287, .putfield 115, 3) (List.mem_of_getElem? (i := 0) rfl)
theorem d_X8_init_290 : decode prog_10_method_1_code 290 = .ok (.aload_n 0, 1) := dq_X8_init_140 (290, .aload_n 0, 1) (List.mem_of_getElem? (i := 1) rfl)
theorem d_X8_init_291 : decode prog_10_method_1_code 291 = .ok (.bipush 40, 2) := dq_X8_init_140 (291, .bipush 40, 2) (List.mem_of_getElem? (i := 2) rfl)
theorem d_X8_init_293 : decode prog_10_method_1_code 293 = .ok (.newarray .int, 2) := dq_X8_init_140 (293, .newarray .int, 2) (List.mem_of_getElem? (i := 3) rfl)
theorem d_X8_init_295 : decode prog_10_method_1_code 295 = .ok (.putfield 118, 3) := dq_X8_init_140 (295, .putfield 118, 3) (List.mem_of_getElem? (i := 4) rfl)
theorem d_X8_init_298 : decode prog_10_method_1_code 298 = .ok (.aload_n 0, 1) := dq_X8_init_140 (298, .aload_n 0, 1) (List.mem_of_getElem? (i := 5) rfl)
theorem d_X8_init_299 : decode prog_10_method_1_code 299 = .ok (.bipush 12, 2) := dq_X8_init_140 (299, .bipush 12, 2) (List.mem_of_getElem? (i := 6) rfl)
theorem d_X8_init_301 : decode prog_10_method_1_code 301 = .ok (.newarray .int, 2) := dq_X8_init_140 (301, .newarray .int, 2) (List.mem_of_getElem? (i := 7) rfl)
theorem d_X8_init_303 : decode prog_10_method_1_code 303 = .ok (.putfield 121, 3) := dq_X8_init_140 (303, .putfield 121, 3) (List.mem_of_getElem? (i := 8) rfl)
theorem d_X8_init_306 : decode prog_10_method_1_code 306 = .ok (.aload_n 0, 1) := dq_X8_init_140 (306, .aload_n 0, 1) (List.mem_of_getElem? (i := 9) rfl)
theorem d_X8_init_307 : decode prog_10_method_1_code 307 = .ok (.bipush 12, 2) := dq_X8_init_140 (307, .bipush 12, 2) (List.mem_of_getElem? (i := 10) rfl)
theorem d_X8_init_309 : decode prog_10_method_1_code 309 = .ok (.newarray .int, 2) := dq_X8_init_140 (309, .newarray .int, 2) (List.mem_of_getElem? (i := 11) rfl)
theorem d_X8_init_311 : decode prog_10_method_1_code 311 = .ok (.putfield 124, 3) := dq_X8_init_140 (311, .putfield 124, 3) (List.mem_of_getElem? (i := 12) rfl)
theorem d_X8_init_314 : decode prog_10_method_1_code 314 = .ok (.aload_n 0, 1) := dq_X8_init_140 (314, .aload_n 0, 1) (List.mem_of_getElem? (i := 13) rfl)
theorem d_X8_init_315 : decode prog_10_method_1_code 315 = .ok (.bipush 18, 2) := dq_X8_init_140 (315, .bipush 18, 2) (List.mem_of_getElem? (i := 14) rfl)
theorem d_X8_init_317 : decode prog_10_method_1_code 317 = .ok (.newarray .boolean, 2) := dq_X8_init_140 (317, .newarray .boolean, 2) (List.mem_of_getElem? (i := 15) rfl)
theorem d_X8_init_319 : decode prog_10_method_1_code 319 = .ok (.putfield 127, 3) := dq_X8_init_140 (319, .putfield 127, 3) (List.mem_of_getElem? (i := 16) rfl)
theorem d_X8_init_322 : decode prog_10_method_1_code 322 = .ok (.aload_n 0, 1) := dq_X8_init_140 (322, .aload_n 0, 1) (List.mem_of_getElem? (i := 17) rfl)
theorem d_X8_init_323 : decode prog_10_method_1_code 323 = .ok (.bipush 18, 2) := dq_X8_init_140 (323, .bipush 18, 2) (List.mem_of_getElem? (i := 18) rfl)
theorem d_X8_init_325 : decode prog_10_method_1_code 325 = .ok (.newarray .int, 2) := dq_X8_init_140 (325, .newarray .int, 2) (List.mem_of_getElem? (i := 19) rfl)
def cq_X8_init_160 : List (Nat × Instr × Nat) := [(327, .putfield 130, 3), (330, .aload_n 0, 1), (331, .bipush 18, 2), (333, .newarray .int, 2), (335, .putfield 133, 3), (338, .aload_n 0, 1), (339, .bipush 18, 2), (341, .newarray .int, 2), (343, .putfield 136, 3), (346, .aload_n 0, 1), (347, .bipush 18, 2), (349, .newarray .int, 2), (351, .putfield 139, 3), (354, .aload_n 0, 1), (355, .sipush 200, 3), (358, .newarray .int, 2), (360, .putfield 142, 3), (363, .aload_n 0, 1), (364, .sipush 360, 3), (367, .newarray .int, 2)]
theorem dq_X8_init_160 : ∀ q ∈ cq_X8_init_160, decode prog_10_method_1_code q.1 = .ok (q.2.1, q.2.2) := by decide +kernel
theorem d_X8_init_327 : decode prog_10_method_1_code 327 = .ok (.putfield 130, 3) := dq_X8_init_160 (327, .putfield 130, 3) (List.mem_of_getElem? (i := 0) rfl)
theorem d_X8_init_330 : decode prog_10_method_1_code 330 = .ok (.aload_n 0, 1) := dq_X8_init_160 (330, .aload_n 0, 1) (List.mem_of_getElem? (i := 1) rfl)
theorem d_X8_init_331 : decode prog_10_method_1_code 331 = .ok (.bipush 18, 2) := dq_X8_init_160 (331, .bipush 18, 2) (List.mem_of_getElem? (i := 2) rfl)
theorem d_X8_init_333 : decode prog_10_method_1_code 333 = .ok (.newarray .int, 2) := dq_X8_init_160 (333, .newarray .int, 2) (List.mem_of_getElem? (i := 3) rfl)
theorem d_X8_init_335 : decode prog_10_method_1_code 335 = .ok (.putfield 133, 3) := dq_X8_init_160 (335, .putfield 133, 3) (List.mem_of_getElem? (i := 4) rfl)
theorem d_X8_init_338 : decode prog_10_method_1_code 338 = .ok (.aload_n 0, 1) := dq_X8_init_160 (338, .aload_n 0, 1) (List.mem_of_getElem? (i := 5) rfl)
theorem d_X8_init_339 : decode prog_10_method_1_code 339 = .ok (.bipush 18, 2) := dq_X8_init_160 (339, .bipush 18, 2) (List.mem_of_getElem? (i := 6) rfl)
theorem d_X8_init_341 : decode prog_10_method_1_code 341 = .ok (.newarray .int, 2) := dq_X8_init_160 (341, .newarray .int, 2) (List.mem_of_getElem? (i := 7) rfl)
theorem d_X8_init_343 : decode prog_10_method_1_code 343 = .ok (.putfield 136, 3) := dq_X8_init_160 (343, .putfield 136, 3) (List.mem_of_getElem? (i := 8) rfl)
theorem d_X8_init_346 : decode prog_10_method_1_code 346 = .ok (.aload_n 0, 1) := dq_X8_init_160 (346, .aload_n 0, 1) (List.mem_of_getElem? (i := 9) rfl)
theorem d_X8_init_347 : decode prog_10_method_1_code 347 = .ok (.bipush 18, 2) := dq_X8_init_160 (347, .bipush 18, 2) (List.mem_of_getElem? (i := 10) rfl)
theorem d_X8_init_349 : decode prog_10_method_1_code 349 = .ok (.newarray .int, 2) := dq_X8_init_160 (349, .newarray .int, 2) (List.mem_of_getElem? (i := 11) rfl)
theorem d_X8_init_351 : decode prog_10_method_1_code 351 = .ok (.putfield 139, 3) := dq_X8_init_160 (351, .putfield 139, 3) (List.mem_of_getElem? (i := 12) rfl)
theorem d_X8_init_354 : decode prog_10_method_1_code 354 = .ok (.aload_n 0, 1) := dq_X8_init_160 (354, .aload_n 0, 1) (List.mem_of_getElem? (i := 13) rfl)
theorem d_X8_init_355 : decode prog_10_method_1_code 355 = .ok (.sipush 200, 3) := dq_X8_init_160 (355, .sipush 200, 3) (List.mem_of_getElem? (i := 14) rfl)
theorem d_X8_init_358 : decode prog_10_method_1_code 358 = .ok (.newarray .int, 2) := dq_X8_init_160 (358, .newarray .int, 2) (List.mem_of_getElem? (i := 15) rfl)
theorem d_X8_init_360 : decode prog_10_method_1_code 360 = .ok (.putfield 142, 3) := dq_X8_init_160 (360, .putfield 142, 3) (List.mem_of_getElem? (i := 16) rfl)
theorem d_X8_init_363 : decode prog_10_method_1_code 363 = .ok (.aload_n 0, 1) := dq_X8_init_160 (363, .aload_n 0, 1) (List.mem_of_getElem? (i := 17) rfl)
theorem d_X8_init_364 : decode prog_10_method_1_code 364 = .ok (.sipush 360, 3) := dq_X8_init_160 (364, .sipush 360, 3) (List.mem_of_getElem? (i := 18) rfl)
theorem d_X8_init_367 : decode prog_10_method_1_code 367 = .ok (.newarray .int, 2) := dq_X8_init_160 (367, .newarray .int, 2) (List.mem_of_getElem? (i := 19) rfl)
def cq_X8_init_180 : List (Nat × Instr × Nat) := [(369, .putfield 145, 3), (372, .aload_n 0, 1), (373, .bipush 10, 2), (375, .newarray .int, 2), (377, .putfield 148, 3), (380, .aload_n 0, 1), (381, .bipush 6, 2), (383, .newarray .int, 2), (385, .putfield 151, 3), (388, .aload_n 0, 1), (389, .bipush 6, 2), (391, .newarray .int, 2), (393, .putfield 154, 3), (396, .aload_n 0, 1), (397, .bipush 6, 2), (399, .newarray .int, 2), (401, .putfield 157, 3), (404, .aload_n 0, 1), (405, .bipush 6, 2), (407, .newarray .int, 2)]
theorem dq_X8_init_180 : ∀ q ∈ cq_X8_init_180, decode prog_10_method_1_code q.1 = .ok (q.2.1, q.2.2) := by decide +kernel
theorem d_X8_init_369 : decode prog_10_method_1_code 369 = .ok (.putfield 145, 3) := dq_X8_init_180 (369, .putfield 145, 3) (List.mem_of_getElem? (i := 0) rfl)
theorem d_X8_init_372 : decode prog_10_method_1_code 372 = .ok (.aload_n 0, 1) := dq_X8_init_180 (372, .aload_n 0, 1) (List.mem_of_getElem? (i := 1) rfl)
theorem d_X8_init_373 : decode prog_10_method_1_code 373 = .ok (.bipush 10, 2) := dq_X8_init_180 (373, .bipush 10, 2) (List.mem_of_getElem? (i := 2) rfl)
theorem d_X8_init_375 : decode prog_10_method_1_code 375 = .ok (.newarray .int, 2) := dq_X8_init_180 (375, .newarray .int, 2) (List.mem_of_getElem? (i := 3) rfl)
theorem d_X8_init_377 : decode prog_10_method_1_code 377 = .ok (.putfield 148, 3) := dq_X8_init_180 (377, .putfield 148, 3) (List.mem_of_getElem? (i := 4) rfl)
theorem d_X8_init_380 : decode prog_10_method_1_code 380 = .ok (.aload_n 0, 1) := dq_X8_init_180 (380, .aload_n 0, 1) (List.mem_of_getElem? (i := 5) rfl)
theorem d_X8_init_381 : decode prog_10_method_1_code 381 = .ok (.bipush 6, 2) := dq_X8_init_180 (381, .bipush 6, 2) (List.mem_of_getElem? (i := 6) rfl)
theorem d_X8_init_383 : decode prog_10_method_1_code 383 = .ok (.newarray .int, 2) := dq_X8_init_180 (383, .newarray .int, 2) (List.mem_of_getElem? (i := 7) rfl)
theorem d_X8_init_385 : decode prog_10_method_1_code 385 = .ok (.putfield 151, 3) := dq_X8_init_180 (385, .putfield 151, 3) (List.mem_of_getElem? (i := 8) rfl)
theorem d_X8_init_388 : decode prog_10_method_1_code 388 = .ok (.aload_n 0, 1) := dq_X8_init_180 (388, .aload_n 0, 1) (List.mem_of_getElem? (i := 9) rfl)
theorem d_X8_init_389 : decode prog_10_method_1_code 389 = .ok (.bipush 6, 2) := dq_X8_init_180 (389, .bipush 6, 2) (List.mem_of_getElem? (i := 10) rfl)
theorem d_X8_init_391 : decode prog_10_method_1_code 391 = .ok (.newarray .int, 2) := dq_X8_init_180 (391, .newarray .int, 2) (List.mem_of_getElem? (i := 11) rfl)
theorem d_X8_init_393 : decode prog_10_method_1_code 393 = .ok (.putfield 154, 3) := dq_X8_init_180 (393, .putfield 154, 3) (List.mem_of_getElem? (i := 12) rfl)
theorem d_X8_init_396 : decode prog_10_method_1_code 396 = .ok (.aload_n 0, 1) := dq_X8_init_180 (396, .aload_n 0, 1) (List.mem_of_getElem? (i := 13) rfl)
theorem d_X8_init_397 : decode prog_10_method_1_code 397 = .ok (.bipush 6, 2) := dq_X8_init_180 (397, .bipush 6, 2) (List.mem_of_getElem? (i := 14) rfl)
theorem d_X8_init_399 : decode prog_10_method_1_code 399 = .ok (.newarray .int, 2) := dq_X8_init_180 (399, .newarray .int, 2) (List.mem_of_getElem? (i := 15) rfl)
theorem d_X8_init_401 : decode prog_10_method_1_code 401 = .ok (.putfield 157, 3) := dq_X8_init_180 (401, .putfield 157, 3) (List.mem_of_getElem? (i := 16) rfl)
theorem d_X8_init_404 : decode prog_10_method_1_code 404 = .ok (.aload_n 0, 1) := dq_X8_init_180 (404, .aload_n 0, 1) (List.mem_of_getElem? (i := 17) rfl)
theorem d_X8_init_405 : decode prog_10_method_1_code 405 = .ok (.bipush 6, 2) := dq_X8_init_180 (405, .bipush 6, 2) (List.mem_of_getElem? (i := 18) rfl)
theorem d_X8_init_407 : decode prog_10_method_1_code 407 = .ok (.newarray .int, 2) := dq_X8_init_180 (407, .newarray .int, 2) (List.mem_of_getElem? (i := 19) rfl)
def cq_X8_init_200 : List (Nat × Instr × Nat) := [(409, .putfield 160, 3), (412, .aload_n 0, 1), (413, .bipush 20, 2), (415, .newarray .int, 2), (417, .putfield 163, 3), (420, .iconst 0, 1), (421, .istore_n 1, 1), (422, .iload_n 1, 1), (423, .bipush 20, 2), (425, .if_icmp .ge 17, 3), (428, .aload_n 0, 1), (429, .getfield 28, 3), (432, .iload_n 1, 1), (433, .bipush 6, 2), (435, .iastore, 1), (436, .iinc 1 1, 3), (439, .goto (-17), 3), (442, .return_, 1)]
theorem dq_X8_init_200 : ∀ q ∈ cq_X8_init_200, decode prog_10_method_1_code q.1 = .ok (q.2.1, q.2.2) := by decide +kernel
theorem d_X8_init_409 : decode prog_10_method_1_code 409 = .ok (.putfield 160, 3) := dq_X8_init_200 (409, .putfield 160, 3) (List.mem_of_getElem? (i := 0) rfl)
theorem d_X8_init_412 : decode prog_10_method_1_code 412 = .ok (.aload_n 0, 1) := dq_X8_init_200 (412, .aload_n 0, 1) (List.mem_of_getElem? (i := 1) rfl)
theorem d_X8_init_413 : decode prog_10_method_1_code 413 = .ok (.bipush 20, 2) := dq_X8_init_200 (413, .bipush 20, 2) (List.mem_of_getElem? (i := 2) rfl)
theorem d_X8_init_415 : decode prog_10_method_1_code 415 = .ok (.newarray .int, 2) := dq_X8_init_200 (415, .newarray .int, 2) (List.mem_of_getElem? (i := 3) rfl)
theorem d_X8_init_417 : decode prog_10_method_1_code 417 = .ok (.putfield 163, 3) := dq_X8_init_200 (417, .putfield 163, 3) (List.mem_of_getElem? (i := 4) rfl)
theorem d_X8_init_420 : decode prog_10_method_1_code 420 = .ok (.iconst 0, 1) := dq_X8_init_200 (420, .iconst 0, 1) (List.mem_of_getElem? (i := 5) rfl)
theorem d_X8_init_421 : decode prog_10_method_1_code 421 = .ok (.istore_n 1, 1) := dq_X8_init_200 (421, .istore_n 1, 1) (List.mem_of_getElem? (i := 6) rfl)
theorem d_X8_init_422 : decode prog_10_method_1_code 422 = .ok (.iload_n 1, 1) := dq_X8_init_200 (422, .iload_n 1, 1) (List.mem_of_getElem? (i := 7) rfl)
theorem d_X8_init_423 : decode prog_10_method_1_code 423 = .ok (.bipush 20, 2) := dq_X8_init_200 (423, .bipush 20, 2) (List.mem_of_getElem? (i := 8) rfl)
theorem d_X8_init_425 : decode prog_10_method_1_code 425 = .ok (.if_icmp .ge 17, 3) := dq_X8_init_200 (425, .if_icmp .ge 17, 3) (List.mem_of_getElem? (i := 9) rfl)
theorem d_X8_init_428 : decode prog_10_method_1_code 428 = .ok (.aload_n 0, 1) := dq_X8_init_200 (428, .aload_n 0, 1) (List.mem_of_getElem? (i := 10) rfl)
theorem d_X8_init_429 : decode prog_10_method_1_code 429 = .ok (.getfield 28, 3) := dq_X8_init_200 (429, .getfield 28, 3) (List.mem_of_getElem? (i := 11) rfl)
theorem d_X8_init_432 : decode prog_10_method_1_code 432 = .ok (.iload_n 1, 1) := dq_X8_init_200 (432, .iload_n 1, 1) (List.mem_of_getElem? (i := 12) rfl)
theorem d_X8_init_433 : decode prog_10_method_1_code 433 = .ok (.bipush 6, 2) := dq_X8_init_200 (433, .bipush 6, 2) (List.mem_of_getElem? (i := 13) rfl)
theorem d_X8_init_435 : decode prog_10_method_1_code 435 = .ok (.iastore, 1) := dq_X8_init_200 (435, .iastore, 1) (List.mem_of_getElem? (i := 14) rfl)
theorem d_X8_init_436 : decode prog_10_method_1_code 436 = .ok (.iinc 1 1, 3) := dq_X8_init_200 (436, .iinc 1 1, 3) (List.mem_of_getElem? (i := 15) rfl)
theorem d_X8_init_439 : decode prog_10_method_1_code 439 = .ok (.goto (-17), 3) := dq_X8_init_200 (439, .goto (-17), 3) (List.mem_of_getElem? (i := 16) rfl)
theorem d_X8_init_442 : decode prog_10_method_1_code 442 = .ok (.return_, 1) := dq_X8_init_200 (442, .return_, 1) (List.mem_of_getElem? (i := 17) rfl)
