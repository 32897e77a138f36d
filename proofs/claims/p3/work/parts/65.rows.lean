/-! THE LAW'S OWN ROWS -/
def lw_Aq (s : State) : Nat → Prop := fun q => s.heap.size ≤ q
def lz_W (p : Program) (l : Launch) (e : Env) (s : State) (m : MethodId) (args : Array Value) (below : List Frame) (meth : Method) (c : Code) (Q : State → Prop) (D : va_G) (ad : Nat → Nat) (cy : Nat → ClassId) (V : fm_V) (pc : Nat) (ls : Array Slot) (st : List Value) : Prop := ∀ (H : Heap) (locs : List Loc), va_P D fm_cl (fm_ws fm_tm ad cy V) H → va_S (lw_Aq s) s.heap H locs → W p l e room_1 s m args below meth c H locs 600000 7302249 Q (F0 m pc ls st)
section LZ
variable {p : Program} {l : Launch} {e : Env} {s : State} {m : MethodId} {args : Array Value} {below : List Frame} {meth : Method} {c : Code} {Q : State → Prop} {D : va_G} {ad : Nat → Nat} {cy : Nat → ClassId} {Z : State → Heap → Prop}
variable {pc : Nat} {ls : Array Slot} {rest : List Value} {V : fm_V} {b L : Nat} {xs : Nat → Int32}
theorem lz_iconst (X : fm_X p s m args c code R_law D fm_cl fm_tm ad cy (lw_Aq s) fm_Ts 4) {n : Int} {v : Int32} (hd : decode code pc = .ok (.iconst n, 1)) (hv : Int32.ofInt n = v) (kk : lz_W p l e s m args below meth c Q D ad cy V (pc + 1) ls (.int v :: rest)) : lz_W p l e s m args below meth c Q D ad cy V pc ls (rest) := fun H locs hP hS => lv_iconst X.1 X.2.1 hd hv (kk H locs hP hS)
theorem lz_bipush (X : fm_X p s m args c code R_law D fm_cl fm_tm ad cy (lw_Aq s) fm_Ts 4) {n : Int} {v : Int32} (hd : decode code pc = .ok (.bipush n, 2)) (hv : (Int8.ofInt n).toInt32 = v) (kk : lz_W p l e s m args below meth c Q D ad cy V (pc + 2) ls (.int v :: rest)) : lz_W p l e s m args below meth c Q D ad cy V pc ls (rest) := fun H locs hP hS => lv_bipush X.1 X.2.1 hd hv (kk H locs hP hS)
theorem lz_iload_n (X : fm_X p s m args c code R_law D fm_cl fm_tm ad cy (lw_Aq s) fm_Ts 4) {k : Fin 4} {i : Nat} {x : Int32} (hd : decode code pc = .ok (.iload_n k, 1)) (hi : (k : Nat) = i) (hl : ls[i]? = some (.val (.int x))) (kk : lz_W p l e s m args below meth c Q D ad cy V (pc + 1) ls (.int x :: rest)) : lz_W p l e s m args below meth c Q D ad cy V pc ls (rest) := fun H locs hP hS => lv_iload_n X.1 X.2.1 hd hi hl (kk H locs hP hS)
theorem lz_aload_n (X : fm_X p s m args c code R_law D fm_cl fm_tm ad cy (lw_Aq s) fm_Ts 4) {k : Fin 4} {i : Nat} {x : Nat} (hd : decode code pc = .ok (.aload_n k, 1)) (hi : (k : Nat) = i) (hl : ls[i]? = some (.val (.ref x))) (kk : lz_W p l e s m args below meth c Q D ad cy V (pc + 1) ls (.ref x :: rest)) : lz_W p l e s m args below meth c Q D ad cy V pc ls (rest) := fun H locs hP hS => lv_aload_n X.1 X.2.1 hd hi hl (kk H locs hP hS)
theorem lz_iadd (X : fm_X p s m args c code R_law D fm_cl fm_tm ad cy (lw_Aq s) fm_Ts 4) {x y : Int32} (hd : decode code pc = .ok (.iadd, 1))  (kk : lz_W p l e s m args below meth c Q D ad cy V (pc + 1) ls (.int (x + y) :: rest)) : lz_W p l e s m args below meth c Q D ad cy V pc ls (.int y :: .int x :: rest) := fun H locs hP hS => lv_iadd X.1 X.2.1 hd (kk H locs hP hS)
theorem lz_isub (X : fm_X p s m args c code R_law D fm_cl fm_tm ad cy (lw_Aq s) fm_Ts 4) {x y : Int32} (hd : decode code pc = .ok (.isub, 1))  (kk : lz_W p l e s m args below meth c Q D ad cy V (pc + 1) ls (.int (x - y) :: rest)) : lz_W p l e s m args below meth c Q D ad cy V pc ls (.int y :: .int x :: rest) := fun H locs hP hS => lv_isub X.1 X.2.1 hd (kk H locs hP hS)
theorem lz_iand (X : fm_X p s m args c code R_law D fm_cl fm_tm ad cy (lw_Aq s) fm_Ts 4) {x y : Int32} (hd : decode code pc = .ok (.iand, 1))  (kk : lz_W p l e s m args below meth c Q D ad cy V (pc + 1) ls (.int (x &&& y) :: rest)) : lz_W p l e s m args below meth c Q D ad cy V pc ls (.int y :: .int x :: rest) := fun H locs hP hS => lv_iand X.1 X.2.1 hd (kk H locs hP hS)
theorem lz_pop (X : fm_X p s m args c code R_law D fm_cl fm_tm ad cy (lw_Aq s) fm_Ts 4) {va : Value} (hd : decode code pc = .ok (.pop, 1)) (hva : va.category = 1) (kk : lz_W p l e s m args below meth c Q D ad cy V (pc + 1) ls (rest)) : lz_W p l e s m args below meth c Q D ad cy V pc ls (va :: rest) := fun H locs hP hS => lv_pop X.1 X.2.1 hd hva (kk H locs hP hS)
theorem lz_len (X : fm_X p s m args c code R_law D fm_cl fm_tm ad cy (lw_Aq s) fm_Ts 4)  (hd : decode code pc = .ok (.arraylength, 1)) (hX : va_X b L xs s s.heap) (hbl : b < s.heap.size) (kk : lz_W p l e s m args below meth c Q D ad cy V (pc + 1) ls (.int (Int32.ofNat L) :: rest)) : lz_W p l e s m args below meth c Q D ad cy V pc ls (.ref b :: rest) := fun H locs hP hS => va_slen X.1 X.2.1 hX hbl (Nat.not_le.mpr hbl) hS hd (kk H locs hP hS)
theorem lz_sld (X : fm_X p s m args c code R_law D fm_cl fm_tm ad cy (lw_Aq s) fm_Ts 4) {i : Int32} (hd : decode code pc = .ok (.iaload, 1)) (hX : va_X b L xs s s.heap) (hbl : b < s.heap.size) (hin : 0 ≤ i.toInt ∧ i.toInt < L) (kk : lz_W p l e s m args below meth c Q D ad cy V (pc + 1) ls (.int (xs i.toNatClampNeg) :: rest)) : lz_W p l e s m args below meth c Q D ad cy V pc ls (.int i :: .ref b :: rest) := fun H locs hP hS => va_sld X.1 X.2.1 hX hbl (Nat.not_le.mpr hbl) hS (zi_in hin.1 hin.2) hd (kk H locs hP hS)
theorem lz_goto (X : fm_X p s m args c code R_law D fm_cl fm_tm ad cy (lw_Aq s) fm_Ts 4) {off : Int} (tgt : Nat) (hd : decode code pc = .ok (.goto off, 3)) (ht : (pc : Int) + off = (tgt : Int)) (kk : lz_W p l e s m args below meth c Q D ad cy V tgt ls rest) : lz_W p l e s m args below meth c Q D ad cy V pc ls rest := fun H locs hP hS => lv_goto X.1 X.2.1 hd ht (kk H locs hP hS)
theorem lz_icmp_gt (X : fm_X p s m args c code R_law D fm_cl fm_tm ad cy (lw_Aq s) fm_Ts 4) {x y : Int32} {off : Int} (tgt : Nat) (hd : decode code pc = .ok (.if_icmp .gt off, 3)) (ht : (pc : Int) + off = (tgt : Int)) (kt : y.toInt < x.toInt → lz_W p l e s m args below meth c Q D ad cy V tgt ls rest) (kf : ¬ y.toInt < x.toInt → lz_W p l e s m args below meth c Q D ad cy V (pc + 3) ls rest) : lz_W p l e s m args below meth c Q D ad cy V pc ls (.int y :: .int x :: rest) := fun H locs hP hS => lv_icmp_gt X.1 X.2.1 hd ht (fun h => kt (zi_lt.mp h) H locs hP hS) (fun h => kf (fun z => h (zi_lt.mpr z)) H locs hP hS)
theorem lz_same (X : fm_X p s m args c code R_law D fm_cl fm_tm ad cy (lw_Aq s) fm_Ts 4) {x y : Int32} {off : Int} (tgt : Nat) (hd : decode code pc = .ok (.if_icmp .eq off, 3)) (ht : (pc : Int) + off = (tgt : Int)) (he : x.toInt = y.toInt) (kk : lz_W p l e s m args below meth c Q D ad cy V tgt ls rest) : lz_W p l e s m args below meth c Q D ad cy V pc ls (.int y :: .int x :: rest) := fun H locs hP hS => lv_icmp_eq X.1 X.2.1 hd ht (fun _ => kk H locs hP hS) (fun h => absurd (zi_inj he) h)
theorem lz_nz (X : fm_X p s m args c code R_law D fm_cl fm_tm ad cy (lw_Aq s) fm_Ts 4) {z : Int32} (d0 : decode code pc = .ok (.ifCond .eq 7, 3)) (d1 : decode code (pc + 3) = .ok (.iconst 1, 1)) (d2 : decode code (pc + 3 + 1) = .ok (.goto 4, 3)) (d3 : decode code (pc + 7) = .ok (.iconst 0, 1)) (kk : lz_W p l e s m args below meth c Q D ad cy V (pc + 8) ls (.int (if z = 0 then 0 else 1) :: rest)) : lz_W p l e s m args below meth c Q D ad cy V pc ls (.int z :: rest) := by
  intro H locs hP hS
  refine lv_if_eq X.1 X.2.1 d0 (tgt := pc + 7) (by omega) (fun h => ?_) (fun h => ?_)
  · rw [if_pos h] at kk
    exact lv_iconst X.1 X.2.1 d3 (v := 0) rfl (kk H locs hP hS)
  · rw [if_neg h] at kk
    refine lv_iconst X.1 X.2.1 d1 (v := 1) rfl ?_
    exact lv_goto X.1 X.2.1 d2 (tgt := pc + 8) (by omega) (kk H locs hP hS)
theorem lz_tab (X : fm_X p s m args c code R_law D fm_cl fm_tm ad cy (lw_Aq s) fm_Ts 4) {dflt lo hi off : Int} {offs : Array Int} {len : Nat} {x : Int32} (k tgt : Nat) (hd : decode code pc = .ok (.tableswitch dflt lo hi offs, len)) (hlo : lo = 0) (hk : x.toInt = k) (hh : (k : Int) ≤ hi) (ho : offs[k]? = some off) (ht : (pc : Int) + off = (tgt : Int)) (kk : lz_W p l e s m args below meth c Q D ad cy V tgt ls rest) : lz_W p l e s m args below meth c Q D ad cy V pc ls (.int x :: rest) := fun H locs hP hS => lv_tableIn X.1 X.2.1 hd (by omega) (by omega) (by rw [hk, hlo, Int.sub_zero, Int.toNat_natCast]; exact ho) ht (kk H locs hP hS)
theorem lz_tabO (X : fm_X p s m args c code R_law D fm_cl fm_tm ad cy (lw_Aq s) fm_Ts 4) {dflt lo hi : Int} {offs : Array Int} {len : Nat} {x : Int32} (tgt : Nat) (hd : decode code pc = .ok (.tableswitch dflt lo hi offs, len)) (hk : hi < x.toInt) (ht : (pc : Int) + dflt = (tgt : Int)) (kk : lz_W p l e s m args below meth c Q D ad cy V tgt ls rest) : lz_W p l e s m args below meth c Q D ad cy V pc ls (.int x :: rest) := fun H locs hP hS => lv_tableOut X.1 X.2.1 hd (Or.inr hk) ht (kk H locs hP hS)
theorem lz_iinc (X : fm_X p s m args c code R_law D fm_cl fm_tm ad cy (lw_Aq s) fm_Ts 4) {i : Nat} {n : Int} {x : Int32} (hd : decode code pc = .ok (.iinc i n, 3)) (hl : ls[i]? = some (.val (.int x))) (hs : ls.size = 4) (hw : lv_wf ls) (hi : i < 4) (kk : ∀ ls', rv_sto ls ls' i (.int (x + Int32.ofInt n)) → lz_W p l e s m args below meth c Q D ad cy V (pc + 3) ls' rest) : lz_W p l e s m args below meth c Q D ad cy V pc ls rest := by
  obtain ⟨hx, hb, -⟩ := X
  obtain ⟨ls', e', h'⟩ := rv_sto_of (v := .int (x + Int32.ofInt n)) hw (show i < ls.size by omega) rfl
  intro H locs hP hS T hT X
  obtain ⟨t, a, b⟩ := kk ls' h' H locs hP hS T hT X
  refine ⟨t, ?_, b⟩
  jvm_step X.here [X.here.top, ↓top_set X.here.top, hx, hb, hd, hl, e']
  exact a
theorem lz_arg (X : fm_X p s m args c code R_law D fm_cl fm_tm ad cy (lw_Aq s) fm_Ts 4) (hX : va_X b L xs s s.heap) (hbl : b < s.heap.size) (hL : L ≤ 3072) {x3 : Int32} (hx3 : 0 ≤ x3.toInt ∧ x3.toInt + 6 ≤ L) (hl0 : ls[0]? = some (.val (.ref b))) (hl3 : ls[3]? = some (.val (.int x3))) {k : Int} (hk : 1 ≤ k ∧ k ≤ 5) (d0 : decode code pc = .ok (.aload_n 0, 1)) (d1 : decode code (pc + 1) = .ok (.iload_n 3, 1)) (d2 : decode code (pc + 1 + 1) = .ok (.iconst k, 1)) (d3 : decode code (pc + 1 + 1 + 1) = .ok (.iadd, 1)) (d4 : decode code (pc + 1 + 1 + 1 + 1) = .ok (.iaload, 1)) (kk : lz_W p l e s m args below meth c Q D ad cy V (pc + 5) ls (.int (xs (x3 + Int32.ofInt k).toNatClampNeg) :: rest)) : lz_W p l e s m args below meth c Q D ad cy V pc ls rest := by
  have e1 := zj_inc (x := x3) (n := k) (by omega) (by omega) (by omega) (by omega)
  refine lz_aload_n X d0 rfl hl0 ?_
  refine lz_iload_n X d1 rfl hl3 ?_
  refine lz_iconst X d2 rfl ?_
  refine lz_iadd X d3 ?_
  exact lz_sld X d4 hX hbl ⟨by omega, by omega⟩ kk
theorem lz_callW {po : Option Value → fm_V → Prop} {nt : fm_Nt} {st0 : List Value} {a : Array Value} {H : Heap} {locs : List Loc} (hr : va_Run p l e room_1 s m args below meth c H locs 600000 7302249 0 0 (F0 m pc ls st0) rest (rv_Qc D fm_cl fm_tm ad cy nt Z po a) (fm_A fm_tm ad)) (hS : va_S (lw_Aq s) s.heap H locs) (hA : ∀ q, fm_A fm_tm ad q → lw_Aq s q)
    (kk : ∀ (r : Option Value) (V' : fm_V), po r V' → lz_W p l e s m args below meth c Q D ad cy V' (pc + 3) ls (r.toList ++ rest)) : W p l e room_1 s m args below meth c H locs 600000 7302249 Q (F0 m pc ls st0) := by
  intro T hT X
  obtain ⟨v, st₀, t, T', L, h0, X', hL, e1, e2, ⟨⟨r, V', hv, hp, hw⟩, hz, hk⟩, st⟩ := hr T hT X
  cases hv
  rw [h0] at hz hk
  obtain ⟨t2, a1, b1⟩ := kk v V' hp T'.heap (locs ++ L) (by rw [e1]; exact hw.1)
    ⟨Nat.le_trans hS.1 (by rw [e1]; exact hz), fun q h1 h2 => by rw [e1, hk q (Nat.lt_of_lt_of_le h1 hS.1) (fun z => h2 (hA q z))]; exact hS.2.1 q h1 h2, fun q hq => by
      rcases List.mem_append.mp hq with h | h
      · exact hS.2.2 q h
      · exact hA _ (hL q h)⟩ T' rfl X'
  exact ⟨t2, st t2 a1, b1⟩
theorem lz_call (X : fm_X p s m args c code R_law D fm_cl fm_tm ad cy (lw_Aq s) fm_Ts 4) (Y : fm_Y s fm_nt Z fm_tm ad (lw_Aq s)) {po : Option Value → fm_V → Prop} {y : MethodName} {C : String} {idx maxL n : Nat} {bytes : ByteArray} {ret : Option FieldType} {rm : Room} (hd : decode code pc = .ok (.invokevirtual idx, 3)) {i : Nat} {vs st0 : List Value} (hM : gm_M l D fm_cl fm_tm ad cy fm_nt Z y (.code y bytes maxL ret :: fm_Ts) rm V (.ref (ad i) :: vs) po)
    (hl : Jvm.Cond.methodLink R_law idx y ∈ fm_Ts) (hw : Jvm.Cond.instanceMethod y ∈ fm_Ts ∧ Jvm.Cond.selects C y y ∈ fm_Ts ∧ Jvm.Cond.initialized C ∈ fm_Ts ∧ Jvm.Cond.code y bytes maxL ret ∈ fm_Ts) (hy : y.cls = C ∧ y.cls ≠ "java/lang/invoke/MethodHandle" ∧ y.cls ≠ "java/lang/invoke/VarHandle" ∧ (parseMethodDescriptor y.desc).map (fun d => d.parameters.length) = some n)
    (hrm : (rm.cells = 0 ∧ rm.slots = 0) ∧ rm.frames + 1 ≤ room_1.frames ∧ 8 + (maxL + 11) + rm.locals ≤ room_1.locals) {ci N : Nat} {T : u_T} {ts : List fm_F} (hci : fm_tm[i]? = some (.inr (ci, ts)) ∧ fm_cl[ci]? = some (C, T, N)) (hst : st0 = vs.reverse ++ .ref (ad i) :: rest) (hlen : vs.length = n) (hls : ls.size = 4) (hcat : (rest.map fun v => v.category).sum ≤ 8)
    (kk : ∀ r V', po r V' → lz_W p l e s m args below meth c Q D ad cy V' (pc + 3) ls (r.toList ++ rest)) : lz_W p l e s m args below meth c Q D ad cy V pc ls st0 := by
  obtain ⟨hx, hb, hown, hts, hKk, hD, hml⟩ := id X
  obtain ⟨hZ, hAA, hA, hN, hZ0⟩ := Y
  subst hst
  intro H locs hP hS
  refine lz_callW (a := (Value.ref (ad i) :: vs).toArray) (rest := rest) (va_runV (As := vs) (rest := rest) (C := C) (n := n) ⟨hx, hb, hml, hown, hts⟩ hM (cwV n hts (fm_Ts_good.of (fun w hw' => ?_)) rfl hrm.1.1 hrm.1.2 hy hrm.2) ⟨rv_Pc_blind hZ, va_recv hKk hP hci.2 (fm_ws_get (ad := ad) (cy := cy) (V := V) hci.1), fun U hU hW => ⟨rfl, fm_Wd_of hZ hAA hKk hN hZ0 hP hS hU hW⟩⟩ rfl hlen hls rfl (lv_room hcat) hd ⟨by decide, by decide⟩) hS hA kk
  unfold wsV at hw'
  rcases List.mem_append.mp hw' with hw' | hw'
  · simp only [List.mem_cons, List.not_mem_nil, or_false] at hw'
    rcases hw' with rfl | rfl | rfl | rfl
    · exact hl
    · exact hw.1
    · exact hw.2.1
    · exact hw.2.2.1
  · rcases List.mem_cons.mp hw' with rfl | hw'
    · exact hw.2.2.2
    · exact hw'
end LZ
/-- between calls: n calls are through -/
def lw_I (n : Nat) (V : fm_V) : Prop := fm_Tm fm_tm V ∧ fm_G V ∧ (0 ≤ (V 80 2).toInt ∧ (V 80 2).toInt ≤ 40 * (n : Int)) ∧ (0 ≤ (V 125 5).toInt ∧ (V 125 5).toInt ≤ 40 * (n : Int))
theorem lw_I.up {n : Nat} {V : fm_V} (h : lw_I n V) : lw_I (n + 1) V := ⟨h.1, h.2.1, ⟨h.2.2.1.1, by have := h.2.2.1.2; omega⟩, ⟨h.2.2.2.1, by have := h.2.2.2.2; omega⟩⟩
theorem lw_x {n : Nat} {V V1 : fm_V} {K : rv_K} {avs : List Value} {r : Option Value} (h : lw_I n V) (hp : rv_Post fm_tm K V avs r V1) (hM : K.2.2.1.all (fun q => decide (q.1 < 80)) = true) : lw_I n V1 := by
  have k : ∀ i f, 80 ≤ i → V1 i f = V i f := fun i f hi => hp.2.1 i f (by
    cases hb : rv_in K.2.2.1 i f with
    | false => rfl
    | true =>
      simp only [rv_in, List.any_eq_true, Bool.and_eq_true, decide_eq_true_eq] at hb
      obtain ⟨q, q1, q2, q3⟩ := hb
      have h1 := List.all_eq_true.mp hM q q1
      simp only [decide_eq_true_eq] at h1
      omega)
  refine ⟨hp.1, fm_G_gd V V1 (fun i f hif => k i f ?_) h.2.1, ?_, ?_⟩
  · simp only [fm_gd, Bool.and_eq_true, Bool.or_eq_true, decide_eq_true_eq] at hif
    omega
  · rw [k 80 2 (by decide)]; exact h.2.2.1
  · rw [k 125 5 (by decide)]; exact h.2.2.2
theorem lw_mk {n : Nat} {V V1 : fm_V} {M : List (Nat × Nat)} (h : lw_I n V) (hT : fm_Tm fm_tm V1) (hF : ∀ i f, rv_in M i f = false → V1 i f = V i f) (hM : fm_gk M = true) (hh : 0 ≤ (V1 80 2).toInt ∧ (V1 80 2).toInt ≤ 40 * ((n + 1 : Nat) : Int)) (hk : 0 ≤ (V1 125 5).toInt ∧ (V1 125 5).toInt ≤ 40 * ((n + 1 : Nat) : Int)) : lw_I (n + 1) V1 := ⟨hT, fm_gm fm_G_gd hM V V1 hF h.2.1, hh, hk⟩
theorem lw_m {n : Nat} {V V1 : fm_V} {K : rv_K} {avs : List Value} {r : Option Value} (h : lw_I n V) (hp : rv_Post fm_tm K V avs r V1) (hM : fm_gk K.2.2.1 = true ∧ rv_in K.2.2.1 80 2 = false ∧ rv_in K.2.2.1 125 5 = false) : lw_I (n + 1) V1 := by
  have h2 := h.up
  refine lw_mk h hp.1 hp.2.1 hM.1 ?_ ?_
  · rw [hp.2.1 80 2 hM.2.1]; exact h2.2.2.1
  · rw [hp.2.1 125 5 hM.2.2]; exact h2.2.2.2
theorem lw_mh {n : Nat} {V V1 : fm_V} {K : rv_K} {avs : List Value} {r : Option Value} (h : lw_I n V) (hp : rv_Post fm_tm K V avs r V1) (hM : fm_gk K.2.2.1 = true ∧ rv_in K.2.2.1 125 5 = false) {hi d : Int} (hq : (((80, 2), 0, hi, [((80, 2), 0, d)]) : rv_Fa) ∈ K.2.2.2.2.2) (hd : d ≤ 40) : lw_I (n + 1) V1 := by
  have h2 := h.up
  have q := hp.2.2.2 _ hq
  have q1 : (0 : Int) ≤ (V1 80 2).toInt := q.1.1
  have q2 : (V1 80 2).toInt - (V 80 2).toInt ≤ d := (q.2 ((80, 2), 0, d) (List.mem_singleton.mpr rfl)).2
  have q3 := h.2.2.1.2
  refine lw_mk h hp.1 hp.2.1 hM.1 ⟨q1, by omega⟩ ?_
  rw [hp.2.1 125 5 hM.2]; exact h2.2.2.2
theorem lw_hr {n : Nat} {V : fm_V} (h : lw_I n V) (hn : n < 512) {B : Int} (hB : 500000 ≤ B) : 0 ≤ (V 80 2).toInt ∧ (V 80 2).toInt ≤ B := ⟨h.2.2.1.1, by have := h.2.2.1.2; omega⟩
theorem lw_sr {n : Nat} {V : fm_V} (h : lw_I n V) (hn : n < 512) {B : Int} (hB : 500000 ≤ B) : 0 ≤ (V 125 5).toInt ∧ (V 125 5).toInt ≤ B := ⟨h.2.2.2.1, by have := h.2.2.2.2; omega⟩
theorem d_law_0 : decode code 0 = .ok (.new 7, 3) := by decide +kernel
theorem d_law_3 : decode code 3 = .ok (.dup, 1) := by decide +kernel
theorem d_law_4 : decode code 4 = .ok (.invokespecial 9, 3) := by decide +kernel
theorem d_law_7 : decode code 7 = .ok (.astore_n 1, 1) := by decide +kernel
theorem d_law_8 : decode code 8 = .ok (.new 10, 3) := by decide +kernel
theorem d_law_11 : decode code 11 = .ok (.dup, 1) := by decide +kernel
theorem d_law_12 : decode code 12 = .ok (.invokespecial 12, 3) := by decide +kernel
theorem d_law_15 : decode code 15 = .ok (.astore_n 2, 1) := by decide +kernel
theorem d_law_16 : decode code 16 = .ok (.iconst 0, 1) := by decide +kernel
theorem d_law_17 : decode code 17 = .ok (.istore_n 3, 1) := by decide +kernel
theorem d_law_18 : decode code 18 = .ok (.iload_n 3, 1) := by decide +kernel
theorem d_law_19 : decode code 19 = .ok (.aload_n 0, 1) := by decide +kernel
theorem d_law_20 : decode code 20 = .ok (.arraylength, 1) := by decide +kernel
theorem d_law_21 : decode code 21 = .ok (.bipush 6, 2) := by decide +kernel
theorem d_law_23 : decode code 23 = .ok (.isub, 1) := by decide +kernel
theorem d_law_24 : decode code 24 = .ok (.if_icmp .gt 1135, 3) := by decide +kernel
theorem d_law_27 : decode code 27 = .ok (.aload_n 0, 1) := by decide +kernel
theorem d_law_28 : decode code 28 = .ok (.iload_n 3, 1) := by decide +kernel
theorem d_law_29 : decode code 29 = .ok (.iaload, 1) := by decide +kernel
theorem d_law_30 : decode code 30 = .ok (.bipush 31, 2) := by decide +kernel
theorem d_law_32 : decode code 32 = .ok (.iand, 1) := by decide +kernel
theorem d_law_33 : decode code 33 = .ok (.tableswitch 1120 0 26 #[123, 192, 225, 288, 321, 354, 417, 440, 463, 486, 519, 552, 585, 648, 691, 724, 777, 820, 863, 906, 939, 982, 1025, 1048, 1061, 1074, 1097], 123) := by decide +kernel
theorem d_law_156 : decode code 156 = .ok (.aload_n 1, 1) := by decide +kernel
theorem d_law_157 : decode code 157 = .ok (.aload_n 0, 1) := by decide +kernel
theorem d_law_158 : decode code 158 = .ok (.iload_n 3, 1) := by decide +kernel
theorem d_law_159 : decode code 159 = .ok (.iconst 1, 1) := by decide +kernel
theorem d_law_160 : decode code 160 = .ok (.iadd, 1) := by decide +kernel
theorem d_law_161 : decode code 161 = .ok (.iaload, 1) := by decide +kernel
theorem d_law_162 : decode code 162 = .ok (.aload_n 0, 1) := by decide +kernel
theorem d_law_163 : decode code 163 = .ok (.iload_n 3, 1) := by decide +kernel
theorem d_law_164 : decode code 164 = .ok (.iconst 2, 1) := by decide +kernel
theorem d_law_165 : decode code 165 = .ok (.iadd, 1) := by decide +kernel
theorem d_law_166 : decode code 166 = .ok (.iaload, 1) := by decide +kernel
theorem d_law_167 : decode code 167 = .ok (.aload_n 0, 1) := by decide +kernel
theorem d_law_168 : decode code 168 = .ok (.iload_n 3, 1) := by decide +kernel
theorem d_law_169 : decode code 169 = .ok (.iconst 3, 1) := by decide +kernel
theorem d_law_170 : decode code 170 = .ok (.iadd, 1) := by decide +kernel
theorem d_law_171 : decode code 171 = .ok (.iaload, 1) := by decide +kernel
theorem d_law_172 : decode code 172 = .ok (.aload_n 0, 1) := by decide +kernel
theorem d_law_173 : decode code 173 = .ok (.iload_n 3, 1) := by decide +kernel
theorem d_law_174 : decode code 174 = .ok (.iconst 4, 1) := by decide +kernel
theorem d_law_175 : decode code 175 = .ok (.iadd, 1) := by decide +kernel
theorem d_law_176 : decode code 176 = .ok (.iaload, 1) := by decide +kernel
theorem d_law_177 : decode code 177 = .ok (.ifCond .eq 7, 3) := by decide +kernel
theorem d_law_180 : decode code 180 = .ok (.iconst 1, 1) := by decide +kernel
theorem d_law_181 : decode code 181 = .ok (.goto 4, 3) := by decide +kernel
theorem d_law_184 : decode code 184 = .ok (.iconst 0, 1) := by decide +kernel
theorem d_law_185 : decode code 185 = .ok (.invokevirtual 13, 3) := by decide +kernel
theorem d_law_188 : decode code 188 = .ok (.pop, 1) := by decide +kernel
theorem d_law_189 : decode code 189 = .ok (.aload_n 2, 1) := by decide +kernel
theorem d_law_190 : decode code 190 = .ok (.aload_n 0, 1) := by decide +kernel
theorem d_law_191 : decode code 191 = .ok (.iload_n 3, 1) := by decide +kernel
theorem d_law_192 : decode code 192 = .ok (.iconst 1, 1) := by decide +kernel
theorem d_law_193 : decode code 193 = .ok (.iadd, 1) := by decide +kernel
theorem d_law_194 : decode code 194 = .ok (.iaload, 1) := by decide +kernel
theorem d_law_195 : decode code 195 = .ok (.aload_n 0, 1) := by decide +kernel
theorem d_law_196 : decode code 196 = .ok (.iload_n 3, 1) := by decide +kernel
theorem d_law_197 : decode code 197 = .ok (.iconst 2, 1) := by decide +kernel
theorem d_law_198 : decode code 198 = .ok (.iadd, 1) := by decide +kernel
theorem d_law_199 : decode code 199 = .ok (.iaload, 1) := by decide +kernel
theorem d_law_200 : decode code 200 = .ok (.aload_n 0, 1) := by decide +kernel
theorem d_law_201 : decode code 201 = .ok (.iload_n 3, 1) := by decide +kernel
theorem d_law_202 : decode code 202 = .ok (.iconst 3, 1) := by decide +kernel
theorem d_law_203 : decode code 203 = .ok (.iadd, 1) := by decide +kernel
theorem d_law_204 : decode code 204 = .ok (.iaload, 1) := by decide +kernel
theorem d_law_205 : decode code 205 = .ok (.aload_n 0, 1) := by decide +kernel
theorem d_law_206 : decode code 206 = .ok (.iload_n 3, 1) := by decide +kernel
theorem d_law_207 : decode code 207 = .ok (.iconst 4, 1) := by decide +kernel
theorem d_law_208 : decode code 208 = .ok (.iadd, 1) := by decide +kernel
theorem d_law_209 : decode code 209 = .ok (.iaload, 1) := by decide +kernel
theorem d_law_210 : decode code 210 = .ok (.ifCond .eq 7, 3) := by decide +kernel
theorem d_law_213 : decode code 213 = .ok (.iconst 1, 1) := by decide +kernel
theorem d_law_214 : decode code 214 = .ok (.goto 4, 3) := by decide +kernel
theorem d_law_217 : decode code 217 = .ok (.iconst 0, 1) := by decide +kernel
theorem d_law_218 : decode code 218 = .ok (.invokevirtual 17, 3) := by decide +kernel
theorem d_law_221 : decode code 221 = .ok (.pop, 1) := by decide +kernel
theorem d_law_222 : decode code 222 = .ok (.goto 931, 3) := by decide +kernel
theorem d_law_225 : decode code 225 = .ok (.aload_n 1, 1) := by decide +kernel
theorem d_law_226 : decode code 226 = .ok (.aload_n 0, 1) := by decide +kernel
theorem d_law_227 : decode code 227 = .ok (.iload_n 3, 1) := by decide +kernel
theorem d_law_228 : decode code 228 = .ok (.iconst 1, 1) := by decide +kernel
theorem d_law_229 : decode code 229 = .ok (.iadd, 1) := by decide +kernel
theorem d_law_230 : decode code 230 = .ok (.iaload, 1) := by decide +kernel
theorem d_law_231 : decode code 231 = .ok (.aload_n 0, 1) := by decide +kernel
theorem d_law_232 : decode code 232 = .ok (.iload_n 3, 1) := by decide +kernel
theorem d_law_233 : decode code 233 = .ok (.iconst 2, 1) := by decide +kernel
theorem d_law_234 : decode code 234 = .ok (.iadd, 1) := by decide +kernel
theorem d_law_235 : decode code 235 = .ok (.iaload, 1) := by decide +kernel
theorem d_law_236 : decode code 236 = .ok (.invokevirtual 18, 3) := by decide +kernel
theorem d_law_239 : decode code 239 = .ok (.aload_n 2, 1) := by decide +kernel
theorem d_law_240 : decode code 240 = .ok (.aload_n 0, 1) := by decide +kernel
theorem d_law_241 : decode code 241 = .ok (.iload_n 3, 1) := by decide +kernel
theorem d_law_242 : decode code 242 = .ok (.iconst 1, 1) := by decide +kernel
theorem d_law_243 : decode code 243 = .ok (.iadd, 1) := by decide +kernel
theorem d_law_244 : decode code 244 = .ok (.iaload, 1) := by decide +kernel
theorem d_law_245 : decode code 245 = .ok (.aload_n 0, 1) := by decide +kernel
theorem d_law_246 : decode code 246 = .ok (.iload_n 3, 1) := by decide +kernel
theorem d_law_247 : decode code 247 = .ok (.iconst 2, 1) := by decide +kernel
theorem d_law_248 : decode code 248 = .ok (.iadd, 1) := by decide +kernel
theorem d_law_249 : decode code 249 = .ok (.iaload, 1) := by decide +kernel
theorem d_law_250 : decode code 250 = .ok (.invokevirtual 22, 3) := by decide +kernel
theorem d_law_253 : decode code 253 = .ok (.if_icmp .eq 900, 3) := by decide +kernel
theorem d_law_256 : decode code 256 = .ok (.iconst 0, 1) := by decide +kernel
theorem d_law_257 : decode code 257 = .ok (.ireturn, 1) := by decide +kernel
theorem d_law_258 : decode code 258 = .ok (.aload_n 1, 1) := by decide +kernel
theorem d_law_259 : decode code 259 = .ok (.aload_n 0, 1) := by decide +kernel
theorem d_law_260 : decode code 260 = .ok (.iload_n 3, 1) := by decide +kernel
theorem d_law_261 : decode code 261 = .ok (.iconst 1, 1) := by decide +kernel
theorem d_law_262 : decode code 262 = .ok (.iadd, 1) := by decide +kernel
theorem d_law_263 : decode code 263 = .ok (.iaload, 1) := by decide +kernel
theorem d_law_264 : decode code 264 = .ok (.aload_n 0, 1) := by decide +kernel
theorem d_law_265 : decode code 265 = .ok (.iload_n 3, 1) := by decide +kernel
theorem d_law_266 : decode code 266 = .ok (.iconst 2, 1) := by decide +kernel
theorem d_law_267 : decode code 267 = .ok (.iadd, 1) := by decide +kernel
theorem d_law_268 : decode code 268 = .ok (.iaload, 1) := by decide +kernel
theorem d_law_269 : decode code 269 = .ok (.aload_n 0, 1) := by decide +kernel
theorem d_law_270 : decode code 270 = .ok (.iload_n 3, 1) := by decide +kernel
theorem d_law_271 : decode code 271 = .ok (.iconst 3, 1) := by decide +kernel
theorem d_law_272 : decode code 272 = .ok (.iadd, 1) := by decide +kernel
theorem d_law_273 : decode code 273 = .ok (.iaload, 1) := by decide +kernel
theorem d_law_274 : decode code 274 = .ok (.aload_n 0, 1) := by decide +kernel
theorem d_law_275 : decode code 275 = .ok (.iload_n 3, 1) := by decide +kernel
theorem d_law_276 : decode code 276 = .ok (.iconst 4, 1) := by decide +kernel
theorem d_law_277 : decode code 277 = .ok (.iadd, 1) := by decide +kernel
theorem d_law_278 : decode code 278 = .ok (.iaload, 1) := by decide +kernel
theorem d_law_279 : decode code 279 = .ok (.aload_n 0, 1) := by decide +kernel
theorem d_law_280 : decode code 280 = .ok (.iload_n 3, 1) := by decide +kernel
theorem d_law_281 : decode code 281 = .ok (.iconst 5, 1) := by decide +kernel
theorem d_law_282 : decode code 282 = .ok (.iadd, 1) := by decide +kernel
theorem d_law_283 : decode code 283 = .ok (.iaload, 1) := by decide +kernel
theorem d_law_284 : decode code 284 = .ok (.invokevirtual 23, 3) := by decide +kernel
theorem d_law_287 : decode code 287 = .ok (.pop, 1) := by decide +kernel
theorem d_law_288 : decode code 288 = .ok (.aload_n 2, 1) := by decide +kernel
theorem d_law_289 : decode code 289 = .ok (.aload_n 0, 1) := by decide +kernel
theorem d_law_290 : decode code 290 = .ok (.iload_n 3, 1) := by decide +kernel
theorem d_law_291 : decode code 291 = .ok (.iconst 1, 1) := by decide +kernel
theorem d_law_292 : decode code 292 = .ok (.iadd, 1) := by decide +kernel
theorem d_law_293 : decode code 293 = .ok (.iaload, 1) := by decide +kernel
theorem d_law_294 : decode code 294 = .ok (.aload_n 0, 1) := by decide +kernel
theorem d_law_295 : decode code 295 = .ok (.iload_n 3, 1) := by decide +kernel
theorem d_law_296 : decode code 296 = .ok (.iconst 2, 1) := by decide +kernel
theorem d_law_297 : decode code 297 = .ok (.iadd, 1) := by decide +kernel
theorem d_law_298 : decode code 298 = .ok (.iaload, 1) := by decide +kernel
theorem d_law_299 : decode code 299 = .ok (.aload_n 0, 1) := by decide +kernel
theorem d_law_300 : decode code 300 = .ok (.iload_n 3, 1) := by decide +kernel
theorem d_law_301 : decode code 301 = .ok (.iconst 3, 1) := by decide +kernel
theorem d_law_302 : decode code 302 = .ok (.iadd, 1) := by decide +kernel
theorem d_law_303 : decode code 303 = .ok (.iaload, 1) := by decide +kernel
theorem d_law_304 : decode code 304 = .ok (.aload_n 0, 1) := by decide +kernel
theorem d_law_305 : decode code 305 = .ok (.iload_n 3, 1) := by decide +kernel
theorem d_law_306 : decode code 306 = .ok (.iconst 4, 1) := by decide +kernel
theorem d_law_307 : decode code 307 = .ok (.iadd, 1) := by decide +kernel
theorem d_law_308 : decode code 308 = .ok (.iaload, 1) := by decide +kernel
theorem d_law_309 : decode code 309 = .ok (.aload_n 0, 1) := by decide +kernel
theorem d_law_310 : decode code 310 = .ok (.iload_n 3, 1) := by decide +kernel
theorem d_law_311 : decode code 311 = .ok (.iconst 5, 1) := by decide +kernel
theorem d_law_312 : decode code 312 = .ok (.iadd, 1) := by decide +kernel
theorem d_law_313 : decode code 313 = .ok (.iaload, 1) := by decide +kernel
theorem d_law_314 : decode code 314 = .ok (.invokevirtual 27, 3) := by decide +kernel
theorem d_law_317 : decode code 317 = .ok (.pop, 1) := by decide +kernel
theorem d_law_318 : decode code 318 = .ok (.goto 835, 3) := by decide +kernel
theorem d_law_321 : decode code 321 = .ok (.aload_n 1, 1) := by decide +kernel
theorem d_law_322 : decode code 322 = .ok (.aload_n 0, 1) := by decide +kernel
theorem d_law_323 : decode code 323 = .ok (.iload_n 3, 1) := by decide +kernel
theorem d_law_324 : decode code 324 = .ok (.iconst 1, 1) := by decide +kernel
theorem d_law_325 : decode code 325 = .ok (.iadd, 1) := by decide +kernel
theorem d_law_326 : decode code 326 = .ok (.iaload, 1) := by decide +kernel
theorem d_law_327 : decode code 327 = .ok (.aload_n 0, 1) := by decide +kernel
theorem d_law_328 : decode code 328 = .ok (.iload_n 3, 1) := by decide +kernel
theorem d_law_329 : decode code 329 = .ok (.iconst 2, 1) := by decide +kernel
theorem d_law_330 : decode code 330 = .ok (.iadd, 1) := by decide +kernel
theorem d_law_331 : decode code 331 = .ok (.iaload, 1) := by decide +kernel
theorem d_law_332 : decode code 332 = .ok (.invokevirtual 28, 3) := by decide +kernel
theorem d_law_335 : decode code 335 = .ok (.pop, 1) := by decide +kernel
theorem d_law_336 : decode code 336 = .ok (.aload_n 2, 1) := by decide +kernel
theorem d_law_337 : decode code 337 = .ok (.aload_n 0, 1) := by decide +kernel
theorem d_law_338 : decode code 338 = .ok (.iload_n 3, 1) := by decide +kernel
theorem d_law_339 : decode code 339 = .ok (.iconst 1, 1) := by decide +kernel
theorem d_law_340 : decode code 340 = .ok (.iadd, 1) := by decide +kernel
theorem d_law_341 : decode code 341 = .ok (.iaload, 1) := by decide +kernel
theorem d_law_342 : decode code 342 = .ok (.aload_n 0, 1) := by decide +kernel
theorem d_law_343 : decode code 343 = .ok (.iload_n 3, 1) := by decide +kernel
theorem d_law_344 : decode code 344 = .ok (.iconst 2, 1) := by decide +kernel
theorem d_law_345 : decode code 345 = .ok (.iadd, 1) := by decide +kernel
theorem d_law_346 : decode code 346 = .ok (.iaload, 1) := by decide +kernel
theorem d_law_347 : decode code 347 = .ok (.invokevirtual 31, 3) := by decide +kernel
theorem d_law_350 : decode code 350 = .ok (.pop, 1) := by decide +kernel
theorem d_law_351 : decode code 351 = .ok (.goto 802, 3) := by decide +kernel
theorem d_law_354 : decode code 354 = .ok (.aload_n 1, 1) := by decide +kernel
theorem d_law_355 : decode code 355 = .ok (.aload_n 0, 1) := by decide +kernel
theorem d_law_356 : decode code 356 = .ok (.iload_n 3, 1) := by decide +kernel
theorem d_law_357 : decode code 357 = .ok (.iconst 1, 1) := by decide +kernel
theorem d_law_358 : decode code 358 = .ok (.iadd, 1) := by decide +kernel
theorem d_law_359 : decode code 359 = .ok (.iaload, 1) := by decide +kernel
theorem d_law_360 : decode code 360 = .ok (.aload_n 0, 1) := by decide +kernel
theorem d_law_361 : decode code 361 = .ok (.iload_n 3, 1) := by decide +kernel
theorem d_law_362 : decode code 362 = .ok (.iconst 2, 1) := by decide +kernel
theorem d_law_363 : decode code 363 = .ok (.iadd, 1) := by decide +kernel
theorem d_law_364 : decode code 364 = .ok (.iaload, 1) := by decide +kernel
theorem d_law_365 : decode code 365 = .ok (.invokevirtual 32, 3) := by decide +kernel
theorem d_law_368 : decode code 368 = .ok (.pop, 1) := by decide +kernel
theorem d_law_369 : decode code 369 = .ok (.aload_n 2, 1) := by decide +kernel
theorem d_law_370 : decode code 370 = .ok (.aload_n 0, 1) := by decide +kernel
theorem d_law_371 : decode code 371 = .ok (.iload_n 3, 1) := by decide +kernel
theorem d_law_372 : decode code 372 = .ok (.iconst 1, 1) := by decide +kernel
theorem d_law_373 : decode code 373 = .ok (.iadd, 1) := by decide +kernel
theorem d_law_374 : decode code 374 = .ok (.iaload, 1) := by decide +kernel
theorem d_law_375 : decode code 375 = .ok (.aload_n 0, 1) := by decide +kernel
theorem d_law_376 : decode code 376 = .ok (.iload_n 3, 1) := by decide +kernel
theorem d_law_377 : decode code 377 = .ok (.iconst 2, 1) := by decide +kernel
theorem d_law_378 : decode code 378 = .ok (.iadd, 1) := by decide +kernel
theorem d_law_379 : decode code 379 = .ok (.iaload, 1) := by decide +kernel
theorem d_law_380 : decode code 380 = .ok (.invokevirtual 35, 3) := by decide +kernel
theorem d_law_383 : decode code 383 = .ok (.pop, 1) := by decide +kernel
theorem d_law_384 : decode code 384 = .ok (.goto 769, 3) := by decide +kernel
theorem d_law_387 : decode code 387 = .ok (.aload_n 1, 1) := by decide +kernel
theorem d_law_388 : decode code 388 = .ok (.aload_n 0, 1) := by decide +kernel
theorem d_law_389 : decode code 389 = .ok (.iload_n 3, 1) := by decide +kernel
theorem d_law_390 : decode code 390 = .ok (.iconst 1, 1) := by decide +kernel
theorem d_law_391 : decode code 391 = .ok (.iadd, 1) := by decide +kernel
theorem d_law_392 : decode code 392 = .ok (.iaload, 1) := by decide +kernel
theorem d_law_393 : decode code 393 = .ok (.aload_n 0, 1) := by decide +kernel
theorem d_law_394 : decode code 394 = .ok (.iload_n 3, 1) := by decide +kernel
theorem d_law_395 : decode code 395 = .ok (.iconst 2, 1) := by decide +kernel
theorem d_law_396 : decode code 396 = .ok (.iadd, 1) := by decide +kernel
theorem d_law_397 : decode code 397 = .ok (.iaload, 1) := by decide +kernel
theorem d_law_398 : decode code 398 = .ok (.aload_n 0, 1) := by decide +kernel
theorem d_law_399 : decode code 399 = .ok (.iload_n 3, 1) := by decide +kernel
theorem d_law_400 : decode code 400 = .ok (.iconst 3, 1) := by decide +kernel
theorem d_law_401 : decode code 401 = .ok (.iadd, 1) := by decide +kernel
theorem d_law_402 : decode code 402 = .ok (.iaload, 1) := by decide +kernel
theorem d_law_403 : decode code 403 = .ok (.aload_n 0, 1) := by decide +kernel
theorem d_law_404 : decode code 404 = .ok (.iload_n 3, 1) := by decide +kernel
theorem d_law_405 : decode code 405 = .ok (.iconst 4, 1) := by decide +kernel
theorem d_law_406 : decode code 406 = .ok (.iadd, 1) := by decide +kernel
theorem d_law_407 : decode code 407 = .ok (.iaload, 1) := by decide +kernel
theorem d_law_408 : decode code 408 = .ok (.aload_n 0, 1) := by decide +kernel
theorem d_law_409 : decode code 409 = .ok (.iload_n 3, 1) := by decide +kernel
theorem d_law_410 : decode code 410 = .ok (.iconst 5, 1) := by decide +kernel
theorem d_law_411 : decode code 411 = .ok (.iadd, 1) := by decide +kernel
theorem d_law_412 : decode code 412 = .ok (.iaload, 1) := by decide +kernel
theorem d_law_413 : decode code 413 = .ok (.invokevirtual 36, 3) := by decide +kernel
theorem d_law_416 : decode code 416 = .ok (.pop, 1) := by decide +kernel
theorem d_law_417 : decode code 417 = .ok (.aload_n 2, 1) := by decide +kernel
theorem d_law_418 : decode code 418 = .ok (.aload_n 0, 1) := by decide +kernel
theorem d_law_419 : decode code 419 = .ok (.iload_n 3, 1) := by decide +kernel
theorem d_law_420 : decode code 420 = .ok (.iconst 1, 1) := by decide +kernel
theorem d_law_421 : decode code 421 = .ok (.iadd, 1) := by decide +kernel
theorem d_law_422 : decode code 422 = .ok (.iaload, 1) := by decide +kernel
theorem d_law_423 : decode code 423 = .ok (.aload_n 0, 1) := by decide +kernel
theorem d_law_424 : decode code 424 = .ok (.iload_n 3, 1) := by decide +kernel
theorem d_law_425 : decode code 425 = .ok (.iconst 2, 1) := by decide +kernel
theorem d_law_426 : decode code 426 = .ok (.iadd, 1) := by decide +kernel
theorem d_law_427 : decode code 427 = .ok (.iaload, 1) := by decide +kernel
theorem d_law_428 : decode code 428 = .ok (.aload_n 0, 1) := by decide +kernel
theorem d_law_429 : decode code 429 = .ok (.iload_n 3, 1) := by decide +kernel
theorem d_law_430 : decode code 430 = .ok (.iconst 3, 1) := by decide +kernel
theorem d_law_431 : decode code 431 = .ok (.iadd, 1) := by decide +kernel
theorem d_law_432 : decode code 432 = .ok (.iaload, 1) := by decide +kernel
theorem d_law_433 : decode code 433 = .ok (.aload_n 0, 1) := by decide +kernel
theorem d_law_434 : decode code 434 = .ok (.iload_n 3, 1) := by decide +kernel
theorem d_law_435 : decode code 435 = .ok (.iconst 4, 1) := by decide +kernel
theorem d_law_436 : decode code 436 = .ok (.iadd, 1) := by decide +kernel
theorem d_law_437 : decode code 437 = .ok (.iaload, 1) := by decide +kernel
theorem d_law_438 : decode code 438 = .ok (.aload_n 0, 1) := by decide +kernel
theorem d_law_439 : decode code 439 = .ok (.iload_n 3, 1) := by decide +kernel
theorem d_law_440 : decode code 440 = .ok (.iconst 5, 1) := by decide +kernel
theorem d_law_441 : decode code 441 = .ok (.iadd, 1) := by decide +kernel
theorem d_law_442 : decode code 442 = .ok (.iaload, 1) := by decide +kernel
theorem d_law_443 : decode code 443 = .ok (.invokevirtual 40, 3) := by decide +kernel
theorem d_law_446 : decode code 446 = .ok (.pop, 1) := by decide +kernel
theorem d_law_447 : decode code 447 = .ok (.goto 706, 3) := by decide +kernel
theorem d_law_450 : decode code 450 = .ok (.aload_n 1, 1) := by decide +kernel
theorem d_law_451 : decode code 451 = .ok (.aload_n 0, 1) := by decide +kernel
theorem d_law_452 : decode code 452 = .ok (.iload_n 3, 1) := by decide +kernel
theorem d_law_453 : decode code 453 = .ok (.iconst 1, 1) := by decide +kernel
theorem d_law_454 : decode code 454 = .ok (.iadd, 1) := by decide +kernel
theorem d_law_455 : decode code 455 = .ok (.iaload, 1) := by decide +kernel
theorem d_law_456 : decode code 456 = .ok (.invokevirtual 41, 3) := by decide +kernel
theorem d_law_459 : decode code 459 = .ok (.pop, 1) := by decide +kernel
theorem d_law_460 : decode code 460 = .ok (.aload_n 2, 1) := by decide +kernel
theorem d_law_461 : decode code 461 = .ok (.aload_n 0, 1) := by decide +kernel
theorem d_law_462 : decode code 462 = .ok (.iload_n 3, 1) := by decide +kernel
theorem d_law_463 : decode code 463 = .ok (.iconst 1, 1) := by decide +kernel
theorem d_law_464 : decode code 464 = .ok (.iadd, 1) := by decide +kernel
theorem d_law_465 : decode code 465 = .ok (.iaload, 1) := by decide +kernel
theorem d_law_466 : decode code 466 = .ok (.invokevirtual 45, 3) := by decide +kernel
theorem d_law_469 : decode code 469 = .ok (.pop, 1) := by decide +kernel
theorem d_law_470 : decode code 470 = .ok (.goto 683, 3) := by decide +kernel
theorem d_law_473 : decode code 473 = .ok (.aload_n 1, 1) := by decide +kernel
theorem d_law_474 : decode code 474 = .ok (.aload_n 0, 1) := by decide +kernel
theorem d_law_475 : decode code 475 = .ok (.iload_n 3, 1) := by decide +kernel
theorem d_law_476 : decode code 476 = .ok (.iconst 1, 1) := by decide +kernel
theorem d_law_477 : decode code 477 = .ok (.iadd, 1) := by decide +kernel
theorem d_law_478 : decode code 478 = .ok (.iaload, 1) := by decide +kernel
theorem d_law_479 : decode code 479 = .ok (.invokevirtual 46, 3) := by decide +kernel
theorem d_law_482 : decode code 482 = .ok (.pop, 1) := by decide +kernel
theorem d_law_483 : decode code 483 = .ok (.aload_n 2, 1) := by decide +kernel
theorem d_law_484 : decode code 484 = .ok (.aload_n 0, 1) := by decide +kernel
theorem d_law_485 : decode code 485 = .ok (.iload_n 3, 1) := by decide +kernel
theorem d_law_486 : decode code 486 = .ok (.iconst 1, 1) := by decide +kernel
theorem d_law_487 : decode code 487 = .ok (.iadd, 1) := by decide +kernel
theorem d_law_488 : decode code 488 = .ok (.iaload, 1) := by decide +kernel
theorem d_law_489 : decode code 489 = .ok (.invokevirtual 49, 3) := by decide +kernel
theorem d_law_492 : decode code 492 = .ok (.pop, 1) := by decide +kernel
theorem d_law_493 : decode code 493 = .ok (.goto 660, 3) := by decide +kernel
theorem d_law_496 : decode code 496 = .ok (.aload_n 1, 1) := by decide +kernel
theorem d_law_497 : decode code 497 = .ok (.aload_n 0, 1) := by decide +kernel
theorem d_law_498 : decode code 498 = .ok (.iload_n 3, 1) := by decide +kernel
theorem d_law_499 : decode code 499 = .ok (.iconst 1, 1) := by decide +kernel
theorem d_law_500 : decode code 500 = .ok (.iadd, 1) := by decide +kernel
theorem d_law_501 : decode code 501 = .ok (.iaload, 1) := by decide +kernel
theorem d_law_502 : decode code 502 = .ok (.invokevirtual 50, 3) := by decide +kernel
theorem d_law_505 : decode code 505 = .ok (.pop, 1) := by decide +kernel
theorem d_law_506 : decode code 506 = .ok (.aload_n 2, 1) := by decide +kernel
theorem d_law_507 : decode code 507 = .ok (.aload_n 0, 1) := by decide +kernel
theorem d_law_508 : decode code 508 = .ok (.iload_n 3, 1) := by decide +kernel
theorem d_law_509 : decode code 509 = .ok (.iconst 1, 1) := by decide +kernel
theorem d_law_510 : decode code 510 = .ok (.iadd, 1) := by decide +kernel
theorem d_law_511 : decode code 511 = .ok (.iaload, 1) := by decide +kernel
theorem d_law_512 : decode code 512 = .ok (.invokevirtual 53, 3) := by decide +kernel
theorem d_law_515 : decode code 515 = .ok (.pop, 1) := by decide +kernel
theorem d_law_516 : decode code 516 = .ok (.goto 637, 3) := by decide +kernel
theorem d_law_519 : decode code 519 = .ok (.aload_n 1, 1) := by decide +kernel
theorem d_law_520 : decode code 520 = .ok (.aload_n 0, 1) := by decide +kernel
theorem d_law_521 : decode code 521 = .ok (.iload_n 3, 1) := by decide +kernel
theorem d_law_522 : decode code 522 = .ok (.iconst 1, 1) := by decide +kernel
theorem d_law_523 : decode code 523 = .ok (.iadd, 1) := by decide +kernel
theorem d_law_524 : decode code 524 = .ok (.iaload, 1) := by decide +kernel
theorem d_law_525 : decode code 525 = .ok (.aload_n 0, 1) := by decide +kernel
theorem d_law_526 : decode code 526 = .ok (.iload_n 3, 1) := by decide +kernel
theorem d_law_527 : decode code 527 = .ok (.iconst 2, 1) := by decide +kernel
theorem d_law_528 : decode code 528 = .ok (.iadd, 1) := by decide +kernel
theorem d_law_529 : decode code 529 = .ok (.iaload, 1) := by decide +kernel
theorem d_law_530 : decode code 530 = .ok (.invokevirtual 54, 3) := by decide +kernel
theorem d_law_533 : decode code 533 = .ok (.pop, 1) := by decide +kernel
theorem d_law_534 : decode code 534 = .ok (.aload_n 2, 1) := by decide +kernel
theorem d_law_535 : decode code 535 = .ok (.aload_n 0, 1) := by decide +kernel
theorem d_law_536 : decode code 536 = .ok (.iload_n 3, 1) := by decide +kernel
theorem d_law_537 : decode code 537 = .ok (.iconst 1, 1) := by decide +kernel
theorem d_law_538 : decode code 538 = .ok (.iadd, 1) := by decide +kernel
theorem d_law_539 : decode code 539 = .ok (.iaload, 1) := by decide +kernel
theorem d_law_540 : decode code 540 = .ok (.aload_n 0, 1) := by decide +kernel
theorem d_law_541 : decode code 541 = .ok (.iload_n 3, 1) := by decide +kernel
theorem d_law_542 : decode code 542 = .ok (.iconst 2, 1) := by decide +kernel
theorem d_law_543 : decode code 543 = .ok (.iadd, 1) := by decide +kernel
theorem d_law_544 : decode code 544 = .ok (.iaload, 1) := by decide +kernel
theorem d_law_545 : decode code 545 = .ok (.invokevirtual 58, 3) := by decide +kernel
theorem d_law_548 : decode code 548 = .ok (.pop, 1) := by decide +kernel
theorem d_law_549 : decode code 549 = .ok (.goto 604, 3) := by decide +kernel
theorem d_law_552 : decode code 552 = .ok (.aload_n 1, 1) := by decide +kernel
theorem d_law_553 : decode code 553 = .ok (.aload_n 0, 1) := by decide +kernel
theorem d_law_554 : decode code 554 = .ok (.iload_n 3, 1) := by decide +kernel
theorem d_law_555 : decode code 555 = .ok (.iconst 1, 1) := by decide +kernel
theorem d_law_556 : decode code 556 = .ok (.iadd, 1) := by decide +kernel
theorem d_law_557 : decode code 557 = .ok (.iaload, 1) := by decide +kernel
theorem d_law_558 : decode code 558 = .ok (.aload_n 0, 1) := by decide +kernel
theorem d_law_559 : decode code 559 = .ok (.iload_n 3, 1) := by decide +kernel
theorem d_law_560 : decode code 560 = .ok (.iconst 2, 1) := by decide +kernel
theorem d_law_561 : decode code 561 = .ok (.iadd, 1) := by decide +kernel
theorem d_law_562 : decode code 562 = .ok (.iaload, 1) := by decide +kernel
theorem d_law_563 : decode code 563 = .ok (.invokevirtual 59, 3) := by decide +kernel
theorem d_law_566 : decode code 566 = .ok (.pop, 1) := by decide +kernel
theorem d_law_567 : decode code 567 = .ok (.aload_n 2, 1) := by decide +kernel
theorem d_law_568 : decode code 568 = .ok (.aload_n 0, 1) := by decide +kernel
theorem d_law_569 : decode code 569 = .ok (.iload_n 3, 1) := by decide +kernel
theorem d_law_570 : decode code 570 = .ok (.iconst 1, 1) := by decide +kernel
theorem d_law_571 : decode code 571 = .ok (.iadd, 1) := by decide +kernel
theorem d_law_572 : decode code 572 = .ok (.iaload, 1) := by decide +kernel
theorem d_law_573 : decode code 573 = .ok (.aload_n 0, 1) := by decide +kernel
theorem d_law_574 : decode code 574 = .ok (.iload_n 3, 1) := by decide +kernel
theorem d_law_575 : decode code 575 = .ok (.iconst 2, 1) := by decide +kernel
theorem d_law_576 : decode code 576 = .ok (.iadd, 1) := by decide +kernel
theorem d_law_577 : decode code 577 = .ok (.iaload, 1) := by decide +kernel
theorem d_law_578 : decode code 578 = .ok (.invokevirtual 62, 3) := by decide +kernel
theorem d_law_581 : decode code 581 = .ok (.pop, 1) := by decide +kernel
theorem d_law_582 : decode code 582 = .ok (.goto 571, 3) := by decide +kernel
theorem d_law_585 : decode code 585 = .ok (.aload_n 1, 1) := by decide +kernel
theorem d_law_586 : decode code 586 = .ok (.aload_n 0, 1) := by decide +kernel
theorem d_law_587 : decode code 587 = .ok (.iload_n 3, 1) := by decide +kernel
theorem d_law_588 : decode code 588 = .ok (.iconst 1, 1) := by decide +kernel
theorem d_law_589 : decode code 589 = .ok (.iadd, 1) := by decide +kernel
theorem d_law_590 : decode code 590 = .ok (.iaload, 1) := by decide +kernel
theorem d_law_591 : decode code 591 = .ok (.aload_n 0, 1) := by decide +kernel
theorem d_law_592 : decode code 592 = .ok (.iload_n 3, 1) := by decide +kernel
theorem d_law_593 : decode code 593 = .ok (.iconst 2, 1) := by decide +kernel
theorem d_law_594 : decode code 594 = .ok (.iadd, 1) := by decide +kernel
theorem d_law_595 : decode code 595 = .ok (.iaload, 1) := by decide +kernel
theorem d_law_596 : decode code 596 = .ok (.invokevirtual 63, 3) := by decide +kernel
theorem d_law_599 : decode code 599 = .ok (.pop, 1) := by decide +kernel
theorem d_law_600 : decode code 600 = .ok (.aload_n 2, 1) := by decide +kernel
theorem d_law_601 : decode code 601 = .ok (.aload_n 0, 1) := by decide +kernel
theorem d_law_602 : decode code 602 = .ok (.iload_n 3, 1) := by decide +kernel
theorem d_law_603 : decode code 603 = .ok (.iconst 1, 1) := by decide +kernel
theorem d_law_604 : decode code 604 = .ok (.iadd, 1) := by decide +kernel
theorem d_law_605 : decode code 605 = .ok (.iaload, 1) := by decide +kernel
theorem d_law_606 : decode code 606 = .ok (.aload_n 0, 1) := by decide +kernel
theorem d_law_607 : decode code 607 = .ok (.iload_n 3, 1) := by decide +kernel
theorem d_law_608 : decode code 608 = .ok (.iconst 2, 1) := by decide +kernel
theorem d_law_609 : decode code 609 = .ok (.iadd, 1) := by decide +kernel
theorem d_law_610 : decode code 610 = .ok (.iaload, 1) := by decide +kernel
theorem d_law_611 : decode code 611 = .ok (.invokevirtual 66, 3) := by decide +kernel
theorem d_law_614 : decode code 614 = .ok (.pop, 1) := by decide +kernel
theorem d_law_615 : decode code 615 = .ok (.goto 538, 3) := by decide +kernel
theorem d_law_618 : decode code 618 = .ok (.aload_n 1, 1) := by decide +kernel
theorem d_law_619 : decode code 619 = .ok (.aload_n 0, 1) := by decide +kernel
theorem d_law_620 : decode code 620 = .ok (.iload_n 3, 1) := by decide +kernel
theorem d_law_621 : decode code 621 = .ok (.iconst 1, 1) := by decide +kernel
theorem d_law_622 : decode code 622 = .ok (.iadd, 1) := by decide +kernel
theorem d_law_623 : decode code 623 = .ok (.iaload, 1) := by decide +kernel
theorem d_law_624 : decode code 624 = .ok (.aload_n 0, 1) := by decide +kernel
theorem d_law_625 : decode code 625 = .ok (.iload_n 3, 1) := by decide +kernel
theorem d_law_626 : decode code 626 = .ok (.iconst 2, 1) := by decide +kernel
theorem d_law_627 : decode code 627 = .ok (.iadd, 1) := by decide +kernel
theorem d_law_628 : decode code 628 = .ok (.iaload, 1) := by decide +kernel
theorem d_law_629 : decode code 629 = .ok (.aload_n 0, 1) := by decide +kernel
theorem d_law_630 : decode code 630 = .ok (.iload_n 3, 1) := by decide +kernel
theorem d_law_631 : decode code 631 = .ok (.iconst 3, 1) := by decide +kernel
theorem d_law_632 : decode code 632 = .ok (.iadd, 1) := by decide +kernel
theorem d_law_633 : decode code 633 = .ok (.iaload, 1) := by decide +kernel
theorem d_law_634 : decode code 634 = .ok (.aload_n 0, 1) := by decide +kernel
theorem d_law_635 : decode code 635 = .ok (.iload_n 3, 1) := by decide +kernel
theorem d_law_636 : decode code 636 = .ok (.iconst 4, 1) := by decide +kernel
theorem d_law_637 : decode code 637 = .ok (.iadd, 1) := by decide +kernel
theorem d_law_638 : decode code 638 = .ok (.iaload, 1) := by decide +kernel
theorem d_law_639 : decode code 639 = .ok (.aload_n 0, 1) := by decide +kernel
theorem d_law_640 : decode code 640 = .ok (.iload_n 3, 1) := by decide +kernel
theorem d_law_641 : decode code 641 = .ok (.iconst 5, 1) := by decide +kernel
theorem d_law_642 : decode code 642 = .ok (.iadd, 1) := by decide +kernel
theorem d_law_643 : decode code 643 = .ok (.iaload, 1) := by decide +kernel
theorem d_law_644 : decode code 644 = .ok (.invokevirtual 67, 3) := by decide +kernel
theorem d_law_647 : decode code 647 = .ok (.pop, 1) := by decide +kernel
theorem d_law_648 : decode code 648 = .ok (.aload_n 2, 1) := by decide +kernel
theorem d_law_649 : decode code 649 = .ok (.aload_n 0, 1) := by decide +kernel
theorem d_law_650 : decode code 650 = .ok (.iload_n 3, 1) := by decide +kernel
theorem d_law_651 : decode code 651 = .ok (.iconst 1, 1) := by decide +kernel
theorem d_law_652 : decode code 652 = .ok (.iadd, 1) := by decide +kernel
theorem d_law_653 : decode code 653 = .ok (.iaload, 1) := by decide +kernel
theorem d_law_654 : decode code 654 = .ok (.aload_n 0, 1) := by decide +kernel
theorem d_law_655 : decode code 655 = .ok (.iload_n 3, 1) := by decide +kernel
theorem d_law_656 : decode code 656 = .ok (.iconst 2, 1) := by decide +kernel
theorem d_law_657 : decode code 657 = .ok (.iadd, 1) := by decide +kernel
theorem d_law_658 : decode code 658 = .ok (.iaload, 1) := by decide +kernel
theorem d_law_659 : decode code 659 = .ok (.aload_n 0, 1) := by decide +kernel
theorem d_law_660 : decode code 660 = .ok (.iload_n 3, 1) := by decide +kernel
theorem d_law_661 : decode code 661 = .ok (.iconst 3, 1) := by decide +kernel
theorem d_law_662 : decode code 662 = .ok (.iadd, 1) := by decide +kernel
theorem d_law_663 : decode code 663 = .ok (.iaload, 1) := by decide +kernel
theorem d_law_664 : decode code 664 = .ok (.aload_n 0, 1) := by decide +kernel
theorem d_law_665 : decode code 665 = .ok (.iload_n 3, 1) := by decide +kernel
theorem d_law_666 : decode code 666 = .ok (.iconst 4, 1) := by decide +kernel
theorem d_law_667 : decode code 667 = .ok (.iadd, 1) := by decide +kernel
theorem d_law_668 : decode code 668 = .ok (.iaload, 1) := by decide +kernel
theorem d_law_669 : decode code 669 = .ok (.aload_n 0, 1) := by decide +kernel
theorem d_law_670 : decode code 670 = .ok (.iload_n 3, 1) := by decide +kernel
theorem d_law_671 : decode code 671 = .ok (.iconst 5, 1) := by decide +kernel
theorem d_law_672 : decode code 672 = .ok (.iadd, 1) := by decide +kernel
theorem d_law_673 : decode code 673 = .ok (.iaload, 1) := by decide +kernel
theorem d_law_674 : decode code 674 = .ok (.invokevirtual 70, 3) := by decide +kernel
theorem d_law_677 : decode code 677 = .ok (.pop, 1) := by decide +kernel
theorem d_law_678 : decode code 678 = .ok (.goto 475, 3) := by decide +kernel
theorem d_law_681 : decode code 681 = .ok (.aload_n 1, 1) := by decide +kernel
theorem d_law_682 : decode code 682 = .ok (.aload_n 0, 1) := by decide +kernel
theorem d_law_683 : decode code 683 = .ok (.iload_n 3, 1) := by decide +kernel
theorem d_law_684 : decode code 684 = .ok (.iconst 1, 1) := by decide +kernel
theorem d_law_685 : decode code 685 = .ok (.iadd, 1) := by decide +kernel
theorem d_law_686 : decode code 686 = .ok (.iaload, 1) := by decide +kernel
theorem d_law_687 : decode code 687 = .ok (.aload_n 0, 1) := by decide +kernel
theorem d_law_688 : decode code 688 = .ok (.iload_n 3, 1) := by decide +kernel
theorem d_law_689 : decode code 689 = .ok (.iconst 2, 1) := by decide +kernel
theorem d_law_690 : decode code 690 = .ok (.iadd, 1) := by decide +kernel
theorem d_law_691 : decode code 691 = .ok (.iaload, 1) := by decide +kernel
theorem d_law_692 : decode code 692 = .ok (.aload_n 0, 1) := by decide +kernel
theorem d_law_693 : decode code 693 = .ok (.iload_n 3, 1) := by decide +kernel
theorem d_law_694 : decode code 694 = .ok (.iconst 3, 1) := by decide +kernel
theorem d_law_695 : decode code 695 = .ok (.iadd, 1) := by decide +kernel
theorem d_law_696 : decode code 696 = .ok (.iaload, 1) := by decide +kernel
theorem d_law_697 : decode code 697 = .ok (.invokevirtual 71, 3) := by decide +kernel
theorem d_law_700 : decode code 700 = .ok (.pop, 1) := by decide +kernel
theorem d_law_701 : decode code 701 = .ok (.aload_n 2, 1) := by decide +kernel
theorem d_law_702 : decode code 702 = .ok (.aload_n 0, 1) := by decide +kernel
theorem d_law_703 : decode code 703 = .ok (.iload_n 3, 1) := by decide +kernel
theorem d_law_704 : decode code 704 = .ok (.iconst 1, 1) := by decide +kernel
theorem d_law_705 : decode code 705 = .ok (.iadd, 1) := by decide +kernel
theorem d_law_706 : decode code 706 = .ok (.iaload, 1) := by decide +kernel
theorem d_law_707 : decode code 707 = .ok (.aload_n 0, 1) := by decide +kernel
theorem d_law_708 : decode code 708 = .ok (.iload_n 3, 1) := by decide +kernel
theorem d_law_709 : decode code 709 = .ok (.iconst 2, 1) := by decide +kernel
theorem d_law_710 : decode code 710 = .ok (.iadd, 1) := by decide +kernel
theorem d_law_711 : decode code 711 = .ok (.iaload, 1) := by decide +kernel
theorem d_law_712 : decode code 712 = .ok (.aload_n 0, 1) := by decide +kernel
theorem d_law_713 : decode code 713 = .ok (.iload_n 3, 1) := by decide +kernel
theorem d_law_714 : decode code 714 = .ok (.iconst 3, 1) := by decide +kernel
theorem d_law_715 : decode code 715 = .ok (.iadd, 1) := by decide +kernel
theorem d_law_716 : decode code 716 = .ok (.iaload, 1) := by decide +kernel
theorem d_law_717 : decode code 717 = .ok (.invokevirtual 75, 3) := by decide +kernel
theorem d_law_720 : decode code 720 = .ok (.pop, 1) := by decide +kernel
theorem d_law_721 : decode code 721 = .ok (.goto 432, 3) := by decide +kernel
theorem d_law_724 : decode code 724 = .ok (.aload_n 1, 1) := by decide +kernel
theorem d_law_725 : decode code 725 = .ok (.aload_n 0, 1) := by decide +kernel
theorem d_law_726 : decode code 726 = .ok (.iload_n 3, 1) := by decide +kernel
theorem d_law_727 : decode code 727 = .ok (.iconst 1, 1) := by decide +kernel
theorem d_law_728 : decode code 728 = .ok (.iadd, 1) := by decide +kernel
theorem d_law_729 : decode code 729 = .ok (.iaload, 1) := by decide +kernel
theorem d_law_730 : decode code 730 = .ok (.aload_n 0, 1) := by decide +kernel
theorem d_law_731 : decode code 731 = .ok (.iload_n 3, 1) := by decide +kernel
theorem d_law_732 : decode code 732 = .ok (.iconst 2, 1) := by decide +kernel
theorem d_law_733 : decode code 733 = .ok (.iadd, 1) := by decide +kernel
theorem d_law_734 : decode code 734 = .ok (.iaload, 1) := by decide +kernel
theorem d_law_735 : decode code 735 = .ok (.invokevirtual 76, 3) := by decide +kernel
theorem d_law_738 : decode code 738 = .ok (.pop, 1) := by decide +kernel
theorem d_law_739 : decode code 739 = .ok (.aload_n 2, 1) := by decide +kernel
theorem d_law_740 : decode code 740 = .ok (.aload_n 0, 1) := by decide +kernel
theorem d_law_741 : decode code 741 = .ok (.iload_n 3, 1) := by decide +kernel
theorem d_law_742 : decode code 742 = .ok (.iconst 1, 1) := by decide +kernel
theorem d_law_743 : decode code 743 = .ok (.iadd, 1) := by decide +kernel
theorem d_law_744 : decode code 744 = .ok (.iaload, 1) := by decide +kernel
theorem d_law_745 : decode code 745 = .ok (.aload_n 0, 1) := by decide +kernel
theorem d_law_746 : decode code 746 = .ok (.iload_n 3, 1) := by decide +kernel
theorem d_law_747 : decode code 747 = .ok (.iconst 2, 1) := by decide +kernel
theorem d_law_748 : decode code 748 = .ok (.iadd, 1) := by decide +kernel
theorem d_law_749 : decode code 749 = .ok (.iaload, 1) := by decide +kernel
theorem d_law_750 : decode code 750 = .ok (.invokevirtual 79, 3) := by decide +kernel
theorem d_law_753 : decode code 753 = .ok (.pop, 1) := by decide +kernel
theorem d_law_754 : decode code 754 = .ok (.goto 399, 3) := by decide +kernel
theorem d_law_757 : decode code 757 = .ok (.aload_n 1, 1) := by decide +kernel
theorem d_law_758 : decode code 758 = .ok (.aload_n 0, 1) := by decide +kernel
theorem d_law_759 : decode code 759 = .ok (.iload_n 3, 1) := by decide +kernel
theorem d_law_760 : decode code 760 = .ok (.iconst 1, 1) := by decide +kernel
theorem d_law_761 : decode code 761 = .ok (.iadd, 1) := by decide +kernel
theorem d_law_762 : decode code 762 = .ok (.iaload, 1) := by decide +kernel
theorem d_law_763 : decode code 763 = .ok (.aload_n 0, 1) := by decide +kernel
theorem d_law_764 : decode code 764 = .ok (.iload_n 3, 1) := by decide +kernel
theorem d_law_765 : decode code 765 = .ok (.iconst 2, 1) := by decide +kernel
theorem d_law_766 : decode code 766 = .ok (.iadd, 1) := by decide +kernel
theorem d_law_767 : decode code 767 = .ok (.iaload, 1) := by decide +kernel
theorem d_law_768 : decode code 768 = .ok (.aload_n 0, 1) := by decide +kernel
theorem d_law_769 : decode code 769 = .ok (.iload_n 3, 1) := by decide +kernel
theorem d_law_770 : decode code 770 = .ok (.iconst 3, 1) := by decide +kernel
theorem d_law_771 : decode code 771 = .ok (.iadd, 1) := by decide +kernel
theorem d_law_772 : decode code 772 = .ok (.iaload, 1) := by decide +kernel
theorem d_law_773 : decode code 773 = .ok (.aload_n 0, 1) := by decide +kernel
theorem d_law_774 : decode code 774 = .ok (.iload_n 3, 1) := by decide +kernel
theorem d_law_775 : decode code 775 = .ok (.iconst 4, 1) := by decide +kernel
theorem d_law_776 : decode code 776 = .ok (.iadd, 1) := by decide +kernel
theorem d_law_777 : decode code 777 = .ok (.iaload, 1) := by decide +kernel
theorem d_law_778 : decode code 778 = .ok (.invokevirtual 80, 3) := by decide +kernel
theorem d_law_781 : decode code 781 = .ok (.pop, 1) := by decide +kernel
theorem d_law_782 : decode code 782 = .ok (.aload_n 2, 1) := by decide +kernel
theorem d_law_783 : decode code 783 = .ok (.aload_n 0, 1) := by decide +kernel
theorem d_law_784 : decode code 784 = .ok (.iload_n 3, 1) := by decide +kernel
theorem d_law_785 : decode code 785 = .ok (.iconst 1, 1) := by decide +kernel
theorem d_law_786 : decode code 786 = .ok (.iadd, 1) := by decide +kernel
theorem d_law_787 : decode code 787 = .ok (.iaload, 1) := by decide +kernel
theorem d_law_788 : decode code 788 = .ok (.aload_n 0, 1) := by decide +kernel
theorem d_law_789 : decode code 789 = .ok (.iload_n 3, 1) := by decide +kernel
theorem d_law_790 : decode code 790 = .ok (.iconst 2, 1) := by decide +kernel
theorem d_law_791 : decode code 791 = .ok (.iadd, 1) := by decide +kernel
theorem d_law_792 : decode code 792 = .ok (.iaload, 1) := by decide +kernel
theorem d_law_793 : decode code 793 = .ok (.aload_n 0, 1) := by decide +kernel
theorem d_law_794 : decode code 794 = .ok (.iload_n 3, 1) := by decide +kernel
theorem d_law_795 : decode code 795 = .ok (.iconst 3, 1) := by decide +kernel
theorem d_law_796 : decode code 796 = .ok (.iadd, 1) := by decide +kernel
theorem d_law_797 : decode code 797 = .ok (.iaload, 1) := by decide +kernel
theorem d_law_798 : decode code 798 = .ok (.aload_n 0, 1) := by decide +kernel
theorem d_law_799 : decode code 799 = .ok (.iload_n 3, 1) := by decide +kernel
theorem d_law_800 : decode code 800 = .ok (.iconst 4, 1) := by decide +kernel
theorem d_law_801 : decode code 801 = .ok (.iadd, 1) := by decide +kernel
theorem d_law_802 : decode code 802 = .ok (.iaload, 1) := by decide +kernel
theorem d_law_803 : decode code 803 = .ok (.invokevirtual 84, 3) := by decide +kernel
theorem d_law_806 : decode code 806 = .ok (.pop, 1) := by decide +kernel
theorem d_law_807 : decode code 807 = .ok (.goto 346, 3) := by decide +kernel
theorem d_law_810 : decode code 810 = .ok (.aload_n 1, 1) := by decide +kernel
theorem d_law_811 : decode code 811 = .ok (.aload_n 0, 1) := by decide +kernel
theorem d_law_812 : decode code 812 = .ok (.iload_n 3, 1) := by decide +kernel
theorem d_law_813 : decode code 813 = .ok (.iconst 1, 1) := by decide +kernel
theorem d_law_814 : decode code 814 = .ok (.iadd, 1) := by decide +kernel
theorem d_law_815 : decode code 815 = .ok (.iaload, 1) := by decide +kernel
theorem d_law_816 : decode code 816 = .ok (.aload_n 0, 1) := by decide +kernel
theorem d_law_817 : decode code 817 = .ok (.iload_n 3, 1) := by decide +kernel
theorem d_law_818 : decode code 818 = .ok (.iconst 2, 1) := by decide +kernel
theorem d_law_819 : decode code 819 = .ok (.iadd, 1) := by decide +kernel
theorem d_law_820 : decode code 820 = .ok (.iaload, 1) := by decide +kernel
theorem d_law_821 : decode code 821 = .ok (.aload_n 0, 1) := by decide +kernel
theorem d_law_822 : decode code 822 = .ok (.iload_n 3, 1) := by decide +kernel
theorem d_law_823 : decode code 823 = .ok (.iconst 3, 1) := by decide +kernel
theorem d_law_824 : decode code 824 = .ok (.iadd, 1) := by decide +kernel
theorem d_law_825 : decode code 825 = .ok (.iaload, 1) := by decide +kernel
theorem d_law_826 : decode code 826 = .ok (.invokevirtual 85, 3) := by decide +kernel
theorem d_law_829 : decode code 829 = .ok (.pop, 1) := by decide +kernel
theorem d_law_830 : decode code 830 = .ok (.aload_n 2, 1) := by decide +kernel
theorem d_law_831 : decode code 831 = .ok (.aload_n 0, 1) := by decide +kernel
theorem d_law_832 : decode code 832 = .ok (.iload_n 3, 1) := by decide +kernel
theorem d_law_833 : decode code 833 = .ok (.iconst 1, 1) := by decide +kernel
theorem d_law_834 : decode code 834 = .ok (.iadd, 1) := by decide +kernel
theorem d_law_835 : decode code 835 = .ok (.iaload, 1) := by decide +kernel
theorem d_law_836 : decode code 836 = .ok (.aload_n 0, 1) := by decide +kernel
theorem d_law_837 : decode code 837 = .ok (.iload_n 3, 1) := by decide +kernel
theorem d_law_838 : decode code 838 = .ok (.iconst 2, 1) := by decide +kernel
theorem d_law_839 : decode code 839 = .ok (.iadd, 1) := by decide +kernel
theorem d_law_840 : decode code 840 = .ok (.iaload, 1) := by decide +kernel
theorem d_law_841 : decode code 841 = .ok (.aload_n 0, 1) := by decide +kernel
theorem d_law_842 : decode code 842 = .ok (.iload_n 3, 1) := by decide +kernel
theorem d_law_843 : decode code 843 = .ok (.iconst 3, 1) := by decide +kernel
theorem d_law_844 : decode code 844 = .ok (.iadd, 1) := by decide +kernel
theorem d_law_845 : decode code 845 = .ok (.iaload, 1) := by decide +kernel
theorem d_law_846 : decode code 846 = .ok (.invokevirtual 88, 3) := by decide +kernel
theorem d_law_849 : decode code 849 = .ok (.pop, 1) := by decide +kernel
theorem d_law_850 : decode code 850 = .ok (.goto 303, 3) := by decide +kernel
theorem d_law_853 : decode code 853 = .ok (.aload_n 1, 1) := by decide +kernel
theorem d_law_854 : decode code 854 = .ok (.aload_n 0, 1) := by decide +kernel
theorem d_law_855 : decode code 855 = .ok (.iload_n 3, 1) := by decide +kernel
theorem d_law_856 : decode code 856 = .ok (.iconst 1, 1) := by decide +kernel
theorem d_law_857 : decode code 857 = .ok (.iadd, 1) := by decide +kernel
theorem d_law_858 : decode code 858 = .ok (.iaload, 1) := by decide +kernel
theorem d_law_859 : decode code 859 = .ok (.aload_n 0, 1) := by decide +kernel
theorem d_law_860 : decode code 860 = .ok (.iload_n 3, 1) := by decide +kernel
theorem d_law_861 : decode code 861 = .ok (.iconst 2, 1) := by decide +kernel
theorem d_law_862 : decode code 862 = .ok (.iadd, 1) := by decide +kernel
theorem d_law_863 : decode code 863 = .ok (.iaload, 1) := by decide +kernel
theorem d_law_864 : decode code 864 = .ok (.aload_n 0, 1) := by decide +kernel
theorem d_law_865 : decode code 865 = .ok (.iload_n 3, 1) := by decide +kernel
theorem d_law_866 : decode code 866 = .ok (.iconst 3, 1) := by decide +kernel
theorem d_law_867 : decode code 867 = .ok (.iadd, 1) := by decide +kernel
theorem d_law_868 : decode code 868 = .ok (.iaload, 1) := by decide +kernel
theorem d_law_869 : decode code 869 = .ok (.invokevirtual 89, 3) := by decide +kernel
theorem d_law_872 : decode code 872 = .ok (.pop, 1) := by decide +kernel
theorem d_law_873 : decode code 873 = .ok (.aload_n 2, 1) := by decide +kernel
theorem d_law_874 : decode code 874 = .ok (.aload_n 0, 1) := by decide +kernel
theorem d_law_875 : decode code 875 = .ok (.iload_n 3, 1) := by decide +kernel
theorem d_law_876 : decode code 876 = .ok (.iconst 1, 1) := by decide +kernel
theorem d_law_877 : decode code 877 = .ok (.iadd, 1) := by decide +kernel
theorem d_law_878 : decode code 878 = .ok (.iaload, 1) := by decide +kernel
theorem d_law_879 : decode code 879 = .ok (.aload_n 0, 1) := by decide +kernel
theorem d_law_880 : decode code 880 = .ok (.iload_n 3, 1) := by decide +kernel
theorem d_law_881 : decode code 881 = .ok (.iconst 2, 1) := by decide +kernel
theorem d_law_882 : decode code 882 = .ok (.iadd, 1) := by decide +kernel
theorem d_law_883 : decode code 883 = .ok (.iaload, 1) := by decide +kernel
theorem d_law_884 : decode code 884 = .ok (.aload_n 0, 1) := by decide +kernel
theorem d_law_885 : decode code 885 = .ok (.iload_n 3, 1) := by decide +kernel
theorem d_law_886 : decode code 886 = .ok (.iconst 3, 1) := by decide +kernel
theorem d_law_887 : decode code 887 = .ok (.iadd, 1) := by decide +kernel
theorem d_law_888 : decode code 888 = .ok (.iaload, 1) := by decide +kernel
theorem d_law_889 : decode code 889 = .ok (.invokevirtual 92, 3) := by decide +kernel
theorem d_law_892 : decode code 892 = .ok (.pop, 1) := by decide +kernel
theorem d_law_893 : decode code 893 = .ok (.goto 260, 3) := by decide +kernel
theorem d_law_896 : decode code 896 = .ok (.aload_n 1, 1) := by decide +kernel
theorem d_law_897 : decode code 897 = .ok (.aload_n 0, 1) := by decide +kernel
theorem d_law_898 : decode code 898 = .ok (.iload_n 3, 1) := by decide +kernel
theorem d_law_899 : decode code 899 = .ok (.iconst 1, 1) := by decide +kernel
theorem d_law_900 : decode code 900 = .ok (.iadd, 1) := by decide +kernel
theorem d_law_901 : decode code 901 = .ok (.iaload, 1) := by decide +kernel
theorem d_law_902 : decode code 902 = .ok (.aload_n 0, 1) := by decide +kernel
theorem d_law_903 : decode code 903 = .ok (.iload_n 3, 1) := by decide +kernel
theorem d_law_904 : decode code 904 = .ok (.iconst 2, 1) := by decide +kernel
theorem d_law_905 : decode code 905 = .ok (.iadd, 1) := by decide +kernel
theorem d_law_906 : decode code 906 = .ok (.iaload, 1) := by decide +kernel
theorem d_law_907 : decode code 907 = .ok (.aload_n 0, 1) := by decide +kernel
theorem d_law_908 : decode code 908 = .ok (.iload_n 3, 1) := by decide +kernel
theorem d_law_909 : decode code 909 = .ok (.iconst 3, 1) := by decide +kernel
theorem d_law_910 : decode code 910 = .ok (.iadd, 1) := by decide +kernel
theorem d_law_911 : decode code 911 = .ok (.iaload, 1) := by decide +kernel
theorem d_law_912 : decode code 912 = .ok (.invokevirtual 93, 3) := by decide +kernel
theorem d_law_915 : decode code 915 = .ok (.pop, 1) := by decide +kernel
theorem d_law_916 : decode code 916 = .ok (.aload_n 2, 1) := by decide +kernel
theorem d_law_917 : decode code 917 = .ok (.aload_n 0, 1) := by decide +kernel
theorem d_law_918 : decode code 918 = .ok (.iload_n 3, 1) := by decide +kernel
theorem d_law_919 : decode code 919 = .ok (.iconst 1, 1) := by decide +kernel
theorem d_law_920 : decode code 920 = .ok (.iadd, 1) := by decide +kernel
theorem d_law_921 : decode code 921 = .ok (.iaload, 1) := by decide +kernel
theorem d_law_922 : decode code 922 = .ok (.aload_n 0, 1) := by decide +kernel
theorem d_law_923 : decode code 923 = .ok (.iload_n 3, 1) := by decide +kernel
theorem d_law_924 : decode code 924 = .ok (.iconst 2, 1) := by decide +kernel
theorem d_law_925 : decode code 925 = .ok (.iadd, 1) := by decide +kernel
theorem d_law_926 : decode code 926 = .ok (.iaload, 1) := by decide +kernel
theorem d_law_927 : decode code 927 = .ok (.aload_n 0, 1) := by decide +kernel
theorem d_law_928 : decode code 928 = .ok (.iload_n 3, 1) := by decide +kernel
theorem d_law_929 : decode code 929 = .ok (.iconst 3, 1) := by decide +kernel
theorem d_law_930 : decode code 930 = .ok (.iadd, 1) := by decide +kernel
theorem d_law_931 : decode code 931 = .ok (.iaload, 1) := by decide +kernel
theorem d_law_932 : decode code 932 = .ok (.invokevirtual 96, 3) := by decide +kernel
theorem d_law_935 : decode code 935 = .ok (.pop, 1) := by decide +kernel
theorem d_law_936 : decode code 936 = .ok (.goto 217, 3) := by decide +kernel
theorem d_law_939 : decode code 939 = .ok (.aload_n 1, 1) := by decide +kernel
theorem d_law_940 : decode code 940 = .ok (.aload_n 0, 1) := by decide +kernel
theorem d_law_941 : decode code 941 = .ok (.iload_n 3, 1) := by decide +kernel
theorem d_law_942 : decode code 942 = .ok (.iconst 1, 1) := by decide +kernel
theorem d_law_943 : decode code 943 = .ok (.iadd, 1) := by decide +kernel
theorem d_law_944 : decode code 944 = .ok (.iaload, 1) := by decide +kernel
theorem d_law_945 : decode code 945 = .ok (.aload_n 0, 1) := by decide +kernel
theorem d_law_946 : decode code 946 = .ok (.iload_n 3, 1) := by decide +kernel
theorem d_law_947 : decode code 947 = .ok (.iconst 2, 1) := by decide +kernel
theorem d_law_948 : decode code 948 = .ok (.iadd, 1) := by decide +kernel
theorem d_law_949 : decode code 949 = .ok (.iaload, 1) := by decide +kernel
theorem d_law_950 : decode code 950 = .ok (.invokevirtual 97, 3) := by decide +kernel
theorem d_law_953 : decode code 953 = .ok (.pop, 1) := by decide +kernel
theorem d_law_954 : decode code 954 = .ok (.aload_n 2, 1) := by decide +kernel
theorem d_law_955 : decode code 955 = .ok (.aload_n 0, 1) := by decide +kernel
theorem d_law_956 : decode code 956 = .ok (.iload_n 3, 1) := by decide +kernel
theorem d_law_957 : decode code 957 = .ok (.iconst 1, 1) := by decide +kernel
theorem d_law_958 : decode code 958 = .ok (.iadd, 1) := by decide +kernel
theorem d_law_959 : decode code 959 = .ok (.iaload, 1) := by decide +kernel
theorem d_law_960 : decode code 960 = .ok (.aload_n 0, 1) := by decide +kernel
theorem d_law_961 : decode code 961 = .ok (.iload_n 3, 1) := by decide +kernel
theorem d_law_962 : decode code 962 = .ok (.iconst 2, 1) := by decide +kernel
theorem d_law_963 : decode code 963 = .ok (.iadd, 1) := by decide +kernel
theorem d_law_964 : decode code 964 = .ok (.iaload, 1) := by decide +kernel
theorem d_law_965 : decode code 965 = .ok (.invokevirtual 100, 3) := by decide +kernel
theorem d_law_968 : decode code 968 = .ok (.pop, 1) := by decide +kernel
theorem d_law_969 : decode code 969 = .ok (.goto 184, 3) := by decide +kernel
theorem d_law_972 : decode code 972 = .ok (.aload_n 1, 1) := by decide +kernel
theorem d_law_973 : decode code 973 = .ok (.aload_n 0, 1) := by decide +kernel
theorem d_law_974 : decode code 974 = .ok (.iload_n 3, 1) := by decide +kernel
theorem d_law_975 : decode code 975 = .ok (.iconst 1, 1) := by decide +kernel
theorem d_law_976 : decode code 976 = .ok (.iadd, 1) := by decide +kernel
theorem d_law_977 : decode code 977 = .ok (.iaload, 1) := by decide +kernel
theorem d_law_978 : decode code 978 = .ok (.aload_n 0, 1) := by decide +kernel
theorem d_law_979 : decode code 979 = .ok (.iload_n 3, 1) := by decide +kernel
theorem d_law_980 : decode code 980 = .ok (.iconst 2, 1) := by decide +kernel
theorem d_law_981 : decode code 981 = .ok (.iadd, 1) := by decide +kernel
theorem d_law_982 : decode code 982 = .ok (.iaload, 1) := by decide +kernel
theorem d_law_983 : decode code 983 = .ok (.aload_n 0, 1) := by decide +kernel
theorem d_law_984 : decode code 984 = .ok (.iload_n 3, 1) := by decide +kernel
theorem d_law_985 : decode code 985 = .ok (.iconst 3, 1) := by decide +kernel
theorem d_law_986 : decode code 986 = .ok (.iadd, 1) := by decide +kernel
theorem d_law_987 : decode code 987 = .ok (.iaload, 1) := by decide +kernel
theorem d_law_988 : decode code 988 = .ok (.invokevirtual 101, 3) := by decide +kernel
theorem d_law_991 : decode code 991 = .ok (.pop, 1) := by decide +kernel
theorem d_law_992 : decode code 992 = .ok (.aload_n 2, 1) := by decide +kernel
theorem d_law_993 : decode code 993 = .ok (.aload_n 0, 1) := by decide +kernel
theorem d_law_994 : decode code 994 = .ok (.iload_n 3, 1) := by decide +kernel
theorem d_law_995 : decode code 995 = .ok (.iconst 1, 1) := by decide +kernel
theorem d_law_996 : decode code 996 = .ok (.iadd, 1) := by decide +kernel
theorem d_law_997 : decode code 997 = .ok (.iaload, 1) := by decide +kernel
theorem d_law_998 : decode code 998 = .ok (.aload_n 0, 1) := by decide +kernel
theorem d_law_999 : decode code 999 = .ok (.iload_n 3, 1) := by decide +kernel
theorem d_law_1000 : decode code 1000 = .ok (.iconst 2, 1) := by decide +kernel
theorem d_law_1001 : decode code 1001 = .ok (.iadd, 1) := by decide +kernel
theorem d_law_1002 : decode code 1002 = .ok (.iaload, 1) := by decide +kernel
theorem d_law_1003 : decode code 1003 = .ok (.aload_n 0, 1) := by decide +kernel
theorem d_law_1004 : decode code 1004 = .ok (.iload_n 3, 1) := by decide +kernel
theorem d_law_1005 : decode code 1005 = .ok (.iconst 3, 1) := by decide +kernel
theorem d_law_1006 : decode code 1006 = .ok (.iadd, 1) := by decide +kernel
theorem d_law_1007 : decode code 1007 = .ok (.iaload, 1) := by decide +kernel
theorem d_law_1008 : decode code 1008 = .ok (.invokevirtual 104, 3) := by decide +kernel
theorem d_law_1011 : decode code 1011 = .ok (.pop, 1) := by decide +kernel
theorem d_law_1012 : decode code 1012 = .ok (.goto 141, 3) := by decide +kernel
theorem d_law_1015 : decode code 1015 = .ok (.aload_n 1, 1) := by decide +kernel
theorem d_law_1016 : decode code 1016 = .ok (.aload_n 0, 1) := by decide +kernel
theorem d_law_1017 : decode code 1017 = .ok (.iload_n 3, 1) := by decide +kernel
theorem d_law_1018 : decode code 1018 = .ok (.iconst 1, 1) := by decide +kernel
theorem d_law_1019 : decode code 1019 = .ok (.iadd, 1) := by decide +kernel
theorem d_law_1020 : decode code 1020 = .ok (.iaload, 1) := by decide +kernel
theorem d_law_1021 : decode code 1021 = .ok (.aload_n 0, 1) := by decide +kernel
theorem d_law_1022 : decode code 1022 = .ok (.iload_n 3, 1) := by decide +kernel
theorem d_law_1023 : decode code 1023 = .ok (.iconst 2, 1) := by decide +kernel
theorem d_law_1024 : decode code 1024 = .ok (.iadd, 1) := by decide +kernel
theorem d_law_1025 : decode code 1025 = .ok (.iaload, 1) := by decide +kernel
theorem d_law_1026 : decode code 1026 = .ok (.aload_n 0, 1) := by decide +kernel
theorem d_law_1027 : decode code 1027 = .ok (.iload_n 3, 1) := by decide +kernel
theorem d_law_1028 : decode code 1028 = .ok (.iconst 3, 1) := by decide +kernel
theorem d_law_1029 : decode code 1029 = .ok (.iadd, 1) := by decide +kernel
theorem d_law_1030 : decode code 1030 = .ok (.iaload, 1) := by decide +kernel
theorem d_law_1031 : decode code 1031 = .ok (.invokevirtual 105, 3) := by decide +kernel
theorem d_law_1034 : decode code 1034 = .ok (.pop, 1) := by decide +kernel
theorem d_law_1035 : decode code 1035 = .ok (.aload_n 2, 1) := by decide +kernel
theorem d_law_1036 : decode code 1036 = .ok (.aload_n 0, 1) := by decide +kernel
theorem d_law_1037 : decode code 1037 = .ok (.iload_n 3, 1) := by decide +kernel
theorem d_law_1038 : decode code 1038 = .ok (.iconst 1, 1) := by decide +kernel
theorem d_law_1039 : decode code 1039 = .ok (.iadd, 1) := by decide +kernel
theorem d_law_1040 : decode code 1040 = .ok (.iaload, 1) := by decide +kernel
theorem d_law_1041 : decode code 1041 = .ok (.aload_n 0, 1) := by decide +kernel
theorem d_law_1042 : decode code 1042 = .ok (.iload_n 3, 1) := by decide +kernel
theorem d_law_1043 : decode code 1043 = .ok (.iconst 2, 1) := by decide +kernel
theorem d_law_1044 : decode code 1044 = .ok (.iadd, 1) := by decide +kernel
theorem d_law_1045 : decode code 1045 = .ok (.iaload, 1) := by decide +kernel
theorem d_law_1046 : decode code 1046 = .ok (.aload_n 0, 1) := by decide +kernel
theorem d_law_1047 : decode code 1047 = .ok (.iload_n 3, 1) := by decide +kernel
theorem d_law_1048 : decode code 1048 = .ok (.iconst 3, 1) := by decide +kernel
theorem d_law_1049 : decode code 1049 = .ok (.iadd, 1) := by decide +kernel
theorem d_law_1050 : decode code 1050 = .ok (.iaload, 1) := by decide +kernel
theorem d_law_1051 : decode code 1051 = .ok (.invokevirtual 108, 3) := by decide +kernel
theorem d_law_1054 : decode code 1054 = .ok (.pop, 1) := by decide +kernel
theorem d_law_1055 : decode code 1055 = .ok (.goto 98, 3) := by decide +kernel
theorem d_law_1058 : decode code 1058 = .ok (.aload_n 1, 1) := by decide +kernel
theorem d_law_1059 : decode code 1059 = .ok (.aload_n 0, 1) := by decide +kernel
theorem d_law_1060 : decode code 1060 = .ok (.iload_n 3, 1) := by decide +kernel
theorem d_law_1061 : decode code 1061 = .ok (.iconst 1, 1) := by decide +kernel
theorem d_law_1062 : decode code 1062 = .ok (.iadd, 1) := by decide +kernel
theorem d_law_1063 : decode code 1063 = .ok (.iaload, 1) := by decide +kernel
theorem d_law_1064 : decode code 1064 = .ok (.invokevirtual 109, 3) := by decide +kernel
theorem d_law_1067 : decode code 1067 = .ok (.pop, 1) := by decide +kernel
theorem d_law_1068 : decode code 1068 = .ok (.aload_n 2, 1) := by decide +kernel
theorem d_law_1069 : decode code 1069 = .ok (.aload_n 0, 1) := by decide +kernel
theorem d_law_1070 : decode code 1070 = .ok (.iload_n 3, 1) := by decide +kernel
theorem d_law_1071 : decode code 1071 = .ok (.iconst 1, 1) := by decide +kernel
theorem d_law_1072 : decode code 1072 = .ok (.iadd, 1) := by decide +kernel
theorem d_law_1073 : decode code 1073 = .ok (.iaload, 1) := by decide +kernel
theorem d_law_1074 : decode code 1074 = .ok (.invokevirtual 113, 3) := by decide +kernel
theorem d_law_1077 : decode code 1077 = .ok (.pop, 1) := by decide +kernel
theorem d_law_1078 : decode code 1078 = .ok (.goto 75, 3) := by decide +kernel
theorem d_law_1081 : decode code 1081 = .ok (.aload_n 1, 1) := by decide +kernel
theorem d_law_1082 : decode code 1082 = .ok (.invokevirtual 114, 3) := by decide +kernel
theorem d_law_1085 : decode code 1085 = .ok (.pop, 1) := by decide +kernel
theorem d_law_1086 : decode code 1086 = .ok (.aload_n 2, 1) := by decide +kernel
theorem d_law_1087 : decode code 1087 = .ok (.invokevirtual 118, 3) := by decide +kernel
theorem d_law_1090 : decode code 1090 = .ok (.pop, 1) := by decide +kernel
theorem d_law_1091 : decode code 1091 = .ok (.goto 62, 3) := by decide +kernel
theorem d_law_1094 : decode code 1094 = .ok (.aload_n 1, 1) := by decide +kernel
theorem d_law_1095 : decode code 1095 = .ok (.invokevirtual 119, 3) := by decide +kernel
theorem d_law_1098 : decode code 1098 = .ok (.pop, 1) := by decide +kernel
theorem d_law_1099 : decode code 1099 = .ok (.aload_n 2, 1) := by decide +kernel
theorem d_law_1100 : decode code 1100 = .ok (.invokevirtual 123, 3) := by decide +kernel
theorem d_law_1103 : decode code 1103 = .ok (.pop, 1) := by decide +kernel
theorem d_law_1104 : decode code 1104 = .ok (.goto 49, 3) := by decide +kernel
theorem d_law_1107 : decode code 1107 = .ok (.aload_n 1, 1) := by decide +kernel
theorem d_law_1108 : decode code 1108 = .ok (.aload_n 0, 1) := by decide +kernel
theorem d_law_1109 : decode code 1109 = .ok (.iload_n 3, 1) := by decide +kernel
theorem d_law_1110 : decode code 1110 = .ok (.iconst 1, 1) := by decide +kernel
theorem d_law_1111 : decode code 1111 = .ok (.iadd, 1) := by decide +kernel
theorem d_law_1112 : decode code 1112 = .ok (.iaload, 1) := by decide +kernel
theorem d_law_1113 : decode code 1113 = .ok (.invokevirtual 124, 3) := by decide +kernel
theorem d_law_1116 : decode code 1116 = .ok (.pop, 1) := by decide +kernel
theorem d_law_1117 : decode code 1117 = .ok (.aload_n 2, 1) := by decide +kernel
theorem d_law_1118 : decode code 1118 = .ok (.aload_n 0, 1) := by decide +kernel
theorem d_law_1119 : decode code 1119 = .ok (.iload_n 3, 1) := by decide +kernel
theorem d_law_1120 : decode code 1120 = .ok (.iconst 1, 1) := by decide +kernel
theorem d_law_1121 : decode code 1121 = .ok (.iadd, 1) := by decide +kernel
theorem d_law_1122 : decode code 1122 = .ok (.iaload, 1) := by decide +kernel
theorem d_law_1123 : decode code 1123 = .ok (.invokevirtual 127, 3) := by decide +kernel
theorem d_law_1126 : decode code 1126 = .ok (.pop, 1) := by decide +kernel
theorem d_law_1127 : decode code 1127 = .ok (.goto 26, 3) := by decide +kernel
theorem d_law_1130 : decode code 1130 = .ok (.aload_n 1, 1) := by decide +kernel
theorem d_law_1131 : decode code 1131 = .ok (.aload_n 0, 1) := by decide +kernel
theorem d_law_1132 : decode code 1132 = .ok (.iload_n 3, 1) := by decide +kernel
theorem d_law_1133 : decode code 1133 = .ok (.iconst 1, 1) := by decide +kernel
theorem d_law_1134 : decode code 1134 = .ok (.iadd, 1) := by decide +kernel
theorem d_law_1135 : decode code 1135 = .ok (.iaload, 1) := by decide +kernel
theorem d_law_1136 : decode code 1136 = .ok (.invokevirtual 128, 3) := by decide +kernel
theorem d_law_1139 : decode code 1139 = .ok (.pop, 1) := by decide +kernel
theorem d_law_1140 : decode code 1140 = .ok (.aload_n 2, 1) := by decide +kernel
theorem d_law_1141 : decode code 1141 = .ok (.aload_n 0, 1) := by decide +kernel
theorem d_law_1142 : decode code 1142 = .ok (.iload_n 3, 1) := by decide +kernel
theorem d_law_1143 : decode code 1143 = .ok (.iconst 1, 1) := by decide +kernel
theorem d_law_1144 : decode code 1144 = .ok (.iadd, 1) := by decide +kernel
theorem d_law_1145 : decode code 1145 = .ok (.iaload, 1) := by decide +kernel
theorem d_law_1146 : decode code 1146 = .ok (.invokevirtual 131, 3) := by decide +kernel
theorem d_law_1149 : decode code 1149 = .ok (.pop, 1) := by decide +kernel
theorem d_law_1150 : decode code 1150 = .ok (.goto 3, 3) := by decide +kernel
theorem d_law_1153 : decode code 1153 = .ok (.iinc 3 6, 3) := by decide +kernel
theorem d_law_1156 : decode code 1156 = .ok (.goto (-1138), 3) := by decide +kernel
theorem d_law_1159 : decode code 1159 = .ok (.iconst 1, 1) := by decide +kernel
theorem d_law_1160 : decode code 1160 = .ok (.ireturn, 1) := by decide +kernel
theorem wl_L_9 : Jvm.Cond.methodLink R_law 9 yX7_init ∈ fm_Ts := fm_mem 106 (by decide +kernel) rfl
theorem wl_L_13 : Jvm.Cond.methodLink R_law 13 yX7_yard ∈ fm_Ts := fm_mem 420 (by decide +kernel) rfl
theorem wl_L_18 : Jvm.Cond.methodLink R_law 18 yX7_rain ∈ fm_Ts := fm_mem 431 (by decide +kernel) rfl
theorem wl_L_23 : Jvm.Cond.methodLink R_law 23 yX7_porter ∈ fm_Ts := fm_mem 435 (by decide +kernel) rfl
theorem wl_L_28 : Jvm.Cond.methodLink R_law 28 yX7_licence ∈ fm_Ts := fm_mem 442 (by decide +kernel) rfl
theorem wl_L_32 : Jvm.Cond.methodLink R_law 32 yX7_skill ∈ fm_Ts := fm_mem 446 (by decide +kernel) rfl
theorem wl_L_36 : Jvm.Cond.methodLink R_law 36 yX7_feed ∈ fm_Ts := fm_mem 453 (by decide +kernel) rfl
theorem wl_L_41 : Jvm.Cond.methodLink R_law 41 yX7_law ∈ fm_Ts := fm_mem 465 (by decide +kernel) rfl
theorem wl_L_46 : Jvm.Cond.methodLink R_law 46 yX7_hours ∈ fm_Ts := fm_mem 636 (by decide +kernel) rfl
theorem wl_L_50 : Jvm.Cond.methodLink R_law 50 yX7_hour ∈ fm_Ts := fm_mem 721 (by decide +kernel) rfl
theorem wl_L_54 : Jvm.Cond.methodLink R_law 54 yX7_yardIs ∈ fm_Ts := fm_mem 726 (by decide +kernel) rfl
theorem wl_L_59 : Jvm.Cond.methodLink R_law 59 yX7_porterIs ∈ fm_Ts := fm_mem 730 (by decide +kernel) rfl
theorem wl_L_63 : Jvm.Cond.methodLink R_law 63 yX7_tried ∈ fm_Ts := fm_mem 739 (by decide +kernel) rfl
theorem wl_L_67 : Jvm.Cond.methodLink R_law 67 yX7_sieved ∈ fm_Ts := fm_mem 765 (by decide +kernel) rfl
theorem wl_L_71 : Jvm.Cond.methodLink R_law 71 yX7_bowls ∈ fm_Ts := fm_mem 808 (by decide +kernel) rfl
theorem wl_L_76 : Jvm.Cond.methodLink R_law 76 yX7_carpet ∈ fm_Ts := fm_mem 867 (by decide +kernel) rfl
theorem wl_L_80 : Jvm.Cond.methodLink R_law 80 yX7_gust ∈ fm_Ts := fm_mem 871 (by decide +kernel) rfl
theorem wl_L_85 : Jvm.Cond.methodLink R_law 85 yX7_worth ∈ fm_Ts := fm_mem 879 (by decide +kernel) rfl
theorem wl_L_89 : Jvm.Cond.methodLink R_law 89 yX7_sold ∈ fm_Ts := fm_mem 891 (by decide +kernel) rfl
theorem wl_L_93 : Jvm.Cond.methodLink R_law 93 yX7_shook ∈ fm_Ts := fm_mem 897 (by decide +kernel) rfl
theorem wl_L_97 : Jvm.Cond.methodLink R_law 97 yX7_led ∈ fm_Ts := fm_mem 914 (by decide +kernel) rfl
theorem wl_L_101 : Jvm.Cond.methodLink R_law 101 yX7_share ∈ fm_Ts := fm_mem 918 (by decide +kernel) rfl
theorem wl_L_105 : Jvm.Cond.methodLink R_law 105 yX7_odds ∈ fm_Ts := fm_mem 925 (by decide +kernel) rfl
theorem wl_L_109 : Jvm.Cond.methodLink R_law 109 yX7_seed ∈ fm_Ts := fm_mem 929 (by decide +kernel) rfl
theorem wl_L_114 : Jvm.Cond.methodLink R_law 114 yX7_keep ∈ fm_Ts := fm_mem 934 (by decide +kernel) rfl
theorem wl_L_119 : Jvm.Cond.methodLink R_law 119 yX7_undo ∈ fm_Ts := fm_mem 943 (by decide +kernel) rfl
theorem wl_L_124 : Jvm.Cond.methodLink R_law 124 yX7_check ∈ fm_Ts := fm_mem 947 (by decide +kernel) rfl
theorem wl_L_128 : Jvm.Cond.methodLink R_law 128 yX7_count ∈ fm_Ts := fm_mem 956 (by decide +kernel) rfl
theorem wl_L_12 : Jvm.Cond.methodLink R_law 12 yX8_init ∈ fm_Ts := fm_mem 966 (by decide +kernel) rfl
theorem wl_L_17 : Jvm.Cond.methodLink R_law 17 yX8_yard ∈ fm_Ts := fm_mem 1194 (by decide +kernel) rfl
theorem wl_L_22 : Jvm.Cond.methodLink R_law 22 yX8_rain ∈ fm_Ts := fm_mem 1208 (by decide +kernel) rfl
theorem wl_L_27 : Jvm.Cond.methodLink R_law 27 yX8_porter ∈ fm_Ts := fm_mem 1217 (by decide +kernel) rfl
theorem wl_L_31 : Jvm.Cond.methodLink R_law 31 yX8_licence ∈ fm_Ts := fm_mem 1223 (by decide +kernel) rfl
theorem wl_L_35 : Jvm.Cond.methodLink R_law 35 yX8_skill ∈ fm_Ts := fm_mem 1231 (by decide +kernel) rfl
theorem wl_L_40 : Jvm.Cond.methodLink R_law 40 yX8_feed ∈ fm_Ts := fm_mem 1235 (by decide +kernel) rfl
theorem wl_L_45 : Jvm.Cond.methodLink R_law 45 yX8_law ∈ fm_Ts := fm_mem 1243 (by decide +kernel) rfl
theorem wl_L_49 : Jvm.Cond.methodLink R_law 49 yX8_hours ∈ fm_Ts := fm_mem 1341 (by decide +kernel) rfl
theorem wl_L_53 : Jvm.Cond.methodLink R_law 53 yX8_hour ∈ fm_Ts := fm_mem 1433 (by decide +kernel) rfl
theorem wl_L_58 : Jvm.Cond.methodLink R_law 58 yX8_yardIs ∈ fm_Ts := fm_mem 1437 (by decide +kernel) rfl
theorem wl_L_62 : Jvm.Cond.methodLink R_law 62 yX8_porterIs ∈ fm_Ts := fm_mem 1441 (by decide +kernel) rfl
theorem wl_L_66 : Jvm.Cond.methodLink R_law 66 yX8_tried ∈ fm_Ts := fm_mem 1449 (by decide +kernel) rfl
theorem wl_L_70 : Jvm.Cond.methodLink R_law 70 yX8_sieved ∈ fm_Ts := fm_mem 1476 (by decide +kernel) rfl
theorem wl_L_75 : Jvm.Cond.methodLink R_law 75 yX8_bowls ∈ fm_Ts := fm_mem 1499 (by decide +kernel) rfl
theorem wl_L_79 : Jvm.Cond.methodLink R_law 79 yX8_carpet ∈ fm_Ts := fm_mem 1511 (by decide +kernel) rfl
theorem wl_L_84 : Jvm.Cond.methodLink R_law 84 yX8_gust ∈ fm_Ts := fm_mem 1515 (by decide +kernel) rfl
theorem wl_L_88 : Jvm.Cond.methodLink R_law 88 yX8_worth ∈ fm_Ts := fm_mem 1519 (by decide +kernel) rfl
theorem wl_L_92 : Jvm.Cond.methodLink R_law 92 yX8_sold ∈ fm_Ts := fm_mem 1531 (by decide +kernel) rfl
theorem wl_L_96 : Jvm.Cond.methodLink R_law 96 yX8_shook ∈ fm_Ts := fm_mem 1535 (by decide +kernel) rfl
theorem wl_L_100 : Jvm.Cond.methodLink R_law 100 yX8_led ∈ fm_Ts := fm_mem 1547 (by decide +kernel) rfl
theorem wl_L_104 : Jvm.Cond.methodLink R_law 104 yX8_share ∈ fm_Ts := fm_mem 1555 (by decide +kernel) rfl
theorem wl_L_108 : Jvm.Cond.methodLink R_law 108 yX8_odds ∈ fm_Ts := fm_mem 1562 (by decide +kernel) rfl
theorem wl_L_113 : Jvm.Cond.methodLink R_law 113 yX8_seed ∈ fm_Ts := fm_mem 1566 (by decide +kernel) rfl
theorem wl_L_118 : Jvm.Cond.methodLink R_law 118 yX8_keep ∈ fm_Ts := fm_mem 1571 (by decide +kernel) rfl
theorem wl_L_123 : Jvm.Cond.methodLink R_law 123 yX8_undo ∈ fm_Ts := fm_mem 1575 (by decide +kernel) rfl
theorem wl_L_127 : Jvm.Cond.methodLink R_law 127 yX8_check ∈ fm_Ts := fm_mem 1579 (by decide +kernel) rfl
theorem wl_L_131 : Jvm.Cond.methodLink R_law 131 yX8_count ∈ fm_Ts := fm_mem 1587 (by decide +kernel) rfl
theorem wn_L_X7 : Jvm.Cond.classLink R_law 7 RX7 ∈ fm_Ts ∧ Jvm.Cond.instantiable RX7 12 ∈ fm_Ts ∧ Jvm.Cond.initialized RX7 ∈ fm_Ts := ⟨fm_mem 104 (by decide +kernel) rfl, fm_mem 105 (by decide +kernel) rfl, fm_mem 86 (by decide +kernel) rfl⟩
theorem wn_L_X8 : Jvm.Cond.classLink R_law 10 RX8 ∈ fm_Ts ∧ Jvm.Cond.instantiable RX8 74 ∈ fm_Ts ∧ Jvm.Cond.initialized RX8 ∈ fm_Ts := ⟨fm_mem 964 (by decide +kernel) rfl, fm_mem 965 (by decide +kernel) rfl, fm_mem 95 (by decide +kernel) rfl⟩
