/-! THE LAW'S OWN ROWS -/
def lw_Aq (s : State) : Nat → Prop := fun q => s.heap.size ≤ q
def lz_W (p : Program) (l : Launch) (e : Env) (s : State) (m : MethodId) (args : Array Value) (below : List Frame) (meth : Method) (c : Code) (Q : State → Prop) (D : va_G) (ad : Nat → Nat) (cy : Nat → ClassId) (V : fm_V) (pc : Nat) (ls : Array Slot) (st : List Value) : Prop := ∀ (H : Heap) (locs : List Loc), va_P D fm_cl (fm_ws fm_tm ad cy V) H → va_S (lw_Aq s) s.heap H locs → W p l e room_1 s m args below meth c H locs 600000 7302249 Q (F0 m pc ls st)
section LZ
variable {p : Program} {l : Launch} {e : Env} {s : State} {m : MethodId} {args : Array Value} {below : List Frame} {meth : Method} {c : Code} {Q : State → Prop} {D : va_G} {ad : Nat → Nat} {cy : Nat → ClassId} {Z : State → Heap → Prop}
variable {pc : Nat} {ls : Array Slot} {rest : List Value} {V : fm_V} {b L : Nat} {xs : Nat → Int32}
theorem lz_iconst (X : fm_X p s m args c code R_law D fm_cl fm_tm ad cy (lw_Aq s) fm_Ts 4) {n : Int} {v : Int32} (hd : decode code pc = .ok (.iconst n, 1)) (hv : Int32.ofInt n = v) (kk : lz_W p l e s m args below meth c Q D ad cy V (pc + 1) ls (.int v :: rest)) : lz_W p l e s m args below meth c Q D ad cy V pc ls (rest) := fun H locs hP hS => lv_iconst X.1 X.2.1 hd hv (kk H locs hP hS)
theorem lz_bipush (X : fm_X p s m args c code R_law D fm_cl fm_tm ad cy (lw_Aq s) fm_Ts 4) {n : Int} {v : Int32} (hd : decode code pc = .ok (.bipush n, 2)) (hv : (Int8.ofInt n).toInt32 = v) (kk : lz_W p l e s m args below meth c Q D ad cy V (pc + 2) ls (.int v :: rest)) : lz_W p l e s m args below meth c Q D ad cy V pc ls (rest) := fun H locs hP hS => lv_bipush X.1 X.2.1 hd hv (kk H locs hP hS)
theorem lz_iload_n (X : fm_X p s m args c code R_law D fm_cl fm_tm ad cy (lw_Aq s) fm_Ts 4) {k : Fin 4} {i : Nat} {x : Int32} (hd : decode code pc = .ok (.iload_n k, 1)) (hi : (k : Nat) = i) (hl : ls[i]? = some (.val (.int x))) (kk : lz_W p l e s m args below meth c Q D ad cy V (pc + 1) ls (.int x :: rest)) : lz_W p l e s m args below meth c Q D ad cy V pc ls (rest) := fun H locs hP hS => lv_iload_n X.1 X.2.1 hd hi hl (kk H locs hP hS)
theorem lz_aload_n (X : fm_X p s m args c code R_law D fm_cl fm_tm ad cy (lw_Aq s) fm_Ts 4) {k : Fin 4} {i : Nat} {x : Nat} (hd : decode code pc = .ok (.aload_n k, 1)) (hi : (k : Nat) = i) (hl : ls[i]? = some (.val (.ref x))) (kk : lz_W p l e s m args below meth c Q D ad cy V (pc + 1) ls (.ref x :: rest)) : lz_W p l e s m args below meth c Q D ad cy V pc ls (rest) := fun H locs hP hS => lv_aload_n X.1 X.2.1 hd hi hl (kk H locs hP hS)
theorem lz_iadd (X : fm_X p s m args c code R_law D fm_cl fm_tm ad cy (lw_Aq s) fm_Ts 4) {x y : Int32} (hd : decode code pc = .ok (.iadd, 1))  (kk : lz_W p l e s m args below meth c Q D ad cy V (pc + 1) ls (.int (x + y) :: rest)) : lz_W p l e s m args below meth c Q D ad cy V pc ls (.int y :: .int x :: rest) := fun H locs hP hS => lv_iadd X.1 X.2.1 hd (kk H locs hP hS)
theorem lz_isub (X : fm_X p s m args c code R_law D fm_cl fm_tm ad cy (lw_Aq s) fm_Ts 4) {x y : Int32} (hd : decode code pc = .ok (.isub, 1))  (kk : lz_W p l e s m args below meth c Q D ad cy V (pc + 1) ls (.int (x - y) :: rest)) : lz_W p l e s m args below meth c Q D ad cy V pc ls (.int y :: .int x :: rest) := fun H locs hP hS => lv_isub X.1 X.2.1 hd (kk H locs hP hS)
theorem lz_iand (X : fm_X p s m args c code R_law D fm_cl fm_tm ad cy (lw_Aq s) fm_Ts 4) {x y : Int32} (hd : decode code pc = .ok (.iand, 1))  (kk : lz_W p l e s m args below meth c Q D ad cy V (pc + 1) ls (.int (x &&& y) :: rest)) : lz_W p l e s m args below meth c Q D ad cy V pc ls (.int y :: .int x :: rest) := fun H locs hP hS => lv_iand X.1 X.2.1 hd (kk H locs hP hS)
theorem lz_pop (X : fm_X p s m args c code R_law D fm_cl fm_tm ad cy (lw_Aq s) fm_Ts 4) {va : Value} (hd : decode code pc = .ok (.pop, 1)) (hva : va.category = 1) (kk : lz_W p l e s m args below meth c Q D ad cy V (pc + 1) ls (rest)) : lz_W p l e s m args below meth c Q D ad cy V pc ls (va :: rest) := fun H locs hP hS => lv_pop X.1 X.2.1 hd hva (kk H locs hP hS)
theorem lz_len (X : fm_X p s m args c code R_law D fm_cl fm_tm ad cy (lw_Aq s) fm_Ts 4)  (hd : decode code pc = .ok (.arraylength, 1)) (hX : va_X b L xs s s.heap) (hbl : b < s.heap.size) (kk : lz_W p l e s m args below meth c Q D ad cy V (pc + 1) ls (.int (Int32.ofNat L) :: rest)) : lz_W p l e s m args below meth c Q D ad cy V pc ls (.ref b :: rest) := fun H locs hP hS => va_slen X.1 X.2.1 hX hbl (Nat.not_le.mpr hbl) hS hd (kk H locs hP hS)
theorem lz_sld (X : fm_X p s m args c code R_law D fm_cl fm_tm ad cy (lw_Aq s) fm_Ts 4) {i : Int32} (hd : decode code pc = .ok (.iaload, 1)) (hX : va_X b L xs s s.heap) (hbl : b < s.heap.size) (hin : 0 ≤ i.toInt ∧ i.toInt < L) (kk : lz_W p l e s m args below meth c Q D ad cy V (pc + 1) ls (.int (xs i.toNatClampNeg) :: rest)) : lz_W p l e s m args below meth c Q D ad cy V pc ls (.int i :: .ref b :: rest) := fun H locs hP hS => va_sld X.1 X.2.1 hX hbl (Nat.not_le.mpr hbl) hS (zi_in hin.1 hin.2) hd (kk H locs hP hS)
theorem lz_goto (X : fm_X p s m args c code R_law D fm_cl fm_tm ad cy (lw_Aq s) fm_Ts 4) {off : Int} (tgt : Nat) (hd : decode code pc = .ok (.goto off, 3)) (ht : (pc : Int) + off = (tgt : Int)) (kk : lz_W p l e s m args below meth c Q D ad cy V tgt ls rest) : lz_W p l e s m args below meth c Q D ad cy V pc ls rest := fun H locs hP hS => lv_goto X.1 X.2.1 hd ht (kk H locs hP hS)
theorem lz_icmp_gt (X : fm_X p s m args c code R_law D fm_cl fm_tm ad cy (lw_Aq s) fm_Ts 4) {x y : Int32} {off : Int} (tgt : Nat) (hd : decode code pc = .ok (.if_icmp .gt off, 3)) (ht : (pc : Int) + off = (tgt : Int)) (kt : y.toInt < x.toInt → lz_W p l e s m args below meth c Q D ad cy V tgt ls rest) (kf : ¬ y.toInt < x.toInt → lz_W p l e s m args below meth c Q D ad cy V (pc + 3) ls rest) : lz_W p l e s m args below meth c Q D ad cy V pc ls (.int y :: .int x :: rest) := fun H locs hP hS => lv_icmp_gt X.1 X.2.1 hd ht (fun h => kt (zi_lt.mp h) H locs hP hS) (fun h => kf (fun z => h (zi_lt.mpr z)) H locs hP hS)
theorem lz_same (X : fm_X p s m args c code R_law D fm_cl fm_tm ad cy (lw_Aq s) fm_Ts 4) {x y : Int32} {off : Int} (tgt : Nat) (hd : decode code pc = .ok (.if_icmp .eq off, 3)) (ht : (pc : Int) + off = (tgt : Int)) (he : x.toInt = y.toInt) (kk : lz_W p l e s m args below meth c Q D ad cy V tgt ls rest) : lz_W p l e s m args below meth c Q D ad cy V pc ls (.int y :: .int x :: rest) := fun H locs hP hS => lv_icmp_eq X.1 X.2.1 hd ht (fun _ => kk H locs hP hS) (fun h => absurd (zi_inj he) h)
theorem lz_nz (X : fm_X p s m args c code R_law D fm_cl fm_tm ad cy (lw_Aq s) fm_Ts 4) {z : Int32} (d0 : decode code pc = .ok (.ifCond .eq 7, 3)) (d1 : decode code (pc + 3) = .ok (.iconst 1, 1)) (d2 : decode code (pc + 3 + 1) = .ok (.goto 4, 3)) (d3 : decode code (pc + 7) = .ok (.iconst 0, 1)) (kk : lz_W p l e s m args below meth c Q D ad cy V (pc + 8) ls (.int (if z = 0 then 0 else 1) :: rest)) : lz_W p l e s m args below meth c Q D ad cy V pc ls (.int z :: rest) := by
  intro H locs hP hS
  refine lv_if_eq X.1 X.2.1 d0 (tgt := pc + 7) (by omega) (fun h => ?_) (fun h => ?_)
  · rw [if_pos h] at kk
    exact lv_iconst X.1 X.2.1 d3 (v := 0) rfl (kk H locs hP hS)
  · rw [if_neg h] at kk
    refine lv_iconst X.1 X.2.1 d1 (v := 1) rfl ?_
    exact lv_goto X.1 X.2.1 d2 (tgt := pc + 8) (by omega) (kk H locs hP hS)
theorem lz_tab (X : fm_X p s m args c code R_law D fm_cl fm_tm ad cy (lw_Aq s) fm_Ts 4) {dflt lo hi off : Int} {offs : Array Int} {len : Nat} {x : Int32} (k tgt : Nat) (hd : decode code pc = .ok (.tableswitch dflt lo hi offs, len)) (hlo : lo = 0) (hk : x.toInt = k) (hh : (k : Int) ≤ hi) (ho : offs[k]? = some off) (ht : (pc : Int) + off = (tgt : Int)) (kk : lz_W p l e s m args below meth c Q D ad cy V tgt ls rest) : lz_W p l e s m args below meth c Q D ad cy V pc ls (.int x :: rest) := fun H locs hP hS => lv_tableIn X.1 X.2.1 hd (by omega) (by omega) (by rw [hk, hlo, Int.sub_zero, Int.toNat_natCast]; exact ho) ht (kk H locs hP hS)
theorem lz_tabO (X : fm_X p s m args c code R_law D fm_cl fm_tm ad cy (lw_Aq s) fm_Ts 4) {dflt lo hi : Int} {offs : Array Int} {len : Nat} {x : Int32} (tgt : Nat) (hd : decode code pc = .ok (.tableswitch dflt lo hi offs, len)) (hk : hi < x.toInt) (ht : (pc : Int) + dflt = (tgt : Int)) (kk : lz_W p l e s m args below meth c Q D ad cy V tgt ls rest) : lz_W p l e s m args below meth c Q D ad cy V pc ls (.int x :: rest) := fun H locs hP hS => lv_tableOut X.1 X.2.1 hd (Or.inr hk) ht (kk H locs hP hS)
theorem lz_iinc (X : fm_X p s m args c code R_law D fm_cl fm_tm ad cy (lw_Aq s) fm_Ts 4) {i : Nat} {n : Int} {x : Int32} (hd : decode code pc = .ok (.iinc i n, 3)) (hl : ls[i]? = some (.val (.int x))) (hs : ls.size = 4) (hw : lv_wf ls) (hi : i < 4) (kk : ∀ ls', rv_sto ls ls' i (.int (x + Int32.ofInt n)) → lz_W p l e s m args below meth c Q D ad cy V (pc + 3) ls' rest) : lz_W p l e s m args below meth c Q D ad cy V pc ls rest := by
  obtain ⟨hx, hb, -⟩ := X
  obtain ⟨ls', e', h'⟩ := rv_sto_of (v := .int (x + Int32.ofInt n)) hw (show i < ls.size by omega) rfl
  intro H locs hP hS T hT X
  obtain ⟨t, a, b⟩ := kk ls' h' H locs hP hS T hT X
  refine ⟨t, ?_, b⟩
  jvm_step X.here [X.here.top, ↓top_set X.here.top, hx, hb, hd, hl, e']
  exact a
theorem lz_arg (X : fm_X p s m args c code R_law D fm_cl fm_tm ad cy (lw_Aq s) fm_Ts 4) (hX : va_X b L xs s s.heap) (hbl : b < s.heap.size) (hL : L ≤ 3072) {x3 : Int32} (hx3 : 0 ≤ x3.toInt ∧ x3.toInt + 6 ≤ L) (hl0 : ls[0]? = some (.val (.ref b))) (hl3 : ls[3]? = some (.val (.int x3))) {k : Int} (hk : 1 ≤ k ∧ k ≤ 5) (d0 : decode code pc = .ok (.aload_n 0, 1)) (d1 : decode code (pc + 1) = .ok (.iload_n 3, 1)) (d2 : decode code (pc + 1 + 1) = .ok (.iconst k, 1)) (d3 : decode code (pc + 1 + 1 + 1) = .ok (.iadd, 1)) (d4 : decode code (pc + 1 + 1 + 1 + 1) = .ok (.iaload, 1)) (kk : lz_W p l e s m args below meth c Q D ad cy V (pc + 5) ls (.int (xs (x3 + Int32.ofInt k).toNatClampNeg) :: rest)) : lz_W p l e s m args below meth c Q D ad cy V pc ls rest := by
  have e1 := zj_inc (x := x3) (n := k) (by omega) (by omega) (by omega) (by omega)
  refine lz_aload_n X d0 rfl hl0 ?_
  refine lz_iload_n X d1 rfl hl3 ?_
  refine lz_iconst X d2 rfl ?_
  refine lz_iadd X d3 ?_
  exact lz_sld X d4 hX hbl ⟨by omega, by omega⟩ kk
theorem lz_callW {po : Option Value → fm_V → Prop} {nt : fm_Nt} {st0 : List Value} {a : Array Value} {H : Heap} {locs : List Loc} (hr : va_Run p l e room_1 s m args below meth c H locs 600000 7302249 0 0 (F0 m pc ls st0) rest (rv_Qc D fm_cl fm_tm ad cy nt Z po a) (fm_A fm_tm ad)) (hS : va_S (lw_Aq s) s.heap H locs) (hA : ∀ q, fm_A fm_tm ad q → lw_Aq s q)
    (kk : ∀ (r : Option Value) (V' : fm_V), po r V' → lz_W p l e s m args below meth c Q D ad cy V' (pc + 3) ls (r.toList ++ rest)) : W p l e room_1 s m args below meth c H locs 600000 7302249 Q (F0 m pc ls st0) := by
  intro T hT X
  obtain ⟨v, st₀, t, T', L, h0, X', hL, e1, e2, ⟨⟨r, V', hv, hp, hw⟩, hz, hk⟩, st⟩ := hr T hT X
  cases hv
  rw [h0] at hz hk
  obtain ⟨t2, a1, b1⟩ := kk v V' hp T'.heap (locs ++ L) (by rw [e1]; exact hw.1)
    ⟨Nat.le_trans hS.1 (by rw [e1]; exact hz), fun q h1 h2 => by rw [e1, hk q (Nat.lt_of_lt_of_le h1 hS.1) (fun z => h2 (hA q z))]; exact hS.2.1 q h1 h2, fun q hq => by
      rcases List.mem_append.mp hq with h | h
      · exact hS.2.2 q h
      · exact hA _ (hL q h)⟩ T' rfl X'
  exact ⟨t2, st t2 a1, b1⟩
theorem lz_call (X : fm_X p s m args c code R_law D fm_cl fm_tm ad cy (lw_Aq s) fm_Ts 4) (Y : fm_Y s fm_nt Z fm_tm ad (lw_Aq s)) {po : Option Value → fm_V → Prop} {y : MethodName} {C : String} {idx maxL n : Nat} {bytes : ByteArray} {ret : Option FieldType} {rm : Room} (hd : decode code pc = .ok (.invokevirtual idx, 3)) {i : Nat} {vs st0 : List Value} (hM : gm_M l D fm_cl fm_tm ad cy fm_nt Z y (.code y bytes maxL ret :: fm_Ts) rm V (.ref (ad i) :: vs) po)
    (hl : Jvm.Cond.methodLink R_law idx y ∈ fm_Ts) (hw : Jvm.Cond.instanceMethod y ∈ fm_Ts ∧ Jvm.Cond.selects C y y ∈ fm_Ts ∧ Jvm.Cond.initialized C ∈ fm_Ts ∧ Jvm.Cond.code y bytes maxL ret ∈ fm_Ts) (hy : y.cls = C ∧ y.cls ≠ "java/lang/invoke/MethodHandle" ∧ y.cls ≠ "java/lang/invoke/VarHandle" ∧ (parseMethodDescriptor y.desc).map (fun d => d.parameters.length) = some n)
    (hrm : (rm.cells = 0 ∧ rm.slots = 0) ∧ rm.frames + 1 ≤ room_1.frames ∧ 8 + (maxL + 11) + rm.locals ≤ room_1.locals) {ci N : Nat} {T : u_T} {ts : List fm_F} (hci : fm_tm[i]? = some (.inr (ci, ts)) ∧ fm_cl[ci]? = some (C, T, N)) (hst : st0 = vs.reverse ++ .ref (ad i) :: rest) (hlen : vs.length = n) (hls : ls.size = 4) (hcat : (rest.map fun v => v.category).sum ≤ 8)
    (kk : ∀ r V', po r V' → lz_W p l e s m args below meth c Q D ad cy V' (pc + 3) ls (r.toList ++ rest)) : lz_W p l e s m args below meth c Q D ad cy V pc ls st0 := by
  obtain ⟨hx, hb, hown, hts, hKk, hD, hml⟩ := id X
  obtain ⟨hZ, hAA, hA, hN, hZ0⟩ := Y
  subst hst
  intro H locs hP hS
  refine lz_callW (a := (Value.ref (ad i) :: vs).toArray) (rest := rest) (va_runV (As := vs) (rest := rest) (C := C) (n := n) ⟨hx, hb, hml, hown, hts⟩ hM (cwV n hts (fm_Ts_good.of (fun w hw' => ?_)) rfl hrm.1.1 hrm.1.2 hy hrm.2) ⟨rv_Pc_blind hZ, va_recv hKk hP hci.2 (fm_ws_get (ad := ad) (cy := cy) (V := V) hci.1), fun U hU hW => ⟨rfl, fm_Wd_of hZ hAA hKk hN hZ0 hP hS hU hW⟩⟩ rfl hlen hls rfl (lv_room hcat) hd ⟨by decide, by decide⟩) hS hA kk
  unfold wsV at hw'
  rcases List.mem_append.mp hw' with hw' | hw'
  · simp only [List.mem_cons, List.not_mem_nil, or_false] at hw'
    rcases hw' with rfl | rfl | rfl | rfl
    · exact hl
    · exact hw.1
    · exact hw.2.1
    · exact hw.2.2.1
  · rcases List.mem_cons.mp hw' with rfl | hw'
    · exact hw.2.2.2
    · exact hw'
end LZ
/-- between calls: n calls are through; the hours are the same, now and kept; both sides keep something, or neither -/
def lw_J (F : Prop) (n : Nat) (V : fm_V) : Prop := fm_Tm fm_tm V ∧ fm_G V ∧ (0 ≤ (V 80 2).toInt ∧ (V 80 2).toInt ≤ 40 * (n : Int)) ∧ (0 ≤ (V 125 5).toInt ∧ (V 125 5).toInt ≤ 40 * (n : Int)) ∧ F
def lw_F (V : fm_V) : Prop := (V 26 9).toInt = (V 80 2).toInt ∧ (V 41 9).toInt = (V 125 5).toInt ∧ (V 0 11).toInt = (V 80 73).toInt
def lw_I (n : Nat) (V : fm_V) : Prop := lw_J (lw_F V) n V
theorem lw_J.up {F : Prop} {n : Nat} {V : fm_V} (h : lw_J F n V) : lw_J F (n + 1) V := ⟨h.1, h.2.1, ⟨h.2.2.1.1, by have := h.2.2.1.2; omega⟩, ⟨h.2.2.2.1.1, by have := h.2.2.2.1.2; omega⟩, h.2.2.2.2⟩
theorem lw_I.up {n : Nat} {V : fm_V} (h : lw_I n V) : lw_I (n + 1) V := lw_J.up h
theorem lw_xF {F F1 : Prop} {n : Nat} {V V1 : fm_V} {M : List (Nat × Nat)} (h : lw_J F n V) (hp : pz_F M V V1) (hM : M.all (fun q => decide (q.1 < 80)) = true) (hF : (∀ i f, 80 ≤ i → V1 i f = V i f) → F1) : lw_J F1 n V1 := by
  have k : ∀ i f, 80 ≤ i → V1 i f = V i f := fun i f hi => hp.2 i f (by
    cases hb : rv_in M i f with
    | false => rfl
    | true =>
      simp only [rv_in, List.any_eq_true, Bool.and_eq_true, decide_eq_true_eq] at hb
      obtain ⟨q, q1, q2, q3⟩ := hb
      have h1 := List.all_eq_true.mp hM q q1
      simp only [decide_eq_true_eq] at h1
      omega)
  refine ⟨hp.1, fm_G_gd V V1 (fun i f hif => k i f ?_) h.2.1, ?_, ?_, hF k⟩
  · simp only [fm_gd, Bool.and_eq_true, Bool.or_eq_true, decide_eq_true_eq] at hif
    omega
  · rw [k 80 2 (by decide)]; exact h.2.2.1
  · rw [k 125 5 (by decide)]; exact h.2.2.2.1
theorem lw_x {n : Nat} {V V1 : fm_V} {K : rv_K} {avs : List Value} {r : Option Value} (h : lw_I n V) (hp : rv_Post fm_tm K V avs r V1) (hM : K.2.2.1.all (fun q => decide (q.1 < 80)) = true ∧ rv_in K.2.2.1 26 9 = false ∧ rv_in K.2.2.1 41 9 = false ∧ rv_in K.2.2.1 0 11 = false) : lw_I n V1 := lw_xF (F1 := lw_F V1) h ⟨hp.1, hp.2.1⟩ hM.1 (fun k => by
  unfold lw_F
  rw [hp.2.1 26 9 hM.2.1, hp.2.1 41 9 hM.2.2.1, hp.2.1 0 11 hM.2.2.2, k 80 73 (by decide), k 80 2 (by decide), k 125 5 (by decide)]
  exact h.2.2.2.2)
def lw_n (M : List (Nat × Nat)) : Bool := fm_gk M && !rv_in M 26 9 && !rv_in M 41 9 && !rv_in M 0 11 && !rv_in M 80 73
theorem lw_n.all {M : List (Nat × Nat)} (h : lw_n M = true) : fm_gk M = true ∧ rv_in M 26 9 = false ∧ rv_in M 41 9 = false ∧ rv_in M 0 11 = false ∧ rv_in M 80 73 = false := by
  simp only [lw_n, Bool.and_eq_true, Bool.not_eq_true'] at h
  exact ⟨h.1.1.1.1, h.1.1.1.2, h.1.1.2, h.1.2, h.2⟩
theorem lw_mk {n : Nat} {V V1 : fm_V} {M : List (Nat × Nat)} (h : lw_I n V) (hT : fm_Tm fm_tm V1) (hF : ∀ i f, rv_in M i f = false → V1 i f = V i f) (hM : lw_n M = true) (hh : (V1 80 2).toInt = (V 80 2).toInt) (hk : (V1 125 5).toInt = (V 125 5).toInt) : lw_I (n + 1) V1 := by
  have h2 := h.up
  have hm := lw_n.all hM
  refine ⟨hT, fm_gm fm_G_gd hm.1 V V1 hF h.2.1, by rw [hh]; exact h2.2.2.1, by rw [hk]; exact h2.2.2.2.1, ?_⟩
  unfold lw_F
  rw [hF 26 9 hm.2.1, hF 41 9 hm.2.2.1, hF 0 11 hm.2.2.2.1, hF 80 73 hm.2.2.2.2, hh, hk]
  exact h.2.2.2.2
theorem lw_m {n : Nat} {V V1 : fm_V} {K : rv_K} {avs : List Value} {r : Option Value} (h : lw_I n V) (hp : rv_Post fm_tm K V avs r V1) (hM : lw_n K.2.2.1 = true ∧ rv_in K.2.2.1 80 2 = false ∧ rv_in K.2.2.1 125 5 = false) : lw_I (n + 1) V1 := lw_mk h hp.1 hp.2.1 hM.1 (by rw [hp.2.1 80 2 hM.2.1]) (by rw [hp.2.1 125 5 hM.2.2])
theorem lw_mh {n : Nat} {V V1 : fm_V} {K : rv_K} {avs : List Value} {r : Option Value} (h : lw_I n V) (hp : rv_Post fm_tm K V avs r V1) (hM : lw_n K.2.2.1 = true ∧ rv_in K.2.2.1 125 5 = false) {hi d : Int} (hq : (((80, 2), 0, hi, [((80, 2), 0, d)]) : rv_Fa) ∈ K.2.2.2.2.2) (hd : d = 0) : lw_I (n + 1) V1 := by
  have q := hp.2.2.2 _ hq
  have q1 : (0 : Int) ≤ (V1 80 2).toInt - (V 80 2).toInt := (q.2 ((80, 2), 0, d) (List.mem_singleton.mpr rfl)).1
  have q2 : (V1 80 2).toInt - (V 80 2).toInt ≤ d := (q.2 ((80, 2), 0, d) (List.mem_singleton.mpr rfl)).2
  exact lw_mk h hp.1 hp.2.1 hM.1 (by omega) (by rw [hp.2.1 125 5 hM.2])
/-- the class is z hours ahead; now the reference goes on too -/
theorem lw_go {n : Nat} {V V1 : fm_V} {M : List (Nat × Nat)} {z : Int} (h : lw_J ((V 26 9).toInt = (V 80 2).toInt + z ∧ (V 41 9).toInt = (V 125 5).toInt ∧ (V 0 11).toInt = (V 80 73).toInt) n V) (hp : pz_F M V V1) (hM : lw_n M = true ∧ rv_in M 125 5 = false) (hz : 0 ≤ z ∧ z ≤ 40) (hh : (V1 80 2).toInt = (V 80 2).toInt + z) : lw_I (n + 1) V1 := by
  have hm := lw_n.all hM.1
  have b := h.2.2.1
  have c := h.2.2.2.1
  have e := hp.2 125 5 hM.2
  refine ⟨hp.1, fm_gm fm_G_gd hm.1 V V1 hp.2 h.2.1, by omega, by rw [e]; omega, ?_⟩
  unfold lw_F
  rw [hp.2 26 9 hm.2.1, hp.2 41 9 hm.2.2.1, hp.2 0 11 hm.2.2.2.1, hp.2 80 73 hm.2.2.2.2, hh, e]
  exact h.2.2.2.2
/-- the class is ahead by z -/
theorem lw_xz {n : Nat} {V V1 : fm_V} {M : List (Nat × Nat)} {z : Int} (h : lw_I n V) (hp : pz_F M V V1) (hM : M.all (fun q => decide (q.1 < 80)) = true ∧ rv_in M 41 9 = false ∧ rv_in M 0 11 = false) (hh : (V1 26 9).toInt = (V 26 9).toInt + z) : lw_J ((V1 26 9).toInt = (V1 80 2).toInt + z ∧ (V1 41 9).toInt = (V1 125 5).toInt ∧ (V1 0 11).toInt = (V1 80 73).toInt) n V1 := lw_xF h hp hM.1 (fun k => by
  rw [hp.2 41 9 hM.2.1, hp.2 0 11 hM.2.2, k 80 73 (by decide), k 80 2 (by decide), k 125 5 (by decide), hh, h.2.2.2.2.1]
  exact ⟨rfl, h.2.2.2.2.2⟩)
theorem lw_ck {n : Nat} {V : fm_V} (h : lw_I n V) (hn : n < 512) {B : Int} (hB : 500000 ≤ B) : 0 ≤ (V 26 9).toInt ∧ (V 26 9).toInt ≤ B := by
  have a := h.2.2.1
  have b := h.2.2.2.2.1
  omega
theorem lw_kk {n : Nat} {V : fm_V} (h : lw_I n V) (hn : n < 512) {B : Int} (hB : 500000 ≤ B) : 0 ≤ (V 41 9).toInt ∧ (V 41 9).toInt ≤ B := by
  have a := h.2.2.2.1
  have b := h.2.2.2.2.2.1
  omega
theorem lw_hr {F : Prop} {n : Nat} {V : fm_V} (h : lw_J F n V) (hn : n < 512) {B : Int} (hB : 500000 ≤ B) : 0 ≤ (V 80 2).toInt ∧ (V 80 2).toInt ≤ B := ⟨h.2.2.1.1, by have := h.2.2.1.2; omega⟩
theorem lw_sr {F : Prop} {n : Nat} {V : fm_V} (h : lw_J F n V) (hn : n < 512) {B : Int} (hB : 500000 ≤ B) : 0 ≤ (V 125 5).toInt ∧ (V 125 5).toInt ≤ B := ⟨h.2.2.2.1.1, by have := h.2.2.2.1.2; omega⟩
def cl_0 : List (Nat × Instr × Nat) := [(0, .new 7, 3), (3, .dup, 1), (4, .invokespecial 9, 3), (7, .astore_n 1, 1), (8, .new 10, 3), (11, .dup, 1), (12, .invokespecial 12, 3), (15, .astore_n 2, 1), (16, .iconst 0, 1), (17, .istore_n 3, 1), (18, .iload_n 3, 1), (19, .aload_n 0, 1), (20, .arraylength, 1), (21, .bipush 6, 2), (23, .isub, 1), (24, .if_icmp .gt 1135, 3), (27, .aload_n 0, 1), (28, .iload_n 3, 1), (29, .iaload, 1), (30, .bipush 31, 2)]
theorem dl_0 : ∀ q ∈ cl_0, decode code q.1 = .ok (q.2.1, q.2.2) := by decide +kernel
theorem d_law_0 : decode code 0 = .ok (.new 7, 3) := dl_0 (0, .new 7, 3) (List.mem_of_getElem? (i := 0) rfl)
theorem d_law_3 : decode code 3 = .ok (.dup, 1) := dl_0 (3, .dup, 1) (List.mem_of_getElem? (i := 1) rfl)
theorem d_law_4 : decode code 4 = .ok (.invokespecial 9, 3) := dl_0 (4, .invokespecial 9, 3) (List.mem_of_getElem? (i := 2) rfl)
theorem d_law_7 : decode code 7 = .ok (.astore_n 1, 1) := dl_0 (7, .astore_n 1, 1) (List.mem_of_getElem? (i := 3) rfl)
theorem d_law_8 : decode code 8 = .ok (.new 10, 3) := dl_0 (8, .new 10, 3) (List.mem_of_getElem? (i := 4) rfl)
theorem d_law_11 : decode code 11 = .ok (.dup, 1) := dl_0 (11, .dup, 1) (List.mem_of_getElem? (i := 5) rfl)
theorem d_law_12 : decode code 12 = .ok (.invokespecial 12, 3) := dl_0 (12, .invokespecial 12, 3) (List.mem_of_getElem? (i := 6) rfl)
theorem d_law_15 : decode code 15 = .ok (.astore_n 2, 1) := dl_0 (15, .astore_n 2, 1) (List.mem_of_getElem? (i := 7) rfl)
theorem d_law_16 : decode code 16 = .ok (.iconst 0, 1) := dl_0 (16, .iconst 0, 1) (List.mem_of_getElem? (i := 8) rfl)
theorem d_law_17 : decode code 17 = .ok (.istore_n 3, 1) := dl_0 (17, .istore_n 3, 1) (List.mem_of_getElem? (i := 9) rfl)
theorem d_law_18 : decode code 18 = .ok (.iload_n 3, 1) := dl_0 (18, .iload_n 3, 1) (List.mem_of_getElem? (i := 10) rfl)
theorem d_law_19 : decode code 19 = .ok (.aload_n 0, 1) := dl_0 (19, .aload_n 0, 1) (List.mem_of_getElem? (i := 11) rfl)
theorem d_law_20 : decode code 20 = .ok (.arraylength, 1) := dl_0 (20, .arraylength, 1) (List.mem_of_getElem? (i := 12) rfl)
theorem d_law_21 : decode code 21 = .ok (.bipush 6, 2) := dl_0 (21, .bipush 6, 2) (List.mem_of_getElem? (i := 13) rfl)
theorem d_law_23 : decode code 23 = .ok (.isub, 1) := dl_0 (23, .isub, 1) (List.mem_of_getElem? (i := 14) rfl)
theorem d_law_24 : decode code 24 = .ok (.if_icmp .gt 1135, 3) := dl_0 (24, .if_icmp .gt 1135, 3) (List.mem_of_getElem? (i := 15) rfl)
theorem d_law_27 : decode code 27 = .ok (.aload_n 0, 1) := dl_0 (27, .aload_n 0, 1) (List.mem_of_getElem? (i := 16) rfl)
theorem d_law_28 : decode code 28 = .ok (.iload_n 3, 1) := dl_0 (28, .iload_n 3, 1) (List.mem_of_getElem? (i := 17) rfl)
theorem d_law_29 : decode code 29 = .ok (.iaload, 1) := dl_0 (29, .iaload, 1) (List.mem_of_getElem? (i := 18) rfl)
theorem d_law_30 : decode code 30 = .ok (.bipush 31, 2) := dl_0 (30, .bipush 31, 2) (List.mem_of_getElem? (i := 19) rfl)
def cl_20 : List (Nat × Instr × Nat) := [(32, .iand, 1), (33, .tableswitch 1120 0 26 #[123, 192, 225, 288, 321, 354, 417, 440, 463, 486, 519, 552, 585, 648, 691, 724, 777, 820, 863, 906, 939, 982, 1025, 1048, 1061, 1074, 1097], 123), (156, .aload_n 1, 1), (157, .aload_n 0, 1), (158, .iload_n 3, 1), (159, .iconst 1, 1), (160, .iadd, 1), (161, .iaload, 1), (162, .aload_n 0, 1), (163, .iload_n 3, 1), (164, .iconst 2, 1), (165, .iadd, 1), (166, .iaload, 1), (167, .aload_n 0, 1), (168, .iload_n 3, 1), (169, .iconst 3, 1), (170, .iadd, 1), (171, .iaload, 1), (172, .aload_n 0, 1), (173, .iload_n 3, 1)]
theorem dl_20 : ∀ q ∈ cl_20, decode code q.1 = .ok (q.2.1, q.2.2) := by decide +kernel
theorem d_law_32 : decode code 32 = .ok (.iand, 1) := dl_20 (32, .iand, 1) (List.mem_of_getElem? (i := 0) rfl)
theorem d_law_33 : decode code 33 = .ok (.tableswitch 1120 0 26 #[123, 192, 225, 288, 321, 354, 417, 440, 463, 486, 519, 552, 585, 648, 691, 724, 777, 820, 863, 906, 939, 982, 1025, 1048, 1061, 1074, 1097], 123) := dl_20 (33, .tableswitch 1120 0 26 #[123, 192, 225, 288, 321, 354, 417, 440, 463, 486, 519, 552, 585, 648, 691, 724, 777, 820, 863, 906, 939, 982, 1025, 1048, 1061, 1074, 1097], 123) (List.mem_of_getElem? (i := 1) rfl)
theorem d_law_156 : decode code 156 = .ok (.aload_n 1, 1) := dl_20 (156, .aload_n 1, 1) (List.mem_of_getElem? (i := 2) rfl)
theorem d_law_157 : decode code 157 = .ok (.aload_n 0, 1) := dl_20 (157, .aload_n 0, 1) (List.mem_of_getElem? (i := 3) rfl)
theorem d_law_158 : decode code 158 = .ok (.iload_n 3, 1) := dl_20 (158, .iload_n 3, 1) (List.mem_of_getElem? (i := 4) rfl)
theorem d_law_159 : decode code 159 = .ok (.iconst 1, 1) := dl_20 (159, .iconst 1, 1) (List.mem_of_getElem? (i := 5) rfl)
theorem d_law_160 : decode code 160 = .ok (.iadd, 1) := dl_20 (160, .iadd, 1) (List.mem_of_getElem? (i := 6) rfl)
theorem d_law_161 : decode code 161 = .ok (.iaload, 1) := dl_20 (161, .iaload, 1) (List.mem_of_getElem? (i := 7) rfl)
theorem d_law_162 : decode code 162 = .ok (.aload_n 0, 1) := dl_20 (162, .aload_n 0, 1) (List.mem_of_getElem? (i := 8) rfl)
theorem d_law_163 : decode code 163 = .ok (.iload_n 3, 1) := dl_20 (163, .iload_n 3, 1) (List.mem_of_getElem? (i := 9) rfl)
theorem d_law_164 : decode code 164 = .ok (.iconst 2, 1) := dl_20 (164, .iconst 2, 1) (List.mem_of_getElem? (i := 10) rfl)
theorem d_law_165 : decode code 165 = .ok (.iadd, 1) := dl_20 (165, .iadd, 1) (List.mem_of_getElem? (i := 11) rfl)
theorem d_law_166 : decode code 166 = .ok (.iaload, 1) := dl_20 (166, .iaload, 1) (List.mem_of_getElem? (i := 12) rfl)
theorem d_law_167 : decode code 167 = .ok (.aload_n 0, 1) := dl_20 (167, .aload_n 0, 1) (List.mem_of_getElem? (i := 13) rfl)
theorem d_law_168 : decode code 168 = .ok (.iload_n 3, 1) := dl_20 (168, .iload_n 3, 1) (List.mem_of_getElem? (i := 14) rfl)
theorem d_law_169 : decode code 169 = .ok (.iconst 3, 1) := dl_20 (169, .iconst 3, 1) (List.mem_of_getElem? (i := 15) rfl)
theorem d_law_170 : decode code 170 = .ok (.iadd, 1) := dl_20 (170, .iadd, 1) (List.mem_of_getElem? (i := 16) rfl)
theorem d_law_171 : decode code 171 = .ok (.iaload, 1) := dl_20 (171, .iaload, 1) (List.mem_of_getElem? (i := 17) rfl)
theorem d_law_172 : decode code 172 = .ok (.aload_n 0, 1) := dl_20 (172, .aload_n 0, 1) (List.mem_of_getElem? (i := 18) rfl)
theorem d_law_173 : decode code 173 = .ok (.iload_n 3, 1) := dl_20 (173, .iload_n 3, 1) (List.mem_of_getElem? (i := 19) rfl)
def cl_40 : List (Nat × Instr × Nat) := [(174, .iconst 4, 1), (175, .iadd, 1), (176, .iaload, 1), (177, .ifCond .eq 7, 3), (180, .iconst 1, 1), (181, .goto 4, 3), (184, .iconst 0, 1), (185, .invokevirtual 13, 3), (188, .pop, 1), (189, .aload_n 2, 1), (190, .aload_n 0, 1), (191, .iload_n 3, 1), (192, .iconst 1, 1), (193, .iadd, 1), (194, .iaload, 1), (195, .aload_n 0, 1), (196, .iload_n 3, 1), (197, .iconst 2, 1), (198, .iadd, 1), (199, .iaload, 1)]
theorem dl_40 : ∀ q ∈ cl_40, decode code q.1 = .ok (q.2.1, q.2.2) := by decide +kernel
theorem d_law_174 : decode code 174 = .ok (.iconst 4, 1) := dl_40 (174, .iconst 4, 1) (List.mem_of_getElem? (i := 0) rfl)
theorem d_law_175 : decode code 175 = .ok (.iadd, 1) := dl_40 (175, .iadd, 1) (List.mem_of_getElem? (i := 1) rfl)
theorem d_law_176 : decode code 176 = .ok (.iaload, 1) := dl_40 (176, .iaload, 1) (List.mem_of_getElem? (i := 2) rfl)
theorem d_law_177 : decode code 177 = .ok (.ifCond .eq 7, 3) := dl_40 (177, .ifCond .eq 7, 3) (List.mem_of_getElem? (i := 3) rfl)
theorem d_law_180 : decode code 180 = .ok (.iconst 1, 1) := dl_40 (180, .iconst 1, 1) (List.mem_of_getElem? (i := 4) rfl)
theorem d_law_181 : decode code 181 = .ok (.goto 4, 3) := dl_40 (181, .goto 4, 3) (List.mem_of_getElem? (i := 5) rfl)
theorem d_law_184 : decode code 184 = .ok (.iconst 0, 1) := dl_40 (184, .iconst 0, 1) (List.mem_of_getElem? (i := 6) rfl)
theorem d_law_185 : decode code 185 = .ok (.invokevirtual 13, 3) := dl_40 (185, .invokevirtual 13, 3) (List.mem_of_getElem? (i := 7) rfl)
theorem d_law_188 : decode code 188 = .ok (.pop, 1) := dl_40 (188, .pop, 1) (List.mem_of_getElem? (i := 8) rfl)
theorem d_law_189 : decode code 189 = .ok (.aload_n 2, 1) := dl_40 (189, .aload_n 2, 1) (List.mem_of_getElem? (i := 9) rfl)
theorem d_law_190 : decode code 190 = .ok (.aload_n 0, 1) := dl_40 (190, .aload_n 0, 1) (List.mem_of_getElem? (i := 10) rfl)
theorem d_law_191 : decode code 191 = .ok (.iload_n 3, 1) := dl_40 (191, .iload_n 3, 1) (List.mem_of_getElem? (i := 11) rfl)
theorem d_law_192 : decode code 192 = .ok (.iconst 1, 1) := dl_40 (192, .iconst 1, 1) (List.mem_of_getElem? (i := 12) rfl)
theorem d_law_193 : decode code 193 = .ok (.iadd, 1) := dl_40 (193, .iadd, 1) (List.mem_of_getElem? (i := 13) rfl)
theorem d_law_194 : decode code 194 = .ok (.iaload, 1) := dl_40 (194, .iaload, 1) (List.mem_of_getElem? (i := 14) rfl)
theorem d_law_195 : decode code 195 = .ok (.aload_n 0, 1) := dl_40 (195, .aload_n 0, 1) (List.mem_of_getElem? (i := 15) rfl)
theorem d_law_196 : decode code 196 = .ok (.iload_n 3, 1) := dl_40 (196, .iload_n 3, 1) (List.mem_of_getElem? (i := 16) rfl)
theorem d_law_197 : decode code 197 = .ok (.iconst 2, 1) := dl_40 (197, .iconst 2, 1) (List.mem_of_getElem? (i := 17) rfl)
theorem d_law_198 : decode code 198 = .ok (.iadd, 1) := dl_40 (198, .iadd, 1) (List.mem_of_getElem? (i := 18) rfl)
theorem d_law_199 : decode code 199 = .ok (.iaload, 1) := dl_40 (199, .iaload, 1) (List.mem_of_getElem? (i := 19) rfl)
def cl_60 : List (Nat × Instr × Nat) := [(200, .aload_n 0, 1), (201, .iload_n 3, 1), (202, .iconst 3, 1), (203, .iadd, 1), (204, .iaload, 1), (205, .aload_n 0, 1), (206, .iload_n 3, 1), (207, .iconst 4, 1), (208, .iadd, 1), (209, .iaload, 1), (210, .ifCond .eq 7, 3), (213, .iconst 1, 1), (214, .goto 4, 3), (217, .iconst 0, 1), (218, .invokevirtual 17, 3), (221, .pop, 1), (222, .goto 931, 3), (225, .aload_n 1, 1), (226, .aload_n 0, 1), (227, .iload_n 3, 1)]
theorem dl_60 : ∀ q ∈ cl_60, decode code q.1 = .ok (q.2.1, q.2.2) := by decide +kernel
theorem d_law_200 : decode code 200 = .ok (.aload_n 0, 1) := dl_60 (200, .aload_n 0, 1) (List.mem_of_getElem? (i := 0) rfl)
theorem d_law_201 : decode code 201 = .ok (.iload_n 3, 1) := dl_60 (201, .iload_n 3, 1) (List.mem_of_getElem? (i := 1) rfl)
theorem d_law_202 : decode code 202 = .ok (.iconst 3, 1) := dl_60 (202, .iconst 3, 1) (List.mem_of_getElem? (i := 2) rfl)
theorem d_law_203 : decode code 203 = .ok (.iadd, 1) := dl_60 (203, .iadd, 1) (List.mem_of_getElem? (i := 3) rfl)
theorem d_law_204 : decode code 204 = .ok (.iaload, 1) := dl_60 (204, .iaload, 1) (List.mem_of_getElem? (i := 4) rfl)
theorem d_law_205 : decode code 205 = .ok (.aload_n 0, 1) := dl_60 (205, .aload_n 0, 1) (List.mem_of_getElem? (i := 5) rfl)
theorem d_law_206 : decode code 206 = .ok (.iload_n 3, 1) := dl_60 (206, .iload_n 3, 1) (List.mem_of_getElem? (i := 6) rfl)
theorem d_law_207 : decode code 207 = .ok (.iconst 4, 1) := dl_60 (207, .iconst 4, 1) (List.mem_of_getElem? (i := 7) rfl)
theorem d_law_208 : decode code 208 = .ok (.iadd, 1) := dl_60 (208, .iadd, 1) (List.mem_of_getElem? (i := 8) rfl)
theorem d_law_209 : decode code 209 = .ok (.iaload, 1) := dl_60 (209, .iaload, 1) (List.mem_of_getElem? (i := 9) rfl)
theorem d_law_210 : decode code 210 = .ok (.ifCond .eq 7, 3) := dl_60 (210, .ifCond .eq 7, 3) (List.mem_of_getElem? (i := 10) rfl)
theorem d_law_213 : decode code 213 = .ok (.iconst 1, 1) := dl_60 (213, .iconst 1, 1) (List.mem_of_getElem? (i := 11) rfl)
theorem d_law_214 : decode code 214 = .ok (.goto 4, 3) := dl_60 (214, .goto 4, 3) (List.mem_of_getElem? (i := 12) rfl)
theorem d_law_217 : decode code 217 = .ok (.iconst 0, 1) := dl_60 (217, .iconst 0, 1) (List.mem_of_getElem? (i := 13) rfl)
theorem d_law_218 : decode code 218 = .ok (.invokevirtual 17, 3) := dl_60 (218, .invokevirtual 17, 3) (List.mem_of_getElem? (i := 14) rfl)
theorem d_law_221 : decode code 221 = .ok (.pop, 1) := dl_60 (221, .pop, 1) (List.mem_of_getElem? (i := 15) rfl)
theorem d_law_222 : decode code 222 = .ok (.goto 931, 3) := dl_60 (222, .goto 931, 3) (List.mem_of_getElem? (i := 16) rfl)
theorem d_law_225 : decode code 225 = .ok (.aload_n 1, 1) := dl_60 (225, .aload_n 1, 1) (List.mem_of_getElem? (i := 17) rfl)
theorem d_law_226 : decode code 226 = .ok (.aload_n 0, 1) := dl_60 (226, .aload_n 0, 1) (List.mem_of_getElem? (i := 18) rfl)
theorem d_law_227 : decode code 227 = .ok (.iload_n 3, 1) := dl_60 (227, .iload_n 3, 1) (List.mem_of_getElem? (i := 19) rfl)
def cl_80 : List (Nat × Instr × Nat) := [(228, .iconst 1, 1), (229, .iadd, 1), (230, .iaload, 1), (231, .aload_n 0, 1), (232, .iload_n 3, 1), (233, .iconst 2, 1), (234, .iadd, 1), (235, .iaload, 1), (236, .invokevirtual 18, 3), (239, .pop, 1), (240, .aload_n 2, 1), (241, .aload_n 0, 1), (242, .iload_n 3, 1), (243, .iconst 1, 1), (244, .iadd, 1), (245, .iaload, 1), (246, .aload_n 0, 1), (247, .iload_n 3, 1), (248, .iconst 2, 1), (249, .iadd, 1)]
theorem dl_80 : ∀ q ∈ cl_80, decode code q.1 = .ok (q.2.1, q.2.2) := by decide +kernel
theorem d_law_228 : decode code 228 = .ok (.iconst 1, 1) := dl_80 (228, .iconst 1, 1) (List.mem_of_getElem? (i := 0) rfl)
theorem d_law_229 : decode code 229 = .ok (.iadd, 1) := dl_80 (229, .iadd, 1) (List.mem_of_getElem? (i := 1) rfl)
theorem d_law_230 : decode code 230 = .ok (.iaload, 1) := dl_80 (230, .iaload, 1) (List.mem_of_getElem? (i := 2) rfl)
theorem d_law_231 : decode code 231 = .ok (.aload_n 0, 1) := dl_80 (231, .aload_n 0, 1) (List.mem_of_getElem? (i := 3) rfl)
theorem d_law_232 : decode code 232 = .ok (.iload_n 3, 1) := dl_80 (232, .iload_n 3, 1) (List.mem_of_getElem? (i := 4) rfl)
theorem d_law_233 : decode code 233 = .ok (.iconst 2, 1) := dl_80 (233, .iconst 2, 1) (List.mem_of_getElem? (i := 5) rfl)
theorem d_law_234 : decode code 234 = .ok (.iadd, 1) := dl_80 (234, .iadd, 1) (List.mem_of_getElem? (i := 6) rfl)
theorem d_law_235 : decode code 235 = .ok (.iaload, 1) := dl_80 (235, .iaload, 1) (List.mem_of_getElem? (i := 7) rfl)
theorem d_law_236 : decode code 236 = .ok (.invokevirtual 18, 3) := dl_80 (236, .invokevirtual 18, 3) (List.mem_of_getElem? (i := 8) rfl)
theorem d_law_239 : decode code 239 = .ok (.pop, 1) := dl_80 (239, .pop, 1) (List.mem_of_getElem? (i := 9) rfl)
theorem d_law_240 : decode code 240 = .ok (.aload_n 2, 1) := dl_80 (240, .aload_n 2, 1) (List.mem_of_getElem? (i := 10) rfl)
theorem d_law_241 : decode code 241 = .ok (.aload_n 0, 1) := dl_80 (241, .aload_n 0, 1) (List.mem_of_getElem? (i := 11) rfl)
theorem d_law_242 : decode code 242 = .ok (.iload_n 3, 1) := dl_80 (242, .iload_n 3, 1) (List.mem_of_getElem? (i := 12) rfl)
theorem d_law_243 : decode code 243 = .ok (.iconst 1, 1) := dl_80 (243, .iconst 1, 1) (List.mem_of_getElem? (i := 13) rfl)
theorem d_law_244 : decode code 244 = .ok (.iadd, 1) := dl_80 (244, .iadd, 1) (List.mem_of_getElem? (i := 14) rfl)
theorem d_law_245 : decode code 245 = .ok (.iaload, 1) := dl_80 (245, .iaload, 1) (List.mem_of_getElem? (i := 15) rfl)
theorem d_law_246 : decode code 246 = .ok (.aload_n 0, 1) := dl_80 (246, .aload_n 0, 1) (List.mem_of_getElem? (i := 16) rfl)
theorem d_law_247 : decode code 247 = .ok (.iload_n 3, 1) := dl_80 (247, .iload_n 3, 1) (List.mem_of_getElem? (i := 17) rfl)
theorem d_law_248 : decode code 248 = .ok (.iconst 2, 1) := dl_80 (248, .iconst 2, 1) (List.mem_of_getElem? (i := 18) rfl)
theorem d_law_249 : decode code 249 = .ok (.iadd, 1) := dl_80 (249, .iadd, 1) (List.mem_of_getElem? (i := 19) rfl)
def cl_100 : List (Nat × Instr × Nat) := [(250, .iaload, 1), (251, .invokevirtual 22, 3), (254, .pop, 1), (255, .goto 898, 3), (258, .aload_n 1, 1), (259, .aload_n 0, 1), (260, .iload_n 3, 1), (261, .iconst 1, 1), (262, .iadd, 1), (263, .iaload, 1), (264, .aload_n 0, 1), (265, .iload_n 3, 1), (266, .iconst 2, 1), (267, .iadd, 1), (268, .iaload, 1), (269, .aload_n 0, 1), (270, .iload_n 3, 1), (271, .iconst 3, 1), (272, .iadd, 1), (273, .iaload, 1)]
theorem dl_100 : ∀ q ∈ cl_100, decode code q.1 = .ok (q.2.1, q.2.2) := by decide +kernel
theorem d_law_250 : decode code 250 = .ok (.iaload, 1) := dl_100 (250, .iaload, 1) (List.mem_of_getElem? (i := 0) rfl)
theorem d_law_251 : decode code 251 = .ok (.invokevirtual 22, 3) := dl_100 (251, .invokevirtual 22, 3) (List.mem_of_getElem? (i := 1) rfl)
theorem d_law_254 : decode code 254 = .ok (.pop, 1) := dl_100 (254, .pop, 1) (List.mem_of_getElem? (i := 2) rfl)
theorem d_law_255 : decode code 255 = .ok (.goto 898, 3) := dl_100 (255, .goto 898, 3) (List.mem_of_getElem? (i := 3) rfl)
theorem d_law_258 : decode code 258 = .ok (.aload_n 1, 1) := dl_100 (258, .aload_n 1, 1) (List.mem_of_getElem? (i := 4) rfl)
theorem d_law_259 : decode code 259 = .ok (.aload_n 0, 1) := dl_100 (259, .aload_n 0, 1) (List.mem_of_getElem? (i := 5) rfl)
theorem d_law_260 : decode code 260 = .ok (.iload_n 3, 1) := dl_100 (260, .iload_n 3, 1) (List.mem_of_getElem? (i := 6) rfl)
theorem d_law_261 : decode code 261 = .ok (.iconst 1, 1) := dl_100 (261, .iconst 1, 1) (List.mem_of_getElem? (i := 7) rfl)
theorem d_law_262 : decode code 262 = .ok (.iadd, 1) := dl_100 (262, .iadd, 1) (List.mem_of_getElem? (i := 8) rfl)
theorem d_law_263 : decode code 263 = .ok (.iaload, 1) := dl_100 (263, .iaload, 1) (List.mem_of_getElem? (i := 9) rfl)
theorem d_law_264 : decode code 264 = .ok (.aload_n 0, 1) := dl_100 (264, .aload_n 0, 1) (List.mem_of_getElem? (i := 10) rfl)
theorem d_law_265 : decode code 265 = .ok (.iload_n 3, 1) := dl_100 (265, .iload_n 3, 1) (List.mem_of_getElem? (i := 11) rfl)
theorem d_law_266 : decode code 266 = .ok (.iconst 2, 1) := dl_100 (266, .iconst 2, 1) (List.mem_of_getElem? (i := 12) rfl)
theorem d_law_267 : decode code 267 = .ok (.iadd, 1) := dl_100 (267, .iadd, 1) (List.mem_of_getElem? (i := 13) rfl)
theorem d_law_268 : decode code 268 = .ok (.iaload, 1) := dl_100 (268, .iaload, 1) (List.mem_of_getElem? (i := 14) rfl)
theorem d_law_269 : decode code 269 = .ok (.aload_n 0, 1) := dl_100 (269, .aload_n 0, 1) (List.mem_of_getElem? (i := 15) rfl)
theorem d_law_270 : decode code 270 = .ok (.iload_n 3, 1) := dl_100 (270, .iload_n 3, 1) (List.mem_of_getElem? (i := 16) rfl)
theorem d_law_271 : decode code 271 = .ok (.iconst 3, 1) := dl_100 (271, .iconst 3, 1) (List.mem_of_getElem? (i := 17) rfl)
theorem d_law_272 : decode code 272 = .ok (.iadd, 1) := dl_100 (272, .iadd, 1) (List.mem_of_getElem? (i := 18) rfl)
theorem d_law_273 : decode code 273 = .ok (.iaload, 1) := dl_100 (273, .iaload, 1) (List.mem_of_getElem? (i := 19) rfl)
def cl_120 : List (Nat × Instr × Nat) := [(274, .aload_n 0, 1), (275, .iload_n 3, 1), (276, .iconst 4, 1), (277, .iadd, 1), (278, .iaload, 1), (279, .aload_n 0, 1), (280, .iload_n 3, 1), (281, .iconst 5, 1), (282, .iadd, 1), (283, .iaload, 1), (284, .invokevirtual 23, 3), (287, .pop, 1), (288, .aload_n 2, 1), (289, .aload_n 0, 1), (290, .iload_n 3, 1), (291, .iconst 1, 1), (292, .iadd, 1), (293, .iaload, 1), (294, .aload_n 0, 1), (295, .iload_n 3, 1)]
theorem dl_120 : ∀ q ∈ cl_120, decode code q.1 = .ok (q.2.1, q.2.2) := by decide +kernel
theorem d_law_274 : decode code 274 = .ok (.aload_n 0, 1) := dl_120 (274, .aload_n 0, 1) (List.mem_of_getElem? (i := 0) rfl)
theorem d_law_275 : decode code 275 = .ok (.iload_n 3, 1) := dl_120 (275, .iload_n 3, 1) (List.mem_of_getElem? (i := 1) rfl)
theorem d_law_276 : decode code 276 = .ok (.iconst 4, 1) := dl_120 (276, .iconst 4, 1) (List.mem_of_getElem? (i := 2) rfl)
theorem d_law_277 : decode code 277 = .ok (.iadd, 1) := dl_120 (277, .iadd, 1) (List.mem_of_getElem? (i := 3) rfl)
theorem d_law_278 : decode code 278 = .ok (.iaload, 1) := dl_120 (278, .iaload, 1) (List.mem_of_getElem? (i := 4) rfl)
theorem d_law_279 : decode code 279 = .ok (.aload_n 0, 1) := dl_120 (279, .aload_n 0, 1) (List.mem_of_getElem? (i := 5) rfl)
theorem d_law_280 : decode code 280 = .ok (.iload_n 3, 1) := dl_120 (280, .iload_n 3, 1) (List.mem_of_getElem? (i := 6) rfl)
theorem d_law_281 : decode code 281 = .ok (.iconst 5, 1) := dl_120 (281, .iconst 5, 1) (List.mem_of_getElem? (i := 7) rfl)
theorem d_law_282 : decode code 282 = .ok (.iadd, 1) := dl_120 (282, .iadd, 1) (List.mem_of_getElem? (i := 8) rfl)
theorem d_law_283 : decode code 283 = .ok (.iaload, 1) := dl_120 (283, .iaload, 1) (List.mem_of_getElem? (i := 9) rfl)
theorem d_law_284 : decode code 284 = .ok (.invokevirtual 23, 3) := dl_120 (284, .invokevirtual 23, 3) (List.mem_of_getElem? (i := 10) rfl)
theorem d_law_287 : decode code 287 = .ok (.pop, 1) := dl_120 (287, .pop, 1) (List.mem_of_getElem? (i := 11) rfl)
theorem d_law_288 : decode code 288 = .ok (.aload_n 2, 1) := dl_120 (288, .aload_n 2, 1) (List.mem_of_getElem? (i := 12) rfl)
theorem d_law_289 : decode code 289 = .ok (.aload_n 0, 1) := dl_120 (289, .aload_n 0, 1) (List.mem_of_getElem? (i := 13) rfl)
theorem d_law_290 : decode code 290 = .ok (.iload_n 3, 1) := dl_120 (290, .iload_n 3, 1) (List.mem_of_getElem? (i := 14) rfl)
theorem d_law_291 : decode code 291 = .ok (.iconst 1, 1) := dl_120 (291, .iconst 1, 1) (List.mem_of_getElem? (i := 15) rfl)
theorem d_law_292 : decode code 292 = .ok (.iadd, 1) := dl_120 (292, .iadd, 1) (List.mem_of_getElem? (i := 16) rfl)
theorem d_law_293 : decode code 293 = .ok (.iaload, 1) := dl_120 (293, .iaload, 1) (List.mem_of_getElem? (i := 17) rfl)
theorem d_law_294 : decode code 294 = .ok (.aload_n 0, 1) := dl_120 (294, .aload_n 0, 1) (List.mem_of_getElem? (i := 18) rfl)
theorem d_law_295 : decode code 295 = .ok (.iload_n 3, 1) := dl_120 (295, .iload_n 3, 1) (List.mem_of_getElem? (i := 19) rfl)
def cl_140 : List (Nat × Instr × Nat) := [(296, .iconst 2, 1), (297, .iadd, 1), (298, .iaload, 1), (299, .aload_n 0, 1), (300, .iload_n 3, 1), (301, .iconst 3, 1), (302, .iadd, 1), (303, .iaload, 1), (304, .aload_n 0, 1), (305, .iload_n 3, 1), (306, .iconst 4, 1), (307, .iadd, 1), (308, .iaload, 1), (309, .aload_n 0, 1), (310, .iload_n 3, 1), (311, .iconst 5, 1), (312, .iadd, 1), (313, .iaload, 1), (314, .invokevirtual 27, 3), (317, .pop, 1)]
theorem dl_140 : ∀ q ∈ cl_140, decode code q.1 = .ok (q.2.1, q.2.2) := by decide +kernel
theorem d_law_296 : decode code 296 = .ok (.iconst 2, 1) := dl_140 (296, .iconst 2, 1) (List.mem_of_getElem? (i := 0) rfl)
theorem d_law_297 : decode code 297 = .ok (.iadd, 1) := dl_140 (297, .iadd, 1) (List.mem_of_getElem? (i := 1) rfl)
theorem d_law_298 : decode code 298 = .ok (.iaload, 1) := dl_140 (298, .iaload, 1) (List.mem_of_getElem? (i := 2) rfl)
theorem d_law_299 : decode code 299 = .ok (.aload_n 0, 1) := dl_140 (299, .aload_n 0, 1) (List.mem_of_getElem? (i := 3) rfl)
theorem d_law_300 : decode code 300 = .ok (.iload_n 3, 1) := dl_140 (300, .iload_n 3, 1) (List.mem_of_getElem? (i := 4) rfl)
theorem d_law_301 : decode code 301 = .ok (.iconst 3, 1) := dl_140 (301, .iconst 3, 1) (List.mem_of_getElem? (i := 5) rfl)
theorem d_law_302 : decode code 302 = .ok (.iadd, 1) := dl_140 (302, .iadd, 1) (List.mem_of_getElem? (i := 6) rfl)
theorem d_law_303 : decode code 303 = .ok (.iaload, 1) := dl_140 (303, .iaload, 1) (List.mem_of_getElem? (i := 7) rfl)
theorem d_law_304 : decode code 304 = .ok (.aload_n 0, 1) := dl_140 (304, .aload_n 0, 1) (List.mem_of_getElem? (i := 8) rfl)
theorem d_law_305 : decode code 305 = .ok (.iload_n 3, 1) := dl_140 (305, .iload_n 3, 1) (List.mem_of_getElem? (i := 9) rfl)
theorem d_law_306 : decode code 306 = .ok (.iconst 4, 1) := dl_140 (306, .iconst 4, 1) (List.mem_of_getElem? (i := 10) rfl)
theorem d_law_307 : decode code 307 = .ok (.iadd, 1) := dl_140 (307, .iadd, 1) (List.mem_of_getElem? (i := 11) rfl)
theorem d_law_308 : decode code 308 = .ok (.iaload, 1) := dl_140 (308, .iaload, 1) (List.mem_of_getElem? (i := 12) rfl)
theorem d_law_309 : decode code 309 = .ok (.aload_n 0, 1) := dl_140 (309, .aload_n 0, 1) (List.mem_of_getElem? (i := 13) rfl)
theorem d_law_310 : decode code 310 = .ok (.iload_n 3, 1) := dl_140 (310, .iload_n 3, 1) (List.mem_of_getElem? (i := 14) rfl)
theorem d_law_311 : decode code 311 = .ok (.iconst 5, 1) := dl_140 (311, .iconst 5, 1) (List.mem_of_getElem? (i := 15) rfl)
theorem d_law_312 : decode code 312 = .ok (.iadd, 1) := dl_140 (312, .iadd, 1) (List.mem_of_getElem? (i := 16) rfl)
theorem d_law_313 : decode code 313 = .ok (.iaload, 1) := dl_140 (313, .iaload, 1) (List.mem_of_getElem? (i := 17) rfl)
theorem d_law_314 : decode code 314 = .ok (.invokevirtual 27, 3) := dl_140 (314, .invokevirtual 27, 3) (List.mem_of_getElem? (i := 18) rfl)
theorem d_law_317 : decode code 317 = .ok (.pop, 1) := dl_140 (317, .pop, 1) (List.mem_of_getElem? (i := 19) rfl)
def cl_160 : List (Nat × Instr × Nat) := [(318, .goto 835, 3), (321, .aload_n 1, 1), (322, .aload_n 0, 1), (323, .iload_n 3, 1), (324, .iconst 1, 1), (325, .iadd, 1), (326, .iaload, 1), (327, .aload_n 0, 1), (328, .iload_n 3, 1), (329, .iconst 2, 1), (330, .iadd, 1), (331, .iaload, 1), (332, .invokevirtual 28, 3), (335, .pop, 1), (336, .aload_n 2, 1), (337, .aload_n 0, 1), (338, .iload_n 3, 1), (339, .iconst 1, 1), (340, .iadd, 1), (341, .iaload, 1)]
theorem dl_160 : ∀ q ∈ cl_160, decode code q.1 = .ok (q.2.1, q.2.2) := by decide +kernel
theorem d_law_318 : decode code 318 = .ok (.goto 835, 3) := dl_160 (318, .goto 835, 3) (List.mem_of_getElem? (i := 0) rfl)
theorem d_law_321 : decode code 321 = .ok (.aload_n 1, 1) := dl_160 (321, .aload_n 1, 1) (List.mem_of_getElem? (i := 1) rfl)
theorem d_law_322 : decode code 322 = .ok (.aload_n 0, 1) := dl_160 (322, .aload_n 0, 1) (List.mem_of_getElem? (i := 2) rfl)
theorem d_law_323 : decode code 323 = .ok (.iload_n 3, 1) := dl_160 (323, .iload_n 3, 1) (List.mem_of_getElem? (i := 3) rfl)
theorem d_law_324 : decode code 324 = .ok (.iconst 1, 1) := dl_160 (324, .iconst 1, 1) (List.mem_of_getElem? (i := 4) rfl)
theorem d_law_325 : decode code 325 = .ok (.iadd, 1) := dl_160 (325, .iadd, 1) (List.mem_of_getElem? (i := 5) rfl)
theorem d_law_326 : decode code 326 = .ok (.iaload, 1) := dl_160 (326, .iaload, 1) (List.mem_of_getElem? (i := 6) rfl)
theorem d_law_327 : decode code 327 = .ok (.aload_n 0, 1) := dl_160 (327, .aload_n 0, 1) (List.mem_of_getElem? (i := 7) rfl)
theorem d_law_328 : decode code 328 = .ok (.iload_n 3, 1) := dl_160 (328, .iload_n 3, 1) (List.mem_of_getElem? (i := 8) rfl)
theorem d_law_329 : decode code 329 = .ok (.iconst 2, 1) := dl_160 (329, .iconst 2, 1) (List.mem_of_getElem? (i := 9) rfl)
theorem d_law_330 : decode code 330 = .ok (.iadd, 1) := dl_160 (330, .iadd, 1) (List.mem_of_getElem? (i := 10) rfl)
theorem d_law_331 : decode code 331 = .ok (.iaload, 1) := dl_160 (331, .iaload, 1) (List.mem_of_getElem? (i := 11) rfl)
theorem d_law_332 : decode code 332 = .ok (.invokevirtual 28, 3) := dl_160 (332, .invokevirtual 28, 3) (List.mem_of_getElem? (i := 12) rfl)
theorem d_law_335 : decode code 335 = .ok (.pop, 1) := dl_160 (335, .pop, 1) (List.mem_of_getElem? (i := 13) rfl)
theorem d_law_336 : decode code 336 = .ok (.aload_n 2, 1) := dl_160 (336, .aload_n 2, 1) (List.mem_of_getElem? (i := 14) rfl)
theorem d_law_337 : decode code 337 = .ok (.aload_n 0, 1) := dl_160 (337, .aload_n 0, 1) (List.mem_of_getElem? (i := 15) rfl)
theorem d_law_338 : decode code 338 = .ok (.iload_n 3, 1) := dl_160 (338, .iload_n 3, 1) (List.mem_of_getElem? (i := 16) rfl)
theorem d_law_339 : decode code 339 = .ok (.iconst 1, 1) := dl_160 (339, .iconst 1, 1) (List.mem_of_getElem? (i := 17) rfl)
theorem d_law_340 : decode code 340 = .ok (.iadd, 1) := dl_160 (340, .iadd, 1) (List.mem_of_getElem? (i := 18) rfl)
theorem d_law_341 : decode code 341 = .ok (.iaload, 1) := dl_160 (341, .iaload, 1) (List.mem_of_getElem? (i := 19) rfl)
def cl_180 : List (Nat × Instr × Nat) := [(342, .aload_n 0, 1), (343, .iload_n 3, 1), (344, .iconst 2, 1), (345, .iadd, 1), (346, .iaload, 1), (347, .invokevirtual 31, 3), (350, .pop, 1), (351, .goto 802, 3), (354, .aload_n 1, 1), (355, .aload_n 0, 1), (356, .iload_n 3, 1), (357, .iconst 1, 1), (358, .iadd, 1), (359, .iaload, 1), (360, .aload_n 0, 1), (361, .iload_n 3, 1), (362, .iconst 2, 1), (363, .iadd, 1), (364, .iaload, 1), (365, .invokevirtual 32, 3)]
theorem dl_180 : ∀ q ∈ cl_180, decode code q.1 = .ok (q.2.1, q.2.2) := by decide +kernel
theorem d_law_342 : decode code 342 = .ok (.aload_n 0, 1) := dl_180 (342, .aload_n 0, 1) (List.mem_of_getElem? (i := 0) rfl)
theorem d_law_343 : decode code 343 = .ok (.iload_n 3, 1) := dl_180 (343, .iload_n 3, 1) (List.mem_of_getElem? (i := 1) rfl)
theorem d_law_344 : decode code 344 = .ok (.iconst 2, 1) := dl_180 (344, .iconst 2, 1) (List.mem_of_getElem? (i := 2) rfl)
theorem d_law_345 : decode code 345 = .ok (.iadd, 1) := dl_180 (345, .iadd, 1) (List.mem_of_getElem? (i := 3) rfl)
theorem d_law_346 : decode code 346 = .ok (.iaload, 1) := dl_180 (346, .iaload, 1) (List.mem_of_getElem? (i := 4) rfl)
theorem d_law_347 : decode code 347 = .ok (.invokevirtual 31, 3) := dl_180 (347, .invokevirtual 31, 3) (List.mem_of_getElem? (i := 5) rfl)
theorem d_law_350 : decode code 350 = .ok (.pop, 1) := dl_180 (350, .pop, 1) (List.mem_of_getElem? (i := 6) rfl)
theorem d_law_351 : decode code 351 = .ok (.goto 802, 3) := dl_180 (351, .goto 802, 3) (List.mem_of_getElem? (i := 7) rfl)
theorem d_law_354 : decode code 354 = .ok (.aload_n 1, 1) := dl_180 (354, .aload_n 1, 1) (List.mem_of_getElem? (i := 8) rfl)
theorem d_law_355 : decode code 355 = .ok (.aload_n 0, 1) := dl_180 (355, .aload_n 0, 1) (List.mem_of_getElem? (i := 9) rfl)
theorem d_law_356 : decode code 356 = .ok (.iload_n 3, 1) := dl_180 (356, .iload_n 3, 1) (List.mem_of_getElem? (i := 10) rfl)
theorem d_law_357 : decode code 357 = .ok (.iconst 1, 1) := dl_180 (357, .iconst 1, 1) (List.mem_of_getElem? (i := 11) rfl)
theorem d_law_358 : decode code 358 = .ok (.iadd, 1) := dl_180 (358, .iadd, 1) (List.mem_of_getElem? (i := 12) rfl)
theorem d_law_359 : decode code 359 = .ok (.iaload, 1) := dl_180 (359, .iaload, 1) (List.mem_of_getElem? (i := 13) rfl)
theorem d_law_360 : decode code 360 = .ok (.aload_n 0, 1) := dl_180 (360, .aload_n 0, 1) (List.mem_of_getElem? (i := 14) rfl)
theorem d_law_361 : decode code 361 = .ok (.iload_n 3, 1) := dl_180 (361, .iload_n 3, 1) (List.mem_of_getElem? (i := 15) rfl)
theorem d_law_362 : decode code 362 = .ok (.iconst 2, 1) := dl_180 (362, .iconst 2, 1) (List.mem_of_getElem? (i := 16) rfl)
theorem d_law_363 : decode code 363 = .ok (.iadd, 1) := dl_180 (363, .iadd, 1) (List.mem_of_getElem? (i := 17) rfl)
theorem d_law_364 : decode code 364 = .ok (.iaload, 1) := dl_180 (364, .iaload, 1) (List.mem_of_getElem? (i := 18) rfl)
theorem d_law_365 : decode code 365 = .ok (.invokevirtual 32, 3) := dl_180 (365, .invokevirtual 32, 3) (List.mem_of_getElem? (i := 19) rfl)
def cl_200 : List (Nat × Instr × Nat) := [(368, .pop, 1), (369, .aload_n 2, 1), (370, .aload_n 0, 1), (371, .iload_n 3, 1), (372, .iconst 1, 1), (373, .iadd, 1), (374, .iaload, 1), (375, .aload_n 0, 1), (376, .iload_n 3, 1), (377, .iconst 2, 1), (378, .iadd, 1), (379, .iaload, 1), (380, .invokevirtual 35, 3), (383, .pop, 1), (384, .goto 769, 3), (387, .aload_n 1, 1), (388, .aload_n 0, 1), (389, .iload_n 3, 1), (390, .iconst 1, 1), (391, .iadd, 1)]
theorem dl_200 : ∀ q ∈ cl_200, decode code q.1 = .ok (q.2.1, q.2.2) := by decide +kernel
theorem d_law_368 : decode code 368 = .ok (.pop, 1) := dl_200 (368, .pop, 1) (List.mem_of_getElem? (i := 0) rfl)
theorem d_law_369 : decode code 369 = .ok (.aload_n 2, 1) := dl_200 (369, .aload_n 2, 1) (List.mem_of_getElem? (i := 1) rfl)
theorem d_law_370 : decode code 370 = .ok (.aload_n 0, 1) := dl_200 (370, .aload_n 0, 1) (List.mem_of_getElem? (i := 2) rfl)
theorem d_law_371 : decode code 371 = .ok (.iload_n 3, 1) := dl_200 (371, .iload_n 3, 1) (List.mem_of_getElem? (i := 3) rfl)
theorem d_law_372 : decode code 372 = .ok (.iconst 1, 1) := dl_200 (372, .iconst 1, 1) (List.mem_of_getElem? (i := 4) rfl)
theorem d_law_373 : decode code 373 = .ok (.iadd, 1) := dl_200 (373, .iadd, 1) (List.mem_of_getElem? (i := 5) rfl)
theorem d_law_374 : decode code 374 = .ok (.iaload, 1) := dl_200 (374, .iaload, 1) (List.mem_of_getElem? (i := 6) rfl)
theorem d_law_375 : decode code 375 = .ok (.aload_n 0, 1) := dl_200 (375, .aload_n 0, 1) (List.mem_of_getElem? (i := 7) rfl)
theorem d_law_376 : decode code 376 = .ok (.iload_n 3, 1) := dl_200 (376, .iload_n 3, 1) (List.mem_of_getElem? (i := 8) rfl)
theorem d_law_377 : decode code 377 = .ok (.iconst 2, 1) := dl_200 (377, .iconst 2, 1) (List.mem_of_getElem? (i := 9) rfl)
theorem d_law_378 : decode code 378 = .ok (.iadd, 1) := dl_200 (378, .iadd, 1) (List.mem_of_getElem? (i := 10) rfl)
theorem d_law_379 : decode code 379 = .ok (.iaload, 1) := dl_200 (379, .iaload, 1) (List.mem_of_getElem? (i := 11) rfl)
theorem d_law_380 : decode code 380 = .ok (.invokevirtual 35, 3) := dl_200 (380, .invokevirtual 35, 3) (List.mem_of_getElem? (i := 12) rfl)
theorem d_law_383 : decode code 383 = .ok (.pop, 1) := dl_200 (383, .pop, 1) (List.mem_of_getElem? (i := 13) rfl)
theorem d_law_384 : decode code 384 = .ok (.goto 769, 3) := dl_200 (384, .goto 769, 3) (List.mem_of_getElem? (i := 14) rfl)
theorem d_law_387 : decode code 387 = .ok (.aload_n 1, 1) := dl_200 (387, .aload_n 1, 1) (List.mem_of_getElem? (i := 15) rfl)
theorem d_law_388 : decode code 388 = .ok (.aload_n 0, 1) := dl_200 (388, .aload_n 0, 1) (List.mem_of_getElem? (i := 16) rfl)
theorem d_law_389 : decode code 389 = .ok (.iload_n 3, 1) := dl_200 (389, .iload_n 3, 1) (List.mem_of_getElem? (i := 17) rfl)
theorem d_law_390 : decode code 390 = .ok (.iconst 1, 1) := dl_200 (390, .iconst 1, 1) (List.mem_of_getElem? (i := 18) rfl)
theorem d_law_391 : decode code 391 = .ok (.iadd, 1) := dl_200 (391, .iadd, 1) (List.mem_of_getElem? (i := 19) rfl)
def cl_220 : List (Nat × Instr × Nat) := [(392, .iaload, 1), (393, .aload_n 0, 1), (394, .iload_n 3, 1), (395, .iconst 2, 1), (396, .iadd, 1), (397, .iaload, 1), (398, .aload_n 0, 1), (399, .iload_n 3, 1), (400, .iconst 3, 1), (401, .iadd, 1), (402, .iaload, 1), (403, .aload_n 0, 1), (404, .iload_n 3, 1), (405, .iconst 4, 1), (406, .iadd, 1), (407, .iaload, 1), (408, .aload_n 0, 1), (409, .iload_n 3, 1), (410, .iconst 5, 1), (411, .iadd, 1)]
theorem dl_220 : ∀ q ∈ cl_220, decode code q.1 = .ok (q.2.1, q.2.2) := by decide +kernel
theorem d_law_392 : decode code 392 = .ok (.iaload, 1) := dl_220 (392, .iaload, 1) (List.mem_of_getElem? (i := 0) rfl)
theorem d_law_393 : decode code 393 = .ok (.aload_n 0, 1) := dl_220 (393, .aload_n 0, 1) (List.mem_of_getElem? (i := 1) rfl)
theorem d_law_394 : decode code 394 = .ok (.iload_n 3, 1) := dl_220 (394, .iload_n 3, 1) (List.mem_of_getElem? (i := 2) rfl)
theorem d_law_395 : decode code 395 = .ok (.iconst 2, 1) := dl_220 (395, .iconst 2, 1) (List.mem_of_getElem? (i := 3) rfl)
theorem d_law_396 : decode code 396 = .ok (.iadd, 1) := dl_220 (396, .iadd, 1) (List.mem_of_getElem? (i := 4) rfl)
theorem d_law_397 : decode code 397 = .ok (.iaload, 1) := dl_220 (397, .iaload, 1) (List.mem_of_getElem? (i := 5) rfl)
theorem d_law_398 : decode code 398 = .ok (.aload_n 0, 1) := dl_220 (398, .aload_n 0, 1) (List.mem_of_getElem? (i := 6) rfl)
theorem d_law_399 : decode code 399 = .ok (.iload_n 3, 1) := dl_220 (399, .iload_n 3, 1) (List.mem_of_getElem? (i := 7) rfl)
theorem d_law_400 : decode code 400 = .ok (.iconst 3, 1) := dl_220 (400, .iconst 3, 1) (List.mem_of_getElem? (i := 8) rfl)
theorem d_law_401 : decode code 401 = .ok (.iadd, 1) := dl_220 (401, .iadd, 1) (List.mem_of_getElem? (i := 9) rfl)
theorem d_law_402 : decode code 402 = .ok (.iaload, 1) := dl_220 (402, .iaload, 1) (List.mem_of_getElem? (i := 10) rfl)
theorem d_law_403 : decode code 403 = .ok (.aload_n 0, 1) := dl_220 (403, .aload_n 0, 1) (List.mem_of_getElem? (i := 11) rfl)
theorem d_law_404 : decode code 404 = .ok (.iload_n 3, 1) := dl_220 (404, .iload_n 3, 1) (List.mem_of_getElem? (i := 12) rfl)
theorem d_law_405 : decode code 405 = .ok (.iconst 4, 1) := dl_220 (405, .iconst 4, 1) (List.mem_of_getElem? (i := 13) rfl)
theorem d_law_406 : decode code 406 = .ok (.iadd, 1) := dl_220 (406, .iadd, 1) (List.mem_of_getElem? (i := 14) rfl)
theorem d_law_407 : decode code 407 = .ok (.iaload, 1) := dl_220 (407, .iaload, 1) (List.mem_of_getElem? (i := 15) rfl)
theorem d_law_408 : decode code 408 = .ok (.aload_n 0, 1) := dl_220 (408, .aload_n 0, 1) (List.mem_of_getElem? (i := 16) rfl)
theorem d_law_409 : decode code 409 = .ok (.iload_n 3, 1) := dl_220 (409, .iload_n 3, 1) (List.mem_of_getElem? (i := 17) rfl)
theorem d_law_410 : decode code 410 = .ok (.iconst 5, 1) := dl_220 (410, .iconst 5, 1) (List.mem_of_getElem? (i := 18) rfl)
theorem d_law_411 : decode code 411 = .ok (.iadd, 1) := dl_220 (411, .iadd, 1) (List.mem_of_getElem? (i := 19) rfl)
def cl_240 : List (Nat × Instr × Nat) := [(412, .iaload, 1), (413, .invokevirtual 36, 3), (416, .pop, 1), (417, .aload_n 2, 1), (418, .aload_n 0, 1), (419, .iload_n 3, 1), (420, .iconst 1, 1), (421, .iadd, 1), (422, .iaload, 1), (423, .aload_n 0, 1), (424, .iload_n 3, 1), (425, .iconst 2, 1), (426, .iadd, 1), (427, .iaload, 1), (428, .aload_n 0, 1), (429, .iload_n 3, 1), (430, .iconst 3, 1), (431, .iadd, 1), (432, .iaload, 1), (433, .aload_n 0, 1)]
theorem dl_240 : ∀ q ∈ cl_240, decode code q.1 = .ok (q.2.1, q.2.2) := by decide +kernel
theorem d_law_412 : decode code 412 = .ok (.iaload, 1) := dl_240 (412, .iaload, 1) (List.mem_of_getElem? (i := 0) rfl)
theorem d_law_413 : decode code 413 = .ok (.invokevirtual 36, 3) := dl_240 (413, .invokevirtual 36, 3) (List.mem_of_getElem? (i := 1) rfl)
theorem d_law_416 : decode code 416 = .ok (.pop, 1) := dl_240 (416, .pop, 1) (List.mem_of_getElem? (i := 2) rfl)
theorem d_law_417 : decode code 417 = .ok (.aload_n 2, 1) := dl_240 (417, .aload_n 2, 1) (List.mem_of_getElem? (i := 3) rfl)
theorem d_law_418 : decode code 418 = .ok (.aload_n 0, 1) := dl_240 (418, .aload_n 0, 1) (List.mem_of_getElem? (i := 4) rfl)
theorem d_law_419 : decode code 419 = .ok (.iload_n 3, 1) := dl_240 (419, .iload_n 3, 1) (List.mem_of_getElem? (i := 5) rfl)
theorem d_law_420 : decode code 420 = .ok (.iconst 1, 1) := dl_240 (420, .iconst 1, 1) (List.mem_of_getElem? (i := 6) rfl)
theorem d_law_421 : decode code 421 = .ok (.iadd, 1) := dl_240 (421, .iadd, 1) (List.mem_of_getElem? (i := 7) rfl)
theorem d_law_422 : decode code 422 = .ok (.iaload, 1) := dl_240 (422, .iaload, 1) (List.mem_of_getElem? (i := 8) rfl)
theorem d_law_423 : decode code 423 = .ok (.aload_n 0, 1) := dl_240 (423, .aload_n 0, 1) (List.mem_of_getElem? (i := 9) rfl)
theorem d_law_424 : decode code 424 = .ok (.iload_n 3, 1) := dl_240 (424, .iload_n 3, 1) (List.mem_of_getElem? (i := 10) rfl)
theorem d_law_425 : decode code 425 = .ok (.iconst 2, 1) := dl_240 (425, .iconst 2, 1) (List.mem_of_getElem? (i := 11) rfl)
theorem d_law_426 : decode code 426 = .ok (.iadd, 1) := dl_240 (426, .iadd, 1) (List.mem_of_getElem? (i := 12) rfl)
theorem d_law_427 : decode code 427 = .ok (.iaload, 1) := dl_240 (427, .iaload, 1) (List.mem_of_getElem? (i := 13) rfl)
theorem d_law_428 : decode code 428 = .ok (.aload_n 0, 1) := dl_240 (428, .aload_n 0, 1) (List.mem_of_getElem? (i := 14) rfl)
theorem d_law_429 : decode code 429 = .ok (.iload_n 3, 1) := dl_240 (429, .iload_n 3, 1) (List.mem_of_getElem? (i := 15) rfl)
theorem d_law_430 : decode code 430 = .ok (.iconst 3, 1) := dl_240 (430, .iconst 3, 1) (List.mem_of_getElem? (i := 16) rfl)
theorem d_law_431 : decode code 431 = .ok (.iadd, 1) := dl_240 (431, .iadd, 1) (List.mem_of_getElem? (i := 17) rfl)
theorem d_law_432 : decode code 432 = .ok (.iaload, 1) := dl_240 (432, .iaload, 1) (List.mem_of_getElem? (i := 18) rfl)
theorem d_law_433 : decode code 433 = .ok (.aload_n 0, 1) := dl_240 (433, .aload_n 0, 1) (List.mem_of_getElem? (i := 19) rfl)
def cl_260 : List (Nat × Instr × Nat) := [(434, .iload_n 3, 1), (435, .iconst 4, 1), (436, .iadd, 1), (437, .iaload, 1), (438, .aload_n 0, 1), (439, .iload_n 3, 1), (440, .iconst 5, 1), (441, .iadd, 1), (442, .iaload, 1), (443, .invokevirtual 40, 3), (446, .pop, 1), (447, .goto 706, 3), (450, .aload_n 1, 1), (451, .aload_n 0, 1), (452, .iload_n 3, 1), (453, .iconst 1, 1), (454, .iadd, 1), (455, .iaload, 1), (456, .invokevirtual 41, 3), (459, .pop, 1)]
theorem dl_260 : ∀ q ∈ cl_260, decode code q.1 = .ok (q.2.1, q.2.2) := by decide +kernel
theorem d_law_434 : decode code 434 = .ok (.iload_n 3, 1) := dl_260 (434, .iload_n 3, 1) (List.mem_of_getElem? (i := 0) rfl)
theorem d_law_435 : decode code 435 = .ok (.iconst 4, 1) := dl_260 (435, .iconst 4, 1) (List.mem_of_getElem? (i := 1) rfl)
theorem d_law_436 : decode code 436 = .ok (.iadd, 1) := dl_260 (436, .iadd, 1) (List.mem_of_getElem? (i := 2) rfl)
theorem d_law_437 : decode code 437 = .ok (.iaload, 1) := dl_260 (437, .iaload, 1) (List.mem_of_getElem? (i := 3) rfl)
theorem d_law_438 : decode code 438 = .ok (.aload_n 0, 1) := dl_260 (438, .aload_n 0, 1) (List.mem_of_getElem? (i := 4) rfl)
theorem d_law_439 : decode code 439 = .ok (.iload_n 3, 1) := dl_260 (439, .iload_n 3, 1) (List.mem_of_getElem? (i := 5) rfl)
theorem d_law_440 : decode code 440 = .ok (.iconst 5, 1) := dl_260 (440, .iconst 5, 1) (List.mem_of_getElem? (i := 6) rfl)
theorem d_law_441 : decode code 441 = .ok (.iadd, 1) := dl_260 (441, .iadd, 1) (List.mem_of_getElem? (i := 7) rfl)
theorem d_law_442 : decode code 442 = .ok (.iaload, 1) := dl_260 (442, .iaload, 1) (List.mem_of_getElem? (i := 8) rfl)
theorem d_law_443 : decode code 443 = .ok (.invokevirtual 40, 3) := dl_260 (443, .invokevirtual 40, 3) (List.mem_of_getElem? (i := 9) rfl)
theorem d_law_446 : decode code 446 = .ok (.pop, 1) := dl_260 (446, .pop, 1) (List.mem_of_getElem? (i := 10) rfl)
theorem d_law_447 : decode code 447 = .ok (.goto 706, 3) := dl_260 (447, .goto 706, 3) (List.mem_of_getElem? (i := 11) rfl)
theorem d_law_450 : decode code 450 = .ok (.aload_n 1, 1) := dl_260 (450, .aload_n 1, 1) (List.mem_of_getElem? (i := 12) rfl)
theorem d_law_451 : decode code 451 = .ok (.aload_n 0, 1) := dl_260 (451, .aload_n 0, 1) (List.mem_of_getElem? (i := 13) rfl)
theorem d_law_452 : decode code 452 = .ok (.iload_n 3, 1) := dl_260 (452, .iload_n 3, 1) (List.mem_of_getElem? (i := 14) rfl)
theorem d_law_453 : decode code 453 = .ok (.iconst 1, 1) := dl_260 (453, .iconst 1, 1) (List.mem_of_getElem? (i := 15) rfl)
theorem d_law_454 : decode code 454 = .ok (.iadd, 1) := dl_260 (454, .iadd, 1) (List.mem_of_getElem? (i := 16) rfl)
theorem d_law_455 : decode code 455 = .ok (.iaload, 1) := dl_260 (455, .iaload, 1) (List.mem_of_getElem? (i := 17) rfl)
theorem d_law_456 : decode code 456 = .ok (.invokevirtual 41, 3) := dl_260 (456, .invokevirtual 41, 3) (List.mem_of_getElem? (i := 18) rfl)
theorem d_law_459 : decode code 459 = .ok (.pop, 1) := dl_260 (459, .pop, 1) (List.mem_of_getElem? (i := 19) rfl)
def cl_280 : List (Nat × Instr × Nat) := [(460, .aload_n 2, 1), (461, .aload_n 0, 1), (462, .iload_n 3, 1), (463, .iconst 1, 1), (464, .iadd, 1), (465, .iaload, 1), (466, .invokevirtual 45, 3), (469, .pop, 1), (470, .goto 683, 3), (473, .aload_n 1, 1), (474, .aload_n 0, 1), (475, .iload_n 3, 1), (476, .iconst 1, 1), (477, .iadd, 1), (478, .iaload, 1), (479, .invokevirtual 46, 3), (482, .pop, 1), (483, .aload_n 2, 1), (484, .aload_n 0, 1), (485, .iload_n 3, 1)]
theorem dl_280 : ∀ q ∈ cl_280, decode code q.1 = .ok (q.2.1, q.2.2) := by decide +kernel
theorem d_law_460 : decode code 460 = .ok (.aload_n 2, 1) := dl_280 (460, .aload_n 2, 1) (List.mem_of_getElem? (i := 0) rfl)
theorem d_law_461 : decode code 461 = .ok (.aload_n 0, 1) := dl_280 (461, .aload_n 0, 1) (List.mem_of_getElem? (i := 1) rfl)
theorem d_law_462 : decode code 462 = .ok (.iload_n 3, 1) := dl_280 (462, .iload_n 3, 1) (List.mem_of_getElem? (i := 2) rfl)
theorem d_law_463 : decode code 463 = .ok (.iconst 1, 1) := dl_280 (463, .iconst 1, 1) (List.mem_of_getElem? (i := 3) rfl)
theorem d_law_464 : decode code 464 = .ok (.iadd, 1) := dl_280 (464, .iadd, 1) (List.mem_of_getElem? (i := 4) rfl)
theorem d_law_465 : decode code 465 = .ok (.iaload, 1) := dl_280 (465, .iaload, 1) (List.mem_of_getElem? (i := 5) rfl)
theorem d_law_466 : decode code 466 = .ok (.invokevirtual 45, 3) := dl_280 (466, .invokevirtual 45, 3) (List.mem_of_getElem? (i := 6) rfl)
theorem d_law_469 : decode code 469 = .ok (.pop, 1) := dl_280 (469, .pop, 1) (List.mem_of_getElem? (i := 7) rfl)
theorem d_law_470 : decode code 470 = .ok (.goto 683, 3) := dl_280 (470, .goto 683, 3) (List.mem_of_getElem? (i := 8) rfl)
theorem d_law_473 : decode code 473 = .ok (.aload_n 1, 1) := dl_280 (473, .aload_n 1, 1) (List.mem_of_getElem? (i := 9) rfl)
theorem d_law_474 : decode code 474 = .ok (.aload_n 0, 1) := dl_280 (474, .aload_n 0, 1) (List.mem_of_getElem? (i := 10) rfl)
theorem d_law_475 : decode code 475 = .ok (.iload_n 3, 1) := dl_280 (475, .iload_n 3, 1) (List.mem_of_getElem? (i := 11) rfl)
theorem d_law_476 : decode code 476 = .ok (.iconst 1, 1) := dl_280 (476, .iconst 1, 1) (List.mem_of_getElem? (i := 12) rfl)
theorem d_law_477 : decode code 477 = .ok (.iadd, 1) := dl_280 (477, .iadd, 1) (List.mem_of_getElem? (i := 13) rfl)
theorem d_law_478 : decode code 478 = .ok (.iaload, 1) := dl_280 (478, .iaload, 1) (List.mem_of_getElem? (i := 14) rfl)
theorem d_law_479 : decode code 479 = .ok (.invokevirtual 46, 3) := dl_280 (479, .invokevirtual 46, 3) (List.mem_of_getElem? (i := 15) rfl)
theorem d_law_482 : decode code 482 = .ok (.pop, 1) := dl_280 (482, .pop, 1) (List.mem_of_getElem? (i := 16) rfl)
theorem d_law_483 : decode code 483 = .ok (.aload_n 2, 1) := dl_280 (483, .aload_n 2, 1) (List.mem_of_getElem? (i := 17) rfl)
theorem d_law_484 : decode code 484 = .ok (.aload_n 0, 1) := dl_280 (484, .aload_n 0, 1) (List.mem_of_getElem? (i := 18) rfl)
theorem d_law_485 : decode code 485 = .ok (.iload_n 3, 1) := dl_280 (485, .iload_n 3, 1) (List.mem_of_getElem? (i := 19) rfl)
def cl_300 : List (Nat × Instr × Nat) := [(486, .iconst 1, 1), (487, .iadd, 1), (488, .iaload, 1), (489, .invokevirtual 49, 3), (492, .pop, 1), (493, .goto 660, 3), (496, .aload_n 1, 1), (497, .aload_n 0, 1), (498, .iload_n 3, 1), (499, .iconst 1, 1), (500, .iadd, 1), (501, .iaload, 1), (502, .invokevirtual 50, 3), (505, .pop, 1), (506, .aload_n 2, 1), (507, .aload_n 0, 1), (508, .iload_n 3, 1), (509, .iconst 1, 1), (510, .iadd, 1), (511, .iaload, 1)]
theorem dl_300 : ∀ q ∈ cl_300, decode code q.1 = .ok (q.2.1, q.2.2) := by decide +kernel
theorem d_law_486 : decode code 486 = .ok (.iconst 1, 1) := dl_300 (486, .iconst 1, 1) (List.mem_of_getElem? (i := 0) rfl)
theorem d_law_487 : decode code 487 = .ok (.iadd, 1) := dl_300 (487, .iadd, 1) (List.mem_of_getElem? (i := 1) rfl)
theorem d_law_488 : decode code 488 = .ok (.iaload, 1) := dl_300 (488, .iaload, 1) (List.mem_of_getElem? (i := 2) rfl)
theorem d_law_489 : decode code 489 = .ok (.invokevirtual 49, 3) := dl_300 (489, .invokevirtual 49, 3) (List.mem_of_getElem? (i := 3) rfl)
theorem d_law_492 : decode code 492 = .ok (.pop, 1) := dl_300 (492, .pop, 1) (List.mem_of_getElem? (i := 4) rfl)
theorem d_law_493 : decode code 493 = .ok (.goto 660, 3) := dl_300 (493, .goto 660, 3) (List.mem_of_getElem? (i := 5) rfl)
theorem d_law_496 : decode code 496 = .ok (.aload_n 1, 1) := dl_300 (496, .aload_n 1, 1) (List.mem_of_getElem? (i := 6) rfl)
theorem d_law_497 : decode code 497 = .ok (.aload_n 0, 1) := dl_300 (497, .aload_n 0, 1) (List.mem_of_getElem? (i := 7) rfl)
theorem d_law_498 : decode code 498 = .ok (.iload_n 3, 1) := dl_300 (498, .iload_n 3, 1) (List.mem_of_getElem? (i := 8) rfl)
theorem d_law_499 : decode code 499 = .ok (.iconst 1, 1) := dl_300 (499, .iconst 1, 1) (List.mem_of_getElem? (i := 9) rfl)
theorem d_law_500 : decode code 500 = .ok (.iadd, 1) := dl_300 (500, .iadd, 1) (List.mem_of_getElem? (i := 10) rfl)
theorem d_law_501 : decode code 501 = .ok (.iaload, 1) := dl_300 (501, .iaload, 1) (List.mem_of_getElem? (i := 11) rfl)
theorem d_law_502 : decode code 502 = .ok (.invokevirtual 50, 3) := dl_300 (502, .invokevirtual 50, 3) (List.mem_of_getElem? (i := 12) rfl)
theorem d_law_505 : decode code 505 = .ok (.pop, 1) := dl_300 (505, .pop, 1) (List.mem_of_getElem? (i := 13) rfl)
theorem d_law_506 : decode code 506 = .ok (.aload_n 2, 1) := dl_300 (506, .aload_n 2, 1) (List.mem_of_getElem? (i := 14) rfl)
theorem d_law_507 : decode code 507 = .ok (.aload_n 0, 1) := dl_300 (507, .aload_n 0, 1) (List.mem_of_getElem? (i := 15) rfl)
theorem d_law_508 : decode code 508 = .ok (.iload_n 3, 1) := dl_300 (508, .iload_n 3, 1) (List.mem_of_getElem? (i := 16) rfl)
theorem d_law_509 : decode code 509 = .ok (.iconst 1, 1) := dl_300 (509, .iconst 1, 1) (List.mem_of_getElem? (i := 17) rfl)
theorem d_law_510 : decode code 510 = .ok (.iadd, 1) := dl_300 (510, .iadd, 1) (List.mem_of_getElem? (i := 18) rfl)
theorem d_law_511 : decode code 511 = .ok (.iaload, 1) := dl_300 (511, .iaload, 1) (List.mem_of_getElem? (i := 19) rfl)
def cl_320 : List (Nat × Instr × Nat) := [(512, .invokevirtual 53, 3), (515, .pop, 1), (516, .goto 637, 3), (519, .aload_n 1, 1), (520, .aload_n 0, 1), (521, .iload_n 3, 1), (522, .iconst 1, 1), (523, .iadd, 1), (524, .iaload, 1), (525, .aload_n 0, 1), (526, .iload_n 3, 1), (527, .iconst 2, 1), (528, .iadd, 1), (529, .iaload, 1), (530, .invokevirtual 54, 3), (533, .pop, 1), (534, .aload_n 2, 1), (535, .aload_n 0, 1), (536, .iload_n 3, 1), (537, .iconst 1, 1)]
theorem dl_320 : ∀ q ∈ cl_320, decode code q.1 = .ok (q.2.1, q.2.2) := by decide +kernel
theorem d_law_512 : decode code 512 = .ok (.invokevirtual 53, 3) := dl_320 (512, .invokevirtual 53, 3) (List.mem_of_getElem? (i := 0) rfl)
theorem d_law_515 : decode code 515 = .ok (.pop, 1) := dl_320 (515, .pop, 1) (List.mem_of_getElem? (i := 1) rfl)
theorem d_law_516 : decode code 516 = .ok (.goto 637, 3) := dl_320 (516, .goto 637, 3) (List.mem_of_getElem? (i := 2) rfl)
theorem d_law_519 : decode code 519 = .ok (.aload_n 1, 1) := dl_320 (519, .aload_n 1, 1) (List.mem_of_getElem? (i := 3) rfl)
theorem d_law_520 : decode code 520 = .ok (.aload_n 0, 1) := dl_320 (520, .aload_n 0, 1) (List.mem_of_getElem? (i := 4) rfl)
theorem d_law_521 : decode code 521 = .ok (.iload_n 3, 1) := dl_320 (521, .iload_n 3, 1) (List.mem_of_getElem? (i := 5) rfl)
theorem d_law_522 : decode code 522 = .ok (.iconst 1, 1) := dl_320 (522, .iconst 1, 1) (List.mem_of_getElem? (i := 6) rfl)
theorem d_law_523 : decode code 523 = .ok (.iadd, 1) := dl_320 (523, .iadd, 1) (List.mem_of_getElem? (i := 7) rfl)
theorem d_law_524 : decode code 524 = .ok (.iaload, 1) := dl_320 (524, .iaload, 1) (List.mem_of_getElem? (i := 8) rfl)
theorem d_law_525 : decode code 525 = .ok (.aload_n 0, 1) := dl_320 (525, .aload_n 0, 1) (List.mem_of_getElem? (i := 9) rfl)
theorem d_law_526 : decode code 526 = .ok (.iload_n 3, 1) := dl_320 (526, .iload_n 3, 1) (List.mem_of_getElem? (i := 10) rfl)
theorem d_law_527 : decode code 527 = .ok (.iconst 2, 1) := dl_320 (527, .iconst 2, 1) (List.mem_of_getElem? (i := 11) rfl)
theorem d_law_528 : decode code 528 = .ok (.iadd, 1) := dl_320 (528, .iadd, 1) (List.mem_of_getElem? (i := 12) rfl)
theorem d_law_529 : decode code 529 = .ok (.iaload, 1) := dl_320 (529, .iaload, 1) (List.mem_of_getElem? (i := 13) rfl)
theorem d_law_530 : decode code 530 = .ok (.invokevirtual 54, 3) := dl_320 (530, .invokevirtual 54, 3) (List.mem_of_getElem? (i := 14) rfl)
theorem d_law_533 : decode code 533 = .ok (.pop, 1) := dl_320 (533, .pop, 1) (List.mem_of_getElem? (i := 15) rfl)
theorem d_law_534 : decode code 534 = .ok (.aload_n 2, 1) := dl_320 (534, .aload_n 2, 1) (List.mem_of_getElem? (i := 16) rfl)
theorem d_law_535 : decode code 535 = .ok (.aload_n 0, 1) := dl_320 (535, .aload_n 0, 1) (List.mem_of_getElem? (i := 17) rfl)
theorem d_law_536 : decode code 536 = .ok (.iload_n 3, 1) := dl_320 (536, .iload_n 3, 1) (List.mem_of_getElem? (i := 18) rfl)
theorem d_law_537 : decode code 537 = .ok (.iconst 1, 1) := dl_320 (537, .iconst 1, 1) (List.mem_of_getElem? (i := 19) rfl)
def cl_340 : List (Nat × Instr × Nat) := [(538, .iadd, 1), (539, .iaload, 1), (540, .aload_n 0, 1), (541, .iload_n 3, 1), (542, .iconst 2, 1), (543, .iadd, 1), (544, .iaload, 1), (545, .invokevirtual 58, 3), (548, .pop, 1), (549, .goto 604, 3), (552, .aload_n 1, 1), (553, .aload_n 0, 1), (554, .iload_n 3, 1), (555, .iconst 1, 1), (556, .iadd, 1), (557, .iaload, 1), (558, .aload_n 0, 1), (559, .iload_n 3, 1), (560, .iconst 2, 1), (561, .iadd, 1)]
theorem dl_340 : ∀ q ∈ cl_340, decode code q.1 = .ok (q.2.1, q.2.2) := by decide +kernel
theorem d_law_538 : decode code 538 = .ok (.iadd, 1) := dl_340 (538, .iadd, 1) (List.mem_of_getElem? (i := 0) rfl)
theorem d_law_539 : decode code 539 = .ok (.iaload, 1) := dl_340 (539, .iaload, 1) (List.mem_of_getElem? (i := 1) rfl)
theorem d_law_540 : decode code 540 = .ok (.aload_n 0, 1) := dl_340 (540, .aload_n 0, 1) (List.mem_of_getElem? (i := 2) rfl)
theorem d_law_541 : decode code 541 = .ok (.iload_n 3, 1) := dl_340 (541, .iload_n 3, 1) (List.mem_of_getElem? (i := 3) rfl)
theorem d_law_542 : decode code 542 = .ok (.iconst 2, 1) := dl_340 (542, .iconst 2, 1) (List.mem_of_getElem? (i := 4) rfl)
theorem d_law_543 : decode code 543 = .ok (.iadd, 1) := dl_340 (543, .iadd, 1) (List.mem_of_getElem? (i := 5) rfl)
theorem d_law_544 : decode code 544 = .ok (.iaload, 1) := dl_340 (544, .iaload, 1) (List.mem_of_getElem? (i := 6) rfl)
theorem d_law_545 : decode code 545 = .ok (.invokevirtual 58, 3) := dl_340 (545, .invokevirtual 58, 3) (List.mem_of_getElem? (i := 7) rfl)
theorem d_law_548 : decode code 548 = .ok (.pop, 1) := dl_340 (548, .pop, 1) (List.mem_of_getElem? (i := 8) rfl)
theorem d_law_549 : decode code 549 = .ok (.goto 604, 3) := dl_340 (549, .goto 604, 3) (List.mem_of_getElem? (i := 9) rfl)
theorem d_law_552 : decode code 552 = .ok (.aload_n 1, 1) := dl_340 (552, .aload_n 1, 1) (List.mem_of_getElem? (i := 10) rfl)
theorem d_law_553 : decode code 553 = .ok (.aload_n 0, 1) := dl_340 (553, .aload_n 0, 1) (List.mem_of_getElem? (i := 11) rfl)
theorem d_law_554 : decode code 554 = .ok (.iload_n 3, 1) := dl_340 (554, .iload_n 3, 1) (List.mem_of_getElem? (i := 12) rfl)
theorem d_law_555 : decode code 555 = .ok (.iconst 1, 1) := dl_340 (555, .iconst 1, 1) (List.mem_of_getElem? (i := 13) rfl)
theorem d_law_556 : decode code 556 = .ok (.iadd, 1) := dl_340 (556, .iadd, 1) (List.mem_of_getElem? (i := 14) rfl)
theorem d_law_557 : decode code 557 = .ok (.iaload, 1) := dl_340 (557, .iaload, 1) (List.mem_of_getElem? (i := 15) rfl)
theorem d_law_558 : decode code 558 = .ok (.aload_n 0, 1) := dl_340 (558, .aload_n 0, 1) (List.mem_of_getElem? (i := 16) rfl)
theorem d_law_559 : decode code 559 = .ok (.iload_n 3, 1) := dl_340 (559, .iload_n 3, 1) (List.mem_of_getElem? (i := 17) rfl)
theorem d_law_560 : decode code 560 = .ok (.iconst 2, 1) := dl_340 (560, .iconst 2, 1) (List.mem_of_getElem? (i := 18) rfl)
theorem d_law_561 : decode code 561 = .ok (.iadd, 1) := dl_340 (561, .iadd, 1) (List.mem_of_getElem? (i := 19) rfl)
def cl_360 : List (Nat × Instr × Nat) := [(562, .iaload, 1), (563, .invokevirtual 59, 3), (566, .pop, 1), (567, .aload_n 2, 1), (568, .aload_n 0, 1), (569, .iload_n 3, 1), (570, .iconst 1, 1), (571, .iadd, 1), (572, .iaload, 1), (573, .aload_n 0, 1), (574, .iload_n 3, 1), (575, .iconst 2, 1), (576, .iadd, 1), (577, .iaload, 1), (578, .invokevirtual 62, 3), (581, .pop, 1), (582, .goto 571, 3), (585, .aload_n 1, 1), (586, .aload_n 0, 1), (587, .iload_n 3, 1)]
theorem dl_360 : ∀ q ∈ cl_360, decode code q.1 = .ok (q.2.1, q.2.2) := by decide +kernel
theorem d_law_562 : decode code 562 = .ok (.iaload, 1) := dl_360 (562, .iaload, 1) (List.mem_of_getElem? (i := 0) rfl)
theorem d_law_563 : decode code 563 = .ok (.invokevirtual 59, 3) := dl_360 (563, .invokevirtual 59, 3) (List.mem_of_getElem? (i := 1) rfl)
theorem d_law_566 : decode code 566 = .ok (.pop, 1) := dl_360 (566, .pop, 1) (List.mem_of_getElem? (i := 2) rfl)
theorem d_law_567 : decode code 567 = .ok (.aload_n 2, 1) := dl_360 (567, .aload_n 2, 1) (List.mem_of_getElem? (i := 3) rfl)
theorem d_law_568 : decode code 568 = .ok (.aload_n 0, 1) := dl_360 (568, .aload_n 0, 1) (List.mem_of_getElem? (i := 4) rfl)
theorem d_law_569 : decode code 569 = .ok (.iload_n 3, 1) := dl_360 (569, .iload_n 3, 1) (List.mem_of_getElem? (i := 5) rfl)
theorem d_law_570 : decode code 570 = .ok (.iconst 1, 1) := dl_360 (570, .iconst 1, 1) (List.mem_of_getElem? (i := 6) rfl)
theorem d_law_571 : decode code 571 = .ok (.iadd, 1) := dl_360 (571, .iadd, 1) (List.mem_of_getElem? (i := 7) rfl)
theorem d_law_572 : decode code 572 = .ok (.iaload, 1) := dl_360 (572, .iaload, 1) (List.mem_of_getElem? (i := 8) rfl)
theorem d_law_573 : decode code 573 = .ok (.aload_n 0, 1) := dl_360 (573, .aload_n 0, 1) (List.mem_of_getElem? (i := 9) rfl)
theorem d_law_574 : decode code 574 = .ok (.iload_n 3, 1) := dl_360 (574, .iload_n 3, 1) (List.mem_of_getElem? (i := 10) rfl)
theorem d_law_575 : decode code 575 = .ok (.iconst 2, 1) := dl_360 (575, .iconst 2, 1) (List.mem_of_getElem? (i := 11) rfl)
theorem d_law_576 : decode code 576 = .ok (.iadd, 1) := dl_360 (576, .iadd, 1) (List.mem_of_getElem? (i := 12) rfl)
theorem d_law_577 : decode code 577 = .ok (.iaload, 1) := dl_360 (577, .iaload, 1) (List.mem_of_getElem? (i := 13) rfl)
theorem d_law_578 : decode code 578 = .ok (.invokevirtual 62, 3) := dl_360 (578, .invokevirtual 62, 3) (List.mem_of_getElem? (i := 14) rfl)
theorem d_law_581 : decode code 581 = .ok (.pop, 1) := dl_360 (581, .pop, 1) (List.mem_of_getElem? (i := 15) rfl)
theorem d_law_582 : decode code 582 = .ok (.goto 571, 3) := dl_360 (582, .goto 571, 3) (List.mem_of_getElem? (i := 16) rfl)
theorem d_law_585 : decode code 585 = .ok (.aload_n 1, 1) := dl_360 (585, .aload_n 1, 1) (List.mem_of_getElem? (i := 17) rfl)
theorem d_law_586 : decode code 586 = .ok (.aload_n 0, 1) := dl_360 (586, .aload_n 0, 1) (List.mem_of_getElem? (i := 18) rfl)
theorem d_law_587 : decode code 587 = .ok (.iload_n 3, 1) := dl_360 (587, .iload_n 3, 1) (List.mem_of_getElem? (i := 19) rfl)
def cl_380 : List (Nat × Instr × Nat) := [(588, .iconst 1, 1), (589, .iadd, 1), (590, .iaload, 1), (591, .aload_n 0, 1), (592, .iload_n 3, 1), (593, .iconst 2, 1), (594, .iadd, 1), (595, .iaload, 1), (596, .invokevirtual 63, 3), (599, .pop, 1), (600, .aload_n 2, 1), (601, .aload_n 0, 1), (602, .iload_n 3, 1), (603, .iconst 1, 1), (604, .iadd, 1), (605, .iaload, 1), (606, .aload_n 0, 1), (607, .iload_n 3, 1), (608, .iconst 2, 1), (609, .iadd, 1)]
theorem dl_380 : ∀ q ∈ cl_380, decode code q.1 = .ok (q.2.1, q.2.2) := by decide +kernel
theorem d_law_588 : decode code 588 = .ok (.iconst 1, 1) := dl_380 (588, .iconst 1, 1) (List.mem_of_getElem? (i := 0) rfl)
theorem d_law_589 : decode code 589 = .ok (.iadd, 1) := dl_380 (589, .iadd, 1) (List.mem_of_getElem? (i := 1) rfl)
theorem d_law_590 : decode code 590 = .ok (.iaload, 1) := dl_380 (590, .iaload, 1) (List.mem_of_getElem? (i := 2) rfl)
theorem d_law_591 : decode code 591 = .ok (.aload_n 0, 1) := dl_380 (591, .aload_n 0, 1) (List.mem_of_getElem? (i := 3) rfl)
theorem d_law_592 : decode code 592 = .ok (.iload_n 3, 1) := dl_380 (592, .iload_n 3, 1) (List.mem_of_getElem? (i := 4) rfl)
theorem d_law_593 : decode code 593 = .ok (.iconst 2, 1) := dl_380 (593, .iconst 2, 1) (List.mem_of_getElem? (i := 5) rfl)
theorem d_law_594 : decode code 594 = .ok (.iadd, 1) := dl_380 (594, .iadd, 1) (List.mem_of_getElem? (i := 6) rfl)
theorem d_law_595 : decode code 595 = .ok (.iaload, 1) := dl_380 (595, .iaload, 1) (List.mem_of_getElem? (i := 7) rfl)
theorem d_law_596 : decode code 596 = .ok (.invokevirtual 63, 3) := dl_380 (596, .invokevirtual 63, 3) (List.mem_of_getElem? (i := 8) rfl)
theorem d_law_599 : decode code 599 = .ok (.pop, 1) := dl_380 (599, .pop, 1) (List.mem_of_getElem? (i := 9) rfl)
theorem d_law_600 : decode code 600 = .ok (.aload_n 2, 1) := dl_380 (600, .aload_n 2, 1) (List.mem_of_getElem? (i := 10) rfl)
theorem d_law_601 : decode code 601 = .ok (.aload_n 0, 1) := dl_380 (601, .aload_n 0, 1) (List.mem_of_getElem? (i := 11) rfl)
theorem d_law_602 : decode code 602 = .ok (.iload_n 3, 1) := dl_380 (602, .iload_n 3, 1) (List.mem_of_getElem? (i := 12) rfl)
theorem d_law_603 : decode code 603 = .ok (.iconst 1, 1) := dl_380 (603, .iconst 1, 1) (List.mem_of_getElem? (i := 13) rfl)
theorem d_law_604 : decode code 604 = .ok (.iadd, 1) := dl_380 (604, .iadd, 1) (List.mem_of_getElem? (i := 14) rfl)
theorem d_law_605 : decode code 605 = .ok (.iaload, 1) := dl_380 (605, .iaload, 1) (List.mem_of_getElem? (i := 15) rfl)
theorem d_law_606 : decode code 606 = .ok (.aload_n 0, 1) := dl_380 (606, .aload_n 0, 1) (List.mem_of_getElem? (i := 16) rfl)
theorem d_law_607 : decode code 607 = .ok (.iload_n 3, 1) := dl_380 (607, .iload_n 3, 1) (List.mem_of_getElem? (i := 17) rfl)
theorem d_law_608 : decode code 608 = .ok (.iconst 2, 1) := dl_380 (608, .iconst 2, 1) (List.mem_of_getElem? (i := 18) rfl)
theorem d_law_609 : decode code 609 = .ok (.iadd, 1) := dl_380 (609, .iadd, 1) (List.mem_of_getElem? (i := 19) rfl)
def cl_400 : List (Nat × Instr × Nat) := [(610, .iaload, 1), (611, .invokevirtual 66, 3), (614, .pop, 1), (615, .goto 538, 3), (618, .aload_n 1, 1), (619, .aload_n 0, 1), (620, .iload_n 3, 1), (621, .iconst 1, 1), (622, .iadd, 1), (623, .iaload, 1), (624, .aload_n 0, 1), (625, .iload_n 3, 1), (626, .iconst 2, 1), (627, .iadd, 1), (628, .iaload, 1), (629, .aload_n 0, 1), (630, .iload_n 3, 1), (631, .iconst 3, 1), (632, .iadd, 1), (633, .iaload, 1)]
theorem dl_400 : ∀ q ∈ cl_400, decode code q.1 = .ok (q.2.1, q.2.2) := by decide +kernel
theorem d_law_610 : decode code 610 = .ok (.iaload, 1) := dl_400 (610, .iaload, 1) (List.mem_of_getElem? (i := 0) rfl)
theorem d_law_611 : decode code 611 = .ok (.invokevirtual 66, 3) := dl_400 (611, .invokevirtual 66, 3) (List.mem_of_getElem? (i := 1) rfl)
theorem d_law_614 : decode code 614 = .ok (.pop, 1) := dl_400 (614, .pop, 1) (List.mem_of_getElem? (i := 2) rfl)
theorem d_law_615 : decode code 615 = .ok (.goto 538, 3) := dl_400 (615, .goto 538, 3) (List.mem_of_getElem? (i := 3) rfl)
theorem d_law_618 : decode code 618 = .ok (.aload_n 1, 1) := dl_400 (618, .aload_n 1, 1) (List.mem_of_getElem? (i := 4) rfl)
theorem d_law_619 : decode code 619 = .ok (.aload_n 0, 1) := dl_400 (619, .aload_n 0, 1) (List.mem_of_getElem? (i := 5) rfl)
theorem d_law_620 : decode code 620 = .ok (.iload_n 3, 1) := dl_400 (620, .iload_n 3, 1) (List.mem_of_getElem? (i := 6) rfl)
theorem d_law_621 : decode code 621 = .ok (.iconst 1, 1) := dl_400 (621, .iconst 1, 1) (List.mem_of_getElem? (i := 7) rfl)
theorem d_law_622 : decode code 622 = .ok (.iadd, 1) := dl_400 (622, .iadd, 1) (List.mem_of_getElem? (i := 8) rfl)
theorem d_law_623 : decode code 623 = .ok (.iaload, 1) := dl_400 (623, .iaload, 1) (List.mem_of_getElem? (i := 9) rfl)
theorem d_law_624 : decode code 624 = .ok (.aload_n 0, 1) := dl_400 (624, .aload_n 0, 1) (List.mem_of_getElem? (i := 10) rfl)
theorem d_law_625 : decode code 625 = .ok (.iload_n 3, 1) := dl_400 (625, .iload_n 3, 1) (List.mem_of_getElem? (i := 11) rfl)
theorem d_law_626 : decode code 626 = .ok (.iconst 2, 1) := dl_400 (626, .iconst 2, 1) (List.mem_of_getElem? (i := 12) rfl)
theorem d_law_627 : decode code 627 = .ok (.iadd, 1) := dl_400 (627, .iadd, 1) (List.mem_of_getElem? (i := 13) rfl)
theorem d_law_628 : decode code 628 = .ok (.iaload, 1) := dl_400 (628, .iaload, 1) (List.mem_of_getElem? (i := 14) rfl)
theorem d_law_629 : decode code 629 = .ok (.aload_n 0, 1) := dl_400 (629, .aload_n 0, 1) (List.mem_of_getElem? (i := 15) rfl)
theorem d_law_630 : decode code 630 = .ok (.iload_n 3, 1) := dl_400 (630, .iload_n 3, 1) (List.mem_of_getElem? (i := 16) rfl)
theorem d_law_631 : decode code 631 = .ok (.iconst 3, 1) := dl_400 (631, .iconst 3, 1) (List.mem_of_getElem? (i := 17) rfl)
theorem d_law_632 : decode code 632 = .ok (.iadd, 1) := dl_400 (632, .iadd, 1) (List.mem_of_getElem? (i := 18) rfl)
theorem d_law_633 : decode code 633 = .ok (.iaload, 1) := dl_400 (633, .iaload, 1) (List.mem_of_getElem? (i := 19) rfl)
def cl_420 : List (Nat × Instr × Nat) := [(634, .aload_n 0, 1), (635, .iload_n 3, 1), (636, .iconst 4, 1), (637, .iadd, 1), (638, .iaload, 1), (639, .aload_n 0, 1), (640, .iload_n 3, 1), (641, .iconst 5, 1), (642, .iadd, 1), (643, .iaload, 1), (644, .invokevirtual 67, 3), (647, .pop, 1), (648, .aload_n 2, 1), (649, .aload_n 0, 1), (650, .iload_n 3, 1), (651, .iconst 1, 1), (652, .iadd, 1), (653, .iaload, 1), (654, .aload_n 0, 1), (655, .iload_n 3, 1)]
theorem dl_420 : ∀ q ∈ cl_420, decode code q.1 = .ok (q.2.1, q.2.2) := by decide +kernel
theorem d_law_634 : decode code 634 = .ok (.aload_n 0, 1) := dl_420 (634, .aload_n 0, 1) (List.mem_of_getElem? (i := 0) rfl)
theorem d_law_635 : decode code 635 = .ok (.iload_n 3, 1) := dl_420 (635, .iload_n 3, 1) (List.mem_of_getElem? (i := 1) rfl)
theorem d_law_636 : decode code 636 = .ok (.iconst 4, 1) := dl_420 (636, .iconst 4, 1) (List.mem_of_getElem? (i := 2) rfl)
theorem d_law_637 : decode code 637 = .ok (.iadd, 1) := dl_420 (637, .iadd, 1) (List.mem_of_getElem? (i := 3) rfl)
theorem d_law_638 : decode code 638 = .ok (.iaload, 1) := dl_420 (638, .iaload, 1) (List.mem_of_getElem? (i := 4) rfl)
theorem d_law_639 : decode code 639 = .ok (.aload_n 0, 1) := dl_420 (639, .aload_n 0, 1) (List.mem_of_getElem? (i := 5) rfl)
theorem d_law_640 : decode code 640 = .ok (.iload_n 3, 1) := dl_420 (640, .iload_n 3, 1) (List.mem_of_getElem? (i := 6) rfl)
theorem d_law_641 : decode code 641 = .ok (.iconst 5, 1) := dl_420 (641, .iconst 5, 1) (List.mem_of_getElem? (i := 7) rfl)
theorem d_law_642 : decode code 642 = .ok (.iadd, 1) := dl_420 (642, .iadd, 1) (List.mem_of_getElem? (i := 8) rfl)
theorem d_law_643 : decode code 643 = .ok (.iaload, 1) := dl_420 (643, .iaload, 1) (List.mem_of_getElem? (i := 9) rfl)
theorem d_law_644 : decode code 644 = .ok (.invokevirtual 67, 3) := dl_420 (644, .invokevirtual 67, 3) (List.mem_of_getElem? (i := 10) rfl)
theorem d_law_647 : decode code 647 = .ok (.pop, 1) := dl_420 (647, .pop, 1) (List.mem_of_getElem? (i := 11) rfl)
theorem d_law_648 : decode code 648 = .ok (.aload_n 2, 1) := dl_420 (648, .aload_n 2, 1) (List.mem_of_getElem? (i := 12) rfl)
theorem d_law_649 : decode code 649 = .ok (.aload_n 0, 1) := dl_420 (649, .aload_n 0, 1) (List.mem_of_getElem? (i := 13) rfl)
theorem d_law_650 : decode code 650 = .ok (.iload_n 3, 1) := dl_420 (650, .iload_n 3, 1) (List.mem_of_getElem? (i := 14) rfl)
theorem d_law_651 : decode code 651 = .ok (.iconst 1, 1) := dl_420 (651, .iconst 1, 1) (List.mem_of_getElem? (i := 15) rfl)
theorem d_law_652 : decode code 652 = .ok (.iadd, 1) := dl_420 (652, .iadd, 1) (List.mem_of_getElem? (i := 16) rfl)
theorem d_law_653 : decode code 653 = .ok (.iaload, 1) := dl_420 (653, .iaload, 1) (List.mem_of_getElem? (i := 17) rfl)
theorem d_law_654 : decode code 654 = .ok (.aload_n 0, 1) := dl_420 (654, .aload_n 0, 1) (List.mem_of_getElem? (i := 18) rfl)
theorem d_law_655 : decode code 655 = .ok (.iload_n 3, 1) := dl_420 (655, .iload_n 3, 1) (List.mem_of_getElem? (i := 19) rfl)
def cl_440 : List (Nat × Instr × Nat) := [(656, .iconst 2, 1), (657, .iadd, 1), (658, .iaload, 1), (659, .aload_n 0, 1), (660, .iload_n 3, 1), (661, .iconst 3, 1), (662, .iadd, 1), (663, .iaload, 1), (664, .aload_n 0, 1), (665, .iload_n 3, 1), (666, .iconst 4, 1), (667, .iadd, 1), (668, .iaload, 1), (669, .aload_n 0, 1), (670, .iload_n 3, 1), (671, .iconst 5, 1), (672, .iadd, 1), (673, .iaload, 1), (674, .invokevirtual 70, 3), (677, .pop, 1)]
theorem dl_440 : ∀ q ∈ cl_440, decode code q.1 = .ok (q.2.1, q.2.2) := by decide +kernel
theorem d_law_656 : decode code 656 = .ok (.iconst 2, 1) := dl_440 (656, .iconst 2, 1) (List.mem_of_getElem? (i := 0) rfl)
theorem d_law_657 : decode code 657 = .ok (.iadd, 1) := dl_440 (657, .iadd, 1) (List.mem_of_getElem? (i := 1) rfl)
theorem d_law_658 : decode code 658 = .ok (.iaload, 1) := dl_440 (658, .iaload, 1) (List.mem_of_getElem? (i := 2) rfl)
theorem d_law_659 : decode code 659 = .ok (.aload_n 0, 1) := dl_440 (659, .aload_n 0, 1) (List.mem_of_getElem? (i := 3) rfl)
theorem d_law_660 : decode code 660 = .ok (.iload_n 3, 1) := dl_440 (660, .iload_n 3, 1) (List.mem_of_getElem? (i := 4) rfl)
theorem d_law_661 : decode code 661 = .ok (.iconst 3, 1) := dl_440 (661, .iconst 3, 1) (List.mem_of_getElem? (i := 5) rfl)
theorem d_law_662 : decode code 662 = .ok (.iadd, 1) := dl_440 (662, .iadd, 1) (List.mem_of_getElem? (i := 6) rfl)
theorem d_law_663 : decode code 663 = .ok (.iaload, 1) := dl_440 (663, .iaload, 1) (List.mem_of_getElem? (i := 7) rfl)
theorem d_law_664 : decode code 664 = .ok (.aload_n 0, 1) := dl_440 (664, .aload_n 0, 1) (List.mem_of_getElem? (i := 8) rfl)
theorem d_law_665 : decode code 665 = .ok (.iload_n 3, 1) := dl_440 (665, .iload_n 3, 1) (List.mem_of_getElem? (i := 9) rfl)
theorem d_law_666 : decode code 666 = .ok (.iconst 4, 1) := dl_440 (666, .iconst 4, 1) (List.mem_of_getElem? (i := 10) rfl)
theorem d_law_667 : decode code 667 = .ok (.iadd, 1) := dl_440 (667, .iadd, 1) (List.mem_of_getElem? (i := 11) rfl)
theorem d_law_668 : decode code 668 = .ok (.iaload, 1) := dl_440 (668, .iaload, 1) (List.mem_of_getElem? (i := 12) rfl)
theorem d_law_669 : decode code 669 = .ok (.aload_n 0, 1) := dl_440 (669, .aload_n 0, 1) (List.mem_of_getElem? (i := 13) rfl)
theorem d_law_670 : decode code 670 = .ok (.iload_n 3, 1) := dl_440 (670, .iload_n 3, 1) (List.mem_of_getElem? (i := 14) rfl)
theorem d_law_671 : decode code 671 = .ok (.iconst 5, 1) := dl_440 (671, .iconst 5, 1) (List.mem_of_getElem? (i := 15) rfl)
theorem d_law_672 : decode code 672 = .ok (.iadd, 1) := dl_440 (672, .iadd, 1) (List.mem_of_getElem? (i := 16) rfl)
theorem d_law_673 : decode code 673 = .ok (.iaload, 1) := dl_440 (673, .iaload, 1) (List.mem_of_getElem? (i := 17) rfl)
theorem d_law_674 : decode code 674 = .ok (.invokevirtual 70, 3) := dl_440 (674, .invokevirtual 70, 3) (List.mem_of_getElem? (i := 18) rfl)
theorem d_law_677 : decode code 677 = .ok (.pop, 1) := dl_440 (677, .pop, 1) (List.mem_of_getElem? (i := 19) rfl)
def cl_460 : List (Nat × Instr × Nat) := [(678, .goto 475, 3), (681, .aload_n 1, 1), (682, .aload_n 0, 1), (683, .iload_n 3, 1), (684, .iconst 1, 1), (685, .iadd, 1), (686, .iaload, 1), (687, .aload_n 0, 1), (688, .iload_n 3, 1), (689, .iconst 2, 1), (690, .iadd, 1), (691, .iaload, 1), (692, .aload_n 0, 1), (693, .iload_n 3, 1), (694, .iconst 3, 1), (695, .iadd, 1), (696, .iaload, 1), (697, .invokevirtual 71, 3), (700, .pop, 1), (701, .aload_n 2, 1)]
theorem dl_460 : ∀ q ∈ cl_460, decode code q.1 = .ok (q.2.1, q.2.2) := by decide +kernel
theorem d_law_678 : decode code 678 = .ok (.goto 475, 3) := dl_460 (678, .goto 475, 3) (List.mem_of_getElem? (i := 0) rfl)
theorem d_law_681 : decode code 681 = .ok (.aload_n 1, 1) := dl_460 (681, .aload_n 1, 1) (List.mem_of_getElem? (i := 1) rfl)
theorem d_law_682 : decode code 682 = .ok (.aload_n 0, 1) := dl_460 (682, .aload_n 0, 1) (List.mem_of_getElem? (i := 2) rfl)
theorem d_law_683 : decode code 683 = .ok (.iload_n 3, 1) := dl_460 (683, .iload_n 3, 1) (List.mem_of_getElem? (i := 3) rfl)
theorem d_law_684 : decode code 684 = .ok (.iconst 1, 1) := dl_460 (684, .iconst 1, 1) (List.mem_of_getElem? (i := 4) rfl)
theorem d_law_685 : decode code 685 = .ok (.iadd, 1) := dl_460 (685, .iadd, 1) (List.mem_of_getElem? (i := 5) rfl)
theorem d_law_686 : decode code 686 = .ok (.iaload, 1) := dl_460 (686, .iaload, 1) (List.mem_of_getElem? (i := 6) rfl)
theorem d_law_687 : decode code 687 = .ok (.aload_n 0, 1) := dl_460 (687, .aload_n 0, 1) (List.mem_of_getElem? (i := 7) rfl)
theorem d_law_688 : decode code 688 = .ok (.iload_n 3, 1) := dl_460 (688, .iload_n 3, 1) (List.mem_of_getElem? (i := 8) rfl)
theorem d_law_689 : decode code 689 = .ok (.iconst 2, 1) := dl_460 (689, .iconst 2, 1) (List.mem_of_getElem? (i := 9) rfl)
theorem d_law_690 : decode code 690 = .ok (.iadd, 1) := dl_460 (690, .iadd, 1) (List.mem_of_getElem? (i := 10) rfl)
theorem d_law_691 : decode code 691 = .ok (.iaload, 1) := dl_460 (691, .iaload, 1) (List.mem_of_getElem? (i := 11) rfl)
theorem d_law_692 : decode code 692 = .ok (.aload_n 0, 1) := dl_460 (692, .aload_n 0, 1) (List.mem_of_getElem? (i := 12) rfl)
theorem d_law_693 : decode code 693 = .ok (.iload_n 3, 1) := dl_460 (693, .iload_n 3, 1) (List.mem_of_getElem? (i := 13) rfl)
theorem d_law_694 : decode code 694 = .ok (.iconst 3, 1) := dl_460 (694, .iconst 3, 1) (List.mem_of_getElem? (i := 14) rfl)
theorem d_law_695 : decode code 695 = .ok (.iadd, 1) := dl_460 (695, .iadd, 1) (List.mem_of_getElem? (i := 15) rfl)
theorem d_law_696 : decode code 696 = .ok (.iaload, 1) := dl_460 (696, .iaload, 1) (List.mem_of_getElem? (i := 16) rfl)
theorem d_law_697 : decode code 697 = .ok (.invokevirtual 71, 3) := dl_460 (697, .invokevirtual 71, 3) (List.mem_of_getElem? (i := 17) rfl)
theorem d_law_700 : decode code 700 = .ok (.pop, 1) := dl_460 (700, .pop, 1) (List.mem_of_getElem? (i := 18) rfl)
theorem d_law_701 : decode code 701 = .ok (.aload_n 2, 1) := dl_460 (701, .aload_n 2, 1) (List.mem_of_getElem? (i := 19) rfl)
def cl_480 : List (Nat × Instr × Nat) := [(702, .aload_n 0, 1), (703, .iload_n 3, 1), (704, .iconst 1, 1), (705, .iadd, 1), (706, .iaload, 1), (707, .aload_n 0, 1), (708, .iload_n 3, 1), (709, .iconst 2, 1), (710, .iadd, 1), (711, .iaload, 1), (712, .aload_n 0, 1), (713, .iload_n 3, 1), (714, .iconst 3, 1), (715, .iadd, 1), (716, .iaload, 1), (717, .invokevirtual 75, 3), (720, .pop, 1), (721, .goto 432, 3), (724, .aload_n 1, 1), (725, .aload_n 0, 1)]
theorem dl_480 : ∀ q ∈ cl_480, decode code q.1 = .ok (q.2.1, q.2.2) := by decide +kernel
theorem d_law_702 : decode code 702 = .ok (.aload_n 0, 1) := dl_480 (702, .aload_n 0, 1) (List.mem_of_getElem? (i := 0) rfl)
theorem d_law_703 : decode code 703 = .ok (.iload_n 3, 1) := dl_480 (703, .iload_n 3, 1) (List.mem_of_getElem? (i := 1) rfl)
theorem d_law_704 : decode code 704 = .ok (.iconst 1, 1) := dl_480 (704, .iconst 1, 1) (List.mem_of_getElem? (i := 2) rfl)
theorem d_law_705 : decode code 705 = .ok (.iadd, 1) := dl_480 (705, .iadd, 1) (List.mem_of_getElem? (i := 3) rfl)
theorem d_law_706 : decode code 706 = .ok (.iaload, 1) := dl_480 (706, .iaload, 1) (List.mem_of_getElem? (i := 4) rfl)
theorem d_law_707 : decode code 707 = .ok (.aload_n 0, 1) := dl_480 (707, .aload_n 0, 1) (List.mem_of_getElem? (i := 5) rfl)
theorem d_law_708 : decode code 708 = .ok (.iload_n 3, 1) := dl_480 (708, .iload_n 3, 1) (List.mem_of_getElem? (i := 6) rfl)
theorem d_law_709 : decode code 709 = .ok (.iconst 2, 1) := dl_480 (709, .iconst 2, 1) (List.mem_of_getElem? (i := 7) rfl)
theorem d_law_710 : decode code 710 = .ok (.iadd, 1) := dl_480 (710, .iadd, 1) (List.mem_of_getElem? (i := 8) rfl)
theorem d_law_711 : decode code 711 = .ok (.iaload, 1) := dl_480 (711, .iaload, 1) (List.mem_of_getElem? (i := 9) rfl)
theorem d_law_712 : decode code 712 = .ok (.aload_n 0, 1) := dl_480 (712, .aload_n 0, 1) (List.mem_of_getElem? (i := 10) rfl)
theorem d_law_713 : decode code 713 = .ok (.iload_n 3, 1) := dl_480 (713, .iload_n 3, 1) (List.mem_of_getElem? (i := 11) rfl)
theorem d_law_714 : decode code 714 = .ok (.iconst 3, 1) := dl_480 (714, .iconst 3, 1) (List.mem_of_getElem? (i := 12) rfl)
theorem d_law_715 : decode code 715 = .ok (.iadd, 1) := dl_480 (715, .iadd, 1) (List.mem_of_getElem? (i := 13) rfl)
theorem d_law_716 : decode code 716 = .ok (.iaload, 1) := dl_480 (716, .iaload, 1) (List.mem_of_getElem? (i := 14) rfl)
theorem d_law_717 : decode code 717 = .ok (.invokevirtual 75, 3) := dl_480 (717, .invokevirtual 75, 3) (List.mem_of_getElem? (i := 15) rfl)
theorem d_law_720 : decode code 720 = .ok (.pop, 1) := dl_480 (720, .pop, 1) (List.mem_of_getElem? (i := 16) rfl)
theorem d_law_721 : decode code 721 = .ok (.goto 432, 3) := dl_480 (721, .goto 432, 3) (List.mem_of_getElem? (i := 17) rfl)
theorem d_law_724 : decode code 724 = .ok (.aload_n 1, 1) := dl_480 (724, .aload_n 1, 1) (List.mem_of_getElem? (i := 18) rfl)
theorem d_law_725 : decode code 725 = .ok (.aload_n 0, 1) := dl_480 (725, .aload_n 0, 1) (List.mem_of_getElem? (i := 19) rfl)
def cl_500 : List (Nat × Instr × Nat) := [(726, .iload_n 3, 1), (727, .iconst 1, 1), (728, .iadd, 1), (729, .iaload, 1), (730, .aload_n 0, 1), (731, .iload_n 3, 1), (732, .iconst 2, 1), (733, .iadd, 1), (734, .iaload, 1), (735, .invokevirtual 76, 3), (738, .pop, 1), (739, .aload_n 2, 1), (740, .aload_n 0, 1), (741, .iload_n 3, 1), (742, .iconst 1, 1), (743, .iadd, 1), (744, .iaload, 1), (745, .aload_n 0, 1), (746, .iload_n 3, 1), (747, .iconst 2, 1)]
theorem dl_500 : ∀ q ∈ cl_500, decode code q.1 = .ok (q.2.1, q.2.2) := by decide +kernel
theorem d_law_726 : decode code 726 = .ok (.iload_n 3, 1) := dl_500 (726, .iload_n 3, 1) (List.mem_of_getElem? (i := 0) rfl)
theorem d_law_727 : decode code 727 = .ok (.iconst 1, 1) := dl_500 (727, .iconst 1, 1) (List.mem_of_getElem? (i := 1) rfl)
theorem d_law_728 : decode code 728 = .ok (.iadd, 1) := dl_500 (728, .iadd, 1) (List.mem_of_getElem? (i := 2) rfl)
theorem d_law_729 : decode code 729 = .ok (.iaload, 1) := dl_500 (729, .iaload, 1) (List.mem_of_getElem? (i := 3) rfl)
theorem d_law_730 : decode code 730 = .ok (.aload_n 0, 1) := dl_500 (730, .aload_n 0, 1) (List.mem_of_getElem? (i := 4) rfl)
theorem d_law_731 : decode code 731 = .ok (.iload_n 3, 1) := dl_500 (731, .iload_n 3, 1) (List.mem_of_getElem? (i := 5) rfl)
theorem d_law_732 : decode code 732 = .ok (.iconst 2, 1) := dl_500 (732, .iconst 2, 1) (List.mem_of_getElem? (i := 6) rfl)
theorem d_law_733 : decode code 733 = .ok (.iadd, 1) := dl_500 (733, .iadd, 1) (List.mem_of_getElem? (i := 7) rfl)
theorem d_law_734 : decode code 734 = .ok (.iaload, 1) := dl_500 (734, .iaload, 1) (List.mem_of_getElem? (i := 8) rfl)
theorem d_law_735 : decode code 735 = .ok (.invokevirtual 76, 3) := dl_500 (735, .invokevirtual 76, 3) (List.mem_of_getElem? (i := 9) rfl)
theorem d_law_738 : decode code 738 = .ok (.pop, 1) := dl_500 (738, .pop, 1) (List.mem_of_getElem? (i := 10) rfl)
theorem d_law_739 : decode code 739 = .ok (.aload_n 2, 1) := dl_500 (739, .aload_n 2, 1) (List.mem_of_getElem? (i := 11) rfl)
theorem d_law_740 : decode code 740 = .ok (.aload_n 0, 1) := dl_500 (740, .aload_n 0, 1) (List.mem_of_getElem? (i := 12) rfl)
theorem d_law_741 : decode code 741 = .ok (.iload_n 3, 1) := dl_500 (741, .iload_n 3, 1) (List.mem_of_getElem? (i := 13) rfl)
theorem d_law_742 : decode code 742 = .ok (.iconst 1, 1) := dl_500 (742, .iconst 1, 1) (List.mem_of_getElem? (i := 14) rfl)
theorem d_law_743 : decode code 743 = .ok (.iadd, 1) := dl_500 (743, .iadd, 1) (List.mem_of_getElem? (i := 15) rfl)
theorem d_law_744 : decode code 744 = .ok (.iaload, 1) := dl_500 (744, .iaload, 1) (List.mem_of_getElem? (i := 16) rfl)
theorem d_law_745 : decode code 745 = .ok (.aload_n 0, 1) := dl_500 (745, .aload_n 0, 1) (List.mem_of_getElem? (i := 17) rfl)
theorem d_law_746 : decode code 746 = .ok (.iload_n 3, 1) := dl_500 (746, .iload_n 3, 1) (List.mem_of_getElem? (i := 18) rfl)
theorem d_law_747 : decode code 747 = .ok (.iconst 2, 1) := dl_500 (747, .iconst 2, 1) (List.mem_of_getElem? (i := 19) rfl)
def cl_520 : List (Nat × Instr × Nat) := [(748, .iadd, 1), (749, .iaload, 1), (750, .invokevirtual 79, 3), (753, .pop, 1), (754, .goto 399, 3), (757, .aload_n 1, 1), (758, .aload_n 0, 1), (759, .iload_n 3, 1), (760, .iconst 1, 1), (761, .iadd, 1), (762, .iaload, 1), (763, .aload_n 0, 1), (764, .iload_n 3, 1), (765, .iconst 2, 1), (766, .iadd, 1), (767, .iaload, 1), (768, .aload_n 0, 1), (769, .iload_n 3, 1), (770, .iconst 3, 1), (771, .iadd, 1)]
theorem dl_520 : ∀ q ∈ cl_520, decode code q.1 = .ok (q.2.1, q.2.2) := by decide +kernel
theorem d_law_748 : decode code 748 = .ok (.iadd, 1) := dl_520 (748, .iadd, 1) (List.mem_of_getElem? (i := 0) rfl)
theorem d_law_749 : decode code 749 = .ok (.iaload, 1) := dl_520 (749, .iaload, 1) (List.mem_of_getElem? (i := 1) rfl)
theorem d_law_750 : decode code 750 = .ok (.invokevirtual 79, 3) := dl_520 (750, .invokevirtual 79, 3) (List.mem_of_getElem? (i := 2) rfl)
theorem d_law_753 : decode code 753 = .ok (.pop, 1) := dl_520 (753, .pop, 1) (List.mem_of_getElem? (i := 3) rfl)
theorem d_law_754 : decode code 754 = .ok (.goto 399, 3) := dl_520 (754, .goto 399, 3) (List.mem_of_getElem? (i := 4) rfl)
theorem d_law_757 : decode code 757 = .ok (.aload_n 1, 1) := dl_520 (757, .aload_n 1, 1) (List.mem_of_getElem? (i := 5) rfl)
theorem d_law_758 : decode code 758 = .ok (.aload_n 0, 1) := dl_520 (758, .aload_n 0, 1) (List.mem_of_getElem? (i := 6) rfl)
theorem d_law_759 : decode code 759 = .ok (.iload_n 3, 1) := dl_520 (759, .iload_n 3, 1) (List.mem_of_getElem? (i := 7) rfl)
theorem d_law_760 : decode code 760 = .ok (.iconst 1, 1) := dl_520 (760, .iconst 1, 1) (List.mem_of_getElem? (i := 8) rfl)
theorem d_law_761 : decode code 761 = .ok (.iadd, 1) := dl_520 (761, .iadd, 1) (List.mem_of_getElem? (i := 9) rfl)
theorem d_law_762 : decode code 762 = .ok (.iaload, 1) := dl_520 (762, .iaload, 1) (List.mem_of_getElem? (i := 10) rfl)
theorem d_law_763 : decode code 763 = .ok (.aload_n 0, 1) := dl_520 (763, .aload_n 0, 1) (List.mem_of_getElem? (i := 11) rfl)
theorem d_law_764 : decode code 764 = .ok (.iload_n 3, 1) := dl_520 (764, .iload_n 3, 1) (List.mem_of_getElem? (i := 12) rfl)
theorem d_law_765 : decode code 765 = .ok (.iconst 2, 1) := dl_520 (765, .iconst 2, 1) (List.mem_of_getElem? (i := 13) rfl)
theorem d_law_766 : decode code 766 = .ok (.iadd, 1) := dl_520 (766, .iadd, 1) (List.mem_of_getElem? (i := 14) rfl)
theorem d_law_767 : decode code 767 = .ok (.iaload, 1) := dl_520 (767, .iaload, 1) (List.mem_of_getElem? (i := 15) rfl)
theorem d_law_768 : decode code 768 = .ok (.aload_n 0, 1) := dl_520 (768, .aload_n 0, 1) (List.mem_of_getElem? (i := 16) rfl)
theorem d_law_769 : decode code 769 = .ok (.iload_n 3, 1) := dl_520 (769, .iload_n 3, 1) (List.mem_of_getElem? (i := 17) rfl)
theorem d_law_770 : decode code 770 = .ok (.iconst 3, 1) := dl_520 (770, .iconst 3, 1) (List.mem_of_getElem? (i := 18) rfl)
theorem d_law_771 : decode code 771 = .ok (.iadd, 1) := dl_520 (771, .iadd, 1) (List.mem_of_getElem? (i := 19) rfl)
def cl_540 : List (Nat × Instr × Nat) := [(772, .iaload, 1), (773, .aload_n 0, 1), (774, .iload_n 3, 1), (775, .iconst 4, 1), (776, .iadd, 1), (777, .iaload, 1), (778, .invokevirtual 80, 3), (781, .pop, 1), (782, .aload_n 2, 1), (783, .aload_n 0, 1), (784, .iload_n 3, 1), (785, .iconst 1, 1), (786, .iadd, 1), (787, .iaload, 1), (788, .aload_n 0, 1), (789, .iload_n 3, 1), (790, .iconst 2, 1), (791, .iadd, 1), (792, .iaload, 1), (793, .aload_n 0, 1)]
theorem dl_540 : ∀ q ∈ cl_540, decode code q.1 = .ok (q.2.1, q.2.2) := by decide +kernel
theorem d_law_772 : decode code 772 = .ok (.iaload, 1) := dl_540 (772, .iaload, 1) (List.mem_of_getElem? (i := 0) rfl)
theorem d_law_773 : decode code 773 = .ok (.aload_n 0, 1) := dl_540 (773, .aload_n 0, 1) (List.mem_of_getElem? (i := 1) rfl)
theorem d_law_774 : decode code 774 = .ok (.iload_n 3, 1) := dl_540 (774, .iload_n 3, 1) (List.mem_of_getElem? (i := 2) rfl)
theorem d_law_775 : decode code 775 = .ok (.iconst 4, 1) := dl_540 (775, .iconst 4, 1) (List.mem_of_getElem? (i := 3) rfl)
theorem d_law_776 : decode code 776 = .ok (.iadd, 1) := dl_540 (776, .iadd, 1) (List.mem_of_getElem? (i := 4) rfl)
theorem d_law_777 : decode code 777 = .ok (.iaload, 1) := dl_540 (777, .iaload, 1) (List.mem_of_getElem? (i := 5) rfl)
theorem d_law_778 : decode code 778 = .ok (.invokevirtual 80, 3) := dl_540 (778, .invokevirtual 80, 3) (List.mem_of_getElem? (i := 6) rfl)
theorem d_law_781 : decode code 781 = .ok (.pop, 1) := dl_540 (781, .pop, 1) (List.mem_of_getElem? (i := 7) rfl)
theorem d_law_782 : decode code 782 = .ok (.aload_n 2, 1) := dl_540 (782, .aload_n 2, 1) (List.mem_of_getElem? (i := 8) rfl)
theorem d_law_783 : decode code 783 = .ok (.aload_n 0, 1) := dl_540 (783, .aload_n 0, 1) (List.mem_of_getElem? (i := 9) rfl)
theorem d_law_784 : decode code 784 = .ok (.iload_n 3, 1) := dl_540 (784, .iload_n 3, 1) (List.mem_of_getElem? (i := 10) rfl)
theorem d_law_785 : decode code 785 = .ok (.iconst 1, 1) := dl_540 (785, .iconst 1, 1) (List.mem_of_getElem? (i := 11) rfl)
theorem d_law_786 : decode code 786 = .ok (.iadd, 1) := dl_540 (786, .iadd, 1) (List.mem_of_getElem? (i := 12) rfl)
theorem d_law_787 : decode code 787 = .ok (.iaload, 1) := dl_540 (787, .iaload, 1) (List.mem_of_getElem? (i := 13) rfl)
theorem d_law_788 : decode code 788 = .ok (.aload_n 0, 1) := dl_540 (788, .aload_n 0, 1) (List.mem_of_getElem? (i := 14) rfl)
theorem d_law_789 : decode code 789 = .ok (.iload_n 3, 1) := dl_540 (789, .iload_n 3, 1) (List.mem_of_getElem? (i := 15) rfl)
theorem d_law_790 : decode code 790 = .ok (.iconst 2, 1) := dl_540 (790, .iconst 2, 1) (List.mem_of_getElem? (i := 16) rfl)
theorem d_law_791 : decode code 791 = .ok (.iadd, 1) := dl_540 (791, .iadd, 1) (List.mem_of_getElem? (i := 17) rfl)
theorem d_law_792 : decode code 792 = .ok (.iaload, 1) := dl_540 (792, .iaload, 1) (List.mem_of_getElem? (i := 18) rfl)
theorem d_law_793 : decode code 793 = .ok (.aload_n 0, 1) := dl_540 (793, .aload_n 0, 1) (List.mem_of_getElem? (i := 19) rfl)
def cl_560 : List (Nat × Instr × Nat) := [(794, .iload_n 3, 1), (795, .iconst 3, 1), (796, .iadd, 1), (797, .iaload, 1), (798, .aload_n 0, 1), (799, .iload_n 3, 1), (800, .iconst 4, 1), (801, .iadd, 1), (802, .iaload, 1), (803, .invokevirtual 84, 3), (806, .pop, 1), (807, .goto 346, 3), (810, .aload_n 1, 1), (811, .aload_n 0, 1), (812, .iload_n 3, 1), (813, .iconst 1, 1), (814, .iadd, 1), (815, .iaload, 1), (816, .aload_n 0, 1), (817, .iload_n 3, 1)]
theorem dl_560 : ∀ q ∈ cl_560, decode code q.1 = .ok (q.2.1, q.2.2) := by decide +kernel
theorem d_law_794 : decode code 794 = .ok (.iload_n 3, 1) := dl_560 (794, .iload_n 3, 1) (List.mem_of_getElem? (i := 0) rfl)
theorem d_law_795 : decode code 795 = .ok (.iconst 3, 1) := dl_560 (795, .iconst 3, 1) (List.mem_of_getElem? (i := 1) rfl)
theorem d_law_796 : decode code 796 = .ok (.iadd, 1) := dl_560 (796, .iadd, 1) (List.mem_of_getElem? (i := 2) rfl)
theorem d_law_797 : decode code 797 = .ok (.iaload, 1) := dl_560 (797, .iaload, 1) (List.mem_of_getElem? (i := 3) rfl)
theorem d_law_798 : decode code 798 = .ok (.aload_n 0, 1) := dl_560 (798, .aload_n 0, 1) (List.mem_of_getElem? (i := 4) rfl)
theorem d_law_799 : decode code 799 = .ok (.iload_n 3, 1) := dl_560 (799, .iload_n 3, 1) (List.mem_of_getElem? (i := 5) rfl)
theorem d_law_800 : decode code 800 = .ok (.iconst 4, 1) := dl_560 (800, .iconst 4, 1) (List.mem_of_getElem? (i := 6) rfl)
theorem d_law_801 : decode code 801 = .ok (.iadd, 1) := dl_560 (801, .iadd, 1) (List.mem_of_getElem? (i := 7) rfl)
theorem d_law_802 : decode code 802 = .ok (.iaload, 1) := dl_560 (802, .iaload, 1) (List.mem_of_getElem? (i := 8) rfl)
theorem d_law_803 : decode code 803 = .ok (.invokevirtual 84, 3) := dl_560 (803, .invokevirtual 84, 3) (List.mem_of_getElem? (i := 9) rfl)
theorem d_law_806 : decode code 806 = .ok (.pop, 1) := dl_560 (806, .pop, 1) (List.mem_of_getElem? (i := 10) rfl)
theorem d_law_807 : decode code 807 = .ok (.goto 346, 3) := dl_560 (807, .goto 346, 3) (List.mem_of_getElem? (i := 11) rfl)
theorem d_law_810 : decode code 810 = .ok (.aload_n 1, 1) := dl_560 (810, .aload_n 1, 1) (List.mem_of_getElem? (i := 12) rfl)
theorem d_law_811 : decode code 811 = .ok (.aload_n 0, 1) := dl_560 (811, .aload_n 0, 1) (List.mem_of_getElem? (i := 13) rfl)
theorem d_law_812 : decode code 812 = .ok (.iload_n 3, 1) := dl_560 (812, .iload_n 3, 1) (List.mem_of_getElem? (i := 14) rfl)
theorem d_law_813 : decode code 813 = .ok (.iconst 1, 1) := dl_560 (813, .iconst 1, 1) (List.mem_of_getElem? (i := 15) rfl)
theorem d_law_814 : decode code 814 = .ok (.iadd, 1) := dl_560 (814, .iadd, 1) (List.mem_of_getElem? (i := 16) rfl)
theorem d_law_815 : decode code 815 = .ok (.iaload, 1) := dl_560 (815, .iaload, 1) (List.mem_of_getElem? (i := 17) rfl)
theorem d_law_816 : decode code 816 = .ok (.aload_n 0, 1) := dl_560 (816, .aload_n 0, 1) (List.mem_of_getElem? (i := 18) rfl)
theorem d_law_817 : decode code 817 = .ok (.iload_n 3, 1) := dl_560 (817, .iload_n 3, 1) (List.mem_of_getElem? (i := 19) rfl)
def cl_580 : List (Nat × Instr × Nat) := [(818, .iconst 2, 1), (819, .iadd, 1), (820, .iaload, 1), (821, .aload_n 0, 1), (822, .iload_n 3, 1), (823, .iconst 3, 1), (824, .iadd, 1), (825, .iaload, 1), (826, .invokevirtual 85, 3), (829, .pop, 1), (830, .aload_n 2, 1), (831, .aload_n 0, 1), (832, .iload_n 3, 1), (833, .iconst 1, 1), (834, .iadd, 1), (835, .iaload, 1), (836, .aload_n 0, 1), (837, .iload_n 3, 1), (838, .iconst 2, 1), (839, .iadd, 1)]
theorem dl_580 : ∀ q ∈ cl_580, decode code q.1 = .ok (q.2.1, q.2.2) := by decide +kernel
theorem d_law_818 : decode code 818 = .ok (.iconst 2, 1) := dl_580 (818, .iconst 2, 1) (List.mem_of_getElem? (i := 0) rfl)
theorem d_law_819 : decode code 819 = .ok (.iadd, 1) := dl_580 (819, .iadd, 1) (List.mem_of_getElem? (i := 1) rfl)
theorem d_law_820 : decode code 820 = .ok (.iaload, 1) := dl_580 (820, .iaload, 1) (List.mem_of_getElem? (i := 2) rfl)
theorem d_law_821 : decode code 821 = .ok (.aload_n 0, 1) := dl_580 (821, .aload_n 0, 1) (List.mem_of_getElem? (i := 3) rfl)
theorem d_law_822 : decode code 822 = .ok (.iload_n 3, 1) := dl_580 (822, .iload_n 3, 1) (List.mem_of_getElem? (i := 4) rfl)
theorem d_law_823 : decode code 823 = .ok (.iconst 3, 1) := dl_580 (823, .iconst 3, 1) (List.mem_of_getElem? (i := 5) rfl)
theorem d_law_824 : decode code 824 = .ok (.iadd, 1) := dl_580 (824, .iadd, 1) (List.mem_of_getElem? (i := 6) rfl)
theorem d_law_825 : decode code 825 = .ok (.iaload, 1) := dl_580 (825, .iaload, 1) (List.mem_of_getElem? (i := 7) rfl)
theorem d_law_826 : decode code 826 = .ok (.invokevirtual 85, 3) := dl_580 (826, .invokevirtual 85, 3) (List.mem_of_getElem? (i := 8) rfl)
theorem d_law_829 : decode code 829 = .ok (.pop, 1) := dl_580 (829, .pop, 1) (List.mem_of_getElem? (i := 9) rfl)
theorem d_law_830 : decode code 830 = .ok (.aload_n 2, 1) := dl_580 (830, .aload_n 2, 1) (List.mem_of_getElem? (i := 10) rfl)
theorem d_law_831 : decode code 831 = .ok (.aload_n 0, 1) := dl_580 (831, .aload_n 0, 1) (List.mem_of_getElem? (i := 11) rfl)
theorem d_law_832 : decode code 832 = .ok (.iload_n 3, 1) := dl_580 (832, .iload_n 3, 1) (List.mem_of_getElem? (i := 12) rfl)
theorem d_law_833 : decode code 833 = .ok (.iconst 1, 1) := dl_580 (833, .iconst 1, 1) (List.mem_of_getElem? (i := 13) rfl)
theorem d_law_834 : decode code 834 = .ok (.iadd, 1) := dl_580 (834, .iadd, 1) (List.mem_of_getElem? (i := 14) rfl)
theorem d_law_835 : decode code 835 = .ok (.iaload, 1) := dl_580 (835, .iaload, 1) (List.mem_of_getElem? (i := 15) rfl)
theorem d_law_836 : decode code 836 = .ok (.aload_n 0, 1) := dl_580 (836, .aload_n 0, 1) (List.mem_of_getElem? (i := 16) rfl)
theorem d_law_837 : decode code 837 = .ok (.iload_n 3, 1) := dl_580 (837, .iload_n 3, 1) (List.mem_of_getElem? (i := 17) rfl)
theorem d_law_838 : decode code 838 = .ok (.iconst 2, 1) := dl_580 (838, .iconst 2, 1) (List.mem_of_getElem? (i := 18) rfl)
theorem d_law_839 : decode code 839 = .ok (.iadd, 1) := dl_580 (839, .iadd, 1) (List.mem_of_getElem? (i := 19) rfl)
def cl_600 : List (Nat × Instr × Nat) := [(840, .iaload, 1), (841, .aload_n 0, 1), (842, .iload_n 3, 1), (843, .iconst 3, 1), (844, .iadd, 1), (845, .iaload, 1), (846, .invokevirtual 88, 3), (849, .pop, 1), (850, .goto 303, 3), (853, .aload_n 1, 1), (854, .aload_n 0, 1), (855, .iload_n 3, 1), (856, .iconst 1, 1), (857, .iadd, 1), (858, .iaload, 1), (859, .aload_n 0, 1), (860, .iload_n 3, 1), (861, .iconst 2, 1), (862, .iadd, 1), (863, .iaload, 1)]
theorem dl_600 : ∀ q ∈ cl_600, decode code q.1 = .ok (q.2.1, q.2.2) := by decide +kernel
theorem d_law_840 : decode code 840 = .ok (.iaload, 1) := dl_600 (840, .iaload, 1) (List.mem_of_getElem? (i := 0) rfl)
theorem d_law_841 : decode code 841 = .ok (.aload_n 0, 1) := dl_600 (841, .aload_n 0, 1) (List.mem_of_getElem? (i := 1) rfl)
theorem d_law_842 : decode code 842 = .ok (.iload_n 3, 1) := dl_600 (842, .iload_n 3, 1) (List.mem_of_getElem? (i := 2) rfl)
theorem d_law_843 : decode code 843 = .ok (.iconst 3, 1) := dl_600 (843, .iconst 3, 1) (List.mem_of_getElem? (i := 3) rfl)
theorem d_law_844 : decode code 844 = .ok (.iadd, 1) := dl_600 (844, .iadd, 1) (List.mem_of_getElem? (i := 4) rfl)
theorem d_law_845 : decode code 845 = .ok (.iaload, 1) := dl_600 (845, .iaload, 1) (List.mem_of_getElem? (i := 5) rfl)
theorem d_law_846 : decode code 846 = .ok (.invokevirtual 88, 3) := dl_600 (846, .invokevirtual 88, 3) (List.mem_of_getElem? (i := 6) rfl)
theorem d_law_849 : decode code 849 = .ok (.pop, 1) := dl_600 (849, .pop, 1) (List.mem_of_getElem? (i := 7) rfl)
theorem d_law_850 : decode code 850 = .ok (.goto 303, 3) := dl_600 (850, .goto 303, 3) (List.mem_of_getElem? (i := 8) rfl)
theorem d_law_853 : decode code 853 = .ok (.aload_n 1, 1) := dl_600 (853, .aload_n 1, 1) (List.mem_of_getElem? (i := 9) rfl)
theorem d_law_854 : decode code 854 = .ok (.aload_n 0, 1) := dl_600 (854, .aload_n 0, 1) (List.mem_of_getElem? (i := 10) rfl)
theorem d_law_855 : decode code 855 = .ok (.iload_n 3, 1) := dl_600 (855, .iload_n 3, 1) (List.mem_of_getElem? (i := 11) rfl)
theorem d_law_856 : decode code 856 = .ok (.iconst 1, 1) := dl_600 (856, .iconst 1, 1) (List.mem_of_getElem? (i := 12) rfl)
theorem d_law_857 : decode code 857 = .ok (.iadd, 1) := dl_600 (857, .iadd, 1) (List.mem_of_getElem? (i := 13) rfl)
theorem d_law_858 : decode code 858 = .ok (.iaload, 1) := dl_600 (858, .iaload, 1) (List.mem_of_getElem? (i := 14) rfl)
theorem d_law_859 : decode code 859 = .ok (.aload_n 0, 1) := dl_600 (859, .aload_n 0, 1) (List.mem_of_getElem? (i := 15) rfl)
theorem d_law_860 : decode code 860 = .ok (.iload_n 3, 1) := dl_600 (860, .iload_n 3, 1) (List.mem_of_getElem? (i := 16) rfl)
theorem d_law_861 : decode code 861 = .ok (.iconst 2, 1) := dl_600 (861, .iconst 2, 1) (List.mem_of_getElem? (i := 17) rfl)
theorem d_law_862 : decode code 862 = .ok (.iadd, 1) := dl_600 (862, .iadd, 1) (List.mem_of_getElem? (i := 18) rfl)
theorem d_law_863 : decode code 863 = .ok (.iaload, 1) := dl_600 (863, .iaload, 1) (List.mem_of_getElem? (i := 19) rfl)
def cl_620 : List (Nat × Instr × Nat) := [(864, .aload_n 0, 1), (865, .iload_n 3, 1), (866, .iconst 3, 1), (867, .iadd, 1), (868, .iaload, 1), (869, .invokevirtual 89, 3), (872, .pop, 1), (873, .aload_n 2, 1), (874, .aload_n 0, 1), (875, .iload_n 3, 1), (876, .iconst 1, 1), (877, .iadd, 1), (878, .iaload, 1), (879, .aload_n 0, 1), (880, .iload_n 3, 1), (881, .iconst 2, 1), (882, .iadd, 1), (883, .iaload, 1), (884, .aload_n 0, 1), (885, .iload_n 3, 1)]
theorem dl_620 : ∀ q ∈ cl_620, decode code q.1 = .ok (q.2.1, q.2.2) := by decide +kernel
theorem d_law_864 : decode code 864 = .ok (.aload_n 0, 1) := dl_620 (864, .aload_n 0, 1) (List.mem_of_getElem? (i := 0) rfl)
theorem d_law_865 : decode code 865 = .ok (.iload_n 3, 1) := dl_620 (865, .iload_n 3, 1) (List.mem_of_getElem? (i := 1) rfl)
theorem d_law_866 : decode code 866 = .ok (.iconst 3, 1) := dl_620 (866, .iconst 3, 1) (List.mem_of_getElem? (i := 2) rfl)
theorem d_law_867 : decode code 867 = .ok (.iadd, 1) := dl_620 (867, .iadd, 1) (List.mem_of_getElem? (i := 3) rfl)
theorem d_law_868 : decode code 868 = .ok (.iaload, 1) := dl_620 (868, .iaload, 1) (List.mem_of_getElem? (i := 4) rfl)
theorem d_law_869 : decode code 869 = .ok (.invokevirtual 89, 3) := dl_620 (869, .invokevirtual 89, 3) (List.mem_of_getElem? (i := 5) rfl)
theorem d_law_872 : decode code 872 = .ok (.pop, 1) := dl_620 (872, .pop, 1) (List.mem_of_getElem? (i := 6) rfl)
theorem d_law_873 : decode code 873 = .ok (.aload_n 2, 1) := dl_620 (873, .aload_n 2, 1) (List.mem_of_getElem? (i := 7) rfl)
theorem d_law_874 : decode code 874 = .ok (.aload_n 0, 1) := dl_620 (874, .aload_n 0, 1) (List.mem_of_getElem? (i := 8) rfl)
theorem d_law_875 : decode code 875 = .ok (.iload_n 3, 1) := dl_620 (875, .iload_n 3, 1) (List.mem_of_getElem? (i := 9) rfl)
theorem d_law_876 : decode code 876 = .ok (.iconst 1, 1) := dl_620 (876, .iconst 1, 1) (List.mem_of_getElem? (i := 10) rfl)
theorem d_law_877 : decode code 877 = .ok (.iadd, 1) := dl_620 (877, .iadd, 1) (List.mem_of_getElem? (i := 11) rfl)
theorem d_law_878 : decode code 878 = .ok (.iaload, 1) := dl_620 (878, .iaload, 1) (List.mem_of_getElem? (i := 12) rfl)
theorem d_law_879 : decode code 879 = .ok (.aload_n 0, 1) := dl_620 (879, .aload_n 0, 1) (List.mem_of_getElem? (i := 13) rfl)
theorem d_law_880 : decode code 880 = .ok (.iload_n 3, 1) := dl_620 (880, .iload_n 3, 1) (List.mem_of_getElem? (i := 14) rfl)
theorem d_law_881 : decode code 881 = .ok (.iconst 2, 1) := dl_620 (881, .iconst 2, 1) (List.mem_of_getElem? (i := 15) rfl)
theorem d_law_882 : decode code 882 = .ok (.iadd, 1) := dl_620 (882, .iadd, 1) (List.mem_of_getElem? (i := 16) rfl)
theorem d_law_883 : decode code 883 = .ok (.iaload, 1) := dl_620 (883, .iaload, 1) (List.mem_of_getElem? (i := 17) rfl)
theorem d_law_884 : decode code 884 = .ok (.aload_n 0, 1) := dl_620 (884, .aload_n 0, 1) (List.mem_of_getElem? (i := 18) rfl)
theorem d_law_885 : decode code 885 = .ok (.iload_n 3, 1) := dl_620 (885, .iload_n 3, 1) (List.mem_of_getElem? (i := 19) rfl)
def cl_640 : List (Nat × Instr × Nat) := [(886, .iconst 3, 1), (887, .iadd, 1), (888, .iaload, 1), (889, .invokevirtual 92, 3), (892, .pop, 1), (893, .goto 260, 3), (896, .aload_n 1, 1), (897, .aload_n 0, 1), (898, .iload_n 3, 1), (899, .iconst 1, 1), (900, .iadd, 1), (901, .iaload, 1), (902, .aload_n 0, 1), (903, .iload_n 3, 1), (904, .iconst 2, 1), (905, .iadd, 1), (906, .iaload, 1), (907, .aload_n 0, 1), (908, .iload_n 3, 1), (909, .iconst 3, 1)]
theorem dl_640 : ∀ q ∈ cl_640, decode code q.1 = .ok (q.2.1, q.2.2) := by decide +kernel
theorem d_law_886 : decode code 886 = .ok (.iconst 3, 1) := dl_640 (886, .iconst 3, 1) (List.mem_of_getElem? (i := 0) rfl)
theorem d_law_887 : decode code 887 = .ok (.iadd, 1) := dl_640 (887, .iadd, 1) (List.mem_of_getElem? (i := 1) rfl)
theorem d_law_888 : decode code 888 = .ok (.iaload, 1) := dl_640 (888, .iaload, 1) (List.mem_of_getElem? (i := 2) rfl)
theorem d_law_889 : decode code 889 = .ok (.invokevirtual 92, 3) := dl_640 (889, .invokevirtual 92, 3) (List.mem_of_getElem? (i := 3) rfl)
theorem d_law_892 : decode code 892 = .ok (.pop, 1) := dl_640 (892, .pop, 1) (List.mem_of_getElem? (i := 4) rfl)
theorem d_law_893 : decode code 893 = .ok (.goto 260, 3) := dl_640 (893, .goto 260, 3) (List.mem_of_getElem? (i := 5) rfl)
theorem d_law_896 : decode code 896 = .ok (.aload_n 1, 1) := dl_640 (896, .aload_n 1, 1) (List.mem_of_getElem? (i := 6) rfl)
theorem d_law_897 : decode code 897 = .ok (.aload_n 0, 1) := dl_640 (897, .aload_n 0, 1) (List.mem_of_getElem? (i := 7) rfl)
theorem d_law_898 : decode code 898 = .ok (.iload_n 3, 1) := dl_640 (898, .iload_n 3, 1) (List.mem_of_getElem? (i := 8) rfl)
theorem d_law_899 : decode code 899 = .ok (.iconst 1, 1) := dl_640 (899, .iconst 1, 1) (List.mem_of_getElem? (i := 9) rfl)
theorem d_law_900 : decode code 900 = .ok (.iadd, 1) := dl_640 (900, .iadd, 1) (List.mem_of_getElem? (i := 10) rfl)
theorem d_law_901 : decode code 901 = .ok (.iaload, 1) := dl_640 (901, .iaload, 1) (List.mem_of_getElem? (i := 11) rfl)
theorem d_law_902 : decode code 902 = .ok (.aload_n 0, 1) := dl_640 (902, .aload_n 0, 1) (List.mem_of_getElem? (i := 12) rfl)
theorem d_law_903 : decode code 903 = .ok (.iload_n 3, 1) := dl_640 (903, .iload_n 3, 1) (List.mem_of_getElem? (i := 13) rfl)
theorem d_law_904 : decode code 904 = .ok (.iconst 2, 1) := dl_640 (904, .iconst 2, 1) (List.mem_of_getElem? (i := 14) rfl)
theorem d_law_905 : decode code 905 = .ok (.iadd, 1) := dl_640 (905, .iadd, 1) (List.mem_of_getElem? (i := 15) rfl)
theorem d_law_906 : decode code 906 = .ok (.iaload, 1) := dl_640 (906, .iaload, 1) (List.mem_of_getElem? (i := 16) rfl)
theorem d_law_907 : decode code 907 = .ok (.aload_n 0, 1) := dl_640 (907, .aload_n 0, 1) (List.mem_of_getElem? (i := 17) rfl)
theorem d_law_908 : decode code 908 = .ok (.iload_n 3, 1) := dl_640 (908, .iload_n 3, 1) (List.mem_of_getElem? (i := 18) rfl)
theorem d_law_909 : decode code 909 = .ok (.iconst 3, 1) := dl_640 (909, .iconst 3, 1) (List.mem_of_getElem? (i := 19) rfl)
def cl_660 : List (Nat × Instr × Nat) := [(910, .iadd, 1), (911, .iaload, 1), (912, .invokevirtual 93, 3), (915, .pop, 1), (916, .aload_n 2, 1), (917, .aload_n 0, 1), (918, .iload_n 3, 1), (919, .iconst 1, 1), (920, .iadd, 1), (921, .iaload, 1), (922, .aload_n 0, 1), (923, .iload_n 3, 1), (924, .iconst 2, 1), (925, .iadd, 1), (926, .iaload, 1), (927, .aload_n 0, 1), (928, .iload_n 3, 1), (929, .iconst 3, 1), (930, .iadd, 1), (931, .iaload, 1)]
theorem dl_660 : ∀ q ∈ cl_660, decode code q.1 = .ok (q.2.1, q.2.2) := by decide +kernel
theorem d_law_910 : decode code 910 = .ok (.iadd, 1) := dl_660 (910, .iadd, 1) (List.mem_of_getElem? (i := 0) rfl)
theorem d_law_911 : decode code 911 = .ok (.iaload, 1) := dl_660 (911, .iaload, 1) (List.mem_of_getElem? (i := 1) rfl)
theorem d_law_912 : decode code 912 = .ok (.invokevirtual 93, 3) := dl_660 (912, .invokevirtual 93, 3) (List.mem_of_getElem? (i := 2) rfl)
theorem d_law_915 : decode code 915 = .ok (.pop, 1) := dl_660 (915, .pop, 1) (List.mem_of_getElem? (i := 3) rfl)
theorem d_law_916 : decode code 916 = .ok (.aload_n 2, 1) := dl_660 (916, .aload_n 2, 1) (List.mem_of_getElem? (i := 4) rfl)
theorem d_law_917 : decode code 917 = .ok (.aload_n 0, 1) := dl_660 (917, .aload_n 0, 1) (List.mem_of_getElem? (i := 5) rfl)
theorem d_law_918 : decode code 918 = .ok (.iload_n 3, 1) := dl_660 (918, .iload_n 3, 1) (List.mem_of_getElem? (i := 6) rfl)
theorem d_law_919 : decode code 919 = .ok (.iconst 1, 1) := dl_660 (919, .iconst 1, 1) (List.mem_of_getElem? (i := 7) rfl)
theorem d_law_920 : decode code 920 = .ok (.iadd, 1) := dl_660 (920, .iadd, 1) (List.mem_of_getElem? (i := 8) rfl)
theorem d_law_921 : decode code 921 = .ok (.iaload, 1) := dl_660 (921, .iaload, 1) (List.mem_of_getElem? (i := 9) rfl)
theorem d_law_922 : decode code 922 = .ok (.aload_n 0, 1) := dl_660 (922, .aload_n 0, 1) (List.mem_of_getElem? (i := 10) rfl)
theorem d_law_923 : decode code 923 = .ok (.iload_n 3, 1) := dl_660 (923, .iload_n 3, 1) (List.mem_of_getElem? (i := 11) rfl)
theorem d_law_924 : decode code 924 = .ok (.iconst 2, 1) := dl_660 (924, .iconst 2, 1) (List.mem_of_getElem? (i := 12) rfl)
theorem d_law_925 : decode code 925 = .ok (.iadd, 1) := dl_660 (925, .iadd, 1) (List.mem_of_getElem? (i := 13) rfl)
theorem d_law_926 : decode code 926 = .ok (.iaload, 1) := dl_660 (926, .iaload, 1) (List.mem_of_getElem? (i := 14) rfl)
theorem d_law_927 : decode code 927 = .ok (.aload_n 0, 1) := dl_660 (927, .aload_n 0, 1) (List.mem_of_getElem? (i := 15) rfl)
theorem d_law_928 : decode code 928 = .ok (.iload_n 3, 1) := dl_660 (928, .iload_n 3, 1) (List.mem_of_getElem? (i := 16) rfl)
theorem d_law_929 : decode code 929 = .ok (.iconst 3, 1) := dl_660 (929, .iconst 3, 1) (List.mem_of_getElem? (i := 17) rfl)
theorem d_law_930 : decode code 930 = .ok (.iadd, 1) := dl_660 (930, .iadd, 1) (List.mem_of_getElem? (i := 18) rfl)
theorem d_law_931 : decode code 931 = .ok (.iaload, 1) := dl_660 (931, .iaload, 1) (List.mem_of_getElem? (i := 19) rfl)
def cl_680 : List (Nat × Instr × Nat) := [(932, .invokevirtual 96, 3), (935, .pop, 1), (936, .goto 217, 3), (939, .aload_n 1, 1), (940, .aload_n 0, 1), (941, .iload_n 3, 1), (942, .iconst 1, 1), (943, .iadd, 1), (944, .iaload, 1), (945, .aload_n 0, 1), (946, .iload_n 3, 1), (947, .iconst 2, 1), (948, .iadd, 1), (949, .iaload, 1), (950, .invokevirtual 97, 3), (953, .pop, 1), (954, .aload_n 2, 1), (955, .aload_n 0, 1), (956, .iload_n 3, 1), (957, .iconst 1, 1)]
theorem dl_680 : ∀ q ∈ cl_680, decode code q.1 = .ok (q.2.1, q.2.2) := by decide +kernel
theorem d_law_932 : decode code 932 = .ok (.invokevirtual 96, 3) := dl_680 (932, .invokevirtual 96, 3) (List.mem_of_getElem? (i := 0) rfl)
theorem d_law_935 : decode code 935 = .ok (.pop, 1) := dl_680 (935, .pop, 1) (List.mem_of_getElem? (i := 1) rfl)
theorem d_law_936 : decode code 936 = .ok (.goto 217, 3) := dl_680 (936, .goto 217, 3) (List.mem_of_getElem? (i := 2) rfl)
theorem d_law_939 : decode code 939 = .ok (.aload_n 1, 1) := dl_680 (939, .aload_n 1, 1) (List.mem_of_getElem? (i := 3) rfl)
theorem d_law_940 : decode code 940 = .ok (.aload_n 0, 1) := dl_680 (940, .aload_n 0, 1) (List.mem_of_getElem? (i := 4) rfl)
theorem d_law_941 : decode code 941 = .ok (.iload_n 3, 1) := dl_680 (941, .iload_n 3, 1) (List.mem_of_getElem? (i := 5) rfl)
theorem d_law_942 : decode code 942 = .ok (.iconst 1, 1) := dl_680 (942, .iconst 1, 1) (List.mem_of_getElem? (i := 6) rfl)
theorem d_law_943 : decode code 943 = .ok (.iadd, 1) := dl_680 (943, .iadd, 1) (List.mem_of_getElem? (i := 7) rfl)
theorem d_law_944 : decode code 944 = .ok (.iaload, 1) := dl_680 (944, .iaload, 1) (List.mem_of_getElem? (i := 8) rfl)
theorem d_law_945 : decode code 945 = .ok (.aload_n 0, 1) := dl_680 (945, .aload_n 0, 1) (List.mem_of_getElem? (i := 9) rfl)
theorem d_law_946 : decode code 946 = .ok (.iload_n 3, 1) := dl_680 (946, .iload_n 3, 1) (List.mem_of_getElem? (i := 10) rfl)
theorem d_law_947 : decode code 947 = .ok (.iconst 2, 1) := dl_680 (947, .iconst 2, 1) (List.mem_of_getElem? (i := 11) rfl)
theorem d_law_948 : decode code 948 = .ok (.iadd, 1) := dl_680 (948, .iadd, 1) (List.mem_of_getElem? (i := 12) rfl)
theorem d_law_949 : decode code 949 = .ok (.iaload, 1) := dl_680 (949, .iaload, 1) (List.mem_of_getElem? (i := 13) rfl)
theorem d_law_950 : decode code 950 = .ok (.invokevirtual 97, 3) := dl_680 (950, .invokevirtual 97, 3) (List.mem_of_getElem? (i := 14) rfl)
theorem d_law_953 : decode code 953 = .ok (.pop, 1) := dl_680 (953, .pop, 1) (List.mem_of_getElem? (i := 15) rfl)
theorem d_law_954 : decode code 954 = .ok (.aload_n 2, 1) := dl_680 (954, .aload_n 2, 1) (List.mem_of_getElem? (i := 16) rfl)
theorem d_law_955 : decode code 955 = .ok (.aload_n 0, 1) := dl_680 (955, .aload_n 0, 1) (List.mem_of_getElem? (i := 17) rfl)
theorem d_law_956 : decode code 956 = .ok (.iload_n 3, 1) := dl_680 (956, .iload_n 3, 1) (List.mem_of_getElem? (i := 18) rfl)
theorem d_law_957 : decode code 957 = .ok (.iconst 1, 1) := dl_680 (957, .iconst 1, 1) (List.mem_of_getElem? (i := 19) rfl)
def cl_700 : List (Nat × Instr × Nat) := [(958, .iadd, 1), (959, .iaload, 1), (960, .aload_n 0, 1), (961, .iload_n 3, 1), (962, .iconst 2, 1), (963, .iadd, 1), (964, .iaload, 1), (965, .invokevirtual 100, 3), (968, .pop, 1), (969, .goto 184, 3), (972, .aload_n 1, 1), (973, .aload_n 0, 1), (974, .iload_n 3, 1), (975, .iconst 1, 1), (976, .iadd, 1), (977, .iaload, 1), (978, .aload_n 0, 1), (979, .iload_n 3, 1), (980, .iconst 2, 1), (981, .iadd, 1)]
theorem dl_700 : ∀ q ∈ cl_700, decode code q.1 = .ok (q.2.1, q.2.2) := by decide +kernel
theorem d_law_958 : decode code 958 = .ok (.iadd, 1) := dl_700 (958, .iadd, 1) (List.mem_of_getElem? (i := 0) rfl)
theorem d_law_959 : decode code 959 = .ok (.iaload, 1) := dl_700 (959, .iaload, 1) (List.mem_of_getElem? (i := 1) rfl)
theorem d_law_960 : decode code 960 = .ok (.aload_n 0, 1) := dl_700 (960, .aload_n 0, 1) (List.mem_of_getElem? (i := 2) rfl)
theorem d_law_961 : decode code 961 = .ok (.iload_n 3, 1) := dl_700 (961, .iload_n 3, 1) (List.mem_of_getElem? (i := 3) rfl)
theorem d_law_962 : decode code 962 = .ok (.iconst 2, 1) := dl_700 (962, .iconst 2, 1) (List.mem_of_getElem? (i := 4) rfl)
theorem d_law_963 : decode code 963 = .ok (.iadd, 1) := dl_700 (963, .iadd, 1) (List.mem_of_getElem? (i := 5) rfl)
theorem d_law_964 : decode code 964 = .ok (.iaload, 1) := dl_700 (964, .iaload, 1) (List.mem_of_getElem? (i := 6) rfl)
theorem d_law_965 : decode code 965 = .ok (.invokevirtual 100, 3) := dl_700 (965, .invokevirtual 100, 3) (List.mem_of_getElem? (i := 7) rfl)
theorem d_law_968 : decode code 968 = .ok (.pop, 1) := dl_700 (968, .pop, 1) (List.mem_of_getElem? (i := 8) rfl)
theorem d_law_969 : decode code 969 = .ok (.goto 184, 3) := dl_700 (969, .goto 184, 3) (List.mem_of_getElem? (i := 9) rfl)
theorem d_law_972 : decode code 972 = .ok (.aload_n 1, 1) := dl_700 (972, .aload_n 1, 1) (List.mem_of_getElem? (i := 10) rfl)
theorem d_law_973 : decode code 973 = .ok (.aload_n 0, 1) := dl_700 (973, .aload_n 0, 1) (List.mem_of_getElem? (i := 11) rfl)
theorem d_law_974 : decode code 974 = .ok (.iload_n 3, 1) := dl_700 (974, .iload_n 3, 1) (List.mem_of_getElem? (i := 12) rfl)
theorem d_law_975 : decode code 975 = .ok (.iconst 1, 1) := dl_700 (975, .iconst 1, 1) (List.mem_of_getElem? (i := 13) rfl)
theorem d_law_976 : decode code 976 = .ok (.iadd, 1) := dl_700 (976, .iadd, 1) (List.mem_of_getElem? (i := 14) rfl)
theorem d_law_977 : decode code 977 = .ok (.iaload, 1) := dl_700 (977, .iaload, 1) (List.mem_of_getElem? (i := 15) rfl)
theorem d_law_978 : decode code 978 = .ok (.aload_n 0, 1) := dl_700 (978, .aload_n 0, 1) (List.mem_of_getElem? (i := 16) rfl)
theorem d_law_979 : decode code 979 = .ok (.iload_n 3, 1) := dl_700 (979, .iload_n 3, 1) (List.mem_of_getElem? (i := 17) rfl)
theorem d_law_980 : decode code 980 = .ok (.iconst 2, 1) := dl_700 (980, .iconst 2, 1) (List.mem_of_getElem? (i := 18) rfl)
theorem d_law_981 : decode code 981 = .ok (.iadd, 1) := dl_700 (981, .iadd, 1) (List.mem_of_getElem? (i := 19) rfl)
def cl_720 : List (Nat × Instr × Nat) := [(982, .iaload, 1), (983, .aload_n 0, 1), (984, .iload_n 3, 1), (985, .iconst 3, 1), (986, .iadd, 1), (987, .iaload, 1), (988, .invokevirtual 101, 3), (991, .pop, 1), (992, .aload_n 2, 1), (993, .aload_n 0, 1), (994, .iload_n 3, 1), (995, .iconst 1, 1), (996, .iadd, 1), (997, .iaload, 1), (998, .aload_n 0, 1), (999, .iload_n 3, 1), (1000, .iconst 2, 1), (1001, .iadd, 1), (1002, .iaload, 1), (1003, .aload_n 0, 1)]
theorem dl_720 : ∀ q ∈ cl_720, decode code q.1 = .ok (q.2.1, q.2.2) := by decide +kernel
theorem d_law_982 : decode code 982 = .ok (.iaload, 1) := dl_720 (982, .iaload, 1) (List.mem_of_getElem? (i := 0) rfl)
theorem d_law_983 : decode code 983 = .ok (.aload_n 0, 1) := dl_720 (983, .aload_n 0, 1) (List.mem_of_getElem? (i := 1) rfl)
theorem d_law_984 : decode code 984 = .ok (.iload_n 3, 1) := dl_720 (984, .iload_n 3, 1) (List.mem_of_getElem? (i := 2) rfl)
theorem d_law_985 : decode code 985 = .ok (.iconst 3, 1) := dl_720 (985, .iconst 3, 1) (List.mem_of_getElem? (i := 3) rfl)
theorem d_law_986 : decode code 986 = .ok (.iadd, 1) := dl_720 (986, .iadd, 1) (List.mem_of_getElem? (i := 4) rfl)
theorem d_law_987 : decode code 987 = .ok (.iaload, 1) := dl_720 (987, .iaload, 1) (List.mem_of_getElem? (i := 5) rfl)
theorem d_law_988 : decode code 988 = .ok (.invokevirtual 101, 3) := dl_720 (988, .invokevirtual 101, 3) (List.mem_of_getElem? (i := 6) rfl)
theorem d_law_991 : decode code 991 = .ok (.pop, 1) := dl_720 (991, .pop, 1) (List.mem_of_getElem? (i := 7) rfl)
theorem d_law_992 : decode code 992 = .ok (.aload_n 2, 1) := dl_720 (992, .aload_n 2, 1) (List.mem_of_getElem? (i := 8) rfl)
theorem d_law_993 : decode code 993 = .ok (.aload_n 0, 1) := dl_720 (993, .aload_n 0, 1) (List.mem_of_getElem? (i := 9) rfl)
theorem d_law_994 : decode code 994 = .ok (.iload_n 3, 1) := dl_720 (994, .iload_n 3, 1) (List.mem_of_getElem? (i := 10) rfl)
theorem d_law_995 : decode code 995 = .ok (.iconst 1, 1) := dl_720 (995, .iconst 1, 1) (List.mem_of_getElem? (i := 11) rfl)
theorem d_law_996 : decode code 996 = .ok (.iadd, 1) := dl_720 (996, .iadd, 1) (List.mem_of_getElem? (i := 12) rfl)
theorem d_law_997 : decode code 997 = .ok (.iaload, 1) := dl_720 (997, .iaload, 1) (List.mem_of_getElem? (i := 13) rfl)
theorem d_law_998 : decode code 998 = .ok (.aload_n 0, 1) := dl_720 (998, .aload_n 0, 1) (List.mem_of_getElem? (i := 14) rfl)
theorem d_law_999 : decode code 999 = .ok (.iload_n 3, 1) := dl_720 (999, .iload_n 3, 1) (List.mem_of_getElem? (i := 15) rfl)
theorem d_law_1000 : decode code 1000 = .ok (.iconst 2, 1) := dl_720 (1000, .iconst 2, 1) (List.mem_of_getElem? (i := 16) rfl)
theorem d_law_1001 : decode code 1001 = .ok (.iadd, 1) := dl_720 (1001, .iadd, 1) (List.mem_of_getElem? (i := 17) rfl)
theorem d_law_1002 : decode code 1002 = .ok (.iaload, 1) := dl_720 (1002, .iaload, 1) (List.mem_of_getElem? (i := 18) rfl)
theorem d_law_1003 : decode code 1003 = .ok (.aload_n 0, 1) := dl_720 (1003, .aload_n 0, 1) (List.mem_of_getElem? (i := 19) rfl)
def cl_740 : List (Nat × Instr × Nat) := [(1004, .iload_n 3, 1), (1005, .iconst 3, 1), (1006, .iadd, 1), (1007, .iaload, 1), (1008, .invokevirtual 104, 3), (1011, .pop, 1), (1012, .goto 141, 3), (1015, .aload_n 1, 1), (1016, .aload_n 0, 1), (1017, .iload_n 3, 1), (1018, .iconst 1, 1), (1019, .iadd, 1), (1020, .iaload, 1), (1021, .aload_n 0, 1), (1022, .iload_n 3, 1), (1023, .iconst 2, 1), (1024, .iadd, 1), (1025, .iaload, 1), (1026, .aload_n 0, 1), (1027, .iload_n 3, 1)]
theorem dl_740 : ∀ q ∈ cl_740, decode code q.1 = .ok (q.2.1, q.2.2) := by decide +kernel
theorem d_law_1004 : decode code 1004 = .ok (.iload_n 3, 1) := dl_740 (1004, .iload_n 3, 1) (List.mem_of_getElem? (i := 0) rfl)
theorem d_law_1005 : decode code 1005 = .ok (.iconst 3, 1) := dl_740 (1005, .iconst 3, 1) (List.mem_of_getElem? (i := 1) rfl)
theorem d_law_1006 : decode code 1006 = .ok (.iadd, 1) := dl_740 (1006, .iadd, 1) (List.mem_of_getElem? (i := 2) rfl)
theorem d_law_1007 : decode code 1007 = .ok (.iaload, 1) := dl_740 (1007, .iaload, 1) (List.mem_of_getElem? (i := 3) rfl)
theorem d_law_1008 : decode code 1008 = .ok (.invokevirtual 104, 3) := dl_740 (1008, .invokevirtual 104, 3) (List.mem_of_getElem? (i := 4) rfl)
theorem d_law_1011 : decode code 1011 = .ok (.pop, 1) := dl_740 (1011, .pop, 1) (List.mem_of_getElem? (i := 5) rfl)
theorem d_law_1012 : decode code 1012 = .ok (.goto 141, 3) := dl_740 (1012, .goto 141, 3) (List.mem_of_getElem? (i := 6) rfl)
theorem d_law_1015 : decode code 1015 = .ok (.aload_n 1, 1) := dl_740 (1015, .aload_n 1, 1) (List.mem_of_getElem? (i := 7) rfl)
theorem d_law_1016 : decode code 1016 = .ok (.aload_n 0, 1) := dl_740 (1016, .aload_n 0, 1) (List.mem_of_getElem? (i := 8) rfl)
theorem d_law_1017 : decode code 1017 = .ok (.iload_n 3, 1) := dl_740 (1017, .iload_n 3, 1) (List.mem_of_getElem? (i := 9) rfl)
theorem d_law_1018 : decode code 1018 = .ok (.iconst 1, 1) := dl_740 (1018, .iconst 1, 1) (List.mem_of_getElem? (i := 10) rfl)
theorem d_law_1019 : decode code 1019 = .ok (.iadd, 1) := dl_740 (1019, .iadd, 1) (List.mem_of_getElem? (i := 11) rfl)
theorem d_law_1020 : decode code 1020 = .ok (.iaload, 1) := dl_740 (1020, .iaload, 1) (List.mem_of_getElem? (i := 12) rfl)
theorem d_law_1021 : decode code 1021 = .ok (.aload_n 0, 1) := dl_740 (1021, .aload_n 0, 1) (List.mem_of_getElem? (i := 13) rfl)
theorem d_law_1022 : decode code 1022 = .ok (.iload_n 3, 1) := dl_740 (1022, .iload_n 3, 1) (List.mem_of_getElem? (i := 14) rfl)
theorem d_law_1023 : decode code 1023 = .ok (.iconst 2, 1) := dl_740 (1023, .iconst 2, 1) (List.mem_of_getElem? (i := 15) rfl)
theorem d_law_1024 : decode code 1024 = .ok (.iadd, 1) := dl_740 (1024, .iadd, 1) (List.mem_of_getElem? (i := 16) rfl)
theorem d_law_1025 : decode code 1025 = .ok (.iaload, 1) := dl_740 (1025, .iaload, 1) (List.mem_of_getElem? (i := 17) rfl)
theorem d_law_1026 : decode code 1026 = .ok (.aload_n 0, 1) := dl_740 (1026, .aload_n 0, 1) (List.mem_of_getElem? (i := 18) rfl)
theorem d_law_1027 : decode code 1027 = .ok (.iload_n 3, 1) := dl_740 (1027, .iload_n 3, 1) (List.mem_of_getElem? (i := 19) rfl)
def cl_760 : List (Nat × Instr × Nat) := [(1028, .iconst 3, 1), (1029, .iadd, 1), (1030, .iaload, 1), (1031, .invokevirtual 105, 3), (1034, .pop, 1), (1035, .aload_n 2, 1), (1036, .aload_n 0, 1), (1037, .iload_n 3, 1), (1038, .iconst 1, 1), (1039, .iadd, 1), (1040, .iaload, 1), (1041, .aload_n 0, 1), (1042, .iload_n 3, 1), (1043, .iconst 2, 1), (1044, .iadd, 1), (1045, .iaload, 1), (1046, .aload_n 0, 1), (1047, .iload_n 3, 1), (1048, .iconst 3, 1), (1049, .iadd, 1)]
theorem dl_760 : ∀ q ∈ cl_760, decode code q.1 = .ok (q.2.1, q.2.2) := by decide +kernel
theorem d_law_1028 : decode code 1028 = .ok (.iconst 3, 1) := dl_760 (1028, .iconst 3, 1) (List.mem_of_getElem? (i := 0) rfl)
theorem d_law_1029 : decode code 1029 = .ok (.iadd, 1) := dl_760 (1029, .iadd, 1) (List.mem_of_getElem? (i := 1) rfl)
theorem d_law_1030 : decode code 1030 = .ok (.iaload, 1) := dl_760 (1030, .iaload, 1) (List.mem_of_getElem? (i := 2) rfl)
theorem d_law_1031 : decode code 1031 = .ok (.invokevirtual 105, 3) := dl_760 (1031, .invokevirtual 105, 3) (List.mem_of_getElem? (i := 3) rfl)
theorem d_law_1034 : decode code 1034 = .ok (.pop, 1) := dl_760 (1034, .pop, 1) (List.mem_of_getElem? (i := 4) rfl)
theorem d_law_1035 : decode code 1035 = .ok (.aload_n 2, 1) := dl_760 (1035, .aload_n 2, 1) (List.mem_of_getElem? (i := 5) rfl)
theorem d_law_1036 : decode code 1036 = .ok (.aload_n 0, 1) := dl_760 (1036, .aload_n 0, 1) (List.mem_of_getElem? (i := 6) rfl)
theorem d_law_1037 : decode code 1037 = .ok (.iload_n 3, 1) := dl_760 (1037, .iload_n 3, 1) (List.mem_of_getElem? (i := 7) rfl)
theorem d_law_1038 : decode code 1038 = .ok (.iconst 1, 1) := dl_760 (1038, .iconst 1, 1) (List.mem_of_getElem? (i := 8) rfl)
theorem d_law_1039 : decode code 1039 = .ok (.iadd, 1) := dl_760 (1039, .iadd, 1) (List.mem_of_getElem? (i := 9) rfl)
theorem d_law_1040 : decode code 1040 = .ok (.iaload, 1) := dl_760 (1040, .iaload, 1) (List.mem_of_getElem? (i := 10) rfl)
theorem d_law_1041 : decode code 1041 = .ok (.aload_n 0, 1) := dl_760 (1041, .aload_n 0, 1) (List.mem_of_getElem? (i := 11) rfl)
theorem d_law_1042 : decode code 1042 = .ok (.iload_n 3, 1) := dl_760 (1042, .iload_n 3, 1) (List.mem_of_getElem? (i := 12) rfl)
theorem d_law_1043 : decode code 1043 = .ok (.iconst 2, 1) := dl_760 (1043, .iconst 2, 1) (List.mem_of_getElem? (i := 13) rfl)
theorem d_law_1044 : decode code 1044 = .ok (.iadd, 1) := dl_760 (1044, .iadd, 1) (List.mem_of_getElem? (i := 14) rfl)
theorem d_law_1045 : decode code 1045 = .ok (.iaload, 1) := dl_760 (1045, .iaload, 1) (List.mem_of_getElem? (i := 15) rfl)
theorem d_law_1046 : decode code 1046 = .ok (.aload_n 0, 1) := dl_760 (1046, .aload_n 0, 1) (List.mem_of_getElem? (i := 16) rfl)
theorem d_law_1047 : decode code 1047 = .ok (.iload_n 3, 1) := dl_760 (1047, .iload_n 3, 1) (List.mem_of_getElem? (i := 17) rfl)
theorem d_law_1048 : decode code 1048 = .ok (.iconst 3, 1) := dl_760 (1048, .iconst 3, 1) (List.mem_of_getElem? (i := 18) rfl)
theorem d_law_1049 : decode code 1049 = .ok (.iadd, 1) := dl_760 (1049, .iadd, 1) (List.mem_of_getElem? (i := 19) rfl)
def cl_780 : List (Nat × Instr × Nat) := [(1050, .iaload, 1), (1051, .invokevirtual 108, 3), (1054, .pop, 1), (1055, .goto 98, 3), (1058, .aload_n 1, 1), (1059, .aload_n 0, 1), (1060, .iload_n 3, 1), (1061, .iconst 1, 1), (1062, .iadd, 1), (1063, .iaload, 1), (1064, .invokevirtual 109, 3), (1067, .pop, 1), (1068, .aload_n 2, 1), (1069, .aload_n 0, 1), (1070, .iload_n 3, 1), (1071, .iconst 1, 1), (1072, .iadd, 1), (1073, .iaload, 1), (1074, .invokevirtual 113, 3), (1077, .pop, 1)]
theorem dl_780 : ∀ q ∈ cl_780, decode code q.1 = .ok (q.2.1, q.2.2) := by decide +kernel
theorem d_law_1050 : decode code 1050 = .ok (.iaload, 1) := dl_780 (1050, .iaload, 1) (List.mem_of_getElem? (i := 0) rfl)
theorem d_law_1051 : decode code 1051 = .ok (.invokevirtual 108, 3) := dl_780 (1051, .invokevirtual 108, 3) (List.mem_of_getElem? (i := 1) rfl)
theorem d_law_1054 : decode code 1054 = .ok (.pop, 1) := dl_780 (1054, .pop, 1) (List.mem_of_getElem? (i := 2) rfl)
theorem d_law_1055 : decode code 1055 = .ok (.goto 98, 3) := dl_780 (1055, .goto 98, 3) (List.mem_of_getElem? (i := 3) rfl)
theorem d_law_1058 : decode code 1058 = .ok (.aload_n 1, 1) := dl_780 (1058, .aload_n 1, 1) (List.mem_of_getElem? (i := 4) rfl)
theorem d_law_1059 : decode code 1059 = .ok (.aload_n 0, 1) := dl_780 (1059, .aload_n 0, 1) (List.mem_of_getElem? (i := 5) rfl)
theorem d_law_1060 : decode code 1060 = .ok (.iload_n 3, 1) := dl_780 (1060, .iload_n 3, 1) (List.mem_of_getElem? (i := 6) rfl)
theorem d_law_1061 : decode code 1061 = .ok (.iconst 1, 1) := dl_780 (1061, .iconst 1, 1) (List.mem_of_getElem? (i := 7) rfl)
theorem d_law_1062 : decode code 1062 = .ok (.iadd, 1) := dl_780 (1062, .iadd, 1) (List.mem_of_getElem? (i := 8) rfl)
theorem d_law_1063 : decode code 1063 = .ok (.iaload, 1) := dl_780 (1063, .iaload, 1) (List.mem_of_getElem? (i := 9) rfl)
theorem d_law_1064 : decode code 1064 = .ok (.invokevirtual 109, 3) := dl_780 (1064, .invokevirtual 109, 3) (List.mem_of_getElem? (i := 10) rfl)
theorem d_law_1067 : decode code 1067 = .ok (.pop, 1) := dl_780 (1067, .pop, 1) (List.mem_of_getElem? (i := 11) rfl)
theorem d_law_1068 : decode code 1068 = .ok (.aload_n 2, 1) := dl_780 (1068, .aload_n 2, 1) (List.mem_of_getElem? (i := 12) rfl)
theorem d_law_1069 : decode code 1069 = .ok (.aload_n 0, 1) := dl_780 (1069, .aload_n 0, 1) (List.mem_of_getElem? (i := 13) rfl)
theorem d_law_1070 : decode code 1070 = .ok (.iload_n 3, 1) := dl_780 (1070, .iload_n 3, 1) (List.mem_of_getElem? (i := 14) rfl)
theorem d_law_1071 : decode code 1071 = .ok (.iconst 1, 1) := dl_780 (1071, .iconst 1, 1) (List.mem_of_getElem? (i := 15) rfl)
theorem d_law_1072 : decode code 1072 = .ok (.iadd, 1) := dl_780 (1072, .iadd, 1) (List.mem_of_getElem? (i := 16) rfl)
theorem d_law_1073 : decode code 1073 = .ok (.iaload, 1) := dl_780 (1073, .iaload, 1) (List.mem_of_getElem? (i := 17) rfl)
theorem d_law_1074 : decode code 1074 = .ok (.invokevirtual 113, 3) := dl_780 (1074, .invokevirtual 113, 3) (List.mem_of_getElem? (i := 18) rfl)
theorem d_law_1077 : decode code 1077 = .ok (.pop, 1) := dl_780 (1077, .pop, 1) (List.mem_of_getElem? (i := 19) rfl)
def cl_800 : List (Nat × Instr × Nat) := [(1078, .goto 75, 3), (1081, .aload_n 1, 1), (1082, .invokevirtual 114, 3), (1085, .aload_n 2, 1), (1086, .invokevirtual 118, 3), (1089, .if_icmp .eq 64, 3), (1092, .iconst 0, 1), (1093, .ireturn, 1), (1094, .aload_n 1, 1), (1095, .invokevirtual 119, 3), (1098, .pop, 1), (1099, .aload_n 2, 1), (1100, .invokevirtual 123, 3), (1103, .pop, 1), (1104, .goto 49, 3), (1107, .aload_n 1, 1), (1108, .aload_n 0, 1), (1109, .iload_n 3, 1), (1110, .iconst 1, 1), (1111, .iadd, 1)]
theorem dl_800 : ∀ q ∈ cl_800, decode code q.1 = .ok (q.2.1, q.2.2) := by decide +kernel
theorem d_law_1078 : decode code 1078 = .ok (.goto 75, 3) := dl_800 (1078, .goto 75, 3) (List.mem_of_getElem? (i := 0) rfl)
theorem d_law_1081 : decode code 1081 = .ok (.aload_n 1, 1) := dl_800 (1081, .aload_n 1, 1) (List.mem_of_getElem? (i := 1) rfl)
theorem d_law_1082 : decode code 1082 = .ok (.invokevirtual 114, 3) := dl_800 (1082, .invokevirtual 114, 3) (List.mem_of_getElem? (i := 2) rfl)
theorem d_law_1085 : decode code 1085 = .ok (.aload_n 2, 1) := dl_800 (1085, .aload_n 2, 1) (List.mem_of_getElem? (i := 3) rfl)
theorem d_law_1086 : decode code 1086 = .ok (.invokevirtual 118, 3) := dl_800 (1086, .invokevirtual 118, 3) (List.mem_of_getElem? (i := 4) rfl)
theorem d_law_1089 : decode code 1089 = .ok (.if_icmp .eq 64, 3) := dl_800 (1089, .if_icmp .eq 64, 3) (List.mem_of_getElem? (i := 5) rfl)
theorem d_law_1092 : decode code 1092 = .ok (.iconst 0, 1) := dl_800 (1092, .iconst 0, 1) (List.mem_of_getElem? (i := 6) rfl)
theorem d_law_1093 : decode code 1093 = .ok (.ireturn, 1) := dl_800 (1093, .ireturn, 1) (List.mem_of_getElem? (i := 7) rfl)
theorem d_law_1094 : decode code 1094 = .ok (.aload_n 1, 1) := dl_800 (1094, .aload_n 1, 1) (List.mem_of_getElem? (i := 8) rfl)
theorem d_law_1095 : decode code 1095 = .ok (.invokevirtual 119, 3) := dl_800 (1095, .invokevirtual 119, 3) (List.mem_of_getElem? (i := 9) rfl)
theorem d_law_1098 : decode code 1098 = .ok (.pop, 1) := dl_800 (1098, .pop, 1) (List.mem_of_getElem? (i := 10) rfl)
theorem d_law_1099 : decode code 1099 = .ok (.aload_n 2, 1) := dl_800 (1099, .aload_n 2, 1) (List.mem_of_getElem? (i := 11) rfl)
theorem d_law_1100 : decode code 1100 = .ok (.invokevirtual 123, 3) := dl_800 (1100, .invokevirtual 123, 3) (List.mem_of_getElem? (i := 12) rfl)
theorem d_law_1103 : decode code 1103 = .ok (.pop, 1) := dl_800 (1103, .pop, 1) (List.mem_of_getElem? (i := 13) rfl)
theorem d_law_1104 : decode code 1104 = .ok (.goto 49, 3) := dl_800 (1104, .goto 49, 3) (List.mem_of_getElem? (i := 14) rfl)
theorem d_law_1107 : decode code 1107 = .ok (.aload_n 1, 1) := dl_800 (1107, .aload_n 1, 1) (List.mem_of_getElem? (i := 15) rfl)
theorem d_law_1108 : decode code 1108 = .ok (.aload_n 0, 1) := dl_800 (1108, .aload_n 0, 1) (List.mem_of_getElem? (i := 16) rfl)
theorem d_law_1109 : decode code 1109 = .ok (.iload_n 3, 1) := dl_800 (1109, .iload_n 3, 1) (List.mem_of_getElem? (i := 17) rfl)
theorem d_law_1110 : decode code 1110 = .ok (.iconst 1, 1) := dl_800 (1110, .iconst 1, 1) (List.mem_of_getElem? (i := 18) rfl)
theorem d_law_1111 : decode code 1111 = .ok (.iadd, 1) := dl_800 (1111, .iadd, 1) (List.mem_of_getElem? (i := 19) rfl)
def cl_820 : List (Nat × Instr × Nat) := [(1112, .iaload, 1), (1113, .invokevirtual 124, 3), (1116, .pop, 1), (1117, .aload_n 2, 1), (1118, .aload_n 0, 1), (1119, .iload_n 3, 1), (1120, .iconst 1, 1), (1121, .iadd, 1), (1122, .iaload, 1), (1123, .invokevirtual 127, 3), (1126, .pop, 1), (1127, .goto 26, 3), (1130, .aload_n 1, 1), (1131, .aload_n 0, 1), (1132, .iload_n 3, 1), (1133, .iconst 1, 1), (1134, .iadd, 1), (1135, .iaload, 1), (1136, .invokevirtual 128, 3), (1139, .pop, 1)]
theorem dl_820 : ∀ q ∈ cl_820, decode code q.1 = .ok (q.2.1, q.2.2) := by decide +kernel
theorem d_law_1112 : decode code 1112 = .ok (.iaload, 1) := dl_820 (1112, .iaload, 1) (List.mem_of_getElem? (i := 0) rfl)
theorem d_law_1113 : decode code 1113 = .ok (.invokevirtual 124, 3) := dl_820 (1113, .invokevirtual 124, 3) (List.mem_of_getElem? (i := 1) rfl)
theorem d_law_1116 : decode code 1116 = .ok (.pop, 1) := dl_820 (1116, .pop, 1) (List.mem_of_getElem? (i := 2) rfl)
theorem d_law_1117 : decode code 1117 = .ok (.aload_n 2, 1) := dl_820 (1117, .aload_n 2, 1) (List.mem_of_getElem? (i := 3) rfl)
theorem d_law_1118 : decode code 1118 = .ok (.aload_n 0, 1) := dl_820 (1118, .aload_n 0, 1) (List.mem_of_getElem? (i := 4) rfl)
theorem d_law_1119 : decode code 1119 = .ok (.iload_n 3, 1) := dl_820 (1119, .iload_n 3, 1) (List.mem_of_getElem? (i := 5) rfl)
theorem d_law_1120 : decode code 1120 = .ok (.iconst 1, 1) := dl_820 (1120, .iconst 1, 1) (List.mem_of_getElem? (i := 6) rfl)
theorem d_law_1121 : decode code 1121 = .ok (.iadd, 1) := dl_820 (1121, .iadd, 1) (List.mem_of_getElem? (i := 7) rfl)
theorem d_law_1122 : decode code 1122 = .ok (.iaload, 1) := dl_820 (1122, .iaload, 1) (List.mem_of_getElem? (i := 8) rfl)
theorem d_law_1123 : decode code 1123 = .ok (.invokevirtual 127, 3) := dl_820 (1123, .invokevirtual 127, 3) (List.mem_of_getElem? (i := 9) rfl)
theorem d_law_1126 : decode code 1126 = .ok (.pop, 1) := dl_820 (1126, .pop, 1) (List.mem_of_getElem? (i := 10) rfl)
theorem d_law_1127 : decode code 1127 = .ok (.goto 26, 3) := dl_820 (1127, .goto 26, 3) (List.mem_of_getElem? (i := 11) rfl)
theorem d_law_1130 : decode code 1130 = .ok (.aload_n 1, 1) := dl_820 (1130, .aload_n 1, 1) (List.mem_of_getElem? (i := 12) rfl)
theorem d_law_1131 : decode code 1131 = .ok (.aload_n 0, 1) := dl_820 (1131, .aload_n 0, 1) (List.mem_of_getElem? (i := 13) rfl)
theorem d_law_1132 : decode code 1132 = .ok (.iload_n 3, 1) := dl_820 (1132, .iload_n 3, 1) (List.mem_of_getElem? (i := 14) rfl)
theorem d_law_1133 : decode code 1133 = .ok (.iconst 1, 1) := dl_820 (1133, .iconst 1, 1) (List.mem_of_getElem? (i := 15) rfl)
theorem d_law_1134 : decode code 1134 = .ok (.iadd, 1) := dl_820 (1134, .iadd, 1) (List.mem_of_getElem? (i := 16) rfl)
theorem d_law_1135 : decode code 1135 = .ok (.iaload, 1) := dl_820 (1135, .iaload, 1) (List.mem_of_getElem? (i := 17) rfl)
theorem d_law_1136 : decode code 1136 = .ok (.invokevirtual 128, 3) := dl_820 (1136, .invokevirtual 128, 3) (List.mem_of_getElem? (i := 18) rfl)
theorem d_law_1139 : decode code 1139 = .ok (.pop, 1) := dl_820 (1139, .pop, 1) (List.mem_of_getElem? (i := 19) rfl)
def cl_840 : List (Nat × Instr × Nat) := [(1140, .aload_n 2, 1), (1141, .aload_n 0, 1), (1142, .iload_n 3, 1), (1143, .iconst 1, 1), (1144, .iadd, 1), (1145, .iaload, 1), (1146, .invokevirtual 131, 3), (1149, .pop, 1), (1150, .goto 3, 3), (1153, .iinc 3 6, 3), (1156, .goto (-1138), 3), (1159, .iconst 1, 1), (1160, .ireturn, 1)]
theorem dl_840 : ∀ q ∈ cl_840, decode code q.1 = .ok (q.2.1, q.2.2) := by decide +kernel
theorem d_law_1140 : decode code 1140 = .ok (.aload_n 2, 1) := dl_840 (1140, .aload_n 2, 1) (List.mem_of_getElem? (i := 0) rfl)
theorem d_law_1141 : decode code 1141 = .ok (.aload_n 0, 1) := dl_840 (1141, .aload_n 0, 1) (List.mem_of_getElem? (i := 1) rfl)
theorem d_law_1142 : decode code 1142 = .ok (.iload_n 3, 1) := dl_840 (1142, .iload_n 3, 1) (List.mem_of_getElem? (i := 2) rfl)
theorem d_law_1143 : decode code 1143 = .ok (.iconst 1, 1) := dl_840 (1143, .iconst 1, 1) (List.mem_of_getElem? (i := 3) rfl)
theorem d_law_1144 : decode code 1144 = .ok (.iadd, 1) := dl_840 (1144, .iadd, 1) (List.mem_of_getElem? (i := 4) rfl)
theorem d_law_1145 : decode code 1145 = .ok (.iaload, 1) := dl_840 (1145, .iaload, 1) (List.mem_of_getElem? (i := 5) rfl)
theorem d_law_1146 : decode code 1146 = .ok (.invokevirtual 131, 3) := dl_840 (1146, .invokevirtual 131, 3) (List.mem_of_getElem? (i := 6) rfl)
theorem d_law_1149 : decode code 1149 = .ok (.pop, 1) := dl_840 (1149, .pop, 1) (List.mem_of_getElem? (i := 7) rfl)
theorem d_law_1150 : decode code 1150 = .ok (.goto 3, 3) := dl_840 (1150, .goto 3, 3) (List.mem_of_getElem? (i := 8) rfl)
theorem d_law_1153 : decode code 1153 = .ok (.iinc 3 6, 3) := dl_840 (1153, .iinc 3 6, 3) (List.mem_of_getElem? (i := 9) rfl)
theorem d_law_1156 : decode code 1156 = .ok (.goto (-1138), 3) := dl_840 (1156, .goto (-1138), 3) (List.mem_of_getElem? (i := 10) rfl)
theorem d_law_1159 : decode code 1159 = .ok (.iconst 1, 1) := dl_840 (1159, .iconst 1, 1) (List.mem_of_getElem? (i := 11) rfl)
theorem d_law_1160 : decode code 1160 = .ok (.ireturn, 1) := dl_840 (1160, .ireturn, 1) (List.mem_of_getElem? (i := 12) rfl)
theorem wz_law_3 : Jvm.Cond.methodLink R_law 9 yX7_init ∈ fm_Ts := fm_t1 21 rfl rfl
theorem wz_law_4 : Jvm.Cond.methodLink R_law 13 yX7_yard ∈ fm_Ts := fm_t2 95 rfl rfl
theorem wz_law_5 : Jvm.Cond.methodLink R_law 18 yX7_rain ∈ fm_Ts := fm_t2 106 rfl rfl
theorem wz_law_6 : Jvm.Cond.methodLink R_law 23 yX7_porter ∈ fm_Ts := fm_t2 110 rfl rfl
theorem wz_law_7 : Jvm.Cond.methodLink R_law 28 yX7_licence ∈ fm_Ts := fm_t2 117 rfl rfl
set_option maxRecDepth 20000 in
theorem wz_law_8 : Jvm.Cond.methodLink R_law 32 yX7_skill ∈ fm_Ts := fm_t2 121 rfl rfl
set_option maxRecDepth 20000 in
theorem wz_law_9 : Jvm.Cond.methodLink R_law 36 yX7_feed ∈ fm_Ts := fm_t2 128 rfl rfl
set_option maxRecDepth 20000 in
theorem wz_law_10 : Jvm.Cond.methodLink R_law 41 yX7_law ∈ fm_Ts := fm_t2 140 rfl rfl
theorem wz_law_11 : Jvm.Cond.methodLink R_law 46 yX7_hours ∈ fm_Ts := fm_t3 71 rfl rfl
set_option maxRecDepth 20000 in
theorem wz_law_12 : Jvm.Cond.methodLink R_law 50 yX7_hour ∈ fm_Ts := fm_t3 156 rfl rfl
set_option maxRecDepth 20000 in
theorem wz_law_13 : Jvm.Cond.methodLink R_law 54 yX7_yardIs ∈ fm_Ts := fm_t3 161 rfl rfl
set_option maxRecDepth 20000 in
theorem wz_law_14 : Jvm.Cond.methodLink R_law 59 yX7_porterIs ∈ fm_Ts := fm_t3 165 rfl rfl
set_option maxRecDepth 20000 in
theorem wz_law_15 : Jvm.Cond.methodLink R_law 63 yX7_tried ∈ fm_Ts := fm_t3 174 rfl rfl
set_option maxRecDepth 20000 in
theorem wz_law_16 : Jvm.Cond.methodLink R_law 67 yX7_sieved ∈ fm_Ts := fm_t3 200 rfl rfl
theorem wz_law_17 : Jvm.Cond.methodLink R_law 71 yX7_bowls ∈ fm_Ts := fm_t4 3 rfl rfl
theorem wz_law_18 : Jvm.Cond.methodLink R_law 76 yX7_carpet ∈ fm_Ts := fm_t4 62 rfl rfl
theorem wz_law_19 : Jvm.Cond.methodLink R_law 80 yX7_gust ∈ fm_Ts := fm_t4 66 rfl rfl
theorem wz_law_20 : Jvm.Cond.methodLink R_law 85 yX7_worth ∈ fm_Ts := fm_t4 74 rfl rfl
theorem wz_law_21 : Jvm.Cond.methodLink R_law 89 yX7_sold ∈ fm_Ts := fm_t4 86 rfl rfl
theorem wz_law_22 : Jvm.Cond.methodLink R_law 93 yX7_shook ∈ fm_Ts := fm_t4 92 rfl rfl
theorem wz_law_23 : Jvm.Cond.methodLink R_law 97 yX7_led ∈ fm_Ts := fm_t4 109 rfl rfl
theorem wz_law_24 : Jvm.Cond.methodLink R_law 101 yX7_share ∈ fm_Ts := fm_t4 113 rfl rfl
theorem wz_law_25 : Jvm.Cond.methodLink R_law 105 yX7_odds ∈ fm_Ts := fm_t4 120 rfl rfl
set_option maxRecDepth 20000 in
theorem wz_law_26 : Jvm.Cond.methodLink R_law 109 yX7_seed ∈ fm_Ts := fm_t4 124 rfl rfl
set_option maxRecDepth 20000 in
theorem wz_law_27 : Jvm.Cond.methodLink R_law 114 yX7_keep ∈ fm_Ts := fm_t4 129 rfl rfl
set_option maxRecDepth 20000 in
theorem wz_law_28 : Jvm.Cond.methodLink R_law 119 yX7_undo ∈ fm_Ts := fm_t4 138 rfl rfl
set_option maxRecDepth 20000 in
theorem wz_law_29 : Jvm.Cond.methodLink R_law 124 yX7_check ∈ fm_Ts := fm_t4 142 rfl rfl
set_option maxRecDepth 20000 in
theorem wz_law_30 : Jvm.Cond.methodLink R_law 128 yX7_count ∈ fm_Ts := fm_t4 151 rfl rfl
set_option maxRecDepth 20000 in
theorem wz_law_31 : Jvm.Cond.methodLink R_law 12 yX8_init ∈ fm_Ts := fm_t4 161 rfl rfl
set_option maxRecDepth 20000 in
theorem wz_law_32 : Jvm.Cond.methodLink R_law 17 yX8_yard ∈ fm_Ts := fm_t5 149 rfl rfl
set_option maxRecDepth 20000 in
theorem wz_law_33 : Jvm.Cond.methodLink R_law 22 yX8_rain ∈ fm_Ts := fm_t5 163 rfl rfl
set_option maxRecDepth 20000 in
theorem wz_law_34 : Jvm.Cond.methodLink R_law 27 yX8_porter ∈ fm_Ts := fm_t5 172 rfl rfl
set_option maxRecDepth 20000 in
theorem wz_law_35 : Jvm.Cond.methodLink R_law 31 yX8_licence ∈ fm_Ts := fm_t5 178 rfl rfl
set_option maxRecDepth 20000 in
theorem wz_law_36 : Jvm.Cond.methodLink R_law 35 yX8_skill ∈ fm_Ts := fm_t5 186 rfl rfl
set_option maxRecDepth 20000 in
theorem wz_law_37 : Jvm.Cond.methodLink R_law 40 yX8_feed ∈ fm_Ts := fm_t5 190 rfl rfl
set_option maxRecDepth 20000 in
theorem wz_law_38 : Jvm.Cond.methodLink R_law 45 yX8_law ∈ fm_Ts := fm_t5 198 rfl rfl
theorem wz_law_39 : Jvm.Cond.methodLink R_law 49 yX8_hours ∈ fm_Ts := fm_t6 56 rfl rfl
set_option maxRecDepth 20000 in
theorem wz_law_40 : Jvm.Cond.methodLink R_law 53 yX8_hour ∈ fm_Ts := fm_t6 148 rfl rfl
set_option maxRecDepth 20000 in
theorem wz_law_41 : Jvm.Cond.methodLink R_law 58 yX8_yardIs ∈ fm_Ts := fm_t6 152 rfl rfl
set_option maxRecDepth 20000 in
theorem wz_law_42 : Jvm.Cond.methodLink R_law 62 yX8_porterIs ∈ fm_Ts := fm_t6 156 rfl rfl
set_option maxRecDepth 20000 in
theorem wz_law_43 : Jvm.Cond.methodLink R_law 66 yX8_tried ∈ fm_Ts := fm_t6 164 rfl rfl
set_option maxRecDepth 20000 in
theorem wz_law_44 : Jvm.Cond.methodLink R_law 70 yX8_sieved ∈ fm_Ts := fm_t6 191 rfl rfl
set_option maxRecDepth 20000 in
theorem wz_law_45 : Jvm.Cond.methodLink R_law 75 yX8_bowls ∈ fm_Ts := fm_t6 214 rfl rfl
set_option maxRecDepth 20000 in
theorem wz_law_46 : Jvm.Cond.methodLink R_law 79 yX8_carpet ∈ fm_Ts := fm_t6 226 rfl rfl
set_option maxRecDepth 20000 in
theorem wz_law_47 : Jvm.Cond.methodLink R_law 84 yX8_gust ∈ fm_Ts := fm_t6 230 rfl rfl
set_option maxRecDepth 20000 in
theorem wz_law_48 : Jvm.Cond.methodLink R_law 88 yX8_worth ∈ fm_Ts := fm_t6 234 rfl rfl
theorem wz_law_49 : Jvm.Cond.methodLink R_law 92 yX8_sold ∈ fm_Ts := fm_t7 6 rfl rfl
theorem wz_law_50 : Jvm.Cond.methodLink R_law 96 yX8_shook ∈ fm_Ts := fm_t7 10 rfl rfl
theorem wz_law_51 : Jvm.Cond.methodLink R_law 100 yX8_led ∈ fm_Ts := fm_t7 22 rfl rfl
theorem wz_law_52 : Jvm.Cond.methodLink R_law 104 yX8_share ∈ fm_Ts := fm_t7 30 rfl rfl
theorem wz_law_53 : Jvm.Cond.methodLink R_law 108 yX8_odds ∈ fm_Ts := fm_t7 37 rfl rfl
theorem wz_law_54 : Jvm.Cond.methodLink R_law 113 yX8_seed ∈ fm_Ts := fm_t7 41 rfl rfl
theorem wz_law_55 : Jvm.Cond.methodLink R_law 118 yX8_keep ∈ fm_Ts := fm_t7 46 rfl rfl
theorem wz_law_56 : Jvm.Cond.methodLink R_law 123 yX8_undo ∈ fm_Ts := fm_t7 50 rfl rfl
theorem wz_law_57 : Jvm.Cond.methodLink R_law 127 yX8_check ∈ fm_Ts := fm_t7 54 rfl rfl
theorem wz_law_58 : Jvm.Cond.methodLink R_law 131 yX8_count ∈ fm_Ts := fm_t7 62 rfl rfl
theorem wl_L_9 : Jvm.Cond.methodLink R_law 9 yX7_init ∈ fm_Ts := wz_law_3
theorem wl_L_13 : Jvm.Cond.methodLink R_law 13 yX7_yard ∈ fm_Ts := wz_law_4
theorem wl_L_18 : Jvm.Cond.methodLink R_law 18 yX7_rain ∈ fm_Ts := wz_law_5
theorem wl_L_23 : Jvm.Cond.methodLink R_law 23 yX7_porter ∈ fm_Ts := wz_law_6
theorem wl_L_28 : Jvm.Cond.methodLink R_law 28 yX7_licence ∈ fm_Ts := wz_law_7
theorem wl_L_32 : Jvm.Cond.methodLink R_law 32 yX7_skill ∈ fm_Ts := wz_law_8
theorem wl_L_36 : Jvm.Cond.methodLink R_law 36 yX7_feed ∈ fm_Ts := wz_law_9
theorem wl_L_41 : Jvm.Cond.methodLink R_law 41 yX7_law ∈ fm_Ts := wz_law_10
theorem wl_L_46 : Jvm.Cond.methodLink R_law 46 yX7_hours ∈ fm_Ts := wz_law_11
theorem wl_L_50 : Jvm.Cond.methodLink R_law 50 yX7_hour ∈ fm_Ts := wz_law_12
theorem wl_L_54 : Jvm.Cond.methodLink R_law 54 yX7_yardIs ∈ fm_Ts := wz_law_13
theorem wl_L_59 : Jvm.Cond.methodLink R_law 59 yX7_porterIs ∈ fm_Ts := wz_law_14
theorem wl_L_63 : Jvm.Cond.methodLink R_law 63 yX7_tried ∈ fm_Ts := wz_law_15
theorem wl_L_67 : Jvm.Cond.methodLink R_law 67 yX7_sieved ∈ fm_Ts := wz_law_16
theorem wl_L_71 : Jvm.Cond.methodLink R_law 71 yX7_bowls ∈ fm_Ts := wz_law_17
theorem wl_L_76 : Jvm.Cond.methodLink R_law 76 yX7_carpet ∈ fm_Ts := wz_law_18
theorem wl_L_80 : Jvm.Cond.methodLink R_law 80 yX7_gust ∈ fm_Ts := wz_law_19
theorem wl_L_85 : Jvm.Cond.methodLink R_law 85 yX7_worth ∈ fm_Ts := wz_law_20
theorem wl_L_89 : Jvm.Cond.methodLink R_law 89 yX7_sold ∈ fm_Ts := wz_law_21
theorem wl_L_93 : Jvm.Cond.methodLink R_law 93 yX7_shook ∈ fm_Ts := wz_law_22
theorem wl_L_97 : Jvm.Cond.methodLink R_law 97 yX7_led ∈ fm_Ts := wz_law_23
theorem wl_L_101 : Jvm.Cond.methodLink R_law 101 yX7_share ∈ fm_Ts := wz_law_24
theorem wl_L_105 : Jvm.Cond.methodLink R_law 105 yX7_odds ∈ fm_Ts := wz_law_25
theorem wl_L_109 : Jvm.Cond.methodLink R_law 109 yX7_seed ∈ fm_Ts := wz_law_26
theorem wl_L_114 : Jvm.Cond.methodLink R_law 114 yX7_keep ∈ fm_Ts := wz_law_27
theorem wl_L_119 : Jvm.Cond.methodLink R_law 119 yX7_undo ∈ fm_Ts := wz_law_28
theorem wl_L_124 : Jvm.Cond.methodLink R_law 124 yX7_check ∈ fm_Ts := wz_law_29
theorem wl_L_128 : Jvm.Cond.methodLink R_law 128 yX7_count ∈ fm_Ts := wz_law_30
theorem wl_L_12 : Jvm.Cond.methodLink R_law 12 yX8_init ∈ fm_Ts := wz_law_31
theorem wl_L_17 : Jvm.Cond.methodLink R_law 17 yX8_yard ∈ fm_Ts := wz_law_32
theorem wl_L_22 : Jvm.Cond.methodLink R_law 22 yX8_rain ∈ fm_Ts := wz_law_33
theorem wl_L_27 : Jvm.Cond.methodLink R_law 27 yX8_porter ∈ fm_Ts := wz_law_34
theorem wl_L_31 : Jvm.Cond.methodLink R_law 31 yX8_licence ∈ fm_Ts := wz_law_35
theorem wl_L_35 : Jvm.Cond.methodLink R_law 35 yX8_skill ∈ fm_Ts := wz_law_36
theorem wl_L_40 : Jvm.Cond.methodLink R_law 40 yX8_feed ∈ fm_Ts := wz_law_37
theorem wl_L_45 : Jvm.Cond.methodLink R_law 45 yX8_law ∈ fm_Ts := wz_law_38
theorem wl_L_49 : Jvm.Cond.methodLink R_law 49 yX8_hours ∈ fm_Ts := wz_law_39
theorem wl_L_53 : Jvm.Cond.methodLink R_law 53 yX8_hour ∈ fm_Ts := wz_law_40
theorem wl_L_58 : Jvm.Cond.methodLink R_law 58 yX8_yardIs ∈ fm_Ts := wz_law_41
theorem wl_L_62 : Jvm.Cond.methodLink R_law 62 yX8_porterIs ∈ fm_Ts := wz_law_42
theorem wl_L_66 : Jvm.Cond.methodLink R_law 66 yX8_tried ∈ fm_Ts := wz_law_43
theorem wl_L_70 : Jvm.Cond.methodLink R_law 70 yX8_sieved ∈ fm_Ts := wz_law_44
theorem wl_L_75 : Jvm.Cond.methodLink R_law 75 yX8_bowls ∈ fm_Ts := wz_law_45
theorem wl_L_79 : Jvm.Cond.methodLink R_law 79 yX8_carpet ∈ fm_Ts := wz_law_46
theorem wl_L_84 : Jvm.Cond.methodLink R_law 84 yX8_gust ∈ fm_Ts := wz_law_47
theorem wl_L_88 : Jvm.Cond.methodLink R_law 88 yX8_worth ∈ fm_Ts := wz_law_48
theorem wl_L_92 : Jvm.Cond.methodLink R_law 92 yX8_sold ∈ fm_Ts := wz_law_49
theorem wl_L_96 : Jvm.Cond.methodLink R_law 96 yX8_shook ∈ fm_Ts := wz_law_50
theorem wl_L_100 : Jvm.Cond.methodLink R_law 100 yX8_led ∈ fm_Ts := wz_law_51
theorem wl_L_104 : Jvm.Cond.methodLink R_law 104 yX8_share ∈ fm_Ts := wz_law_52
theorem wl_L_108 : Jvm.Cond.methodLink R_law 108 yX8_odds ∈ fm_Ts := wz_law_53
theorem wl_L_113 : Jvm.Cond.methodLink R_law 113 yX8_seed ∈ fm_Ts := wz_law_54
theorem wl_L_118 : Jvm.Cond.methodLink R_law 118 yX8_keep ∈ fm_Ts := wz_law_55
theorem wl_L_123 : Jvm.Cond.methodLink R_law 123 yX8_undo ∈ fm_Ts := wz_law_56
theorem wl_L_127 : Jvm.Cond.methodLink R_law 127 yX8_check ∈ fm_Ts := wz_law_57
theorem wl_L_131 : Jvm.Cond.methodLink R_law 131 yX8_count ∈ fm_Ts := wz_law_58
theorem wn_L_X7 : Jvm.Cond.classLink R_law 7 RX7 ∈ fm_Ts ∧ Jvm.Cond.instantiable RX7 12 ∈ fm_Ts ∧ Jvm.Cond.initialized RX7 ∈ fm_Ts := ⟨fm_t1 19 rfl rfl, fm_t1 20 rfl rfl, fm_t1 1 rfl rfl⟩
theorem wn_L_X8 : Jvm.Cond.classLink R_law 10 RX8 ∈ fm_Ts ∧ Jvm.Cond.instantiable RX8 74 ∈ fm_Ts ∧ Jvm.Cond.initialized RX8 ∈ fm_Ts := ⟨fm_t4 159 rfl rfl, fm_t4 160 rfl rfl, fm_t1 10 rfl rfl⟩
