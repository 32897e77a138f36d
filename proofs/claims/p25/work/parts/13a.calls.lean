/-! CALLS OF A BODY, by its listing -/
theorem fm_ws_row {tm : List fm_C} {ad : Nat → Nat} {cy : Nat → ClassId} {V : fm_V} {i : Nat} {g : Nat → Int32} {t : fm_C} {e : va_E} (h : tm[i]? = some t) (he : e = fm_cell ad cy g t) : (fm_ws tm ad cy V).set i (ad i, e) = fm_ws tm ad cy (fun a b => if a = i then g b else V a b) := by
  have hi : i < tm.length := (List.getElem?_eq_some_iff.mp h).1
  apply List.ext_getElem?
  intro j
  rw [List.getElem?_set]
  by_cases hj : i = j
  · subst hj
    rw [if_pos rfl, if_pos (by rw [fm_ws_len]; exact hi), fm_ws_get h, he]
    simp
  · rw [if_neg hj]
    by_cases hl : j < tm.length
    · have h2 : tm[j]? = some tm[j] := List.getElem?_eq_getElem hl
      rw [fm_ws_get h2, fm_ws_get h2]
      simp [Ne.symm hj]
    · rw [List.getElem?_eq_none (by rw [fm_ws_len]; omega), List.getElem?_eq_none (by rw [fm_ws_len]; omega)]
section CT
variable {p : Program} {l : Launch} {e : Env} {R : Room} {s : State} {m : MethodId} {args : Array Value} {below : List Frame} {meth : Method} {c : Code} {Q : State → Prop} {cc : ByteArray} {own : String} {D : va_G} {cl : List vw_C} {tm : List fm_C} {ad : Nat → Nat} {cy : Nat → ClassId} {A : Nat → Prop} {Ts : List Jvm.Cond} {nL : Nat} {nt : fm_Nt} {Z : State → Heap → Prop}
variable {pc i : Nat} {Gp : fm_V → Prop} {K : rv_K} {cd : List (Nat × Instr × Nat)}
theorem rv_ctV (X : fm_X p s m args c cc own D cl tm ad cy A Ts nL) (Y : fm_Y s nt Z tm ad A) (hg : fm_Good Ts) (hdec : ∀ q ∈ cd, decode cc q.1 = .ok (q.2.1, q.2.2)) {y : MethodName} {C : String} {idx maxL n : Nat} {bytes : ByteArray} {ret : Option FieldType} {rm : Room} (hcd : cd[i]? = some (pc, .invokevirtual idx, 3)) (hM : rv_Met l D cl tm ad cy nt Z Gp y (.code y bytes maxL ret :: Ts) rm K)
    (hl : Jvm.Cond.methodLink own idx y ∈ Ts) (hw : Jvm.Cond.instanceMethod y ∈ Ts ∧ Jvm.Cond.selects C y y ∈ Ts ∧ Jvm.Cond.initialized C ∈ Ts ∧ Jvm.Cond.code y bytes maxL ret ∈ Ts) (hy : y.cls = C ∧ y.cls ≠ "java/lang/invoke/MethodHandle" ∧ y.cls ≠ "java/lang/invoke/VarHandle" ∧ (parseMethodDescriptor y.desc).map (fun d => d.parameters.length) = some n)
    (hrm : (rm.cells = 0 ∧ rm.slots = 0) ∧ rm.frames + 1 ≤ R.frames ∧ 8 + (maxL + 11) + rm.locals ≤ R.locals) {a0 : rv_A} {as : List rv_A} (hK1 : K.1 = a0 :: as ∧ a0.1 = 2 ∧ as.length = n) {ci N : Nat} {T : u_T} {ts : List fm_F} (hci : tm[a0.2.1]? = some (.inr (ci, ts)) ∧ cl[ci]? = some (C, T, N)) :
    ∀ q, cd[i]? = some q → rv_Call p l e R s m args below meth c Q D cl tm ad cy A Gp nL q.1 K := by
  intro q hq
  have hd := hdec _ (List.mem_of_getElem? hcd)
  rw [hcd] at hq
  cases hq
  exact rv_callV X Y hg hM ⟨hl, hw⟩ hy hrm hK1 hci hd
theorem rv_ctS (X : fm_X p s m args c cc own D cl tm ad cy A Ts nL) (Y : fm_Y s nt Z tm ad A) (hg : fm_Good Ts) (hdec : ∀ q ∈ cd, decode cc q.1 = .ok (q.2.1, q.2.2)) {y : MethodName} {idx maxL n : Nat} {bytes : ByteArray} {ret : Option FieldType} {rm : Room} (hcd : cd[i]? = some (pc, .invokestatic idx, 3)) (hM : rv_Met l D cl tm ad cy nt Z Gp y (.code y bytes maxL ret :: Ts) rm K)
    (hl : Jvm.Cond.methodLink own idx y ∈ Ts) (hw : Jvm.Cond.static y ∈ Ts ∧ Jvm.Cond.initialized y.cls ∈ Ts ∧ Jvm.Cond.code y bytes maxL ret ∈ Ts) (hy : y.cls ≠ "java/lang/invoke/MethodHandle" ∧ y.cls ≠ "java/lang/invoke/VarHandle" ∧ (parseMethodDescriptor y.desc).map (fun d => d.parameters.length) = some n)
    (hrm : (rm.cells = 0 ∧ rm.slots = 0) ∧ rm.frames + 1 ≤ R.frames ∧ 8 + (maxL + 11) + rm.locals ≤ R.locals) (hK1 : K.1.length = n) :
    ∀ q, cd[i]? = some q → rv_Call p l e R s m args below meth c Q D cl tm ad cy A Gp nL q.1 K := by
  intro q hq
  have hd := hdec _ (List.mem_of_getElem? hcd)
  rw [hcd] at hq
  cases hq
  exact rv_callS X Y hg hM ⟨hl, hw⟩ hy hrm hK1 hd
theorem rv_ctN (X : fm_X p s m args c cc own D cl tm ad cy A Ts nL) (Y : fm_Y s nt Z tm ad A) (hg : fm_Good Ts) (hdec : ∀ q ∈ cd, decode cc q.1 = .ok (q.2.1, q.2.2)) {y : MethodName} {host : String} {idx maxL n : Nat} {bytes : ByteArray} {ret : Option FieldType} {rm : Room} (hcd : cd[i]? = some (pc, .invokestatic idx, 3)) (hM : rv_Met l D cl tm ad cy nt Z Gp y (.code y bytes maxL ret :: Ts) rm K)
    (hq : (own, idx, y, host) ∈ nt) (hw : Jvm.Cond.static y ∈ Ts ∧ Jvm.Cond.initialized y.cls ∈ Ts ∧ Jvm.Cond.code y bytes maxL ret ∈ Ts) (hy : y.cls ≠ "java/lang/invoke/MethodHandle" ∧ y.cls ≠ "java/lang/invoke/VarHandle" ∧ (parseMethodDescriptor y.desc).map (fun d => d.parameters.length) = some n)
    (hrm : (rm.cells = 0 ∧ rm.slots = 0) ∧ rm.frames + 1 ≤ R.frames ∧ 8 + (maxL + 11) + rm.locals ≤ R.locals) (hK1 : K.1.length = n) :
    ∀ q, cd[i]? = some q → rv_Call p l e R s m args below meth c Q D cl tm ad cy A Gp nL q.1 K := by
  intro q hq'
  have hd := hdec _ (List.mem_of_getElem? hcd)
  rw [hcd] at hq'
  cases hq'
  exact rv_callSN X Y hg hM hq hw hy hrm hK1 hd
/-- System.arraycopy(a, 0, b, 0, n) of ints -/
theorem rv_ctC (X : fm_X p s m args c cc own D cl tm ad cy A Ts nL) (hdec : ∀ q ∈ cd, decode cc q.1 = .ok (q.2.1, q.2.2)) {idx : Nat} (hcd : cd[i]? = some (pc, .invokestatic idx, 3)) (hl : Jvm.Cond.methodLink own idx arraycopyName ∈ Ts) (hw : Jvm.Cond.native arraycopyName ∈ Ts ∧ Jvm.Cond.static arraycopyName ∈ Ts ∧ Jvm.Cond.initialized "java/lang/System" ∈ Ts)
    (hR : 1 ≤ R.frames ∧ 8 + (nativeFrameWords "java/lang/System" "arraycopy" 5 + 11) ≤ R.locals) {a b n na nb : Nat} {la ha lb hb : Int} (hab : tm[a]? = some (.inl (0, na, la, ha)) ∧ tm[b]? = some (.inl (0, nb, lb, hb))) (hn : n ≤ na ∧ n ≤ nb ∧ n < 2147483648 ∧ lb ≤ la ∧ ha ≤ hb)
    (hK : K = ([(2, a, 0, 0, [], []), (1, 0, 0, 0, [], []), (2, b, 0, 0, [], []), (1, 0, 0, 0, [], []), (1, 0, (n : Int), (n : Int), [], [])], [], [(b, 9999)], [], [], [])) :
    ∀ q, cd[i]? = some q → rv_Call p l e R s m args below meth c Q D cl tm ad cy A Gp nL q.1 K := by
  intro q hq
  have hd := hdec _ (List.mem_of_getElem? hcd)
  rw [hcd] at hq
  cases hq
  subst hK
  obtain ⟨hx, hbb, hown, hts, hKk, hD, hml⟩ := id X
  intro V ls avs rest hpre hls hcat kk H locs hP hS
  obtain ⟨p1, p2, p3, p4⟩ := id hpre
  obtain ⟨v0, r0, rfl, q0, p3⟩ := rv_sk_cons p3
  obtain ⟨v1, r1, rfl, q1, p3⟩ := rv_sk_cons p3
  obtain ⟨v2, r2, rfl, q2, p3⟩ := rv_sk_cons p3
  obtain ⟨v3, r3, rfl, q3, p3⟩ := rv_sk_cons p3
  obtain ⟨v4, r4, rfl, q4, p3⟩ := rv_sk_cons p3
  rw [rv_sk_nil p3] at *
  have e0 := rv_okR rfl q0
  have e2 := rv_okR rfl q2
  obtain ⟨x1, rfl, a1, b1, -⟩ := rv_okI rfl q1
  obtain ⟨x3, rfl, a3, b3, -⟩ := rv_okI rfl q3
  obtain ⟨x4, rfl, a4, b4, -⟩ := rv_okI rfl q4
  have z1 : x1.toInt = 0 := by have h1 : (0 : Int) ≤ x1.toInt := a1; have h2 : x1.toInt ≤ (0 : Int) := b1; omega
  have z3 : x3.toInt = 0 := by have h1 : (0 : Int) ≤ x3.toInt := a3; have h2 : x3.toInt ≤ (0 : Int) := b3; omega
  have z4 : x4.toInt = (n : Int) := by have h1 : (n : Int) ≤ x4.toInt := a4; have h2 : x4.toInt ≤ (n : Int) := b4; omega
  have c1 : x1.toNatClampNeg = 0 := by rw [zi_clamp, z1]; rfl
  have c3 : x3.toNatClampNeg = 0 := by rw [zi_clamp, z3]; rfl
  have c4 : x4.toNatClampNeg = n := by rw [zi_clamp, z4]; rfl
  have e0' : v0 = .ref (ad a) := e0
  have e2' : v2 = .ref (ad b) := e2
  subst e0'
  subst e2'
  show W p l e R s m args below meth c H locs 0 0 Q (F0 m pc ls (.int x4 :: .int x3 :: .ref (ad b) :: .int x1 :: .ref (ad a) :: rest))
  refine va_copyi hx hbb (by rw [hml, hls]) hown (hts _ hl) (hts _ hw.1) (hts _ hw.2.1) (hts _ hw.2.2) hKk hP (hD V) hS a b 0 0 (fm_ws_get (ad := ad) (cy := cy) (V := V) hab.1) (fm_ws_get (ad := ad) (cy := cy) (V := V) hab.2) (ty := .int) rfl rfl rfl (fun z => by have := zi_lt.mp z; rw [z1, zi_0] at this; omega) (fun z => by have := zi_lt.mp z; rw [z3, zi_0] at this; omega) (fun z => by have := zi_lt.mp z; rw [z4, zi_0] at this; omega) (by rw [c1, c4]; show 0 + n ≤ na; omega) (by rw [c3, c4]; show 0 + n ≤ nb; omega) (fun i _ => rfl) hR.1 (by omega) hd (fun H1 locs1 hP1 _ hS1 => ?_)
  rw [c1, c3, c4] at hP1
  have hrow := fm_ws_row (ad := ad) (cy := cy) (V := V) (g := va_cpy (V a) (V b) 0 0 n) (e := .inl (cy 0, nb, .inl (va_cpy (V a) (V b) 0 0 n))) hab.2 rfl
  have hP1 : va_P D cl (fm_ws tm ad cy (fun x y => if x = b then va_cpy (V a) (V b) 0 0 n y else V x y)) H1 := by rw [← hrow]; exact hP1
  refine kk none _ ⟨?_, fun i f hif => ?_, rfl, fun f hf => absurd hf List.not_mem_nil⟩ H1 locs1 hP1 hS1
  · refine ⟨fun i t n' lo hi j ht hj => ?_, fun i ci ts k lo hi ht hk => ?_⟩
    · by_cases hib : i = b
      · subst hib
        rw [hab.2] at ht
        cases ht
        simp only [if_true]
        by_cases hjn : j < n
        · rw [pk_cpy_in (by omega) (by omega)]
          have := p1.1 a 0 na la ha (0 + (j - 0)) hab.1 (by omega)
          omega
        · rw [pk_cpy_out (by omega)]
          exact p1.1 i 0 nb lb hb j hab.2 hj
      · simp only [if_neg hib]
        exact p1.1 i t n' lo hi j ht hj
    · by_cases hib : i = b
      · subst hib
        rw [hab.2] at ht
        cases ht
      · simp only [if_neg hib]
        exact p1.2 i ci ts k lo hi ht hk
  · by_cases hib : i = b
    · subst hib
      simp [rv_in] at hif
    · simp only [if_neg hib]
end CT
