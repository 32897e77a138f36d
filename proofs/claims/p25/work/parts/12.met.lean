/-! FROM THE CHECK TO A CONTRACT -/
def fm_A (tm : List fm_C) (ad : Nat → Nat) : Nat → Prop := fun q => ∃ i, i < tm.length ∧ q = ad i
def fm_Ad (tm : List fm_C) (ad : Nat → Nat) : Prop := ∀ i j, i < tm.length → j < tm.length → ad i = ad j → i = j
theorem fm_D {tm : List fm_C} {ad : Nat → Nat} (h : fm_Ad tm ad) (cy : Nat → ClassId) (V : fm_V) : va_D (fm_A tm ad) (fm_ws tm ad cy V) := by
  have key : ∀ (k : Nat) (q : Nat × va_E), (fm_ws tm ad cy V)[k]? = some q → k < tm.length ∧ q.1 = ad k := by
    intro k q hq
    have hk : k < tm.length := by
      have := (List.getElem?_eq_some_iff.mp hq).1
      rw [fm_ws_len] at this
      exact this
    rw [fm_ws_get (List.getElem?_eq_getElem hk)] at hq
    cases hq
    exact ⟨hk, rfl⟩
  refine ⟨fun i j p q hp hq e => ?_, fun k q hq => ?_⟩
  · obtain ⟨a1, a2⟩ := key i p hp
    obtain ⟨b1, b2⟩ := key j q hq
    exact h i j a1 b1 (by rw [← a2, ← b2]; exact e)
  · obtain ⟨a1, a2⟩ := key k q hq
    exact ⟨k, a1, a2⟩
/-- words of a nest: who names, by which row, which method, whose nest -/
abbrev fm_Nt : Type := List (String × Nat × MethodName × String)
def fm_Nw (nt : fm_Nt) (U : State) : Prop := ∀ q ∈ nt, va_Nw (.methodLinkNest q.1 q.2.1 q.2.2.1 q.2.2.2) U
/-- what else must be known of the state, outside the world -/
def sk_len : List Nat := [4, 13]
def sk_byt : List (List Int32) := [[108, 109, 107, 115], [121, 100, 119, 99, 114, 116, 112, 103, 105, 122, 110, 98, 113]]
/-- the constant texts, and the static flag that String's methods look at -/
def sk_Z (A : Nat → Prop) (adK adV : Nat → Nat) (U : State) (H : Heap) : Prop := va_Z "java/lang/String" "COMPACT_STRINGS" "Z" (.int 1) A U H ∧ vk_S 2 sk_len sk_byt adK adV A U H ∧ vk_R "DustMint$Reader" 56 "lmks" (adK 0) U ∧ vk_R "DustMint$Reader" 131 "ydwcrtpgiznbq" (adK 1) U
def fm_Zk (A : Nat → Prop) (Z : State → Heap → Prop) : Prop := (∀ (u U : State) (H : Heap), U.vm = u.vm → Z u H → Z U H) ∧ (∀ (u U : State) (H : Heap), u.WarmedH U.vm → Z u H → Z U H) ∧ (∀ (U : State) (H H' : Heap), H.size ≤ H'.size → (∀ q, q < H.size → ¬ A q → H'[q]? = H[q]?) → Z U H → Z U H') ∧ ∀ (U : State) (H : Heap), Z U H → ∃ adK adV, sk_Z A adK adV U H
theorem sk_Zk {A : Nat → Prop} {adK adV : Nat → Nat} : fm_Zk A (sk_Z A adK adV) := by
  refine ⟨fun u U H hv h => ?_, fun u U H hW h => ?_, fun U H H' hz hq h => ?_, fun U H h => ⟨adK, adV, h⟩⟩
  · have ha : u.vm.Alike U.vm := by rw [hv]; exact Vm.Alike.refl _
    exact ⟨va_Z.moved ha h.1, vk_S.moved ha h.2.1, vk_R.same hv h.2.2.1, vk_R.same hv h.2.2.2⟩
  · exact ⟨va_Z.moved hW.alike h.1, vk_S.moved hW.alike h.2.1, vk_R.warm hW h.2.2.1, vk_R.warm hW h.2.2.2⟩
  · exact ⟨h.1.kept hq, h.2.1.kept hq, h.2.2⟩
def fm_Wd (D : va_G) (cl : List vw_C) (tm : List fm_C) (ad : Nat → Nat) (cy : Nat → ClassId) (nt : fm_Nt) (Z : State → Heap → Prop) (V : fm_V) (U : State) : Prop := va_P D cl (fm_ws tm ad cy V) U.heap ∧ va_K D cl (fm_tys cy) U ∧ fm_Nw nt U ∧ Z U U.heap
def rv_Pc (D : va_G) (cl : List vw_C) (tm : List fm_C) (ad : Nat → Nat) (cy : Nat → ClassId) (nt : fm_Nt) (Z : State → Heap → Prop) (V : fm_V) (avs : List Value) : Array Value → State → Prop := fun v U => v = avs.toArray ∧ fm_Wd D cl tm ad cy nt Z V U
def rv_Qc (D : va_G) (cl : List vw_C) (tm : List fm_C) (ad : Nat → Nat) (cy : Nat → ClassId) (nt : fm_Nt) (Z : State → Heap → Prop) (po : Option Value → fm_V → Prop) : Array Value → State → Outcome → State → Prop := fun _ st oc t => (∃ (r : Option Value) (V' : fm_V), oc = .returned r ∧ po r V' ∧ fm_Wd D cl tm ad cy nt Z V' t) ∧ va_F (fm_A tm ad) st t
/-- a method keeps to a contract, from every world -/
def rv_Met (l : Launch) (D : va_G) (cl : List vw_C) (tm : List fm_C) (ad : Nat → Nat) (cy : Nat → ClassId) (nt : fm_Nt) (Z : State → Heap → Prop) (Gp : fm_V → Prop) (y : MethodName) (ws : List Jvm.Cond) (rm : Room) (K : rv_K) : Prop :=
  ∀ (V : fm_V) (avs : List Value), rv_Pre tm Gp ad K V avs → Met l y ws rm (rv_Pc D cl tm ad cy nt Z V avs) (rv_Qc D cl tm ad cy nt Z (rv_Post tm K V avs)) 0 0 (fm_A tm ad)
theorem rv_Pc_blind {D : va_G} {cl : List vw_C} {tm : List fm_C} {ad : Nat → Nat} {cy : Nat → ClassId} {nt : fm_Nt} {Z : State → Heap → Prop} {V : fm_V} {avs : List Value} (hZ : fm_Zk (fm_A tm ad) Z) : FrameBlind (rv_Pc D cl tm ad cy nt Z V avs) := by
  intro a U g mk h
  obtain ⟨h1, h2, h3, h4, h5⟩ := h
  exact ⟨h1, h2, va_K.moved (u := U) (U := U.calling g mk a) (Vm.Alike.refl U.vm) h3, fun q hq => va_Nw.same rfl rfl (h4 q hq), hZ.1 U (U.calling g mk a) _ rfl h5⟩
section MET
variable {p : Program} {l : Launch} {e : Env} {R : Room} {s : State} {m : MethodId} {args : Array Value} {below : List Frame} {meth : Method} {c : Code} {Q : State → Prop} {cc : ByteArray} {own : String} {D : va_G} {cl : List vw_C} {tm : List fm_C} {ad : Nat → Nat} {cy : Nat → ClassId} {A : Nat → Prop} {Ts : List Jvm.Cond} {nL : Nat} {nt : fm_Nt} {Z : State → Heap → Prop}
variable {pc : Nat} {ls : Array Slot} {st : List Value} {V0 V : fm_V} {fl wr : List (Nat × Nat × Nat)} {kc kl : List (Nat × Int)} {M : List (Nat × Nat)} {P : List Nat} {avs : List Value} {Gp : fm_V → Prop} {K : rv_K} {po : Option Value → fm_V → Prop}
/-- the world of the start, with other numbers, at a state that came from it -/
theorem fm_Wd_of (hZ : fm_Zk (fm_A tm ad) Z) (hAA : ∀ q, q < s.heap.size → A q → fm_A tm ad q) (hK : va_K D cl (fm_tys cy) s) (hN : fm_Nw nt s) (hZ0 : Z s s.heap) {H : Heap} {locs : List Loc} (hP : va_P D cl (fm_ws tm ad cy V) H) (hS : va_S A s.heap H locs) {U : State} (hU : U.heap = H) (hW : s.WarmedH U.vm) : fm_Wd D cl tm ad cy nt Z V U := by
  refine ⟨by rw [hU]; exact hP, va_K.moved hW.alike hK, fun q hq => va_Nw.warmM hW (hN q hq), ?_⟩
  rw [hU]
  exact hZ.2.1 s U _ hW (hZ.2.2.1 s s.heap H hS.1 (fun q h1 h2 => hS.2.1 q h1 (fun z => h2 (hAA q h1 z))) hZ0)
theorem fm_callW {rest st0 : List Value} {a : Array Value} {H : Heap} {locs : List Loc} (hr : va_Run p l e R s m args below meth c H locs 0 0 0 0 (F0 m pc ls st0) rest (rv_Qc D cl tm ad cy nt Z po a) (fm_A tm ad)) (hS : va_S A s.heap H locs) (hA : ∀ q, fm_A tm ad q → A q)
    (kk : ∀ (r : Option Value) (V' : fm_V), po r V' → fm_W p l e R s m args below meth c Q D cl tm ad cy A V' (pc + 3) ls (r.toList ++ rest)) : W p l e R s m args below meth c H locs 0 0 Q (F0 m pc ls st0) := by
  intro T hT X
  obtain ⟨v, st₀, t, T', L, h0, X', hL, e1, e2, ⟨⟨r, V', hv, hp, hw⟩, hz, hk⟩, st⟩ := hr T hT X
  cases hv
  rw [h0] at hz hk
  obtain ⟨t2, a1, b1⟩ := kk v V' hp T'.heap (locs ++ L) (by rw [e1]; exact hw.1)
    ⟨Nat.le_trans hS.1 (by rw [e1]; exact hz), fun q h1 h2 => by rw [e1, hk q (Nat.lt_of_lt_of_le h1 hS.1) (fun z => h2 (hA q z))]; exact hS.2.1 q h1 h2, fun q hq => by
      rcases List.mem_append.mp hq with h | h
      · exact hS.2.2 q h
      · exact hA _ (hL q h)⟩ T' rfl X'
  exact ⟨t2, st t2 a1, b1⟩
/-- what holds in a body: fm_X, and what a callee wants -/
def fm_Y (s : State) (nt : fm_Nt) (Z : State → Heap → Prop) (tm : List fm_C) (ad : Nat → Nat) (A : Nat → Prop) : Prop := fm_Zk (fm_A tm ad) Z ∧ (∀ q, q < s.heap.size → A q → fm_A tm ad q) ∧ (∀ q, fm_A tm ad q → A q) ∧ fm_Nw nt s ∧ Z s s.heap
/-- the words of a callee, among those that all have -/
def fm_Good (Ts : List Jvm.Cond) : Prop := Ts.all goodWord = true
theorem fm_Good.of (h : fm_Good Ts) {ws : List Jvm.Cond} (hw : ∀ w ∈ ws, w ∈ Ts) : GoodIn Ts ws := fun w hw' => ⟨hw w hw', good_of_word (List.all_eq_true.mp h w (hw w hw'))⟩
theorem rv_sk_hd {as : List rv_A} {vs : List Value} {a : rv_A} (h : rv_sk (rv_ok ad V ls) (a :: as) vs) (ha : a.1 = 2) : ∃ vs', vs = .ref (ad a.2.1) :: vs' ∧ rv_sk (rv_ok ad V ls) as vs' := by
  obtain ⟨v, vs', rfl, h1, h2⟩ := rv_sk_cons h
  exact ⟨vs', by rw [rv_okR ha h1], h2⟩
/-- a call of a method of an object: its class's own -/
theorem rv_callV (X : fm_X p s m args c cc own D cl tm ad cy A Ts nL) (Y : fm_Y s nt Z tm ad A) (hg : fm_Good Ts) {y : MethodName} {C : String} {idx maxL n : Nat} {bytes : ByteArray} {ret : Option FieldType} {rm : Room} (hM : rv_Met l D cl tm ad cy nt Z Gp y (.code y bytes maxL ret :: Ts) rm K)
    (hw : Jvm.Cond.methodLink own idx y ∈ Ts ∧ Jvm.Cond.instanceMethod y ∈ Ts ∧ Jvm.Cond.selects C y y ∈ Ts ∧ Jvm.Cond.initialized C ∈ Ts ∧ Jvm.Cond.code y bytes maxL ret ∈ Ts) (hy : y.cls = C ∧ y.cls ≠ "java/lang/invoke/MethodHandle" ∧ y.cls ≠ "java/lang/invoke/VarHandle" ∧ (parseMethodDescriptor y.desc).map (fun d => d.parameters.length) = some n)
    (hrm : (rm.cells = 0 ∧ rm.slots = 0) ∧ rm.frames + 1 ≤ R.frames ∧ 8 + (maxL + 11) + rm.locals ≤ R.locals) {a0 : rv_A} {as : List rv_A} (hK1 : K.1 = a0 :: as ∧ a0.1 = 2 ∧ as.length = n) {ci N : Nat} {T : u_T} {ts : List fm_F} (hci : tm[a0.2.1]? = some (.inr (ci, ts)) ∧ cl[ci]? = some (C, T, N)) (hd : decode cc pc = .ok (.invokevirtual idx, 3)) :
    rv_Call p l e R s m args below meth c Q D cl tm ad cy A Gp nL pc K := by
  obtain ⟨hx, hb, hown, hts, hKk, hD, hml⟩ := id X
  obtain ⟨hZ, hAA, hA, hN, hZ0⟩ := Y
  intro V ls avs rest hpre hls hcat kk H locs hP hS
  obtain ⟨p1, p2, p3, p4⟩ := id hpre
  rw [hK1.1] at p3
  obtain ⟨vs', rfl, hvs⟩ := rv_sk_hd (a := rv_bare a0) (as := as.map rv_bare) p3 hK1.2.1
  have hlen : vs'.length = n := by rw [rv_sk_len hvs, List.length_map]; exact hK1.2.2
  have hstk : (Value.ref (ad (rv_bare a0).2.1) :: vs').reverse ++ rest = vs'.reverse ++ .ref (ad a0.2.1) :: rest := by
    rw [List.reverse_cons, List.append_assoc]
    rfl
  rw [hstk]
  refine fm_callW (a := (Value.ref (ad a0.2.1) :: vs').toArray) (rest := rest) (va_runV (As := vs') (rest := rest) (C := C) (n := n) ⟨hx, hb, hml, hown, hts⟩ (hM V _ hpre) (cwV n hts (hg.of (fun w hw' => ?_)) rfl hrm.1.1 hrm.1.2 hy hrm.2) ⟨rv_Pc_blind hZ, va_recv hKk hP hci.2 (fm_ws_get (ad := ad) (cy := cy) (V := V) hci.1), fun U hU hW => ⟨rfl, fm_Wd_of hZ hAA hKk hN hZ0 hP hS hU hW⟩⟩ rfl hlen hls rfl (lv_room hcat) hd ⟨Nat.zero_le _, Nat.zero_le _⟩) hS hA kk
  unfold wsV at hw'
  rcases List.mem_append.mp hw' with hw' | hw'
  · simp only [List.mem_cons, List.not_mem_nil, or_false] at hw'
    rcases hw' with rfl | rfl | rfl | rfl
    · exact hw.1
    · exact hw.2.1
    · exact hw.2.2.1
    · exact hw.2.2.2.1
  · rcases List.mem_cons.mp hw' with rfl | hw'
    · exact hw.2.2.2.2
    · exact hw'
/-- a call of a static method -/
theorem rv_callS (X : fm_X p s m args c cc own D cl tm ad cy A Ts nL) (Y : fm_Y s nt Z tm ad A) (hg : fm_Good Ts) {y : MethodName} {idx maxL n : Nat} {bytes : ByteArray} {ret : Option FieldType} {rm : Room} (hM : rv_Met l D cl tm ad cy nt Z Gp y (.code y bytes maxL ret :: Ts) rm K)
    (hw : Jvm.Cond.methodLink own idx y ∈ Ts ∧ Jvm.Cond.static y ∈ Ts ∧ Jvm.Cond.initialized y.cls ∈ Ts ∧ Jvm.Cond.code y bytes maxL ret ∈ Ts) (hy : y.cls ≠ "java/lang/invoke/MethodHandle" ∧ y.cls ≠ "java/lang/invoke/VarHandle" ∧ (parseMethodDescriptor y.desc).map (fun d => d.parameters.length) = some n)
    (hrm : (rm.cells = 0 ∧ rm.slots = 0) ∧ rm.frames + 1 ≤ R.frames ∧ 8 + (maxL + 11) + rm.locals ≤ R.locals) (hK1 : K.1.length = n) (hd : decode cc pc = .ok (.invokestatic idx, 3)) :
    rv_Call p l e R s m args below meth c Q D cl tm ad cy A Gp nL pc K := by
  obtain ⟨hx, hb, hown, hts, hKk, hD, hml⟩ := id X
  obtain ⟨hZ, hAA, hA, hN, hZ0⟩ := Y
  intro V ls avs rest hpre hls hcat kk H locs hP hS
  obtain ⟨p1, p2, p3, p4⟩ := id hpre
  have hlen : avs.length = n := by rw [rv_sk_len p3, List.length_map]; exact hK1
  refine fm_callW (a := avs.toArray) (rest := rest) (va_runS (As := avs) (rest := rest) (n := n) ⟨hx, hb, hml, hown, hts⟩ (hM V _ hpre) (va_cwS n hts (hg.of (fun w hw' => ?_)) rfl hrm.1.1 hrm.1.2 hy hrm.2) ⟨rv_Pc_blind hZ, fun U hU hW => ⟨rfl, fm_Wd_of hZ hAA hKk hN hZ0 hP hS hU hW⟩⟩ rfl hlen hls rfl (lv_room hcat) hd ⟨Nat.zero_le _, Nat.zero_le _⟩) hS hA kk
  unfold va_wsS at hw'
  rcases List.mem_append.mp hw' with hw' | hw'
  · simp only [List.mem_cons, List.not_mem_nil, or_false] at hw'
    rcases hw' with rfl | rfl | rfl
    · exact hw.1
    · exact hw.2.1
    · exact hw.2.2.1
  · rcases List.mem_cons.mp hw' with rfl | hw'
    · exact hw.2.2.2
    · exact hw'
/-- a call of a nest mate's private static method -/
theorem rv_callSN (X : fm_X p s m args c cc own D cl tm ad cy A Ts nL) (Y : fm_Y s nt Z tm ad A) (hg : fm_Good Ts) {y : MethodName} {host : String} {idx maxL n : Nat} {bytes : ByteArray} {ret : Option FieldType} {rm : Room} (hM : rv_Met l D cl tm ad cy nt Z Gp y (.code y bytes maxL ret :: Ts) rm K)
    (hq : (own, idx, y, host) ∈ nt) (hw : Jvm.Cond.static y ∈ Ts ∧ Jvm.Cond.initialized y.cls ∈ Ts ∧ Jvm.Cond.code y bytes maxL ret ∈ Ts) (hy : y.cls ≠ "java/lang/invoke/MethodHandle" ∧ y.cls ≠ "java/lang/invoke/VarHandle" ∧ (parseMethodDescriptor y.desc).map (fun d => d.parameters.length) = some n)
    (hrm : (rm.cells = 0 ∧ rm.slots = 0) ∧ rm.frames + 1 ≤ R.frames ∧ 8 + (maxL + 11) + rm.locals ≤ R.locals) (hK1 : K.1.length = n) (hd : decode cc pc = .ok (.invokestatic idx, 3)) :
    rv_Call p l e R s m args below meth c Q D cl tm ad cy A Gp nL pc K := by
  obtain ⟨hx, hb, hown, hts, hKk, hD, hml⟩ := id X
  obtain ⟨hZ, hAA, hA, hN, hZ0⟩ := Y
  intro V ls avs rest hpre hls hcat kk H locs hP hS
  obtain ⟨p1, p2, p3, p4⟩ := id hpre
  have hlen : avs.length = n := by rw [rv_sk_len p3, List.length_map]; exact hK1
  refine fm_callW (a := avs.toArray) (rest := rest) (va_runSN (As := avs) (rest := rest) (n := n) ⟨hx, hb, hml, hown, hts⟩ (hM V _ hpre) ⟨va_cnB n hts (hg.of (fun w hw' => ?_)) rfl hrm.1.1 hrm.1.2 (hN _ hq) (hts _ hw.2.1) hy hrm.2, hts _ hw.1, trivial⟩ ⟨rv_Pc_blind hZ, fun U hU hW => ⟨rfl, fm_Wd_of hZ hAA hKk hN hZ0 hP hS hU hW⟩⟩ rfl hlen hls rfl (lv_room hcat) hd ⟨Nat.zero_le _, Nat.zero_le _⟩) hS hA kk
  rcases List.mem_cons.mp hw' with rfl | hw'
  · exact hw.2.2
  · exact hw'
end MET
