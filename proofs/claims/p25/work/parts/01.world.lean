/-! THE WORLD AS NUMBERS: every cell of the world is known by a template; what changes is a number at a place (cell, field or index). -/
abbrev fm_V : Type := Nat → Nat → Int32
/-- a field: a number between two bounds, or a reference to a cell for good -/
abbrev fm_F : Type := (Int × Int) ⊕ Nat
/-- a cell: an array (type's place, length, bounds of its numbers), or an object (class, fields) -/
abbrev fm_C : Type := (Nat × Nat × Int × Int) ⊕ (Nat × List fm_F)
def fm_val (ad : Nat → Nat) (x : Int32) (t : fm_F) : Value := match t with
  | .inl _ => .int x
  | .inr j => .ref (ad j)
def fm_fs (ad : Nat → Nat) (f : Nat → Int32) (ts : List fm_F) : List Value := (List.range ts.length).map (fun k => fm_val ad (f k) (ts.getD k (.inl (0, 0))))
def fm_cell (ad : Nat → Nat) (cy : Nat → ClassId) (f : Nat → Int32) (t : fm_C) : va_E := match t with
  | .inl a => .inl (cy a.1, a.2.1, .inl f)
  | .inr o => .inr (o.1, fm_fs ad f o.2)
def fm_ws (tm : List fm_C) (ad : Nat → Nat) (cy : Nat → ClassId) (V : fm_V) : va_W := (List.range tm.length).map (fun i => (ad i, fm_cell ad cy (V i) (tm.getD i (.inl (0, 0, 0, 0)))))
def fm_up (V : fm_V) (i k : Nat) (x : Int32) : fm_V := fun a b => if a = i ∧ b = k then x else V a b
theorem fm_fs_get {ad : Nat → Nat} {f : Nat → Int32} {ts : List fm_F} {k : Nat} {t : fm_F} (h : ts[k]? = some t) : (fm_fs ad f ts)[k]? = some (fm_val ad (f k) t) := by
  have hk : k < ts.length := (List.getElem?_eq_some_iff.mp h).1
  simp [fm_fs, List.getElem?_map, List.getElem?_range hk, List.getD, h]
theorem fm_fs_len {ad : Nat → Nat} {f : Nat → Int32} {ts : List fm_F} : (fm_fs ad f ts).length = ts.length := by simp [fm_fs]
theorem fm_ws_get {tm : List fm_C} {ad : Nat → Nat} {cy : Nat → ClassId} {V : fm_V} {i : Nat} {t : fm_C} (h : tm[i]? = some t) : (fm_ws tm ad cy V)[i]? = some (ad i, fm_cell ad cy (V i) t) := by
  have hk : i < tm.length := (List.getElem?_eq_some_iff.mp h).1
  simp [fm_ws, List.getElem?_map, List.getElem?_range hk, List.getD, h]
theorem fm_ws_len {tm : List fm_C} {ad : Nat → Nat} {cy : Nat → ClassId} {V : fm_V} : (fm_ws tm ad cy V).length = tm.length := by simp [fm_ws]
theorem fm_up_self {V : fm_V} {i k : Nat} {x : Int32} : fm_up V i k x i k = x := by simp [fm_up]
theorem fm_up_ne {V : fm_V} {i k a b : Nat} {x : Int32} (h : ¬ (a = i ∧ b = k)) : fm_up V i k x a b = V a b := by simp only [fm_up, if_neg h]
theorem fm_ws_up {tm : List fm_C} {ad : Nat → Nat} {cy : Nat → ClassId} {V : fm_V} {i k : Nat} {x : Int32} {t : fm_C} {e : va_E} (h : tm[i]? = some t) (he : e = fm_cell ad cy (fm_up V i k x i) t) : (fm_ws tm ad cy V).set i (ad i, e) = fm_ws tm ad cy (fm_up V i k x) := by
  have hi : i < tm.length := (List.getElem?_eq_some_iff.mp h).1
  apply List.ext_getElem?
  intro j
  rw [List.getElem?_set]
  by_cases hj : i = j
  · subst hj
    rw [if_pos rfl, if_pos (by rw [fm_ws_len]; exact hi), fm_ws_get h, he]
  · rw [if_neg hj]
    by_cases hl : j < tm.length
    · have h2 : tm[j]? = some tm[j] := List.getElem?_eq_getElem hl
      rw [fm_ws_get h2, fm_ws_get h2]
      have e2 : fm_up V i k x j = V j := by
        funext b
        exact fm_up_ne (fun q => hj q.1.symm)
      rw [e2]
    · rw [List.getElem?_eq_none (by rw [fm_ws_len]; omega), List.getElem?_eq_none (by rw [fm_ws_len]; omega)]
theorem fm_fs_up {ad : Nat → Nat} {V : fm_V} {i k : Nat} {x : Int32} {ts : List fm_F} {r : Int × Int} (h : ts[k]? = some (.inl r)) : (fm_fs ad (V i) ts).set k (.int x) = fm_fs ad (fm_up V i k x i) ts := by
  have hk : k < ts.length := (List.getElem?_eq_some_iff.mp h).1
  apply List.ext_getElem?
  intro j
  rw [List.getElem?_set]
  by_cases hj : k = j
  · subst hj
    rw [if_pos rfl, if_pos (by rw [fm_fs_len]; exact hk), fm_fs_get h, fm_up_self]
    rfl
  · rw [if_neg hj]
    by_cases hl : j < ts.length
    · have h2 : ts[j]? = some ts[j] := List.getElem?_eq_getElem hl
      rw [fm_fs_get h2, fm_fs_get h2, fm_up_ne (fun q => hj q.2.symm)]
    · rw [List.getElem?_eq_none (by rw [fm_fs_len]; omega), List.getElem?_eq_none (by rw [fm_fs_len]; omega)]
theorem fm_upd {V : fm_V} {i k : Nat} {x : Int32} : upd (V i) k x = fm_up V i k x i := by
  funext b
  by_cases hb : b = k
  · subst hb
    simp [fm_up, upd]
  · simp [fm_up, upd, hb]
/-- the array classes: of ints, of bytes, of booleans -/
def fm_tys (cy : Nat → ClassId) : List (ClassId × FieldType) := [(cy 0, .int), (cy 1, .byte), (cy 2, .boolean)]
section FM
variable {p : Program} {l : Launch} {e : Env} {R : Room} {s : State} {m : MethodId} {args : Array Value} {below : List Frame} {meth : Method} {c : Code} {Q : State → Prop} {cc : ByteArray} {own : String} {D : va_G} {cl : List vw_C} {tm : List fm_C} {ad : Nat → Nat} {cy : Nat → ClassId} {A : Nat → Prop} {Ts : List Cond} {nL : Nat}
/-- the machine at pc, with such locals and stack, in a world of such numbers, comes to Q -/
def fm_W (p : Program) (l : Launch) (e : Env) (R : Room) (s : State) (m : MethodId) (args : Array Value) (below : List Frame) (meth : Method) (c : Code) (Q : State → Prop) (D : va_G) (cl : List vw_C) (tm : List fm_C) (ad : Nat → Nat) (cy : Nat → ClassId) (A : Nat → Prop) (V : fm_V) (pc : Nat) (ls : Array Slot) (st : List Value) : Prop :=
  ∀ (H : Heap) (locs : List Loc), va_P D cl (fm_ws tm ad cy V) H → va_S A s.heap H locs → W p l e R s m args below meth c H locs 0 0 Q (F0 m pc ls st)
/-- what holds all through a method's body -/
def fm_X (p : Program) (s : State) (m : MethodId) (args : Array Value) (c : Code) (cc : ByteArray) (own : String) (D : va_G) (cl : List vw_C) (tm : List fm_C) (ad : Nat → Nat) (cy : Nat → ClassId) (A : Nat → Prop) (Ts : List Cond) (nL : Nat) : Prop :=
  p.tables.exec = Jvm.exec ∧ c.code = cc ∧ s.vm.findClass own = some m.cls ∧ (∀ w ∈ Ts, w.before args s = true) ∧ va_K D cl (fm_tys cy) s ∧ (∀ V : fm_V, va_D A (fm_ws tm ad cy V)) ∧ c.maxLocals = nL
/-- a row of the pool that names a field: class ci of cl, its field k -/
def fm_Lk (cl : List vw_C) (Ts : List Cond) (own : String) (index ci k : Nat) : Prop := ∃ (C : String) (T : u_T) (N : Nat), cl[ci]? = some (C, T, N) ∧ (∀ w ∈ u_ws C T N, w ∈ Ts) ∧ k < N ∧ Cond.fieldLink own index C (T k).2.1 (T k).2.2.1 ∈ Ts ∧ (T k).1 = C
def fm_Cl (cl : List vw_C) (ci : Nat) : Prop := ∃ (C : String) (T : u_T) (N : Nat) (ty : Nat → FieldType), cl[ci]? = some (C, T, N) ∧ (∀ k, k < N → parseFieldDescriptor (T k).2.2.1 = some (ty k)) ∧ (∀ a, a < N → ∀ b, b < N → a ≠ b → (T a).2.1 ≠ (T b).2.1)
theorem fm_get (X : fm_X p s m args c cc own D cl tm ad cy A Ts nL) {index i ci k pc : Nat} {ts : List fm_F} {t : fm_F} {V : fm_V} {ls : Array Slot} {rest : List Value} (hL : fm_Lk cl Ts own index ci k) (hi : tm[i]? = some (.inr (ci, ts))) (hk : ts[k]? = some t) (hd : decode cc pc = .ok (.getfield index, 3))
    (kk : fm_W p l e R s m args below meth c Q D cl tm ad cy A V (pc + 3) ls (fm_val ad (V i k) t :: rest)) : fm_W p l e R s m args below meth c Q D cl tm ad cy A V pc ls (.ref (ad i) :: rest) := by
  obtain ⟨hx, hb, hown, hts, hK, hD, hml⟩ := X
  obtain ⟨C, T, N, hc, hin, hkN, hlk, hT⟩ := hL
  intro H locs hP hS
  have he := fm_ws_get (ad := ad) (cy := cy) (V := V) hi
  exact va_get (D := D) (ci := ci) (ref := C) (fs := fm_fs ad (V i) ts) hx hb hts hin hown hK hP i he hc k hkN (hts _ hlk) (fun x h => by rw [hT] at h; exact h) (fm_fs_get hk) hd (kk H locs hP hS)
theorem fm_put (X : fm_X p s m args c cc own D cl tm ad cy A Ts nL) {index i ci k pc : Nat} {ts : List fm_F} {r : Int × Int} {V : fm_V} {x : Int32} {ls : Array Slot} {rest : List Value} (hL : fm_Lk cl Ts own index ci k) (hC : fm_Cl cl ci) (hfin : ∀ (C : String) (T : u_T) (N : Nat), cl[ci]? = some (C, T, N) → (T k).2.2.2 = false ∧ ∃ ty, parseFieldDescriptor (T k).2.2.1 = some ty ∧ narrow ty (.int x) = .int x ∧ fits ty (.int x) = true) (hi : tm[i]? = some (.inr (ci, ts))) (hk : ts[k]? = some (.inl r)) (hd : decode cc pc = .ok (.putfield index, 3))
    (kk : fm_W p l e R s m args below meth c Q D cl tm ad cy A (fm_up V i k x) (pc + 3) ls rest) : fm_W p l e R s m args below meth c Q D cl tm ad cy A V pc ls (.int x :: .ref (ad i) :: rest) := by
  obtain ⟨hx, hb, hown, hts, hK, hD, hml⟩ := X
  obtain ⟨C, T, N, hc, hin, hkN, hlk, hT⟩ := hL
  obtain ⟨C', T', N', ty0, hc', hty, hnm⟩ := hC
  obtain ⟨rfl, rfl, rfl⟩ : C' = C ∧ T' = T ∧ N' = N := by
    have h := Option.some.inj (hc'.symm.trans hc)
    exact ⟨congrArg Prod.fst h, congrArg (fun q => q.2.1) h, congrArg (fun q => q.2.2) h⟩
  obtain ⟨hf, ty, h1, h2, h3⟩ := hfin _ _ _ hc
  intro H locs hP hS
  have he := fm_ws_get (ad := ad) (cy := cy) (V := V) hi
  have e1 : (fm_ws tm ad cy V).set i (ad i, .inr (ci, (fm_fs ad (V i) ts).set k (.int x))) = fm_ws tm ad cy (fm_up V i k x) := fm_ws_up hi (by rw [fm_fs_up hk]; rfl)
  refine va_put (D := D) (ci := ci) (ref := C') (fs := fm_fs ad (V i) ts) hx hb hts hin ty0 hty hnm hown hK hP (hD V) hS i he hc k hkN (hts _ hlk) (fun x h => by rw [hT] at h; exact h) hf h1 h2 h3 (by rw [fm_fs_len]; exact (List.getElem?_eq_some_iff.mp hk).1) hd (fun H1 locs1 hP1 _ hS1 => ?_)
  rw [e1] at hP1
  exact kk H1 locs1 hP1 hS1
theorem fm_ald0 (X : fm_X p s m args c cc own D cl tm ad cy A Ts nL) {i n pc : Nat} {lo hi : Int} {V : fm_V} {j : Int32} {ls : Array Slot} {rest : List Value} (hi0 : tm[i]? = some (.inl (0, n, lo, hi))) (hin : vp_in j n) (hd : decode cc pc = .ok (.iaload, 1))
    (kk : fm_W p l e R s m args below meth c Q D cl tm ad cy A V (pc + 1) ls (.int (V i j.toNatClampNeg) :: rest)) : fm_W p l e R s m args below meth c Q D cl tm ad cy A V pc ls (.int j :: .ref (ad i) :: rest) := by
  obtain ⟨hx, hb, hown, hts, hK, hD, hml⟩ := X
  intro H locs hP hS
  exact va_iald hx hb hK hP i 0 (fm_ws_get (ad := ad) (cy := cy) (V := V) hi0) rfl hin hd (kk H locs hP hS)
theorem fm_ald1 (X : fm_X p s m args c cc own D cl tm ad cy A Ts nL) {i n pc : Nat} {lo hi : Int} {V : fm_V} {j : Int32} {ls : Array Slot} {rest : List Value} (hi0 : tm[i]? = some (.inl (1, n, lo, hi))) (hin : vp_in j n) (hd : decode cc pc = .ok (.baload, 1))
    (kk : fm_W p l e R s m args below meth c Q D cl tm ad cy A V (pc + 1) ls (.int (V i j.toNatClampNeg) :: rest)) : fm_W p l e R s m args below meth c Q D cl tm ad cy A V pc ls (.int j :: .ref (ad i) :: rest) := by
  obtain ⟨hx, hb, hown, hts, hK, hD, hml⟩ := X
  intro H locs hP hS
  exact va_bald hx hb hK hP i 1 (fm_ws_get (ad := ad) (cy := cy) (V := V) hi0) rfl hin hd (kk H locs hP hS)
theorem fm_ald2 (X : fm_X p s m args c cc own D cl tm ad cy A Ts nL) {i n pc : Nat} {lo hi : Int} {V : fm_V} {j : Int32} {ls : Array Slot} {rest : List Value} (hi0 : tm[i]? = some (.inl (2, n, lo, hi))) (hin : vp_in j n) (hd : decode cc pc = .ok (.baload, 1))
    (kk : fm_W p l e R s m args below meth c Q D cl tm ad cy A V (pc + 1) ls (.int (V i j.toNatClampNeg) :: rest)) : fm_W p l e R s m args below meth c Q D cl tm ad cy A V pc ls (.int j :: .ref (ad i) :: rest) := by
  obtain ⟨hx, hb, hown, hts, hK, hD, hml⟩ := X
  intro H locs hP hS
  exact va_zald hx hb hK hP i 2 (fm_ws_get (ad := ad) (cy := cy) (V := V) hi0) rfl hin hd (kk H locs hP hS)
theorem fm_ast0 (X : fm_X p s m args c cc own D cl tm ad cy A Ts nL) {i n pc : Nat} {lo hi : Int} {V : fm_V} {j x : Int32} {ls : Array Slot} {rest : List Value} (hi0 : tm[i]? = some (.inl (0, n, lo, hi))) (hin : vp_in j n) (hd : decode cc pc = .ok (.iastore, 1))
    (kk : fm_W p l e R s m args below meth c Q D cl tm ad cy A (fm_up V i j.toNatClampNeg x) (pc + 1) ls rest) : fm_W p l e R s m args below meth c Q D cl tm ad cy A V pc ls (.int x :: .int j :: .ref (ad i) :: rest) := by
  obtain ⟨hx, hb, hown, hts, hK, hD, hml⟩ := X
  intro H locs hP hS
  refine va_iast hx hb hK hP (hD V) hS i 0 (fm_ws_get (ad := ad) (cy := cy) (V := V) hi0) rfl hin hd (fun H1 locs1 hP1 _ hS1 => ?_)
  have e1 := fm_ws_up (ad := ad) (cy := cy) (V := V) (i := i) (k := j.toNatClampNeg) (x := x) (e := .inl (cy 0, n, .inl (upd (V i) j.toNatClampNeg x))) hi0 (by rw [fm_upd]; rfl)
  rw [e1] at hP1
  exact kk H1 locs1 hP1 hS1
theorem fm_ast1 (X : fm_X p s m args c cc own D cl tm ad cy A Ts nL) {i n pc : Nat} {lo hi : Int} {V : fm_V} {j x : Int32} {ls : Array Slot} {rest : List Value} (hi0 : tm[i]? = some (.inl (1, n, lo, hi))) (hin : vp_in j n) (hd : decode cc pc = .ok (.bastore, 1))
    (kk : fm_W p l e R s m args below meth c Q D cl tm ad cy A (fm_up V i j.toNatClampNeg (vp_nar .byte x)) (pc + 1) ls rest) : fm_W p l e R s m args below meth c Q D cl tm ad cy A V pc ls (.int x :: .int j :: .ref (ad i) :: rest) := by
  obtain ⟨hx, hb, hown, hts, hK, hD, hml⟩ := X
  intro H locs hP hS
  refine va_bast hx hb hK hP (hD V) hS i 1 (fm_ws_get (ad := ad) (cy := cy) (V := V) hi0) rfl hin hd (fun H1 locs1 hP1 _ hS1 => ?_)
  have e1 := fm_ws_up (ad := ad) (cy := cy) (V := V) (i := i) (k := j.toNatClampNeg) (x := vp_nar .byte x) (e := .inl (cy 1, n, .inl (upd (V i) j.toNatClampNeg (vp_nar .byte x)))) hi0 (by rw [fm_upd]; rfl)
  rw [e1] at hP1
  exact kk H1 locs1 hP1 hS1
theorem fm_ast2 (X : fm_X p s m args c cc own D cl tm ad cy A Ts nL) {i n pc : Nat} {lo hi : Int} {V : fm_V} {j x : Int32} {ls : Array Slot} {rest : List Value} (hi0 : tm[i]? = some (.inl (2, n, lo, hi))) (hin : vp_in j n) (hd : decode cc pc = .ok (.bastore, 1))
    (kk : fm_W p l e R s m args below meth c Q D cl tm ad cy A (fm_up V i j.toNatClampNeg (vp_nar .boolean x)) (pc + 1) ls rest) : fm_W p l e R s m args below meth c Q D cl tm ad cy A V pc ls (.int x :: .int j :: .ref (ad i) :: rest) := by
  obtain ⟨hx, hb, hown, hts, hK, hD, hml⟩ := X
  intro H locs hP hS
  refine va_zast hx hb hK hP (hD V) hS i 2 (fm_ws_get (ad := ad) (cy := cy) (V := V) hi0) rfl hin hd (fun H1 locs1 hP1 _ hS1 => ?_)
  have e1 := fm_ws_up (ad := ad) (cy := cy) (V := V) (i := i) (k := j.toNatClampNeg) (x := vp_nar .boolean x) (e := .inl (cy 2, n, .inl (upd (V i) j.toNatClampNeg (vp_nar .boolean x)))) hi0 (by rw [fm_upd]; rfl)
  rw [e1] at hP1
  exact kk H1 locs1 hP1 hS1
/-- a store into the locals: of a value of one slot, where no long is known -/
theorem fm_sto {ls : Array Slot} {i : Nat} {v : Value} (hs : ls.size = nL) (hw : lv_wf ls) (hi : i < nL) (hc : v.category = 1) :
    ∃ ls', storeLocals ls i v = some ls' ∧ ls'.size = nL ∧ lv_wf ls' ∧ ls'[i]? = some (.val v) ∧ ∀ (k : Nat) (w : Value), k ≠ i → ls[k]? = some (.val w) → w.category = 1 → ls'[k]? = some (.val w) := by
  have key : ∀ (k : Nat) (w : Value), ls[k]? = some (.val w) → lv_has ls nL [(k, w)] := fun k w h => ⟨hs, hw, fun q hq => by rw [List.mem_singleton.mp hq]; exact h⟩
  obtain ⟨ls', e', h'⟩ := lv_store1 (ls := ls) (nL := nL) (l := []) (v := v) ⟨hs, hw, fun q hq => by cases hq⟩ hi hc
  refine ⟨ls', e', h'.1, h'.2.1, h'.2.2 (i, v) List.mem_cons_self, fun k w hk hl hcw => ?_⟩
  obtain ⟨ls2, e2, h2⟩ := lv_store1 (v := v) (key k w hl) hi hc
  rw [e'] at e2
  cases e2
  refine h2.2.2 (k, w) (List.mem_cons_of_mem _ (List.mem_filter.mpr ⟨List.mem_singleton.mpr rfl, ?_⟩))
  simp [hk, hcw]
end FM
