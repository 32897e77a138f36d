section
/-! THE WORLD AS NUMBERS: every cell of the world is known by a template; what changes is a number at a place (cell, field or index). -/
abbrev fm_V : Type := Nat → Nat → Int32
/-- a field: a number between two bounds, or a reference to a cell for good -/
abbrev fm_F : Type := (Int × Int) ⊕ Nat
/-- a cell: an array (type's place, length, bounds of its numbers), or an object (class, fields) -/
abbrev fm_C : Type := (Nat × Nat × Int × Int) ⊕ (Nat × List fm_F)
def fm_val (ad : Nat → Nat) (x : Int32) (t : fm_F) : Value := match t with
  | .inl _ => .int x
  | .inr j => .ref (ad j)
def fm_fs (ad : Nat → Nat) (f : Nat → Int32) (ts : List fm_F) : List Value := (List.range ts.length).map (fun k => fm_val ad (f k) (ts.getD k (.inl (0, 0))))
def fm_cell (ad : Nat → Nat) (cy : Nat → ClassId) (f : Nat → Int32) (t : fm_C) : va_E := match t with
  | .inl a => .inl (cy a.1, a.2.1, .inl f)
  | .inr o => .inr (o.1, fm_fs ad f o.2)
def fm_ws (tm : List fm_C) (ad : Nat → Nat) (cy : Nat → ClassId) (V : fm_V) : va_W := (List.range tm.length).map (fun i => (ad i, fm_cell ad cy (V i) (tm.getD i (.inl (0, 0, 0, 0)))))
def fm_up (V : fm_V) (i k : Nat) (x : Int32) : fm_V := fun a b => if a = i ∧ b = k then x else V a b
theorem fm_fs_get {ad : Nat → Nat} {f : Nat → Int32} {ts : List fm_F} {k : Nat} {t : fm_F} (h : ts[k]? = some t) : (fm_fs ad f ts)[k]? = some (fm_val ad (f k) t) := by
  have hk : k < ts.length := (List.getElem?_eq_some_iff.mp h).1
  simp [fm_fs, List.getElem?_map, List.getElem?_range hk, List.getD, h]
theorem fm_fs_len {ad : Nat → Nat} {f : Nat → Int32} {ts : List fm_F} : (fm_fs ad f ts).length = ts.length := by simp [fm_fs]
theorem fm_ws_get {tm : List fm_C} {ad : Nat → Nat} {cy : Nat → ClassId} {V : fm_V} {i : Nat} {t : fm_C} (h : tm[i]? = some t) : (fm_ws tm ad cy V)[i]? = some (ad i, fm_cell ad cy (V i) t) := by
  have hk : i < tm.length := (List.getElem?_eq_some_iff.mp h).1
  simp [fm_ws, List.getElem?_map, List.getElem?_range hk, List.getD, h]
theorem fm_ws_len {tm : List fm_C} {ad : Nat → Nat} {cy : Nat → ClassId} {V : fm_V} : (fm_ws tm ad cy V).length = tm.length := by simp [fm_ws]
theorem fm_up_self {V : fm_V} {i k : Nat} {x : Int32} : fm_up V i k x i k = x := by simp [fm_up]
theorem fm_up_ne {V : fm_V} {i k a b : Nat} {x : Int32} (h : ¬ (a = i ∧ b = k)) : fm_up V i k x a b = V a b := by simp only [fm_up, if_neg h]
theorem fm_ws_up {tm : List fm_C} {ad : Nat → Nat} {cy : Nat → ClassId} {V : fm_V} {i k : Nat} {x : Int32} {t : fm_C} {e : va_E} (h : tm[i]? = some t) (he : e = fm_cell ad cy (fm_up V i k x i) t) : (fm_ws tm ad cy V).set i (ad i, e) = fm_ws tm ad cy (fm_up V i k x) := by
  have hi : i < tm.length := (List.getElem?_eq_some_iff.mp h).1
  apply List.ext_getElem?
  intro j
  rw [List.getElem?_set]
  by_cases hj : i = j
  · subst hj
    rw [if_pos rfl, if_pos (by rw [fm_ws_len]; exact hi), fm_ws_get h, he]
  · rw [if_neg hj]
    by_cases hl : j < tm.length
    · have h2 : tm[j]? = some tm[j] := List.getElem?_eq_getElem hl
      rw [fm_ws_get h2, fm_ws_get h2]
      have e2 : fm_up V i k x j = V j := by
        funext b
        exact fm_up_ne (fun q => hj q.1.symm)
      rw [e2]
    · rw [List.getElem?_eq_none (by rw [fm_ws_len]; omega), List.getElem?_eq_none (by rw [fm_ws_len]; omega)]
theorem fm_fs_up {ad : Nat → Nat} {V : fm_V} {i k : Nat} {x : Int32} {ts : List fm_F} {r : Int × Int} (h : ts[k]? = some (.inl r)) : (fm_fs ad (V i) ts).set k (.int x) = fm_fs ad (fm_up V i k x i) ts := by
  have hk : k < ts.length := (List.getElem?_eq_some_iff.mp h).1
  apply List.ext_getElem?
  intro j
  rw [List.getElem?_set]
  by_cases hj : k = j
  · subst hj
    rw [if_pos rfl, if_pos (by rw [fm_fs_len]; exact hk), fm_fs_get h, fm_up_self]
    rfl
  · rw [if_neg hj]
    by_cases hl : j < ts.length
    · have h2 : ts[j]? = some ts[j] := List.getElem?_eq_getElem hl
      rw [fm_fs_get h2, fm_fs_get h2, fm_up_ne (fun q => hj q.2.symm)]
    · rw [List.getElem?_eq_none (by rw [fm_fs_len]; omega), List.getElem?_eq_none (by rw [fm_fs_len]; omega)]
theorem fm_upd {V : fm_V} {i k : Nat} {x : Int32} : upd (V i) k x = fm_up V i k x i := by
  funext b
  by_cases hb : b = k
  · subst hb
    simp [fm_up, upd]
  · simp [fm_up, upd, hb]
/-- the array classes: of ints, of bytes, of booleans -/
def fm_tys (cy : Nat → ClassId) : List (ClassId × FieldType) := [(cy 0, .int), (cy 1, .byte), (cy 2, .boolean)]
section FM
variable {p : Program} {l : Launch} {e : Env} {R : Room} {s : State} {m : MethodId} {args : Array Value} {below : List Frame} {meth : Method} {c : Code} {Q : State → Prop} {cc : ByteArray} {own : String} {D : va_G} {cl : List vw_C} {tm : List fm_C} {ad : Nat → Nat} {cy : Nat → ClassId} {A : Nat → Prop} {Ts : List Cond} {nL : Nat}
/-- the machine at pc, with such locals and stack, in a world of such numbers, comes to Q -/
def fm_W (p : Program) (l : Launch) (e : Env) (R : Room) (s : State) (m : MethodId) (args : Array Value) (below : List Frame) (meth : Method) (c : Code) (Q : State → Prop) (D : va_G) (cl : List vw_C) (tm : List fm_C) (ad : Nat → Nat) (cy : Nat → ClassId) (A : Nat → Prop) (V : fm_V) (pc : Nat) (ls : Array Slot) (st : List Value) : Prop :=
  ∀ (H : Heap) (locs : List Loc), va_P D cl (fm_ws tm ad cy V) H → va_S A s.heap H locs → W p l e R s m args below meth c H locs 0 0 Q (F0 m pc ls st)
/-- what holds all through a method's body -/
def fm_X (p : Program) (s : State) (m : MethodId) (args : Array Value) (c : Code) (cc : ByteArray) (own : String) (D : va_G) (cl : List vw_C) (tm : List fm_C) (ad : Nat → Nat) (cy : Nat → ClassId) (A : Nat → Prop) (Ts : List Cond) (nL : Nat) : Prop :=
  p.tables.exec = Jvm.exec ∧ c.code = cc ∧ s.vm.findClass own = some m.cls ∧ (∀ w ∈ Ts, w.before args s = true) ∧ va_K D cl (fm_tys cy) s ∧ (∀ V : fm_V, va_D A (fm_ws tm ad cy V)) ∧ c.maxLocals = nL
/-- a row of the pool that names a field: class ci of cl, its field k -/
def fm_Lk (cl : List vw_C) (Ts : List Cond) (own : String) (index ci k : Nat) : Prop := ∃ (C : String) (T : u_T) (N : Nat), cl[ci]? = some (C, T, N) ∧ (∀ w ∈ u_ws C T N, w ∈ Ts) ∧ k < N ∧ Cond.fieldLink own index C (T k).2.1 (T k).2.2.1 ∈ Ts ∧ (T k).1 = C
def fm_Cl (cl : List vw_C) (ci : Nat) : Prop := ∃ (C : String) (T : u_T) (N : Nat) (ty : Nat → FieldType), cl[ci]? = some (C, T, N) ∧ (∀ k, k < N → parseFieldDescriptor (T k).2.2.1 = some (ty k)) ∧ (∀ a, a < N → ∀ b, b < N → a ≠ b → (T a).2.1 ≠ (T b).2.1)
theorem fm_get (X : fm_X p s m args c cc own D cl tm ad cy A Ts nL) {index i ci k pc : Nat} {ts : List fm_F} {t : fm_F} {V : fm_V} {ls : Array Slot} {rest : List Value} (hL : fm_Lk cl Ts own index ci k) (hi : tm[i]? = some (.inr (ci, ts))) (hk : ts[k]? = some t) (hd : decode cc pc = .ok (.getfield index, 3))
    (kk : fm_W p l e R s m args below meth c Q D cl tm ad cy A V (pc + 3) ls (fm_val ad (V i k) t :: rest)) : fm_W p l e R s m args below meth c Q D cl tm ad cy A V pc ls (.ref (ad i) :: rest) := by
  obtain ⟨hx, hb, hown, hts, hK, hD, hml⟩ := X
  obtain ⟨C, T, N, hc, hin, hkN, hlk, hT⟩ := hL
  intro H locs hP hS
  have he := fm_ws_get (ad := ad) (cy := cy) (V := V) hi
  exact va_get (D := D) (ci := ci) (ref := C) (fs := fm_fs ad (V i) ts) hx hb hts hin hown hK hP i he hc k hkN (hts _ hlk) (fun x h => by rw [hT] at h; exact h) (fm_fs_get hk) hd (kk H locs hP hS)
theorem fm_put (X : fm_X p s m args c cc own D cl tm ad cy A Ts nL) {index i ci k pc : Nat} {ts : List fm_F} {r : Int × Int} {V : fm_V} {x : Int32} {ls : Array Slot} {rest : List Value} (hL : fm_Lk cl Ts own index ci k) (hC : fm_Cl cl ci) (hfin : ∀ (C : String) (T : u_T) (N : Nat), cl[ci]? = some (C, T, N) → (T k).2.2.2 = false ∧ ∃ ty, parseFieldDescriptor (T k).2.2.1 = some ty ∧ narrow ty (.int x) = .int x ∧ fits ty (.int x) = true) (hi : tm[i]? = some (.inr (ci, ts))) (hk : ts[k]? = some (.inl r)) (hd : decode cc pc = .ok (.putfield index, 3))
    (kk : fm_W p l e R s m args below meth c Q D cl tm ad cy A (fm_up V i k x) (pc + 3) ls rest) : fm_W p l e R s m args below meth c Q D cl tm ad cy A V pc ls (.int x :: .ref (ad i) :: rest) := by
  obtain ⟨hx, hb, hown, hts, hK, hD, hml⟩ := X
  obtain ⟨C, T, N, hc, hin, hkN, hlk, hT⟩ := hL
  obtain ⟨C', T', N', ty0, hc', hty, hnm⟩ := hC
  obtain ⟨rfl, rfl, rfl⟩ : C' = C ∧ T' = T ∧ N' = N := by
    have h := Option.some.inj (hc'.symm.trans hc)
    exact ⟨congrArg Prod.fst h, congrArg (fun q => q.2.1) h, congrArg (fun q => q.2.2) h⟩
  obtain ⟨hf, ty, h1, h2, h3⟩ := hfin _ _ _ hc
  intro H locs hP hS
  have he := fm_ws_get (ad := ad) (cy := cy) (V := V) hi
  have e1 : (fm_ws tm ad cy V).set i (ad i, .inr (ci, (fm_fs ad (V i) ts).set k (.int x))) = fm_ws tm ad cy (fm_up V i k x) := fm_ws_up hi (by rw [fm_fs_up hk]; rfl)
  refine va_put (D := D) (ci := ci) (ref := C') (fs := fm_fs ad (V i) ts) hx hb hts hin ty0 hty hnm hown hK hP (hD V) hS i he hc k hkN (hts _ hlk) (fun x h => by rw [hT] at h; exact h) hf h1 h2 h3 (by rw [fm_fs_len]; exact (List.getElem?_eq_some_iff.mp hk).1) hd (fun H1 locs1 hP1 _ hS1 => ?_)
  rw [e1] at hP1
  exact kk H1 locs1 hP1 hS1
theorem fm_ald0 (X : fm_X p s m args c cc own D cl tm ad cy A Ts nL) {i n pc : Nat} {lo hi : Int} {V : fm_V} {j : Int32} {ls : Array Slot} {rest : List Value} (hi0 : tm[i]? = some (.inl (0, n, lo, hi))) (hin : vp_in j n) (hd : decode cc pc = .ok (.iaload, 1))
    (kk : fm_W p l e R s m args below meth c Q D cl tm ad cy A V (pc + 1) ls (.int (V i j.toNatClampNeg) :: rest)) : fm_W p l e R s m args below meth c Q D cl tm ad cy A V pc ls (.int j :: .ref (ad i) :: rest) := by
  obtain ⟨hx, hb, hown, hts, hK, hD, hml⟩ := X
  intro H locs hP hS
  exact va_iald hx hb hK hP i 0 (fm_ws_get (ad := ad) (cy := cy) (V := V) hi0) rfl hin hd (kk H locs hP hS)
theorem fm_ald1 (X : fm_X p s m args c cc own D cl tm ad cy A Ts nL) {i n pc : Nat} {lo hi : Int} {V : fm_V} {j : Int32} {ls : Array Slot} {rest : List Value} (hi0 : tm[i]? = some (.inl (1, n, lo, hi))) (hin : vp_in j n) (hd : decode cc pc = .ok (.baload, 1))
    (kk : fm_W p l e R s m args below meth c Q D cl tm ad cy A V (pc + 1) ls (.int (V i j.toNatClampNeg) :: rest)) : fm_W p l e R s m args below meth c Q D cl tm ad cy A V pc ls (.int j :: .ref (ad i) :: rest) := by
  obtain ⟨hx, hb, hown, hts, hK, hD, hml⟩ := X
  intro H locs hP hS
  exact va_bald hx hb hK hP i 1 (fm_ws_get (ad := ad) (cy := cy) (V := V) hi0) rfl hin hd (kk H locs hP hS)
theorem fm_ald2 (X : fm_X p s m args c cc own D cl tm ad cy A Ts nL) {i n pc : Nat} {lo hi : Int} {V : fm_V} {j : Int32} {ls : Array Slot} {rest : List Value} (hi0 : tm[i]? = some (.inl (2, n, lo, hi))) (hin : vp_in j n) (hd : decode cc pc = .ok (.baload, 1))
    (kk : fm_W p l e R s m args below meth c Q D cl tm ad cy A V (pc + 1) ls (.int (V i j.toNatClampNeg) :: rest)) : fm_W p l e R s m args below meth c Q D cl tm ad cy A V pc ls (.int j :: .ref (ad i) :: rest) := by
  obtain ⟨hx, hb, hown, hts, hK, hD, hml⟩ := X
  intro H locs hP hS
  exact va_zald hx hb hK hP i 2 (fm_ws_get (ad := ad) (cy := cy) (V := V) hi0) rfl hin hd (kk H locs hP hS)
theorem fm_ast0 (X : fm_X p s m args c cc own D cl tm ad cy A Ts nL) {i n pc : Nat} {lo hi : Int} {V : fm_V} {j x : Int32} {ls : Array Slot} {rest : List Value} (hi0 : tm[i]? = some (.inl (0, n, lo, hi))) (hin : vp_in j n) (hd : decode cc pc = .ok (.iastore, 1))
    (kk : fm_W p l e R s m args below meth c Q D cl tm ad cy A (fm_up V i j.toNatClampNeg x) (pc + 1) ls rest) : fm_W p l e R s m args below meth c Q D cl tm ad cy A V pc ls (.int x :: .int j :: .ref (ad i) :: rest) := by
  obtain ⟨hx, hb, hown, hts, hK, hD, hml⟩ := X
  intro H locs hP hS
  refine va_iast hx hb hK hP (hD V) hS i 0 (fm_ws_get (ad := ad) (cy := cy) (V := V) hi0) rfl hin hd (fun H1 locs1 hP1 _ hS1 => ?_)
  have e1 := fm_ws_up (ad := ad) (cy := cy) (V := V) (i := i) (k := j.toNatClampNeg) (x := x) (e := .inl (cy 0, n, .inl (upd (V i) j.toNatClampNeg x))) hi0 (by rw [fm_upd]; rfl)
  rw [e1] at hP1
  exact kk H1 locs1 hP1 hS1
theorem fm_ast1 (X : fm_X p s m args c cc own D cl tm ad cy A Ts nL) {i n pc : Nat} {lo hi : Int} {V : fm_V} {j x : Int32} {ls : Array Slot} {rest : List Value} (hi0 : tm[i]? = some (.inl (1, n, lo, hi))) (hin : vp_in j n) (hd : decode cc pc = .ok (.bastore, 1))
    (kk : fm_W p l e R s m args below meth c Q D cl tm ad cy A (fm_up V i j.toNatClampNeg (vp_nar .byte x)) (pc + 1) ls rest) : fm_W p l e R s m args below meth c Q D cl tm ad cy A V pc ls (.int x :: .int j :: .ref (ad i) :: rest) := by
  obtain ⟨hx, hb, hown, hts, hK, hD, hml⟩ := X
  intro H locs hP hS
  refine va_bast hx hb hK hP (hD V) hS i 1 (fm_ws_get (ad := ad) (cy := cy) (V := V) hi0) rfl hin hd (fun H1 locs1 hP1 _ hS1 => ?_)
  have e1 := fm_ws_up (ad := ad) (cy := cy) (V := V) (i := i) (k := j.toNatClampNeg) (x := vp_nar .byte x) (e := .inl (cy 1, n, .inl (upd (V i) j.toNatClampNeg (vp_nar .byte x)))) hi0 (by rw [fm_upd]; rfl)
  rw [e1] at hP1
  exact kk H1 locs1 hP1 hS1
theorem fm_ast2 (X : fm_X p s m args c cc own D cl tm ad cy A Ts nL) {i n pc : Nat} {lo hi : Int} {V : fm_V} {j x : Int32} {ls : Array Slot} {rest : List Value} (hi0 : tm[i]? = some (.inl (2, n, lo, hi))) (hin : vp_in j n) (hd : decode cc pc = .ok (.bastore, 1))
    (kk : fm_W p l e R s m args below meth c Q D cl tm ad cy A (fm_up V i j.toNatClampNeg (vp_nar .boolean x)) (pc + 1) ls rest) : fm_W p l e R s m args below meth c Q D cl tm ad cy A V pc ls (.int x :: .int j :: .ref (ad i) :: rest) := by
  obtain ⟨hx, hb, hown, hts, hK, hD, hml⟩ := X
  intro H locs hP hS
  refine va_zast hx hb hK hP (hD V) hS i 2 (fm_ws_get (ad := ad) (cy := cy) (V := V) hi0) rfl hin hd (fun H1 locs1 hP1 _ hS1 => ?_)
  have e1 := fm_ws_up (ad := ad) (cy := cy) (V := V) (i := i) (k := j.toNatClampNeg) (x := vp_nar .boolean x) (e := .inl (cy 2, n, .inl (upd (V i) j.toNatClampNeg (vp_nar .boolean x)))) hi0 (by rw [fm_upd]; rfl)
  rw [e1] at hP1
  exact kk H1 locs1 hP1 hS1
/-- a store into the locals: of a value of one slot, where no long is known -/
theorem fm_sto {ls : Array Slot} {i : Nat} {v : Value} (hs : ls.size = nL) (hw : lv_wf ls) (hi : i < nL) (hc : v.category = 1) :
    ∃ ls', storeLocals ls i v = some ls' ∧ ls'.size = nL ∧ lv_wf ls' ∧ ls'[i]? = some (.val v) ∧ ∀ (k : Nat) (w : Value), k ≠ i → ls[k]? = some (.val w) → w.category = 1 → ls'[k]? = some (.val w) := by
  have key : ∀ (k : Nat) (w : Value), ls[k]? = some (.val w) → lv_has ls nL [(k, w)] := fun k w h => ⟨hs, hw, fun q hq => by rw [List.mem_singleton.mp hq]; exact h⟩
  obtain ⟨ls', e', h'⟩ := lv_store1 (ls := ls) (nL := nL) (l := []) (v := v) ⟨hs, hw, fun q hq => by cases hq⟩ hi hc
  refine ⟨ls', e', h'.1, h'.2.1, h'.2.2 (i, v) List.mem_cons_self, fun k w hk hl hcw => ?_⟩
  obtain ⟨ls2, e2, h2⟩ := lv_store1 (v := v) (key k w hl) hi hc
  rw [e'] at e2
  cases e2
  refine h2.2.2 (k, w) (List.mem_cons_of_mem _ (List.mem_filter.mpr ⟨List.mem_singleton.mpr rfl, ?_⟩))
  simp [hk, hcw]
end FM
end
section
/-! Int32 in whole numbers: every operation up to a multiple of 2^32. -/
theorem zi_rng (x : Int32) : -2147483648 ≤ x.toInt ∧ x.toInt ≤ 2147483647 := by
  have h1 := Int32.le_toInt x
  have h2 := Int32.toInt_lt x
  omega
theorem zi_bm (z : Int) : ∃ k : Int, z.bmod (2 ^ 32) = z + 4294967296 * k := by
  have h : z.bmod (2 ^ 32) = if z % 4294967296 < 2147483648 then z % 4294967296 else z % 4294967296 - 4294967296 := by
    simp [Int.bmod]
  rw [h]
  by_cases hc : z % 4294967296 < 2147483648
  · rw [if_pos hc]
    exact ⟨-(z / 4294967296), by omega⟩
  · rw [if_neg hc]
    exact ⟨-(z / 4294967296) - 1, by omega⟩
theorem zi_add (x y : Int32) : ∃ k : Int, (x + y).toInt = x.toInt + y.toInt + 4294967296 * k := by
  rw [Int32.toInt_add]
  exact zi_bm _
theorem zi_sub (x y : Int32) : ∃ k : Int, (x - y).toInt = x.toInt - y.toInt + 4294967296 * k := by
  rw [Int32.toInt_sub]
  exact zi_bm _
theorem zi_mul (x y : Int32) : ∃ k : Int, (x * y).toInt = x.toInt * y.toInt + 4294967296 * k := by
  rw [Int32.toInt_mul]
  exact zi_bm _
theorem zi_inj {x y : Int32} (h : x.toInt = y.toInt) : x = y := Int32.toInt_inj.mp h
theorem zi_of {z : Int} (h1 : -2147483648 ≤ z) (h2 : z ≤ 2147483647) : (Int32.ofInt z).toInt = z := Int32.toInt_ofInt_of_le (by omega) (by omega)
theorem zi_lt {x y : Int32} : x < y ↔ x.toInt < y.toInt := Int32.lt_iff_toInt_lt
theorem zi_le {x y : Int32} : x ≤ y ↔ x.toInt ≤ y.toInt := Int32.le_iff_toInt_le
theorem zi_0 : (0 : Int32).toInt = 0 := rfl
theorem zi_1 : (1 : Int32).toInt = 1 := rfl
theorem zi_nat {x : Int32} (h : 0 ≤ x.toInt) : x.toInt = (x.toBitVec.toNat : Int) := by
  have h1 : x.toInt = x.toBitVec.toInt := rfl
  rw [h1] at h ⊢
  rw [BitVec.toInt_eq_toNat_cond] at h ⊢
  have := x.toBitVec.isLt
  split
  · rfl
  · rename_i hc
    rw [if_neg hc] at h
    omega
theorem zi_ofnat {x : Int32} (h : x.toBitVec.toNat < 2147483648) : x.toInt = (x.toBitVec.toNat : Int) := by
  have h1 : x.toInt = x.toBitVec.toInt := rfl
  rw [h1, BitVec.toInt_eq_toNat_cond, if_pos (by omega)]
theorem zi_and {x y : Int32} (h : 0 ≤ y.toInt) : 0 ≤ (x &&& y).toInt ∧ (x &&& y).toInt ≤ y.toInt := by
  have hy := zi_nat h
  have hr := zi_rng y
  have h1 : (x &&& y).toBitVec.toNat = x.toBitVec.toNat &&& y.toBitVec.toNat := by
    rw [Int32.toBitVec_and, BitVec.toNat_and]
  have h2 : (x &&& y).toBitVec.toNat ≤ y.toBitVec.toNat := by rw [h1]; exact Nat.and_le_right
  have h3 := zi_ofnat (x := x &&& y) (by omega)
  omega
theorem zi_and' {x y : Int32} (h : 0 ≤ x.toInt) : 0 ≤ (x &&& y).toInt ∧ (x &&& y).toInt ≤ x.toInt := by
  have hy := zi_nat h
  have hr := zi_rng x
  have h1 : (x &&& y).toBitVec.toNat = x.toBitVec.toNat &&& y.toBitVec.toNat := by
    rw [Int32.toBitVec_and, BitVec.toNat_and]
  have h2 : (x &&& y).toBitVec.toNat ≤ x.toBitVec.toNat := by rw [h1]; exact Nat.and_le_left
  have h3 := zi_ofnat (x := x &&& y) (by omega)
  omega
theorem zi_bit {x : Int32} (h1 : 0 ≤ x.toInt) (h2 : x.toInt ≤ 1) : x = 0 ∨ x = 1 := by
  rcases (show x.toInt = 0 ∨ x.toInt = 1 by omega) with h | h
  · exact Or.inl (zi_inj h)
  · exact Or.inr (zi_inj h)
theorem zi_or {x y : Int32} (h1 : 0 ≤ x.toInt) (h2 : x.toInt ≤ 1) (h3 : 0 ≤ y.toInt) (h4 : y.toInt ≤ 1) : 0 ≤ (x ||| y).toInt ∧ (x ||| y).toInt ≤ 1 := by
  rcases zi_bit h1 h2 with rfl | rfl <;> rcases zi_bit h3 h4 with rfl | rfl <;> decide
theorem zi_clamp {x : Int32} : x.toNatClampNeg = x.toInt.toNat := rfl
theorem zi_in {x : Int32} {n : Nat} (h1 : 0 ≤ x.toInt) (h2 : x.toInt < n) : vp_in x n := vp_in_iff.mpr ⟨h1, h2⟩
theorem zi_b8 (x : Int32) : -128 ≤ (x.toInt8.toInt32).toInt ∧ (x.toInt8.toInt32).toInt ≤ 127 := by
  have h1 := Int8.le_toInt x.toInt8
  have h2 := Int8.toInt_lt x.toInt8
  rw [Int8.toInt_toInt32]
  omega
theorem zi_nb {x : Int32} (h1 : -128 ≤ x.toInt) (h2 : x.toInt ≤ 127) : vp_nar .byte x = x := by
  rw [vp_nar_byte]
  apply zi_inj
  rw [Int8.toInt_toInt32, Int32.toInt_toInt8]
  have h : x.toInt.bmod (2 ^ 8) = if x.toInt % 256 < 128 then x.toInt % 256 else x.toInt % 256 - 256 := by
    simp [Int.bmod]
  rw [h]
  split <;> omega
theorem zi_nz {x : Int32} (h1 : 0 ≤ x.toInt) (h2 : x.toInt ≤ 1) : vp_nar .boolean x = x := by
  rcases zi_bit h1 h2 with rfl | rfl <;> rfl
theorem zi_i64 (x : Int32) : x.toInt64.toInt = x.toInt := Int32.toInt_toInt64 x
end
section
/-! WHAT A PROGRAM KNOWS OF A PLACE IN A METHOD: locals, stack and some places of the world, by bounds. -/
/-- a variable: a local, or a place of the world (cell, index; an index from 5000 on: that of the local index - 5000) -/
abbrev rv_U : Type := Nat ⊕ (Nat × Nat)
/-- a value: 1 a number (1: not 0; bounds; variable + offset that it is; what holds if it isn't 0), 2 a reference to a cell, 3 a long -/
abbrev rv_A : Type := Nat × Nat × Int × Int × List (rv_U × Int) × List (rv_U × Int × Int)
/-- a fact of a place: bounds; bounds of its difference to what a place held at the method's start -/
abbrev rv_Fa : Type := (Nat × Nat) × Int × Int × List ((Nat × Nat) × Int × Int)
abbrev rv_S : Type := List rv_A × List rv_A × List rv_Fa
def rv_lx (ls : Array Slot) (k : Nat) : Int := match ls[k]? with
  | some (.val (.int y)) => y.toInt
  | _ => 0
def rv_ix (ls : Array Slot) (f : Nat) : Nat := if f < 5000 then f else (rv_lx ls (f - 5000)).toNat
def rv_uv (V : fm_V) (ls : Array Slot) (u : rv_U) : Int := match u with
  | .inl k => rv_lx ls k
  | .inr q => (V q.1 (rv_ix ls q.2)).toInt
theorem rv_lx_rng (ls : Array Slot) (k : Nat) : -2147483648 ≤ rv_lx ls k ∧ rv_lx ls k ≤ 2147483647 := by
  unfold rv_lx
  split
  · exact zi_rng _
  · omega
theorem rv_uv_rng (V : fm_V) (ls : Array Slot) (u : rv_U) : -2147483648 ≤ rv_uv V ls u ∧ rv_uv V ls u ≤ 2147483647 := by
  cases u with
  | inl k => exact rv_lx_rng ls k
  | inr q => exact zi_rng _
theorem rv_lx_at {ls : Array Slot} {k : Nat} {y : Int32} (h : ls[k]? = some (.val (.int y))) : rv_lx ls k = y.toInt := by
  unfold rv_lx
  rw [h]
def rv_l (a : rv_A) : Int := a.2.2.1
def rv_h (a : rv_A) : Int := a.2.2.2.1
def rv_al (a : rv_A) : List (rv_U × Int) := a.2.2.2.2.1
def rv_cs (a : rv_A) : List (rv_U × Int × Int) := a.2.2.2.2.2
def rv_oI (V : fm_V) (ls : Array Slot) (a : rv_A) (v : Value) : Prop := ∃ x : Int32, v = .int x ∧ rv_l a ≤ x.toInt ∧ x.toInt ≤ rv_h a ∧ (a.2.1 = 1 → x.toInt ≠ 0) ∧ (∀ q ∈ rv_al a, ∃ k : Int, x.toInt = rv_uv V ls q.1 + q.2 + 4294967296 * k) ∧ (x.toInt ≠ 0 → ∀ q ∈ rv_cs a, q.2.1 ≤ rv_uv V ls q.1 ∧ rv_uv V ls q.1 ≤ q.2.2)
def rv_oL (V : fm_V) (ls : Array Slot) (a : rv_A) (v : Value) : Prop := ∃ x : Int64, v = .long x ∧ rv_l a ≤ x.toInt ∧ x.toInt ≤ rv_h a ∧ (∀ q ∈ rv_al a, ∃ k : Int, x.toInt = rv_uv V ls q.1 + q.2 + 4294967296 * k)
def rv_ok (ad : Nat → Nat) (V : fm_V) (ls : Array Slot) (a : rv_A) (v : Value) : Prop := if a.1 = 1 then rv_oI V ls a v else if a.1 = 2 then v = .ref (ad a.2.1) else if a.1 = 3 then rv_oL V ls a v else False
def rv_lok (ad : Nat → Nat) (ls : Array Slot) (k : Nat) (a : rv_A) : Prop := if a.1 = 1 then ∃ y : Int32, ls[k]? = some (.val (.int y)) ∧ rv_l a ≤ y.toInt ∧ y.toInt ≤ rv_h a ∧ (a.2.1 = 1 → y.toInt ≠ 0) else if a.1 = 2 then ls[k]? = some (.val (.ref (ad a.2.1))) else True
def rv_fok (V0 V : fm_V) (ls : Array Slot) (q : rv_Fa) : Prop := (q.2.1 ≤ rv_uv V ls (.inr q.1) ∧ rv_uv V ls (.inr q.1) ≤ q.2.2.1) ∧ ∀ r ∈ q.2.2.2, r.2.1 ≤ rv_uv V ls (.inr q.1) - (V0 r.1.1 r.1.2).toInt ∧ rv_uv V ls (.inr q.1) - (V0 r.1.1 r.1.2).toInt ≤ r.2.2
def rv_sk (P : rv_A → Value → Prop) : List rv_A → List Value → Prop
  | [], [] => True
  | a :: as, v :: vs => P a v ∧ rv_sk P as vs
  | _, _ => False
theorem rv_sk_cons {P : rv_A → Value → Prop} {a : rv_A} {as : List rv_A} {st : List Value} (h : rv_sk P (a :: as) st) : ∃ v vs, st = v :: vs ∧ P a v ∧ rv_sk P as vs := by
  cases st with
  | nil => exact absurd h (by simp [rv_sk])
  | cons v vs => exact ⟨v, vs, rfl, h.1, h.2⟩
theorem rv_sk_nil {P : rv_A → Value → Prop} {st : List Value} (h : rv_sk P [] st) : st = [] := by
  cases st with
  | nil => rfl
  | cons v vs => exact absurd h (by simp [rv_sk])
theorem rv_sk_map {P P' : rv_A → Value → Prop} (f : rv_A → rv_A) (h : ∀ a v, P a v → P' (f a) v) : ∀ {as : List rv_A} {st : List Value}, rv_sk P as st → rv_sk P' (as.map f) st := by
  intro as
  induction as with
  | nil => intro st hs; rw [rv_sk_nil hs]; exact trivial
  | cons a as ih =>
    intro st hs
    obtain ⟨v, vs, rfl, h1, h2⟩ := rv_sk_cons hs
    exact ⟨h a v h1, ih h2⟩
theorem rv_sk_len {P : rv_A → Value → Prop} : ∀ {as : List rv_A} {st : List Value}, rv_sk P as st → st.length = as.length := by
  intro as
  induction as with
  | nil => intro st hs; rw [rv_sk_nil hs]; rfl
  | cons a as ih =>
    intro st hs
    obtain ⟨v, vs, rfl, h1, h2⟩ := rv_sk_cons hs
    simp [ih h2]
/-- what is known holds -/
def rv_G (ad : Nat → Nat) (V0 V : fm_V) (ls : Array Slot) (st : List Value) (G : rv_S) : Prop := (∀ (k : Nat) (a : rv_A), G.1[k]? = some a → rv_lok ad ls k a) ∧ rv_sk (rv_ok ad V ls) G.2.1 st ∧ ∀ q ∈ G.2.2, rv_fok V0 V ls q
theorem rv_okI {ad : Nat → Nat} {V : fm_V} {ls : Array Slot} {a : rv_A} {v : Value} (h1 : a.1 = 1) (h : rv_ok ad V ls a v) : rv_oI V ls a v := by
  unfold rv_ok at h
  rw [if_pos h1] at h
  exact h
theorem rv_okR {ad : Nat → Nat} {V : fm_V} {ls : Array Slot} {a : rv_A} {v : Value} (h1 : a.1 = 2) (h : rv_ok ad V ls a v) : v = .ref (ad a.2.1) := by
  unfold rv_ok at h
  rw [if_neg (by omega), if_pos h1] at h
  exact h
theorem rv_okL {ad : Nat → Nat} {V : fm_V} {ls : Array Slot} {a : rv_A} {v : Value} (h1 : a.1 = 3) (h : rv_ok ad V ls a v) : rv_oL V ls a v := by
  unfold rv_ok at h
  rw [if_neg (by omega), if_neg (by omega), if_pos h1] at h
  exact h
theorem rv_okI' {ad : Nat → Nat} {V : fm_V} {ls : Array Slot} {a : rv_A} {v : Value} (h1 : a.1 = 1) (h : rv_oI V ls a v) : rv_ok ad V ls a v := by
  unfold rv_ok
  rw [if_pos h1]
  exact h
theorem rv_okR' {ad : Nat → Nat} {V : fm_V} {ls : Array Slot} {a : rv_A} {v : Value} (h1 : a.1 = 2) (h : v = .ref (ad a.2.1)) : rv_ok ad V ls a v := by
  unfold rv_ok
  rw [if_neg (by omega), if_pos h1]
  exact h
theorem rv_okL' {ad : Nat → Nat} {V : fm_V} {ls : Array Slot} {a : rv_A} {v : Value} (h1 : a.1 = 3) (h : rv_oL V ls a v) : rv_ok ad V ls a v := by
  unfold rv_ok
  rw [if_neg (by omega), if_neg (by omega), if_pos h1]
  exact h
/-- a bare number -/
theorem rv_okB {ad : Nat → Nat} {V : fm_V} {ls : Array Slot} {lo hi : Int} {x : Int32} (h1 : lo ≤ x.toInt) (h2 : x.toInt ≤ hi) : rv_ok ad V ls (1, 0, lo, hi, [], []) (.int x) :=
  rv_okI' rfl ⟨x, rfl, h1, h2, fun h => absurd (show (0 : Nat) = 1 from h) (by decide), fun q h => absurd h List.not_mem_nil, fun _ q h => absurd h List.not_mem_nil⟩
theorem rv_ok_cat {ad : Nat → Nat} {V : fm_V} {ls : Array Slot} {a : rv_A} {v : Value} (h : rv_ok ad V ls a v) : v.category = if a.1 = 3 then 2 else 1 := by
  unfold rv_ok at h
  by_cases c1 : a.1 = 1
  · rw [if_pos c1] at h
    obtain ⟨x, rfl, -⟩ := h
    rw [if_neg (by omega)]
    rfl
  · rw [if_neg c1] at h
    by_cases c2 : a.1 = 2
    · rw [if_pos c2] at h
      rw [h, if_neg (by omega)]
      rfl
    · rw [if_neg c2] at h
      by_cases c3 : a.1 = 3
      · rw [if_pos c3] at h
        obtain ⟨x, rfl, -⟩ := h
        rw [if_pos c3]
        rfl
      · rw [if_neg c3] at h
        exact h.elim
/-! bounds of a number -/
def rv_nm (lo hi : Int) : Int × Int := if -2147483648 ≤ lo ∧ hi ≤ 2147483647 then (lo, hi) else (-2147483648, 2147483647)
theorem rv_nm_ok {lo hi z : Int} {w : Int32} {k : Int} (h1 : lo ≤ z) (h2 : z ≤ hi) (hw : w.toInt = z + 4294967296 * k) : (rv_nm lo hi).1 ≤ w.toInt ∧ w.toInt ≤ (rv_nm lo hi).2 := by
  have hr := zi_rng w
  unfold rv_nm
  by_cases c : -2147483648 ≤ lo ∧ hi ≤ 2147483647
  · rw [if_pos c]
    dsimp only
    omega
  · rw [if_neg c]
    exact hr
def rv_full : rv_A := (1, 0, -2147483648, 2147483647, [], [])
theorem rv_full_ok {ad : Nat → Nat} {V : fm_V} {ls : Array Slot} (x : Int32) : rv_ok ad V ls rv_full (.int x) := rv_okB (zi_rng x).1 (zi_rng x).2
def rv_mv (al : List (rv_U × Int)) (n : Int) : List (rv_U × Int) := al.map (fun q => (q.1, q.2 + n))
/-- two numbers: 0 add, 1 sub, 2 mul, 3 and, 4 or, 5 any other, from 6 on: one that wants the second not to be 0 -/
def rv_bin (op : Nat) (a b : rv_A) : Option rv_A :=
  if a.1 = 1 ∧ b.1 = 1 then
    match op with
    | 0 => some (1, 0, (rv_nm (rv_l a + rv_l b) (rv_h a + rv_h b)).1, (rv_nm (rv_l a + rv_l b) (rv_h a + rv_h b)).2, (if rv_l b = rv_h b then rv_mv (rv_al a) (rv_l b) else if rv_l a = rv_h a then rv_mv (rv_al b) (rv_l a) else []), [])
    | 1 => some (1, 0, (rv_nm (rv_l a - rv_h b) (rv_h a - rv_l b)).1, (rv_nm (rv_l a - rv_h b) (rv_h a - rv_l b)).2, (if rv_l b = rv_h b then rv_mv (rv_al a) (-rv_l b) else []), [])
    | 2 => if rv_l b = rv_h b ∧ 0 ≤ rv_l b then some (1, 0, (rv_nm (rv_l a * rv_l b) (rv_h a * rv_l b)).1, (rv_nm (rv_l a * rv_l b) (rv_h a * rv_l b)).2, [], [])
      else if rv_l a = rv_h a ∧ 0 ≤ rv_l a then some (1, 0, (rv_nm (rv_l b * rv_l a) (rv_h b * rv_l a)).1, (rv_nm (rv_l b * rv_l a) (rv_h b * rv_l a)).2, [], [])
      else some rv_full
    | 3 => if 0 ≤ rv_l b then some (1, 0, 0, rv_h b, [], []) else if 0 ≤ rv_l a then some (1, 0, 0, rv_h a, [], []) else some rv_full
    | 4 => if (0 ≤ rv_l a ∧ rv_h a ≤ 1) ∧ 0 ≤ rv_l b ∧ rv_h b ≤ 1 then some (1, 0, 0, 1, [], []) else some rv_full
    | 5 => some rv_full
    | _ => if b.2.1 = 1 ∨ 0 < rv_l b ∨ rv_h b < 0 then some rv_full else none
  else none
def rv_rel (op : Nat) (x y z : Int32) : Prop := match op with
  | 0 => z = x + y
  | 1 => z = x - y
  | 2 => z = x * y
  | 3 => z = x &&& y
  | 4 => z = x ||| y
  | _ => True
theorem rv_mul_bd {a b c z : Int} (h0 : 0 ≤ c) (h1 : a ≤ z) (h2 : z ≤ b) : a * c ≤ z * c ∧ z * c ≤ b * c := ⟨Int.mul_le_mul_of_nonneg_right h1 h0, Int.mul_le_mul_of_nonneg_right h2 h0⟩
theorem rv_bin_ok {ad : Nat → Nat} {V : fm_V} {ls : Array Slot} {op : Nat} {a b r : rv_A} {va vb : Value} (h : rv_bin op a b = some r) (ha : rv_ok ad V ls a va) (hb : rv_ok ad V ls b vb) : ∃ x y : Int32, va = .int x ∧ vb = .int y ∧ (6 ≤ op → ¬ y = 0) ∧ ∀ z : Int32, rv_rel op x y z → rv_ok ad V ls r (.int z) := by
  unfold rv_bin at h
  by_cases c : a.1 = 1 ∧ b.1 = 1
  · rw [if_pos c] at h
    obtain ⟨x, rfl, x1, x2, x3, x4, x5⟩ := rv_okI c.1 ha
    obtain ⟨y, rfl, y1, y2, y3, y4, y5⟩ := rv_okI c.2 hb
    refine ⟨x, y, rfl, rfl, ?_, ?_⟩
    · intro h6
      match op, h6, h with
      | n + 6, _, h =>
        by_cases d : b.2.1 = 1 ∨ 0 < rv_l b ∨ rv_h b < 0
        · intro e
          have e0 : y.toInt = 0 := by rw [e]; rfl
          rcases d with d | d | d
          · exact y3 d e0
          · omega
          · omega
        · rw [if_neg d] at h
          cases h
    · intro z hz
      match op, h, hz with
      | 0, h, hz =>
        cases h
        obtain ⟨k, hk⟩ := zi_add x y
        have hz' : z.toInt = x.toInt + y.toInt + 4294967296 * k := by rw [show z = x + y from hz]; exact hk
        obtain ⟨b1, b2⟩ := rv_nm_ok (lo := rv_l a + rv_l b) (hi := rv_h a + rv_h b) (by omega) (by omega) hz'
        refine rv_okI' rfl ⟨z, rfl, b1, b2, fun q => absurd (show (0 : Nat) = 1 from q) (by decide), fun q hq => ?_, fun _ q hq => absurd hq List.not_mem_nil⟩
        simp only [rv_al] at hq
        by_cases d : rv_l b = rv_h b
        · rw [if_pos d] at hq
          obtain ⟨q0, hq0, rfl⟩ := List.mem_map.mp hq
          obtain ⟨k0, e0⟩ := x4 q0 hq0
          exact ⟨k + k0, by dsimp only; omega⟩
        · rw [if_neg d] at hq
          by_cases d2 : rv_l a = rv_h a
          · rw [if_pos d2] at hq
            obtain ⟨q0, hq0, rfl⟩ := List.mem_map.mp hq
            obtain ⟨k0, e0⟩ := y4 q0 hq0
            exact ⟨k + k0, by dsimp only; omega⟩
          · rw [if_neg d2] at hq
            cases hq
      | 1, h, hz =>
        cases h
        obtain ⟨k, hk⟩ := zi_sub x y
        have hz' : z.toInt = x.toInt - y.toInt + 4294967296 * k := by rw [show z = x - y from hz]; exact hk
        obtain ⟨b1, b2⟩ := rv_nm_ok (lo := rv_l a - rv_h b) (hi := rv_h a - rv_l b) (by omega) (by omega) hz'
        refine rv_okI' rfl ⟨z, rfl, b1, b2, fun q => absurd (show (0 : Nat) = 1 from q) (by decide), fun q hq => ?_, fun _ q hq => absurd hq List.not_mem_nil⟩
        simp only [rv_al] at hq
        by_cases d : rv_l b = rv_h b
        · rw [if_pos d] at hq
          obtain ⟨q0, hq0, rfl⟩ := List.mem_map.mp hq
          obtain ⟨k0, e0⟩ := x4 q0 hq0
          exact ⟨k + k0, by dsimp only; omega⟩
        · rw [if_neg d] at hq
          cases hq
      | 2, h, hz =>
        obtain ⟨k, hk⟩ := zi_mul x y
        have hz' : z.toInt = x.toInt * y.toInt + 4294967296 * k := by rw [show z = x * y from hz]; exact hk
        by_cases d : rv_l b = rv_h b ∧ 0 ≤ rv_l b
        · rw [if_pos d] at h
          cases h
          have ey : y.toInt = rv_l b := by omega
          rw [ey] at hz'
          obtain ⟨m1, m2⟩ := rv_mul_bd d.2 x1 x2
          obtain ⟨b1, b2⟩ := rv_nm_ok m1 m2 hz'
          exact rv_okB b1 b2
        · rw [if_neg d] at h
          by_cases d2 : rv_l a = rv_h a ∧ 0 ≤ rv_l a
          · rw [if_pos d2] at h
            cases h
            have ex : x.toInt = rv_l a := by omega
            rw [ex, Int.mul_comm] at hz'
            obtain ⟨m1, m2⟩ := rv_mul_bd d2.2 y1 y2
            obtain ⟨b1, b2⟩ := rv_nm_ok m1 m2 hz'
            exact rv_okB b1 b2
          · rw [if_neg d2] at h
            cases h
            exact rv_full_ok z
      | 3, h, hz =>
        have hz' : z = x &&& y := hz
        by_cases d : 0 ≤ rv_l b
        · rw [if_pos d] at h
          cases h
          obtain ⟨b1, b2⟩ := zi_and (x := x) (y := y) (by omega)
          rw [hz']
          exact rv_okB b1 (by omega)
        · rw [if_neg d] at h
          by_cases d2 : 0 ≤ rv_l a
          · rw [if_pos d2] at h
            cases h
            obtain ⟨b1, b2⟩ := zi_and' (x := x) (y := y) (by omega)
            rw [hz']
            exact rv_okB b1 (by omega)
          · rw [if_neg d2] at h
            cases h
            exact rv_full_ok z
      | 4, h, hz =>
        have hz' : z = x ||| y := hz
        by_cases d : (0 ≤ rv_l a ∧ rv_h a ≤ 1) ∧ 0 ≤ rv_l b ∧ rv_h b ≤ 1
        · rw [if_pos d] at h
          cases h
          obtain ⟨b1, b2⟩ := zi_or (x := x) (y := y) (by omega) (by omega) (by omega) (by omega)
          rw [hz']
          exact rv_okB b1 b2
        · rw [if_neg d] at h
          cases h
          exact rv_full_ok z
      | 5, h, hz =>
        cases h
        exact rv_full_ok z
      | n + 6, h, hz =>
        by_cases d : b.2.1 = 1 ∨ 0 < rv_l b ∨ rv_h b < 0
        · rw [if_pos d] at h
          cases h
          exact rv_full_ok z
        · rw [if_neg d] at h
          cases h
  · rw [if_neg c] at h
    cases h
end
section
/-! Narrowing what is known, and what stays known behind a store. -/
def rv_mx (a b : Int) : Int := if a ≤ b then b else a
def rv_mn (a b : Int) : Int := if a ≤ b then a else b
theorem rv_mx_le {a b z : Int} (h1 : a ≤ z) (h2 : b ≤ z) : rv_mx a b ≤ z := by
  unfold rv_mx
  split <;> assumption
theorem rv_le_mn {a b z : Int} (h1 : z ≤ a) (h2 : z ≤ b) : z ≤ rv_mn a b := by
  unfold rv_mn
  split <;> assumption
def rv_frf (q : Nat × Nat) (lo hi : Int) : List rv_Fa → List rv_Fa
  | [] => [(q, lo, hi, [])]
  | f :: F => if f.1 = q then (q, rv_mx f.2.1 lo, rv_mn f.2.2.1 hi, f.2.2.2) :: F else f :: rv_frf q lo hi F
theorem rv_frf_ok {V0 V : fm_V} {ls : Array Slot} {q : Nat × Nat} {lo hi : Int} (h1 : lo ≤ rv_uv V ls (.inr q)) (h2 : rv_uv V ls (.inr q) ≤ hi) : ∀ {F : List rv_Fa}, (∀ f ∈ F, rv_fok V0 V ls f) → ∀ f ∈ rv_frf q lo hi F, rv_fok V0 V ls f := by
  intro F
  induction F with
  | nil =>
    intro _ f hf
    rw [List.mem_singleton.mp (show f ∈ [(q, lo, hi, [])] from hf)]
    exact ⟨⟨h1, h2⟩, fun r hr => absurd hr List.not_mem_nil⟩
  | cons g F ih =>
    intro hF f hf
    unfold rv_frf at hf
    have hg := hF g List.mem_cons_self
    have hF' : ∀ f ∈ F, rv_fok V0 V ls f := fun f h => hF f (List.mem_cons_of_mem _ h)
    by_cases c : g.1 = q
    · rw [if_pos c] at hf
      rcases List.mem_cons.mp hf with e | h
      · rw [e]
        have hg2 := hg.2
        have hg1 := hg.1
        rw [c] at hg1 hg2
        exact ⟨⟨rv_mx_le hg1.1 h1, rv_le_mn hg1.2 h2⟩, hg2⟩
      · exact hF' f h
    · rw [if_neg c] at hf
      rcases List.mem_cons.mp hf with e | h
      · rw [e]; exact hg
      · exact ih hF' f h
def rv_rf (G : rv_S) (u : rv_U) (lo hi : Int) (nz : Bool) : rv_S := match u with
  | .inl k => match G.1[k]? with
    | some a => if a.1 = 1 then (G.1.set k (1, (if nz = true then 1 else a.2.1), rv_mx (rv_l a) lo, rv_mn (rv_h a) hi, [], []), G.2) else G
    | none => G
  | .inr q => (G.1, G.2.1, rv_frf q lo hi G.2.2)
theorem rv_rf_ok {ad : Nat → Nat} {V0 V : fm_V} {ls : Array Slot} {st : List Value} {G : rv_S} {u : rv_U} {lo hi : Int} {nz : Bool} (h : rv_G ad V0 V ls st G) (h1 : lo ≤ rv_uv V ls u) (h2 : rv_uv V ls u ≤ hi) (h3 : nz = true → rv_uv V ls u ≠ 0) : rv_G ad V0 V ls st (rv_rf G u lo hi nz) := by
  cases u with
  | inr q => exact ⟨h.1, h.2.1, rv_frf_ok h1 h2 h.2.2⟩
  | inl k =>
    show rv_G ad V0 V ls st (match G.1[k]? with
      | some a => if a.1 = 1 then (G.1.set k (1, (if nz = true then 1 else a.2.1), rv_mx (rv_l a) lo, rv_mn (rv_h a) hi, [], []), G.2) else G
      | none => G)
    cases hk : G.1[k]? with
    | none => exact h
    | some a =>
      dsimp only
      by_cases c : a.1 = 1
      · rw [if_pos c]
        refine ⟨fun j b hb => ?_, h.2.1, h.2.2⟩
        dsimp only at hb
        rw [List.getElem?_set] at hb
        by_cases hj : k = j
        · subst hj
          rw [if_pos rfl, if_pos (List.getElem?_eq_some_iff.mp hk).1] at hb
          cases hb
          have ha := h.1 k a hk
          unfold rv_lok at ha ⊢
          rw [if_pos c] at ha
          rw [if_pos rfl]
          obtain ⟨y, y1, y2, y3, y4⟩ := ha
          have ey : rv_uv V ls (.inl k) = y.toInt := rv_lx_at y1
          rw [ey] at h1 h2 h3
          refine ⟨y, y1, rv_mx_le y2 h1, rv_le_mn y3 h2, fun q => ?_⟩
          cases nz with
          | true => exact h3 rfl
          | false => exact y4 q
        · rw [if_neg hj] at hb
          exact h.1 j b hb
      · rw [if_neg c]
        exact h
def rv_rfA (nl nh : Int) (nz : Bool) : List (rv_U × Int) → rv_S → rv_S
  | [], G => G
  | q :: al, G => rv_rfA nl nh nz al (if -2147483648 ≤ nl - q.2 ∧ nh - q.2 ≤ 2147483647 then rv_rf G q.1 (nl - q.2) (nh - q.2) (nz && decide (q.2 = 0)) else G)
theorem rv_rfA_ok {ad : Nat → Nat} {V0 V : fm_V} {ls : Array Slot} {st : List Value} {nl nh z : Int} {nz : Bool} (h1 : nl ≤ z) (h2 : z ≤ nh) (h3 : nz = true → z ≠ 0) : ∀ {al : List (rv_U × Int)} {G : rv_S}, (∀ q ∈ al, ∃ k : Int, z = rv_uv V ls q.1 + q.2 + 4294967296 * k) → rv_G ad V0 V ls st G → rv_G ad V0 V ls st (rv_rfA nl nh nz al G) := by
  intro al
  induction al with
  | nil => intro G _ h; exact h
  | cons q al ih =>
    intro G hal h
    unfold rv_rfA
    refine ih (fun q hq => hal q (List.mem_cons_of_mem _ hq)) ?_
    by_cases c : -2147483648 ≤ nl - q.2 ∧ nh - q.2 ≤ 2147483647
    · rw [if_pos c]
      obtain ⟨k, hk⟩ := hal q List.mem_cons_self
      have hr := rv_uv_rng V ls q.1
      have e : rv_uv V ls q.1 = z - q.2 := by omega
      refine rv_rf_ok h (by omega) (by omega) (fun hz => ?_)
      simp only [Bool.and_eq_true, decide_eq_true_eq] at hz
      have := h3 hz.1
      omega
    · rw [if_neg c]
      exact h
def rv_rfC : List (rv_U × Int × Int) → rv_S → rv_S
  | [], G => G
  | q :: cs, G => rv_rfC cs (rv_rf G q.1 q.2.1 q.2.2 false)
theorem rv_rfC_ok {ad : Nat → Nat} {V0 V : fm_V} {ls : Array Slot} {st : List Value} : ∀ {cs : List (rv_U × Int × Int)} {G : rv_S}, (∀ q ∈ cs, q.2.1 ≤ rv_uv V ls q.1 ∧ rv_uv V ls q.1 ≤ q.2.2) → rv_G ad V0 V ls st G → rv_G ad V0 V ls st (rv_rfC cs G) := by
  intro cs
  induction cs with
  | nil => intro G _ h; exact h
  | cons q cs ih =>
    intro G hcs h
    unfold rv_rfC
    have hq := hcs q List.mem_cons_self
    exact ih (fun q hq => hcs q (List.mem_cons_of_mem _ hq)) (rv_rf_ok h hq.1 hq.2 (fun e => by cases e))
def rv_cmp (c : Nat) (l1 h1 l2 h2 : Int) : Int × Int × Int × Int := match c with
  | 0 => (rv_mx l1 l2, rv_mn h1 h2, rv_mx l1 l2, rv_mn h1 h2)
  | 1 => ((if l2 = h2 ∧ l1 = l2 then l1 + 1 else l1), (if l2 = h2 ∧ h1 = l2 then h1 - 1 else h1), (if l1 = h1 ∧ l2 = l1 then l2 + 1 else l2), (if l1 = h1 ∧ h2 = l1 then h2 - 1 else h2))
  | 2 => (l1, rv_mn h1 (h2 - 1), rv_mx l2 (l1 + 1), h2)
  | 3 => (rv_mx l1 l2, h1, l2, rv_mn h2 h1)
  | 4 => (rv_mx l1 (l2 + 1), h1, l2, rv_mn h2 (h1 - 1))
  | _ => (l1, rv_mn h1 h2, rv_mx l2 l1, h2)
def rv_cR (c : Nat) (x y : Int) : Prop := match c with
  | 0 => x = y
  | 1 => ¬ x = y
  | 2 => x < y
  | 3 => y ≤ x
  | 4 => y < x
  | _ => x ≤ y
theorem rv_cmp_ok {c : Nat} {l1 h1 l2 h2 x y : Int} (a1 : l1 ≤ x) (a2 : x ≤ h1) (b1 : l2 ≤ y) (b2 : y ≤ h2) (hc : rv_cR c x y) : ((rv_cmp c l1 h1 l2 h2).1 ≤ x ∧ x ≤ (rv_cmp c l1 h1 l2 h2).2.1) ∧ (rv_cmp c l1 h1 l2 h2).2.2.1 ≤ y ∧ y ≤ (rv_cmp c l1 h1 l2 h2).2.2.2 := by
  match c, hc with
  | 0, hc =>
    have hc : x = y := hc
    subst hc
    exact ⟨⟨rv_mx_le a1 b1, rv_le_mn a2 b2⟩, rv_mx_le a1 b1, rv_le_mn a2 b2⟩
  | 1, hc =>
    have hc : ¬ x = y := hc
    simp only [rv_cmp]
    refine ⟨⟨?_, ?_⟩, ?_, ?_⟩ <;> split <;> omega
  | 2, hc =>
    have hc : x < y := hc
    exact ⟨⟨a1, rv_le_mn a2 (by omega)⟩, rv_mx_le b1 (by omega), b2⟩
  | 3, hc =>
    have hc : y ≤ x := hc
    exact ⟨⟨rv_mx_le a1 (by omega), a2⟩, b1, rv_le_mn b2 (by omega)⟩
  | 4, hc =>
    have hc : y < x := hc
    exact ⟨⟨rv_mx_le a1 (by omega), a2⟩, b1, rv_le_mn b2 (by omega)⟩
  | n + 5, hc =>
    have hc : x ≤ y := hc
    exact ⟨⟨a1, rv_le_mn a2 (by omega)⟩, rv_mx_le b1 (by omega), b2⟩
/-- a local that can't have a value -/
def rv_emp (L : List rv_A) : Bool := L.any (fun a => decide (a.1 = 1) && decide (rv_h a < rv_l a))
theorem rv_emp_no {ad : Nat → Nat} {ls : Array Slot} {L : List rv_A} (h : ∀ (k : Nat) (a : rv_A), L[k]? = some a → rv_lok ad ls k a) : rv_emp L = false := by
  cases hb : rv_emp L with
  | false => rfl
  | true =>
    simp only [rv_emp, List.any_eq_true, Bool.and_eq_true, decide_eq_true_eq] at hb
    obtain ⟨a, a1, a2, a3⟩ := hb
    obtain ⟨k, hk⟩ := List.getElem?_of_mem a1
    have h1 := h k a hk
    unfold rv_lok at h1
    rw [if_pos a2] at h1
    obtain ⟨y, -, y2, y3, -⟩ := h1
    omega
def rv_br0 (c : Nat) (a b : rv_A) (G : rv_S) : rv_S := rv_rfA (rv_cmp c (rv_l a) (rv_h a) (rv_l b) (rv_h b)).2.2.1 (rv_cmp c (rv_l a) (rv_h a) (rv_l b) (rv_h b)).2.2.2 false (rv_al b)
    (rv_rfA (rv_cmp c (rv_l a) (rv_h a) (rv_l b) (rv_h b)).1 (rv_cmp c (rv_l a) (rv_h a) (rv_l b) (rv_h b)).2.1 (decide (c = 1 ∧ rv_l b = 0 ∧ rv_h b = 0)) (rv_al a)
      (if c = 1 ∧ rv_l b = 0 ∧ rv_h b = 0 then rv_rfC (rv_cs a) G else G))
/-- what is known where a comparison holds; none: it can't hold -/
def rv_br (c : Nat) (a b : rv_A) (G : rv_S) : Option rv_S :=
  if (rv_cmp c (rv_l a) (rv_h a) (rv_l b) (rv_h b)).1 ≤ (rv_cmp c (rv_l a) (rv_h a) (rv_l b) (rv_h b)).2.1 ∧ (rv_cmp c (rv_l a) (rv_h a) (rv_l b) (rv_h b)).2.2.1 ≤ (rv_cmp c (rv_l a) (rv_h a) (rv_l b) (rv_h b)).2.2.2
  then (if rv_emp (rv_br0 c a b G).1 = true then none else some (rv_br0 c a b G))
  else none
theorem rv_br_ok {ad : Nat → Nat} {V0 V : fm_V} {ls : Array Slot} {st : List Value} {G : rv_S} {c : Nat} {a b : rv_A} {va vb : Value} {x y : Int32} (ha : rv_oI V ls a (.int x)) (hb : rv_oI V ls b (.int y)) (hc : rv_cR c x.toInt y.toInt) (h : rv_G ad V0 V ls st G) : ∃ G', rv_br c a b G = some G' ∧ rv_G ad V0 V ls st G' := by
  obtain ⟨x', ex, x1, x2, x3, x4, x5⟩ := ha
  cases ex
  obtain ⟨y', ey, y1, y2, y3, y4, y5⟩ := hb
  cases ey
  obtain ⟨⟨b1, b2⟩, b3, b4⟩ := rv_cmp_ok x1 x2 y1 y2 hc
  have hG : rv_G ad V0 V ls st (rv_br0 c a b G) := by
    refine rv_rfA_ok b3 b4 (fun e => by cases e) y4 (rv_rfA_ok b1 b2 (fun e => ?_) x4 ?_)
    · have e := of_decide_eq_true e
      obtain ⟨rfl, e1, e2⟩ := e
      have hc : ¬ x.toInt = y.toInt := hc
      omega
    · by_cases d : c = 1 ∧ rv_l b = 0 ∧ rv_h b = 0
      · rw [if_pos d]
        obtain ⟨rfl, e1, e2⟩ := d
        have hc : ¬ x.toInt = y.toInt := hc
        exact rv_rfC_ok (x5 (by omega)) h
      · rw [if_neg d]
        exact h
  unfold rv_br
  rw [if_pos ⟨by omega, by omega⟩, rv_emp_no hG.1, if_neg (by decide)]
  exact ⟨_, rfl, hG⟩
/-- the ways in which a comparison holds: 'not equal' below and above apart -/
def rv_one (c : Nat) (a b : rv_A) (G : rv_S) : List rv_S := if c = 1 ∧ rv_l b = rv_h b ∧ rv_l b ≠ 0 then (rv_br 2 a b G).toList ++ (rv_br 4 a b G).toList else (rv_br c a b G).toList
theorem rv_one_ok {ad : Nat → Nat} {V0 V : fm_V} {ls : Array Slot} {st : List Value} {G : rv_S} {c : Nat} {a b : rv_A} {x y : Int32} (ha : rv_oI V ls a (.int x)) (hb : rv_oI V ls b (.int y)) (hc : rv_cR c x.toInt y.toInt) (h : rv_G ad V0 V ls st G) : ∃ G' ∈ rv_one c a b G, rv_G ad V0 V ls st G' := by
  unfold rv_one
  by_cases d : c = 1 ∧ rv_l b = rv_h b ∧ rv_l b ≠ 0
  · rw [if_pos d]
    obtain ⟨rfl, -, -⟩ := d
    have hc : ¬ x.toInt = y.toInt := hc
    rcases Int.lt_or_gt_of_ne hc with hl | hg
    · obtain ⟨g, g1, g2⟩ := rv_br_ok (c := 2) (va := .int x) (vb := .int y) ha hb hl h
      exact ⟨g, List.mem_append_left _ (by rw [g1]; exact List.mem_singleton.mpr rfl), g2⟩
    · obtain ⟨g, g1, g2⟩ := rv_br_ok (c := 4) (va := .int x) (vb := .int y) ha hb hg h
      exact ⟨g, List.mem_append_right _ (by rw [g1]; exact List.mem_singleton.mpr rfl), g2⟩
  · rw [if_neg d]
    obtain ⟨g, g1, g2⟩ := rv_br_ok (va := .int x) (vb := .int y) ha hb hc h
    exact ⟨g, by rw [g1]; exact List.mem_singleton.mpr rfl, g2⟩
/-! what is forgotten -/
def rv_dA (d : rv_U → Bool) (a : rv_A) : rv_A := (a.1, a.2.1, rv_l a, rv_h a, (rv_al a).filter (fun q => !d q.1), (rv_cs a).filter (fun q => !d q.1))
theorem rv_dA_ok {ad : Nat → Nat} {V V' : fm_V} {ls ls' : Array Slot} {d : rv_U → Bool} (hd : ∀ u, d u = false → rv_uv V' ls' u = rv_uv V ls u) (a : rv_A) (v : Value) (h : rv_ok ad V ls a v) : rv_ok ad V' ls' (rv_dA d a) v := by
  by_cases c1 : a.1 = 1
  · obtain ⟨x, rfl, x1, x2, x3, x4, x5⟩ := rv_okI c1 h
    refine rv_okI' c1 ⟨x, rfl, x1, x2, x3, fun q hq => ?_, fun hx q hq => ?_⟩
    · obtain ⟨q1, q2⟩ := List.mem_filter.mp hq
      rw [hd q.1 (by simpa using q2)]
      exact x4 q q1
    · obtain ⟨q1, q2⟩ := List.mem_filter.mp hq
      rw [hd q.1 (by simpa using q2)]
      exact x5 hx q q1
  · by_cases c2 : a.1 = 2
    · exact rv_okR' (a := rv_dA d a) c2 (show v = .ref (ad a.2.1) from rv_okR c2 h)
    · by_cases c3 : a.1 = 3
      · obtain ⟨x, rfl, x1, x2, x4⟩ := rv_okL c3 h
        refine rv_okL' c3 ⟨x, rfl, x1, x2, fun q hq => ?_⟩
        obtain ⟨q1, q2⟩ := List.mem_filter.mp hq
        rw [hd q.1 (by simpa using q2)]
        exact x4 q q1
      · unfold rv_ok at h
        rw [if_neg c1, if_neg c2, if_neg c3] at h
        exact h.elim
def rv_dF (d : rv_U → Bool) (F : List rv_Fa) : List rv_Fa := F.filter (fun f => !d (.inr f.1))
theorem rv_dF_ok {V0 V V' : fm_V} {ls ls' : Array Slot} {d : rv_U → Bool} (hd : ∀ u, d u = false → rv_uv V' ls' u = rv_uv V ls u) {F : List rv_Fa} (h : ∀ f ∈ F, rv_fok V0 V ls f) : ∀ f ∈ rv_dF d F, rv_fok V0 V' ls' f := by
  intro f hf
  obtain ⟨f1, f2⟩ := List.mem_filter.mp hf
  have e := hd (.inr f.1) (by simpa using f2)
  have h1 := h f f1
  unfold rv_fok at h1 ⊢
  rw [e]
  exact h1
/-- a local is stored -/
def rv_mk (k : Nat) (u : rv_U) : Bool := match u with
  | .inl j => decide (j = k)
  | .inr q => decide (q.2 = 5000 + k)
theorem rv_mk_ok {V : fm_V} {ls ls' : Array Slot} {k : Nat} (h : ∀ j, j ≠ k → rv_lx ls' j = rv_lx ls j) : ∀ u, rv_mk k u = false → rv_uv V ls' u = rv_uv V ls u := by
  intro u hu
  cases u with
  | inl j => exact h j (by simpa [rv_mk] using hu)
  | inr q =>
    have hq : q.2 ≠ 5000 + k := by simpa [rv_mk] using hu
    show (V q.1 (rv_ix ls' q.2)).toInt = (V q.1 (rv_ix ls q.2)).toInt
    have e : rv_ix ls' q.2 = rv_ix ls q.2 := by
      unfold rv_ix
      by_cases c : q.2 < 5000
      · rw [if_pos c, if_pos c]
      · rw [if_neg c, if_neg c, h _ (by omega)]
    rw [e]
def rv_bare (a : rv_A) : rv_A := (a.1, a.2.1, rv_l a, rv_h a, [], [])
def rv_st (k : Nat) (a : rv_A) (G : rv_S) : rv_S := (G.1.set k (rv_bare a), G.2.1.map (rv_dA (rv_mk k)), rv_dF (rv_mk k) G.2.2)
/-- the locals behind a store -/
def rv_sto (ls ls' : Array Slot) (i : Nat) (v : Value) : Prop := ls'.size = ls.size ∧ lv_wf ls' ∧ ls'[i]? = some (.val v) ∧ (∀ (k : Nat) (w : Value), k ≠ i → ls[k]? = some (.val w) → w.category = 1 → ls'[k]? = some (.val w)) ∧ ∀ j, j ≠ i → rv_lx ls' j = rv_lx ls j
theorem rv_sto_of {ls : Array Slot} {i : Nat} {v : Value} (hw : lv_wf ls) (hi : i < ls.size) (hc : v.category = 1) : ∃ ls', storeLocals ls i v = some ls' ∧ rv_sto ls ls' i v := by
  obtain ⟨l1, c1, c2, c3⟩ := lv_clean v hw hi
  obtain ⟨l2, d1, d2, d3⟩ := lv_set (l := l1) (i := i) (.val v) (by omega)
  have e1 : storeLocals ls i v = some l2 := by
    rw [c1]
    simp [storeSelf, hc, d1]
  obtain ⟨ls', e', f1, f2, f3, f4⟩ := fm_sto (nL := ls.size) rfl hw hi hc
  rw [e1] at e'
  cases e'
  refine ⟨l2, e1, f1, f2, f3, f4, fun j hj => ?_⟩
  have g : l2[j]? = l1[j]? := by rw [d3 j, if_neg hj]
  unfold rv_lx
  rw [g, c3 j]
  by_cases c : (j + 1 = i ∧ ls[i]? = some .second) ∨ (j = i + 1 ∧ ls[j]? = some .second)
  · rw [if_pos c]
    rcases c with ⟨q1, q2⟩ | ⟨q1, q2⟩
    · obtain ⟨j', w, r1, r2, r3⟩ := hw.2 i q2
      have : j' = j := by omega
      subst this
      rw [r2]
      cases w <;> first | rfl | (exact absurd r3 (by simp [Value.category]))
    · rw [q2]
  · rw [if_neg c]
theorem rv_st_ok {ad : Nat → Nat} {V0 V : fm_V} {ls ls' : Array Slot} {v : Value} {st : List Value} {G : rv_S} {k : Nat} {a : rv_A} (hs : rv_sto ls ls' k v) (ha : rv_ok ad V ls a v) (h3 : a.1 ≠ 3) (h : rv_G ad V0 V ls st G) : rv_G ad V0 V ls' st (rv_st k a G) := by
  obtain ⟨s1, s2, s3, s4, s5⟩ := hs
  have hd := rv_mk_ok (V := V) s5
  refine ⟨fun j b hb => ?_, rv_sk_map _ (rv_dA_ok hd) h.2.1, rv_dF_ok hd h.2.2⟩
  unfold rv_st at hb
  dsimp only at hb
  rw [List.getElem?_set] at hb
  by_cases hj : k = j
  · subst hj
    rw [if_pos rfl] at hb
    by_cases hl : k < G.1.length
    · rw [if_pos hl] at hb
      cases hb
      unfold rv_lok
      by_cases c1 : a.1 = 1
      · obtain ⟨x, rfl, x1, x2, x3, -⟩ := rv_okI c1 ha
        rw [if_pos (show (rv_bare a).1 = 1 from c1)]
        exact ⟨x, s3, x1, x2, x3⟩
      · rw [if_neg (show ¬ (rv_bare a).1 = 1 from c1)]
        by_cases c2 : a.1 = 2
        · rw [if_pos (show (rv_bare a).1 = 2 from c2), s3, rv_okR c2 ha]
          rfl
        · rw [if_neg (show ¬ (rv_bare a).1 = 2 from c2)]
          trivial
    · rw [if_neg hl] at hb
      cases hb
  · rw [if_neg hj] at hb
    have hb2 := h.1 j b hb
    unfold rv_lok at hb2 ⊢
    by_cases c1 : b.1 = 1
    · rw [if_pos c1] at hb2 ⊢
      obtain ⟨y, y1, y2⟩ := hb2
      exact ⟨y, s4 j _ (Ne.symm hj) y1 rfl, y2⟩
    · rw [if_neg c1] at hb2 ⊢
      by_cases c2 : b.1 = 2
      · rw [if_pos c2] at hb2 ⊢
        exact s4 j _ (Ne.symm hj) hb2 rfl
      · rw [if_neg c2]
        trivial
/-- iinc -/
def rv_sh (k : Nat) (n : Int) (a : rv_A) : rv_A := (a.1, a.2.1, rv_l a, rv_h a, ((rv_al a).filter (fun q => match q.1 with | .inl _ => true | .inr p => !decide (p.2 = 5000 + k))).map (fun q => if q.1 = .inl k then (q.1, q.2 - n) else q), (rv_cs a).filter (fun q => !rv_mk k q.1))
def rv_inc (k : Nat) (n : Int) (a : rv_A) (G : rv_S) : rv_S := (G.1.set k (1, 0, (rv_nm (rv_l a + n) (rv_h a + n)).1, (rv_nm (rv_l a + n) (rv_h a + n)).2, [], []), G.2.1.map (rv_sh k n), rv_dF (rv_mk k) G.2.2)
theorem rv_sh_ok {ad : Nat → Nat} {V : fm_V} {ls ls' : Array Slot} {k : Nat} {n m : Int} (h : ∀ j, j ≠ k → rv_lx ls' j = rv_lx ls j) (hk : rv_lx ls' k = rv_lx ls k + n + 4294967296 * m) (a : rv_A) (v : Value) (ha : rv_ok ad V ls a v) : rv_ok ad V ls' (rv_sh k n a) v := by
  have hd := rv_mk_ok (V := V) h
  have key : ∀ (z : Int), (∀ q ∈ rv_al a, ∃ k : Int, z = rv_uv V ls q.1 + q.2 + 4294967296 * k) → ∀ q ∈ rv_al (rv_sh k n a), ∃ k : Int, z = rv_uv V ls' q.1 + q.2 + 4294967296 * k := by
    intro z hz q hq
    obtain ⟨q0, hq0, rfl⟩ := List.mem_map.mp hq
    obtain ⟨q1, q2⟩ := List.mem_filter.mp hq0
    obtain ⟨k0, e0⟩ := hz q0 q1
    by_cases c : q0.1 = .inl k
    · rw [if_pos c]
      rw [c] at e0
      have e1 : rv_uv V ls (.inl k) = rv_lx ls k := rfl
      have e2 : rv_uv V ls' q0.1 = rv_lx ls' k := by rw [c]; rfl
      exact ⟨k0 - m, by dsimp only; rw [e2, hk]; rw [e1] at e0; omega⟩
    · rw [if_neg c]
      refine ⟨k0, ?_⟩
      rw [hd q0.1 ?_]
      · exact e0
      · obtain ⟨u, off⟩ := q0
        cases u with
        | inl j => simp only [rv_mk, decide_eq_false_iff_not]; intro e; exact c (by rw [e])
        | inr p => simpa [rv_mk] using q2
  by_cases c1 : a.1 = 1
  · obtain ⟨x, rfl, x1, x2, x3, x4, x5⟩ := rv_okI c1 ha
    refine rv_okI' c1 ⟨x, rfl, x1, x2, x3, key _ x4, fun hx q hq => ?_⟩
    obtain ⟨q1, q2⟩ := List.mem_filter.mp hq
    rw [hd q.1 (by simpa using q2)]
    exact x5 hx q q1
  · by_cases c2 : a.1 = 2
    · exact rv_okR' (a := rv_sh k n a) c2 (show v = .ref (ad a.2.1) from rv_okR c2 ha)
    · by_cases c3 : a.1 = 3
      · obtain ⟨x, rfl, x1, x2, x4⟩ := rv_okL c3 ha
        exact rv_okL' c3 ⟨x, rfl, x1, x2, key _ x4⟩
      · unfold rv_ok at ha
        rw [if_neg c1, if_neg c2, if_neg c3] at ha
        exact ha.elim
theorem rv_inc_ok {ad : Nat → Nat} {V0 V : fm_V} {ls ls' : Array Slot} {st : List Value} {G : rv_S} {k : Nat} {n : Int} {a : rv_A} {y : Int32} (hn : -2147483648 ≤ n ∧ n ≤ 2147483647) (hy : ls[k]? = some (.val (.int y))) (hs : rv_sto ls ls' k (.int (y + Int32.ofInt n))) (hy1 : rv_l a ≤ y.toInt) (hy2 : y.toInt ≤ rv_h a) (h : rv_G ad V0 V ls st G) : rv_G ad V0 V ls' st (rv_inc k n a G) := by
  obtain ⟨s1, s2, s3, s4, s5⟩ := hs
  have hd := rv_mk_ok (V := V) s5
  obtain ⟨m, hm⟩ := zi_add y (Int32.ofInt n)
  rw [zi_of hn.1 hn.2] at hm
  have hk : rv_lx ls' k = rv_lx ls k + n + 4294967296 * m := by rw [rv_lx_at s3, rv_lx_at hy]; exact hm
  refine ⟨fun j b hb => ?_, rv_sk_map _ (rv_sh_ok s5 hk) h.2.1, rv_dF_ok hd h.2.2⟩
  unfold rv_inc at hb
  dsimp only at hb
  rw [List.getElem?_set] at hb
  by_cases hj : k = j
  · subst hj
    rw [if_pos rfl] at hb
    by_cases hl : k < G.1.length
    · rw [if_pos hl] at hb
      cases hb
      unfold rv_lok
      rw [if_pos rfl]
      obtain ⟨b1, b2⟩ := rv_nm_ok (lo := rv_l a + n) (hi := rv_h a + n) (z := y.toInt + n) (by omega) (by omega) hm
      exact ⟨_, s3, b1, b2, fun e => absurd (show (0 : Nat) = 1 from e) (by decide)⟩
    · rw [if_neg hl] at hb
      cases hb
  · rw [if_neg hj] at hb
    have hb2 := h.1 j b hb
    unfold rv_lok at hb2 ⊢
    by_cases c1 : b.1 = 1
    · rw [if_pos c1] at hb2 ⊢
      obtain ⟨y, y1, y2⟩ := hb2
      exact ⟨y, s4 j _ (Ne.symm hj) y1 rfl, y2⟩
    · rw [if_neg c1] at hb2 ⊢
      by_cases c2 : b.1 = 2
      · rw [if_pos c2] at hb2 ⊢
        exact s4 j _ (Ne.symm hj) hb2 rfl
      · rw [if_neg c2]
        trivial
end
section
/-! Places of the world: reads and stores. -/
/-- every number of the world lies in its template's bounds -/
def fm_Tm (tm : List fm_C) (V : fm_V) : Prop := (∀ (i t n : Nat) (lo hi : Int) (j : Nat), tm[i]? = some (.inl (t, n, lo, hi)) → j < n → lo ≤ (V i j).toInt ∧ (V i j).toInt ≤ hi) ∧ ∀ (i ci : Nat) (ts : List fm_F) (k : Nat) (lo hi : Int), tm[i]? = some (.inr (ci, ts)) → ts[k]? = some (.inl (lo, hi)) → lo ≤ (V i k).toInt ∧ (V i k).toInt ≤ hi
theorem fm_Tm_o {tm : List fm_C} {V : fm_V} {i ci k : Nat} {ts : List fm_F} {lo hi : Int} {x : Int32} (h : fm_Tm tm V) (hi0 : tm[i]? = some (.inr (ci, ts))) (hk : ts[k]? = some (.inl (lo, hi))) (h1 : lo ≤ x.toInt) (h2 : x.toInt ≤ hi) : fm_Tm tm (fm_up V i k x) := by
  refine ⟨fun i' t n lo' hi' j ht hj => ?_, fun i' ci' ts' k' lo' hi' ht hk' => ?_⟩
  · by_cases c : i' = i ∧ j = k
    · rw [c.1, hi0] at ht; cases ht
    · rw [fm_up_ne c]; exact h.1 i' t n lo' hi' j ht hj
  · by_cases c : i' = i ∧ k' = k
    · rw [c.1, hi0] at ht; cases ht
      rw [c.2, hk] at hk'; cases hk'
      rw [c.1, c.2, fm_up_self]
      exact ⟨h1, h2⟩
    · rw [fm_up_ne c]; exact h.2 i' ci' ts' k' lo' hi' ht hk'
theorem fm_Tm_a {tm : List fm_C} {V : fm_V} {i t n k : Nat} {lo hi : Int} {x : Int32} (h : fm_Tm tm V) (hi0 : tm[i]? = some (.inl (t, n, lo, hi))) (h1 : lo ≤ x.toInt) (h2 : x.toInt ≤ hi) : fm_Tm tm (fm_up V i k x) := by
  refine ⟨fun i' t' n' lo' hi' j ht hj => ?_, fun i' ci' ts' k' lo' hi' ht hk' => ?_⟩
  · by_cases c : i' = i ∧ j = k
    · rw [c.1, hi0] at ht; cases ht
      rw [c.1, c.2, fm_up_self]
      exact ⟨h1, h2⟩
    · rw [fm_up_ne c]; exact h.1 i' t' n' lo' hi' j ht hj
  · by_cases c : i' = i ∧ k' = k
    · rw [c.1, hi0] at ht; cases ht
    · rw [fm_up_ne c]; exact h.2 i' ci' ts' k' lo' hi' ht hk'
/-- a place's bounds out of the facts -/
def rv_fg (F : List rv_Fa) (q : Nat × Nat) (lo hi : Int) : Int × Int := match F.find? (fun f => decide (f.1 = q)) with
  | some f => (rv_mx lo f.2.1, rv_mn hi f.2.2.1)
  | none => (lo, hi)
theorem rv_find {F : List rv_Fa} {q : Nat × Nat} {f : rv_Fa} (h : F.find? (fun f => decide (f.1 = q)) = some f) : f ∈ F ∧ f.1 = q := ⟨List.mem_of_find?_eq_some h, by simpa using List.find?_some h⟩
theorem rv_fg_ok {V0 V : fm_V} {ls : Array Slot} {F : List rv_Fa} {q : Nat × Nat} {lo hi : Int} (hF : ∀ f ∈ F, rv_fok V0 V ls f) (h1 : lo ≤ rv_uv V ls (.inr q)) (h2 : rv_uv V ls (.inr q) ≤ hi) : (rv_fg F q lo hi).1 ≤ rv_uv V ls (.inr q) ∧ rv_uv V ls (.inr q) ≤ (rv_fg F q lo hi).2 := by
  unfold rv_fg
  cases hf : F.find? (fun f => decide (f.1 = q)) with
  | none => exact ⟨h1, h2⟩
  | some f =>
    obtain ⟨f1, f2⟩ := rv_find hf
    have h3 := (hF f f1).1
    rw [f2] at h3
    exact ⟨rv_mx_le h1 h3.1, rv_le_mn h2 h3.2⟩
def rv_rd (F : List rv_Fa) (q : Nat × Nat) (lo hi : Int) : rv_A := (1, 0, (rv_fg F q lo hi).1, (rv_fg F q lo hi).2, [(.inr q, 0)], [])
theorem rv_rd_ok {ad : Nat → Nat} {V0 V : fm_V} {ls : Array Slot} {F : List rv_Fa} {q : Nat × Nat} {lo hi : Int} {x : Int32} (hF : ∀ f ∈ F, rv_fok V0 V ls f) (hx : x = V q.1 (rv_ix ls q.2)) (h1 : lo ≤ x.toInt) (h2 : x.toInt ≤ hi) : rv_ok ad V ls (rv_rd F q lo hi) (.int x) := by
  have e : rv_uv V ls (.inr q) = x.toInt := by rw [hx]; rfl
  obtain ⟨b1, b2⟩ := rv_fg_ok (q := q) (lo := lo) (hi := hi) hF (by rw [e]; exact h1) (by rw [e]; exact h2)
  rw [e] at b1 b2
  refine rv_okI' rfl ⟨x, rfl, b1, b2, fun z => absurd (show (0 : Nat) = 1 from z) (by decide), fun r hr => ?_, fun _ r hr => absurd hr List.not_mem_nil⟩
  rw [List.mem_singleton.mp (show r ∈ [((.inr q : rv_U), (0 : Int))] from hr)]
  exact ⟨0, by dsimp only; omega⟩
/-- the place of an array that an index names, if it can be told -/
def rv_ipL : List (rv_U × Int) → Option Nat
  | [] => none
  | (.inl k, off) :: al => if off = 0 then some (5000 + k) else rv_ipL al
  | (.inr _, _) :: al => rv_ipL al
def rv_ip (b : rv_A) : Option Nat := if rv_l b = rv_h b ∧ 0 ≤ rv_l b ∧ rv_l b < 5000 then some (rv_l b).toNat else rv_ipL (rv_al b)
theorem rv_ipL_ok {V : fm_V} {ls : Array Slot} {z : Int} (hz : -2147483648 ≤ z ∧ z ≤ 2147483647) : ∀ {al : List (rv_U × Int)} {f : Nat}, (∀ q ∈ al, ∃ k : Int, z = rv_uv V ls q.1 + q.2 + 4294967296 * k) → rv_ipL al = some f → rv_ix ls f = z.toNat := by
  intro al
  induction al with
  | nil => intro f _ h; cases h
  | cons q al ih =>
    intro f hal h
    obtain ⟨u, off⟩ := q
    cases u with
    | inr p => exact ih (fun q hq => hal q (List.mem_cons_of_mem _ hq)) h
    | inl k =>
      unfold rv_ipL at h
      by_cases c : off = 0
      · rw [if_pos c] at h
        cases h
        obtain ⟨m, hm⟩ := hal _ List.mem_cons_self
        have e1 : rv_uv V ls (.inl k) = rv_lx ls k := rfl
        dsimp only at hm
        rw [e1] at hm
        have hr := rv_lx_rng ls k
        have e2 : rv_lx ls k = z := by omega
        unfold rv_ix
        rw [if_neg (by omega), show 5000 + k - 5000 = k by omega, e2]
      · rw [if_neg c] at h
        exact ih (fun q hq => hal q (List.mem_cons_of_mem _ hq)) h
theorem rv_ip_ok {V : fm_V} {ls : Array Slot} {b : rv_A} {f : Nat} {x : Int32} (hb : rv_oI V ls b (.int x)) (h : rv_ip b = some f) : rv_ix ls f = x.toInt.toNat := by
  obtain ⟨x', ex, x1, x2, -, x4, -⟩ := hb
  cases ex
  unfold rv_ip at h
  by_cases c : rv_l b = rv_h b ∧ 0 ≤ rv_l b ∧ rv_l b < 5000
  · rw [if_pos c] at h
    cases h
    unfold rv_ix
    rw [if_pos (by omega)]
    congr 1
    omega
  · rw [if_neg c] at h
    exact rv_ipL_ok (zi_rng x) x4 h
/-- a store at a place, or anywhere in a cell -/
def rv_dp (j f : Nat) (u : rv_U) : Bool := match u with
  | .inl _ => false
  | .inr q => decide (q.1 = j) && (decide (q.2 = f) || decide (5000 ≤ q.2))
def rv_dc (j : Nat) (u : rv_U) : Bool := match u with
  | .inl _ => false
  | .inr q => decide (q.1 = j)
theorem rv_dp_ok {V : fm_V} {ls : Array Slot} {j f : Nat} {x : Int32} : ∀ u, rv_dp j f u = false → rv_uv (fm_up V j f x) ls u = rv_uv V ls u := by
  intro u hu
  cases u with
  | inl k => rfl
  | inr q =>
    show (fm_up V j f x q.1 (rv_ix ls q.2)).toInt = (V q.1 (rv_ix ls q.2)).toInt
    rw [fm_up_ne]
    intro c
    simp only [rv_dp, c.1, decide_true, Bool.true_and, Bool.or_eq_false_iff, decide_eq_false_iff_not] at hu
    have c2 := c.2
    unfold rv_ix at c2
    rw [if_pos (by omega)] at c2
    exact hu.1 c2
theorem rv_dc_ok {V : fm_V} {ls : Array Slot} {j f : Nat} {x : Int32} : ∀ u, rv_dc j u = false → rv_uv (fm_up V j f x) ls u = rv_uv V ls u := by
  intro u hu
  cases u with
  | inl k => rfl
  | inr q =>
    show (fm_up V j f x q.1 (rv_ix ls q.2)).toInt = (V q.1 (rv_ix ls q.2)).toInt
    rw [fm_up_ne]
    intro c
    simp [rv_dc, c.1] at hu
/-- differences to the start, out of what a value is a copy of -/
def rv_rl (F : List rv_Fa) : List (rv_U × Int) → List ((Nat × Nat) × Int × Int)
  | [] => []
  | (.inl _, _) :: al => rv_rl F al
  | (.inr q0, off) :: al => match F.find? (fun f => decide (f.1 = q0)) with
    | some f0 => if -2147483648 ≤ f0.2.1 + off ∧ f0.2.2.1 + off ≤ 2147483647 then f0.2.2.2.map (fun r => (r.1, r.2.1 + off, r.2.2 + off)) else rv_rl F al
    | none => rv_rl F al
theorem rv_rl_ok {V0 V : fm_V} {ls : Array Slot} {F : List rv_Fa} {z : Int} (hF : ∀ f ∈ F, rv_fok V0 V ls f) (hz : -2147483648 ≤ z ∧ z ≤ 2147483647) : ∀ {al : List (rv_U × Int)}, (∀ q ∈ al, ∃ k : Int, z = rv_uv V ls q.1 + q.2 + 4294967296 * k) → ∀ r ∈ rv_rl F al, r.2.1 ≤ z - (V0 r.1.1 r.1.2).toInt ∧ z - (V0 r.1.1 r.1.2).toInt ≤ r.2.2 := by
  intro al
  induction al with
  | nil => intro _ r hr; cases hr
  | cons q al ih =>
    intro hal r hr
    have ih2 := ih (fun q hq => hal q (List.mem_cons_of_mem _ hq))
    obtain ⟨u, off⟩ := q
    cases u with
    | inl k => exact ih2 r hr
    | inr q0 =>
      unfold rv_rl at hr
      cases hf : F.find? (fun f => decide (f.1 = q0)) with
      | none => rw [hf] at hr; exact ih2 r hr
      | some f0 =>
        rw [hf] at hr
        dsimp only at hr
        obtain ⟨g1, g2⟩ := rv_find hf
        have h3 := hF f0 g1
        unfold rv_fok at h3
        rw [g2] at h3
        by_cases c : -2147483648 ≤ f0.2.1 + off ∧ f0.2.2.1 + off ≤ 2147483647
        · rw [if_pos c] at hr
          obtain ⟨r0, hr0, rfl⟩ := List.mem_map.mp hr
          obtain ⟨m, hm⟩ := hal _ List.mem_cons_self
          dsimp only at hm ⊢
          have h4 := h3.2 r0 hr0
          have h5 := h3.1
          omega
        · rw [if_neg c] at hr
          exact ih2 r hr
def rv_pt (j f : Nat) (a : rv_A) (G : rv_S) : rv_S := (G.1, G.2.1.map (rv_dA (rv_dp j f)), ((j, f), rv_l a, rv_h a, rv_rl G.2.2 (rv_al a)) :: rv_dF (rv_dp j f) G.2.2)
def rv_pc (j : Nat) (G : rv_S) : rv_S := (G.1, G.2.1.map (rv_dA (rv_dc j)), rv_dF (rv_dc j) G.2.2)
theorem rv_pt_ok {ad : Nat → Nat} {V0 V : fm_V} {ls : Array Slot} {st : List Value} {G : rv_S} {j f : Nat} {a : rv_A} {x : Int32} (hf : f < 5000) (ha : rv_oI V ls a (.int x)) (h : rv_G ad V0 V ls st G) : rv_G ad V0 (fm_up V j f x) ls st (rv_pt j f a G) := by
  obtain ⟨x', ex, x1, x2, x3, x4, x5⟩ := ha
  cases ex
  refine ⟨h.1, rv_sk_map _ (rv_dA_ok rv_dp_ok) h.2.1, fun g hg => ?_⟩
  rcases List.mem_cons.mp hg with e | hg
  · rw [e]
    have e1 : rv_uv (fm_up V j f x) ls (.inr (j, f)) = x.toInt := by
      show (fm_up V j f x j (rv_ix ls f)).toInt = x.toInt
      have : rv_ix ls f = f := by unfold rv_ix; rw [if_pos hf]
      rw [this, fm_up_self]
    unfold rv_fok
    dsimp only
    rw [e1]
    exact ⟨⟨x1, x2⟩, rv_rl_ok h.2.2 (zi_rng x) x4⟩
  · exact rv_dF_ok rv_dp_ok h.2.2 g hg
theorem rv_pc_ok {ad : Nat → Nat} {V0 V : fm_V} {ls : Array Slot} {st : List Value} {G : rv_S} {j f : Nat} {x : Int32} (h : rv_G ad V0 V ls st G) : rv_G ad V0 (fm_up V j f x) ls st (rv_pc j G) :=
  ⟨h.1, rv_sk_map _ (rv_dA_ok rv_dc_ok) h.2.1, rv_dF_ok rv_dc_ok h.2.2⟩
/-! one knowledge is enough for another -/
def rv_leA (a b : rv_A) : Bool := decide (a.1 = b.1) && (if b.1 = 2 then decide (a.2.1 = b.2.1) else decide (rv_l b ≤ rv_l a) && decide (rv_h a ≤ rv_h b) && (decide (b.2.1 ≠ 1) || decide (a.2.1 = 1) || decide (0 < rv_l a) || decide (rv_h a < 0)) && (rv_al b).all (fun q => (rv_al a).any (fun r => decide (r = q))) && (rv_cs b).all (fun q => (rv_cs a).any (fun r => decide (r = q)) || decide (rv_l a = 0 ∧ rv_h a = 0)))
theorem rv_leA_ok {ad : Nat → Nat} {V : fm_V} {ls : Array Slot} {a b : rv_A} {v : Value} (h : rv_leA a b = true) (ha : rv_ok ad V ls a v) : rv_ok ad V ls b v := by
  unfold rv_leA at h
  simp only [Bool.and_eq_true, decide_eq_true_eq] at h
  obtain ⟨e, h⟩ := h
  by_cases c2 : b.1 = 2
  · rw [if_pos c2] at h
    have h := of_decide_eq_true h
    exact rv_okR' c2 (by rw [rv_okR (by omega) ha, h])
  · rw [if_neg c2] at h
    simp only [Bool.and_eq_true, Bool.or_eq_true, decide_eq_true_eq, List.all_eq_true, List.any_eq_true, exists_eq_right] at h
    obtain ⟨⟨⟨⟨h1, h2⟩, h3⟩, h4⟩, h5⟩ := h
    by_cases c1 : b.1 = 1
    · obtain ⟨x, rfl, x1, x2, x3, x4, x5⟩ := rv_okI (by omega) ha
      refine rv_okI' c1 ⟨x, rfl, by omega, by omega, fun hb => ?_, fun q hq => x4 q (h4 q hq), fun hx q hq => ?_⟩
      · rcases h3 with ((h3 | h3) | h3) | h3
        · exact absurd hb h3
        · exact x3 h3
        · omega
        · omega
      · rcases h5 q hq with h5 | h5
        · exact x5 hx q h5
        · omega
    · by_cases c3 : b.1 = 3
      · obtain ⟨x, rfl, x1, x2, x4⟩ := rv_okL (by omega) ha
        exact rv_okL' c3 ⟨x, rfl, by omega, by omega, fun q hq => x4 q (h4 q hq)⟩
      · unfold rv_ok at ha
        rw [if_neg (by omega), if_neg (by omega), if_neg (by omega)] at ha
        exact ha.elim
def rv_leL : List rv_A → List rv_A → Bool
  | _, [] => true
  | [], b :: bs => decide (b.1 = 0) && rv_leL [] bs
  | a :: as, b :: bs => (decide (b.1 = 0) || (decide (a.1 = b.1) && decide (b.1 = 1 ∨ b.1 = 2) && (if b.1 = 2 then decide (a.2.1 = b.2.1) else decide (rv_l b ≤ rv_l a) && decide (rv_h a ≤ rv_h b) && (decide (b.2.1 ≠ 1) || decide (a.2.1 = 1) || decide (0 < rv_l a) || decide (rv_h a < 0))))) && rv_leL as bs
theorem rv_leL_ok {ad : Nat → Nat} {ls : Array Slot} : ∀ (n : Nat) (as bs : List rv_A), rv_leL as bs = true → (∀ (k : Nat) (a : rv_A), as[k]? = some a → rv_lok ad ls (n + k) a) → ∀ (k : Nat) (b : rv_A), bs[k]? = some b → rv_lok ad ls (n + k) b := by
  intro n as bs
  induction bs generalizing n as with
  | nil => intro _ _ k b hb; simp at hb
  | cons b bs ih =>
    intro h ha k b' hb
    cases as with
    | nil =>
      unfold rv_leL at h
      simp only [Bool.and_eq_true, decide_eq_true_eq] at h
      cases k with
      | zero =>
        simp only [List.getElem?_cons_zero, Option.some.injEq] at hb
        subst hb
        unfold rv_lok
        rw [if_neg (by omega), if_neg (by omega)]
        trivial
      | succ k =>
        have := ih (n + 1) [] h.2 (fun k a hk => by simp at hk) k b' (by simpa using hb)
        rw [show n + (k + 1) = n + 1 + k by omega]
        exact this
    | cons a as =>
      unfold rv_leL at h
      simp only [Bool.and_eq_true] at h
      cases k with
      | zero =>
        simp only [List.getElem?_cons_zero, Option.some.injEq] at hb
        subst hb
        have h1 := h.1
        have ha0 := ha 0 a (by simp)
        simp only [Bool.or_eq_true, decide_eq_true_eq, Bool.and_eq_true] at h1
        rcases h1 with h1 | ⟨⟨e, hc⟩, h2⟩
        · unfold rv_lok
          rw [if_neg (by omega), if_neg (by omega)]
          trivial
        · by_cases c2 : b.1 = 2
          · rw [if_pos c2] at h2
            have h2 := of_decide_eq_true h2
            unfold rv_lok at ha0 ⊢
            rw [if_neg (by omega), if_pos (by omega)] at ha0
            rw [if_neg (by omega), if_pos (by omega), ← h2]
            exact ha0
          · rw [if_neg c2] at h2
            simp only [Bool.and_eq_true, Bool.or_eq_true, decide_eq_true_eq] at h2
            obtain ⟨⟨h3, h4⟩, h5⟩ := h2
            unfold rv_lok at ha0 ⊢
            rw [if_pos (by omega)] at ha0
            rw [if_pos (by omega)]
            obtain ⟨y, y1, y2, y3, y4⟩ := ha0
            refine ⟨y, y1, by omega, by omega, fun hb => ?_⟩
            rcases h5 with ((h5 | h5) | h5) | h5
            · exact absurd hb h5
            · exact y4 h5
            · omega
            · omega
      | succ k =>
        have := ih (n + 1) as h.2 (fun k a hk => by
          have := ha (k + 1) a (by simpa using hk)
          rw [show n + 1 + k = n + (k + 1) by omega]
          exact this) k b' (by simpa using hb)
        rw [show n + (k + 1) = n + 1 + k by omega]
        exact this
def rv_leS : List rv_A → List rv_A → Bool
  | [], [] => true
  | a :: as, b :: bs => rv_leA a b && rv_leS as bs
  | _, _ => false
theorem rv_leS_ok {ad : Nat → Nat} {V : fm_V} {ls : Array Slot} : ∀ {as bs : List rv_A} {st : List Value}, rv_leS as bs = true → rv_sk (rv_ok ad V ls) as st → rv_sk (rv_ok ad V ls) bs st := by
  intro as
  induction as with
  | nil =>
    intro bs st h hs
    cases bs with
    | nil => exact hs
    | cons b bs => simp [rv_leS] at h
  | cons a as ih =>
    intro bs st h hs
    cases bs with
    | nil => simp [rv_leS] at h
    | cons b bs =>
      simp only [rv_leS, Bool.and_eq_true] at h
      obtain ⟨v, vs, rfl, h1, h2⟩ := rv_sk_cons hs
      exact ⟨rv_leA_ok h.1 h1, ih h.2 h2⟩
/-- a place's template bounds -/
def rv_tb (tm : List fm_C) (q : Nat × Nat) : Int × Int := match tm[q.1]? with
  | some (.inl (_, n, lo, hi)) => if q.2 < n ∧ n ≤ 5000 then (lo, hi) else (-2147483648, 2147483647)
  | some (.inr (_, ts)) => if q.2 < 5000 then (match ts[q.2]? with
    | some (.inl (lo, hi)) => (lo, hi)
    | _ => (-2147483648, 2147483647)) else (-2147483648, 2147483647)
  | none => (-2147483648, 2147483647)
theorem rv_tb_ok {tm : List fm_C} {V : fm_V} {ls : Array Slot} {q : Nat × Nat} (hT : fm_Tm tm V) : (rv_tb tm q).1 ≤ rv_uv V ls (.inr q) ∧ rv_uv V ls (.inr q) ≤ (rv_tb tm q).2 := by
  have hr := rv_uv_rng V ls (.inr q)
  have hu : rv_uv V ls (.inr q) = (V q.1 (rv_ix ls q.2)).toInt := rfl
  unfold rv_tb
  cases ht : tm[q.1]? with
  | none => exact hr
  | some t =>
    cases t with
    | inl a =>
      obtain ⟨t, n, lo, hi⟩ := a
      dsimp only
      by_cases c : q.2 < n ∧ n ≤ 5000
      · rw [if_pos c, hu]
        have e : rv_ix ls q.2 = q.2 := by unfold rv_ix; rw [if_pos (by omega)]
        rw [e]
        exact hT.1 q.1 t n lo hi q.2 ht c.1
      · rw [if_neg c]
        exact hr
    | inr o =>
      obtain ⟨ci, ts⟩ := o
      dsimp only
      by_cases c : q.2 < 5000
      · rw [if_pos c]
        cases hk : ts[q.2]? with
        | none => exact hr
        | some r =>
          cases r with
          | inr j => exact hr
          | inl b =>
            obtain ⟨lo, hi⟩ := b
            dsimp only
            rw [hu]
            have e : rv_ix ls q.2 = q.2 := by unfold rv_ix; rw [if_pos c]
            rw [e]
            exact hT.2 q.1 ci ts q.2 lo hi ht hk
      · rw [if_neg c]
        exact hr
/-- a fact out of facts -/
def rv_leF (tm : List fm_C) (F : List rv_Fa) (g : rv_Fa) : Bool := match F.find? (fun f => decide (f.1 = g.1)) with
  | some f => (decide (g.2.1 ≤ f.2.1) || decide (g.2.1 ≤ (rv_tb tm g.1).1)) && (decide (f.2.2.1 ≤ g.2.2.1) || decide ((rv_tb tm g.1).2 ≤ g.2.2.1)) && g.2.2.2.all (fun r => f.2.2.2.any (fun s => decide (s.1 = r.1) && decide (r.2.1 ≤ s.2.1) && decide (s.2.2 ≤ r.2.2)))
  | none => decide (g.2.1 ≤ (rv_tb tm g.1).1) && decide ((rv_tb tm g.1).2 ≤ g.2.2.1) && g.2.2.2.isEmpty
theorem rv_leF_ok {tm : List fm_C} {V0 V : fm_V} {ls : Array Slot} {F : List rv_Fa} {g : rv_Fa} (hT : fm_Tm tm V) (hF : ∀ f ∈ F, rv_fok V0 V ls f) (h : rv_leF tm F g = true) : rv_fok V0 V ls g := by
  have ht := rv_tb_ok (ls := ls) (q := g.1) hT
  unfold rv_leF at h
  cases hf : F.find? (fun f => decide (f.1 = g.1)) with
  | none =>
    rw [hf] at h
    simp only [Bool.and_eq_true, decide_eq_true_eq, List.isEmpty_iff] at h
    refine ⟨⟨by omega, by omega⟩, fun r hr => ?_⟩
    rw [h.2] at hr
    cases hr
  | some f =>
    rw [hf] at h
    obtain ⟨g1, g2⟩ := rv_find hf
    have h3 := hF f g1
    unfold rv_fok at h3 ⊢
    rw [g2] at h3
    simp only [Bool.and_eq_true, Bool.or_eq_true, decide_eq_true_eq, List.all_eq_true, List.any_eq_true] at h
    obtain ⟨⟨h4, h5⟩, h6⟩ := h
    refine ⟨⟨by omega, by omega⟩, fun r hr => ?_⟩
    obtain ⟨s, s1, ⟨s2, s3⟩, s4⟩ := h6 r hr
    have h7 := h3.2 s s1
    rw [s2] at h7
    omega
def rv_le (tm : List fm_C) (G G' : rv_S) : Bool := rv_leL G.1 G'.1 && rv_leS G.2.1 G'.2.1 && G'.2.2.all (rv_leF tm G.2.2)
theorem rv_le_ok {tm : List fm_C} {ad : Nat → Nat} {V0 V : fm_V} {ls : Array Slot} {st : List Value} {G G' : rv_S} (hT : fm_Tm tm V) (h : rv_le tm G G' = true) (hG : rv_G ad V0 V ls st G) : rv_G ad V0 V ls st G' := by
  unfold rv_le at h
  simp only [Bool.and_eq_true, List.all_eq_true] at h
  obtain ⟨⟨h1, h2⟩, h3⟩ := h
  refine ⟨fun k b hb => ?_, rv_leS_ok h2 hG.2.1, fun g hg => rv_leF_ok hT hG.2.2 (h3 g hg)⟩
  have := rv_leL_ok (ad := ad) (ls := ls) 0 G.1 G'.1 h1 (fun k a hk => by rw [Nat.zero_add]; exact hG.1 k a hk) k b hb
  rw [Nat.zero_add] at this
  exact this
end
section
/-! ONE INSTRUCTION, by what is known. -/
abbrev rv_K : Type := List rv_A × List rv_Fa × List (Nat × Nat) × List (Nat × Int × Int) × List (rv_U × Int × Int) × List rv_Fa
/-- template; rows of the pool (index, class, field); fields that may be written (class, field, 0 int 2 boolean); constants; long constants; places that may be changed; locals that stay; locals -/
abbrev rv_E : Type := List fm_C × List (Nat × Nat × Nat) × List (Nat × Nat × Nat) × List (Nat × Int) × List (Nat × Int) × List (Nat × Nat) × List Nat × Nat
def rv_in (M : List (Nat × Nat)) (i f : Nat) : Bool := M.any (fun q => decide (q.1 = i) && (decide (q.2 = f) || decide (q.2 = 9999)))
def rv_av (avs : List Value) (j : Nat) : Int := match avs[j]? with
  | some (.int y) => y.toInt
  | some (.long y) => y.toInt
  | _ => 0
def rv_ua (V : fm_V) (avs : List Value) (u : rv_U) : Int := match u with
  | .inl j => rv_av avs j
  | .inr q => (V q.1 (if q.2 < 5000 then q.2 else (rv_av avs (q.2 - 5000)).toNat)).toInt
def rv_Pre (tm : List fm_C) (Gp : fm_V → Prop) (ad : Nat → Nat) (K : rv_K) (V : fm_V) (avs : List Value) : Prop := fm_Tm tm V ∧ Gp V ∧ rv_sk (rv_ok ad V #[]) (K.1.map rv_bare) avs ∧ ∀ f ∈ K.2.1, f.2.1 ≤ rv_ua V avs (.inr f.1) ∧ rv_ua V avs (.inr f.1) ≤ f.2.2.1
def rv_Res (K : rv_K) (V' : fm_V) (avs : List Value) (r : Option Value) : Prop := match K.2.2.2.1 with
  | [] => r = none
  | q :: _ => ∃ x : Int32, r = some (.int x) ∧ q.2.1 ≤ x.toInt ∧ x.toInt ≤ q.2.2 ∧ (q.1 = 1 → x.toInt ≠ 0) ∧ (x.toInt ≠ 0 → ∀ c ∈ K.2.2.2.2.1, c.2.1 ≤ rv_ua V' avs c.1 ∧ rv_ua V' avs c.1 ≤ c.2.2)
def rv_pok (V V' : fm_V) (f : rv_Fa) : Prop := (f.2.1 ≤ (V' f.1.1 f.1.2).toInt ∧ (V' f.1.1 f.1.2).toInt ≤ f.2.2.1) ∧ ∀ r ∈ f.2.2.2, r.2.1 ≤ (V' f.1.1 f.1.2).toInt - (V r.1.1 r.1.2).toInt ∧ (V' f.1.1 f.1.2).toInt - (V r.1.1 r.1.2).toInt ≤ r.2.2
def rv_Post (tm : List fm_C) (K : rv_K) (V : fm_V) (avs : List Value) (r : Option Value) (V' : fm_V) : Prop := fm_Tm tm V' ∧ (∀ i f, rv_in K.2.2.1 i f = false → V' i f = V i f) ∧ rv_Res K V' avs r ∧ ∀ f ∈ K.2.2.2.2.2, rv_pok V V' f
/-! a call -/
def rv_dm (M : List (Nat × Nat)) (u : rv_U) : Bool := match u with
  | .inl _ => false
  | .inr q => M.any (fun p => decide (p.1 = q.1) && (decide (p.2 = q.2) || decide (p.2 = 9999) || decide (5000 ≤ q.2)))
theorem rv_dm_ok {V V' : fm_V} {ls : Array Slot} {M : List (Nat × Nat)} (h : ∀ i f, rv_in M i f = false → V' i f = V i f) : ∀ u, rv_dm M u = false → rv_uv V' ls u = rv_uv V ls u := by
  intro u hu
  cases u with
  | inl k => rfl
  | inr q =>
    show (V' q.1 (rv_ix ls q.2)).toInt = (V q.1 (rv_ix ls q.2)).toInt
    rw [h]
    simp only [rv_dm, List.any_eq_false, Bool.and_eq_true, Bool.or_eq_true, decide_eq_true_eq] at hu
    simp only [rv_in, List.any_eq_false, Bool.and_eq_true, Bool.or_eq_true, decide_eq_true_eq]
    intro p hp c
    refine hu p hp ⟨c.1, ?_⟩
    by_cases c5 : 5000 ≤ q.2
    · exact Or.inr c5
    · have e : rv_ix ls q.2 = q.2 := by unfold rv_ix; rw [if_pos (by omega)]
      rw [e] at c
      exact Or.inl c.2
def rv_ro (F : List rv_Fa) (q : Nat × Nat) : List ((Nat × Nat) × Int × Int) := match F.find? (fun f => decide (f.1 = q)) with
  | some f => f.2.2.2
  | none => []
theorem rv_ro_ok {V0 V : fm_V} {ls : Array Slot} {F : List rv_Fa} {q : Nat × Nat} (hF : ∀ f ∈ F, rv_fok V0 V ls f) : ∀ r ∈ rv_ro F q, r.2.1 ≤ rv_uv V ls (.inr q) - (V0 r.1.1 r.1.2).toInt ∧ rv_uv V ls (.inr q) - (V0 r.1.1 r.1.2).toInt ≤ r.2.2 := by
  intro r hr
  unfold rv_ro at hr
  cases hf : F.find? (fun f => decide (f.1 = q)) with
  | none => rw [hf] at hr; cases hr
  | some f =>
    rw [hf] at hr
    obtain ⟨g1, g2⟩ := rv_find hf
    have h3 := (hF f g1).2 r hr
    rw [g2] at h3
    exact h3
def rv_pf (tm : List fm_C) (F : List rv_Fa) (f : rv_Fa) : rv_Fa := match f.2.2.2 with
  | [] => f
  | r :: _ => if r.1.2 < 5000 then (f.1, rv_mx f.2.1 ((rv_fg F r.1 (rv_tb tm r.1).1 (rv_tb tm r.1).2).1 + r.2.1), rv_mn f.2.2.1 ((rv_fg F r.1 (rv_tb tm r.1).1 (rv_tb tm r.1).2).2 + r.2.2), (rv_ro F r.1).map (fun s => (s.1, s.2.1 + r.2.1, s.2.2 + r.2.2))) else (f.1, f.2.1, f.2.2.1, [])
theorem rv_pf_ok {tm : List fm_C} {V0 V V' : fm_V} {ls : Array Slot} {F : List rv_Fa} {f : rv_Fa} (hT : fm_Tm tm V) (hF : ∀ f ∈ F, rv_fok V0 V ls f) (hf5 : f.1.2 < 5000) (h : rv_pok V V' f) : rv_fok V0 V' ls (rv_pf tm F f) := by
  have e : ∀ (W : fm_V) (q : Nat × Nat), q.2 < 5000 → rv_uv W ls (.inr q) = (W q.1 q.2).toInt := fun W q hq => by
    show (W q.1 (rv_ix ls q.2)).toInt = _
    have : rv_ix ls q.2 = q.2 := by unfold rv_ix; rw [if_pos hq]
    rw [this]
  obtain ⟨q, lo, hi, rel⟩ := f
  obtain ⟨h1, h2⟩ := h
  dsimp only at h1 h2 hf5
  cases rel with
  | nil =>
    unfold rv_pf rv_fok
    dsimp only
    rw [e V' q hf5]
    exact ⟨h1, fun r hr => absurd hr List.not_mem_nil⟩
  | cons r rel =>
    unfold rv_pf
    dsimp only
    by_cases c : r.1.2 < 5000
    · rw [if_pos c]
      have h3 := h2 r List.mem_cons_self
      obtain ⟨b1, b2⟩ := rv_fg_ok (F := F) (q := r.1) hF (rv_tb_ok (ls := ls) (q := r.1) hT).1 (rv_tb_ok (ls := ls) (q := r.1) hT).2
      rw [e V r.1 c] at b1 b2
      unfold rv_fok
      dsimp only
      rw [e V' q hf5]
      refine ⟨⟨rv_mx_le h1.1 (by omega), rv_le_mn h1.2 (by omega)⟩, fun s hs => ?_⟩
      obtain ⟨s0, hs0, rfl⟩ := List.mem_map.mp hs
      have h4 := rv_ro_ok hF s0 hs0
      rw [e V r.1 c] at h4
      dsimp only
      omega
    · rw [if_neg c]
      unfold rv_fok
      dsimp only
      rw [e V' q hf5]
      exact ⟨h1, fun s hs => absurd hs List.not_mem_nil⟩
/-- what an answer says of the caller's variables -/
def rv_tc (as : List rv_A) (c : rv_U × Int × Int) : List (rv_U × Int × Int) := match c.1 with
  | .inl j => match as[j]? with
    | some a => if a.1 = 1 ∨ a.1 = 3 then ((rv_al a).filter (fun q => decide (-2147483648 ≤ c.2.1 - q.2) && decide (c.2.2 - q.2 ≤ 2147483647))).map (fun q => (q.1, c.2.1 - q.2, c.2.2 - q.2)) else []
    | none => []
  | .inr q => if q.2 < 5000 then [c] else match as[q.2 - 5000]? with
    | some a => if a.1 = 1 then (match rv_ip a with
      | some g => [(.inr (q.1, g), c.2.1, c.2.2)]
      | none => []) else []
    | none => []
theorem rv_sk_get {P : rv_A → Value → Prop} : ∀ {as : List rv_A} {vs : List Value}, rv_sk P as vs → ∀ {j : Nat} {a : rv_A}, as[j]? = some a → ∃ v, vs[j]? = some v ∧ P a v := by
  intro as
  induction as with
  | nil => intro vs _ j a h; simp at h
  | cons b as ih =>
    intro vs h j a hj
    obtain ⟨v, vs', rfl, h1, h2⟩ := rv_sk_cons h
    cases j with
    | zero =>
      simp only [List.getElem?_cons_zero, Option.some.injEq] at hj
      subst hj
      exact ⟨v, by simp, h1⟩
    | succ j =>
      obtain ⟨w, w1, w2⟩ := ih h2 (j := j) (a := a) (by simpa using hj)
      exact ⟨w, by simpa using w1, w2⟩
theorem rv_tc_ok {ad : Nat → Nat} {V V' : fm_V} {ls : Array Slot} {as : List rv_A} {avs : List Value} {c : rv_U × Int × Int} (hs : rv_sk (rv_ok ad V ls) as avs) (hc : c.2.1 ≤ rv_ua V' avs c.1 ∧ rv_ua V' avs c.1 ≤ c.2.2) (d : rv_U → Bool) (hd : ∀ u, d u = false → rv_uv V' ls u = rv_uv V ls u) :
    ∀ q ∈ rv_tc as c, (∀ j, c.1 = .inl j → d q.1 = false) → q.2.1 ≤ rv_uv V' ls q.1 ∧ rv_uv V' ls q.1 ≤ q.2.2 := by
  obtain ⟨u, lo, hi⟩ := c
  dsimp only at hc
  intro q hq hdq
  cases u with
  | inl j =>
    have hdq := hdq j rfl
    unfold rv_tc at hq
    dsimp only at hq
    cases ha : as[j]? with
    | none => rw [ha] at hq; cases hq
    | some a =>
      rw [ha] at hq
      dsimp only at hq
      by_cases c1 : a.1 = 1 ∨ a.1 = 3
      · rw [if_pos c1] at hq
        obtain ⟨q0, hq0, rfl⟩ := List.mem_map.mp hq
        obtain ⟨q1, q2⟩ := List.mem_filter.mp hq0
        simp only [Bool.and_eq_true, decide_eq_true_eq] at q2
        obtain ⟨v, v1, v2⟩ := rv_sk_get hs ha
        have hr := rv_uv_rng V ls q0.1
        have key : ∃ k : Int, rv_av avs j = rv_uv V ls q0.1 + q0.2 + 4294967296 * k := by
          rcases c1 with c1 | c1
          · obtain ⟨x, rfl, x1, x2, x3, x4, x5⟩ := rv_okI c1 v2
            obtain ⟨k, hk⟩ := x4 q0 q1
            exact ⟨k, by unfold rv_av; rw [v1]; exact hk⟩
          · obtain ⟨x, rfl, x1, x2, x4⟩ := rv_okL c1 v2
            obtain ⟨k, hk⟩ := x4 q0 q1
            exact ⟨k, by unfold rv_av; rw [v1]; exact hk⟩
        obtain ⟨k, hk⟩ := key
        have e : rv_ua V' avs (.inl j) = rv_av avs j := rfl
        rw [e] at hc
        dsimp only at hdq ⊢
        rw [hd q0.1 hdq]
        omega
      · rw [if_neg c1] at hq
        cases hq
  | inr p =>
    unfold rv_tc at hq
    dsimp only at hq
    by_cases c5 : p.2 < 5000
    · rw [if_pos c5] at hq
      rw [List.mem_singleton.mp hq]
      dsimp only
      have e : rv_ua V' avs (.inr p) = rv_uv V' ls (.inr p) := by
        show (V' p.1 (if p.2 < 5000 then p.2 else _)).toInt = (V' p.1 (rv_ix ls p.2)).toInt
        unfold rv_ix
        rw [if_pos c5, if_pos c5]
      rw [← e]
      exact hc
    · rw [if_neg c5] at hq
      cases ha : as[p.2 - 5000]? with
      | none => rw [ha] at hq; cases hq
      | some a =>
        rw [ha] at hq
        dsimp only at hq
        by_cases c1 : a.1 = 1
        · rw [if_pos c1] at hq
          cases hg : rv_ip a with
          | none => rw [hg] at hq; cases hq
          | some g =>
            rw [hg] at hq
            rw [List.mem_singleton.mp hq]
            obtain ⟨v, v1, v2⟩ := rv_sk_get hs ha
            have v3 := rv_okI c1 v2
            obtain ⟨x, rfl, -⟩ := id v3
            have e1 := rv_ip_ok v3 hg
            have e : rv_ua V' avs (.inr p) = rv_uv V' ls (.inr (p.1, g)) := by
              show (V' p.1 (if p.2 < 5000 then p.2 else (rv_av avs (p.2 - 5000)).toNat)).toInt = (V' p.1 (rv_ix ls g)).toInt
              rw [if_neg c5, e1]
              have : rv_av avs (p.2 - 5000) = x.toInt := by
                unfold rv_av
                rw [v1]
              rw [this]
            dsimp only
            rw [← e]
            exact hc
        · rw [if_neg c1] at hq
          cases hq
def rv_cw (as : List rv_A) : Nat := (as.map (fun a => if a.1 = 3 then 2 else 1)).sum
theorem rv_cw_ok {ad : Nat → Nat} {V : fm_V} {ls : Array Slot} : ∀ {as : List rv_A} {st : List Value}, rv_sk (rv_ok ad V ls) as st → (st.map fun v => v.category).sum = rv_cw as := by
  intro as
  induction as with
  | nil => intro st h; rw [rv_sk_nil h]; rfl
  | cons a as ih =>
    intro st h
    obtain ⟨v, vs, rfl, h1, h2⟩ := rv_sk_cons h
    have h3 := ih h2
    have h4 := rv_ok_cat h1
    unfold rv_cw at h3 ⊢
    simp only [List.map_cons, List.sum_cons, h3, h4]
theorem rv_sk_app {P : rv_A → Value → Prop} : ∀ {as bs : List rv_A} {st : List Value}, rv_sk P (as ++ bs) st → ∃ s1 s2, st = s1 ++ s2 ∧ rv_sk P as s1 ∧ rv_sk P bs s2 := by
  intro as
  induction as with
  | nil => intro bs st h; exact ⟨[], st, rfl, trivial, h⟩
  | cons a as ih =>
    intro bs st h
    obtain ⟨v, vs, rfl, h1, h2⟩ := rv_sk_cons (a := a) (as := as ++ bs) h
    obtain ⟨s1, s2, rfl, h3, h4⟩ := ih h2
    exact ⟨v :: s1, s2, rfl, ⟨h1, h3⟩, h4⟩
theorem rv_sk_snoc {P : rv_A → Value → Prop} : ∀ {as : List rv_A} {vs : List Value} {a : rv_A} {v : Value}, rv_sk P as vs → P a v → rv_sk P (as ++ [a]) (vs ++ [v]) := by
  intro as
  induction as with
  | nil => intro vs a v h ha; rw [rv_sk_nil h]; exact ⟨ha, trivial⟩
  | cons b as ih =>
    intro vs a v h ha
    obtain ⟨w, ws, rfl, h1, h2⟩ := rv_sk_cons h
    exact ⟨h1, ih h2 ha⟩
theorem rv_sk_rev {P : rv_A → Value → Prop} : ∀ {as : List rv_A} {vs : List Value}, rv_sk P as vs → rv_sk P as.reverse vs.reverse := by
  intro as
  induction as with
  | nil => intro vs h; rw [rv_sk_nil h]; exact trivial
  | cons a as ih =>
    intro vs h
    obtain ⟨w, ws, rfl, h1, h2⟩ := rv_sk_cons h
    rw [List.reverse_cons, List.reverse_cons]
    exact rv_sk_snoc (ih h2) h1
/-- a fact that a callee wants: its place in the caller's words -/
def rv_wf (tm : List fm_C) (F : List rv_Fa) (as : List rv_A) (f : rv_Fa) : Bool := if f.1.2 < 5000 then rv_leF tm F (f.1, f.2.1, f.2.2.1, []) else match as[f.1.2 - 5000]? with
  | some a => if a.1 = 1 then (match rv_ip a with
    | some g => rv_leF tm F ((f.1.1, g), f.2.1, f.2.2.1, [])
    | none => false) else false
  | none => false
theorem rv_wf_ok {tm : List fm_C} {ad : Nat → Nat} {V0 V : fm_V} {ls : Array Slot} {F : List rv_Fa} {as : List rv_A} {avs : List Value} {f : rv_Fa} (hT : fm_Tm tm V) (hF : ∀ f ∈ F, rv_fok V0 V ls f) (hs : rv_sk (rv_ok ad V ls) as avs) (h : rv_wf tm F as f = true) : f.2.1 ≤ rv_ua V avs (.inr f.1) ∧ rv_ua V avs (.inr f.1) ≤ f.2.2.1 := by
  unfold rv_wf at h
  by_cases c5 : f.1.2 < 5000
  · rw [if_pos c5] at h
    have h1 := (rv_leF_ok hT hF h).1
    have e : rv_ua V avs (.inr f.1) = rv_uv V ls (.inr f.1) := by
      show (V f.1.1 (if f.1.2 < 5000 then f.1.2 else _)).toInt = (V f.1.1 (rv_ix ls f.1.2)).toInt
      unfold rv_ix
      rw [if_pos c5, if_pos c5]
    rw [e]
    exact h1
  · rw [if_neg c5] at h
    cases ha : as[f.1.2 - 5000]? with
    | none => rw [ha] at h; cases h
    | some a =>
      rw [ha] at h
      dsimp only at h
      by_cases c1 : a.1 = 1
      · rw [if_pos c1] at h
        cases hg : rv_ip a with
        | none => rw [hg] at h; cases h
        | some g =>
          rw [hg] at h
          have h1 := (rv_leF_ok hT hF h).1
          obtain ⟨v, v1, v2⟩ := rv_sk_get hs ha
          have v3 := rv_okI c1 v2
          obtain ⟨x, rfl, -⟩ := id v3
          have e1 := rv_ip_ok v3 hg
          have e : rv_ua V avs (.inr f.1) = rv_uv V ls (.inr (f.1.1, g)) := by
            show (V f.1.1 (if f.1.2 < 5000 then f.1.2 else (rv_av avs (f.1.2 - 5000)).toNat)).toInt = (V f.1.1 (rv_ix ls g)).toInt
            rw [if_neg c5, e1]
            have : rv_av avs (f.1.2 - 5000) = x.toInt := by
              unfold rv_av
              rw [v1]
            rw [this]
          rw [e]
          exact h1
      · rw [if_neg c1] at h
        cases h
/-- behind a call by a contract -/
def rv_call (tm : List fm_C) (M : List (Nat × Nat)) (K : rv_K) (G : rv_S) : Option rv_S :=
  if K.1.length ≤ G.2.1.length ∧ rv_leS (G.2.1.take K.1.length).reverse (K.1.map rv_bare) = true ∧ K.2.1.all (rv_wf tm G.2.2 (G.2.1.take K.1.length).reverse) = true ∧ K.2.2.1.all (fun q => M.any (fun p => decide (p.1 = q.1) && (decide (p.2 = q.2) || decide (p.2 = 9999)))) = true ∧ K.2.2.2.2.2.all (fun f => decide (f.1.2 < 5000)) = true ∧ rv_cw (G.2.1.drop K.1.length) ≤ 8
  then some (G.1,
    (match K.2.2.2.1 with
      | [] => []
      | q :: _ => [(1, q.1, q.2.1, q.2.2, [], K.2.2.2.2.1.flatMap (fun c => (rv_tc (G.2.1.take K.1.length).reverse c).filter (fun z => match c.1 with | .inl _ => !rv_dm K.2.2.1 z.1 | .inr _ => true)))]) ++ (G.2.1.drop K.1.length).map (rv_dA (rv_dm K.2.2.1)),
    K.2.2.2.2.2.map (rv_pf tm G.2.2) ++ rv_dF (rv_dm K.2.2.1) G.2.2)
  else none
theorem rv_bare_ls {ad : Nat → Nat} {V V' : fm_V} {ls ls' : Array Slot} {a : rv_A} {v : Value} (h : rv_ok ad V ls (rv_bare a) v) : rv_ok ad V' ls' (rv_bare a) v := by
  by_cases c1 : (rv_bare a).1 = 1
  · obtain ⟨x, rfl, x1, x2, x3, -⟩ := rv_okI c1 h
    exact rv_okI' c1 ⟨x, rfl, x1, x2, x3, fun q hq => absurd hq List.not_mem_nil, fun _ q hq => absurd hq List.not_mem_nil⟩
  · by_cases c2 : (rv_bare a).1 = 2
    · exact rv_okR' c2 (rv_okR c2 h)
    · by_cases c3 : (rv_bare a).1 = 3
      · obtain ⟨x, rfl, x1, x2, -⟩ := rv_okL c3 h
        exact rv_okL' c3 ⟨x, rfl, x1, x2, fun q hq => absurd hq List.not_mem_nil⟩
      · unfold rv_ok at h
        rw [if_neg c1, if_neg c2, if_neg c3] at h
        exact h.elim
theorem rv_bares_ls {ad : Nat → Nat} {V V' : fm_V} {ls ls' : Array Slot} : ∀ {as : List rv_A} {vs : List Value}, rv_sk (rv_ok ad V ls) (as.map rv_bare) vs → rv_sk (rv_ok ad V' ls') (as.map rv_bare) vs := by
  intro as
  induction as with
  | nil => intro vs h; rw [rv_sk_nil (show rv_sk _ [] vs from h)]; exact trivial
  | cons a as ih =>
    intro vs h
    obtain ⟨v, vs, rfl, h1, h2⟩ := rv_sk_cons (a := rv_bare a) (as := as.map rv_bare) h
    exact ⟨rv_bare_ls h1, ih h2⟩
theorem rv_call_ok {tm : List fm_C} {ad : Nat → Nat} {V0 V : fm_V} {ls : Array Slot} {st : List Value} {M : List (Nat × Nat)} {K : rv_K} {G G' : rv_S} (h : rv_call tm M K G = some G') (hT : fm_Tm tm V) (hG : rv_G ad V0 V ls st G) :
    ∃ avs rest, st = avs.reverse ++ rest ∧ rv_sk (rv_ok ad V #[]) (K.1.map rv_bare) avs ∧ (∀ f ∈ K.2.1, f.2.1 ≤ rv_ua V avs (.inr f.1) ∧ rv_ua V avs (.inr f.1) ≤ f.2.2.1) ∧ (rest.map fun v => v.category).sum ≤ 8 ∧ ∀ r V', rv_Post tm K V avs r V' → rv_G ad V0 V' ls (r.toList ++ rest) G' ∧ ∀ i f, rv_in M i f = false → V' i f = V i f := by
  unfold rv_call at h
  by_cases c : K.1.length ≤ G.2.1.length ∧ rv_leS (G.2.1.take K.1.length).reverse (K.1.map rv_bare) = true ∧ K.2.1.all (rv_wf tm G.2.2 (G.2.1.take K.1.length).reverse) = true ∧ K.2.2.1.all (fun q => M.any (fun p => decide (p.1 = q.1) && (decide (p.2 = q.2) || decide (p.2 = 9999)))) = true ∧ K.2.2.2.2.2.all (fun f => decide (f.1.2 < 5000)) = true ∧ rv_cw (G.2.1.drop K.1.length) ≤ 8
  · rw [if_pos c] at h
    obtain ⟨c1, c2, c3, c4, c5, c6⟩ := c
    have h := Option.some.inj h
    obtain ⟨hL, hS, hF⟩ := hG
    rw [← List.take_append_drop K.1.length G.2.1] at hS
    obtain ⟨s1, rest, rfl, hs1, hs2⟩ := rv_sk_app hS
    have hs1r := rv_sk_rev hs1
    refine ⟨s1.reverse, rest, by rw [List.reverse_reverse], rv_bares_ls (rv_leS_ok c2 hs1r), fun f hf => rv_wf_ok hT hF hs1r (List.all_eq_true.mp c3 f hf), ?_, fun r V' hp => ?_⟩
    · rw [rv_cw_ok hs2]
      exact c6
    · obtain ⟨p1, p2, p3, p4⟩ := hp
      have hd := rv_dm_ok (ls := ls) p2
      refine ⟨?_, fun i f hif => p2 i f ?_⟩
      · rw [← h]
        refine ⟨hL, ?_, fun g hg => ?_⟩
        · have hrest := rv_sk_map _ (rv_dA_ok (ad := ad) hd) hs2
          unfold rv_Res at p3
          dsimp only
          cases hk : K.2.2.2.1 with
          | nil =>
            rw [hk] at p3
            dsimp only at p3
            rw [p3]
            exact hrest
          | cons q qs =>
            rw [hk] at p3
            dsimp only at p3
            obtain ⟨x, rfl, x1, x2, x3, x4⟩ := p3
            refine ⟨rv_okI' rfl ⟨x, rfl, x1, x2, x3, fun q hq => absurd hq List.not_mem_nil, fun hx z hz => ?_⟩, hrest⟩
            obtain ⟨c, hc, hz⟩ := List.mem_flatMap.mp hz
            obtain ⟨z1, z2⟩ := List.mem_filter.mp hz
            refine rv_tc_ok hs1r (x4 hx c hc) (rv_dm K.2.2.1) hd z z1 (fun j hj => ?_)
            rw [hj] at z2
            simpa using z2
        · rcases List.mem_append.mp hg with hg | hg
          · obtain ⟨f, hf, rfl⟩ := List.mem_map.mp hg
            exact rv_pf_ok hT hF (of_decide_eq_true (List.all_eq_true.mp c5 f hf)) (p4 f hf)
          · exact rv_dF_ok hd hF g hg
      · cases hb : rv_in K.2.2.1 i f with
        | false => rfl
        | true =>
          simp only [rv_in, List.any_eq_true, Bool.and_eq_true, Bool.or_eq_true, decide_eq_true_eq] at hb
          obtain ⟨q, hq, e1, e2⟩ := hb
          have h4 := List.all_eq_true.mp c4 q hq
          simp only [List.any_eq_true, Bool.and_eq_true, Bool.or_eq_true, decide_eq_true_eq] at h4
          obtain ⟨p, hp, g1, g2⟩ := h4
          simp only [rv_in, List.any_eq_false, Bool.and_eq_true, Bool.or_eq_true, decide_eq_true_eq] at hif
          exact absurd ⟨by omega, by omega⟩ (hif p hp)
  · rw [if_neg c] at h
    cases h
end
section
/-! ONE STEP: what an instruction makes of what is known, and that the machine does so. -/
def rv_psh (a : rv_A) (G : rv_S) : rv_S := (G.1, a :: G.2.1, G.2.2)
def rv_cst (n : Int) : rv_A := (1, 0, n, n, [], [])
def rv_tg (pc : Nat) (off : Int) : Nat := ((pc : Int) + off).toNat
def rv_kf (l : List (Nat × Int)) (i : Nat) : Option Int := match l.find? (fun q => decide (q.1 = i)) with
  | some q => some q.2
  | none => none
def rv_ild (k : Nat) (G : rv_S) : Option rv_S := match G.1[k]? with
  | some a => if a.1 = 1 then some (rv_psh (1, a.2.1, rv_l a, rv_h a, [(.inl k, 0)], []) G) else none
  | none => none
def rv_ald (k : Nat) (G : rv_S) : Option rv_S := match G.1[k]? with
  | some a => if a.1 = 2 then some (rv_psh (2, a.2.1, 0, 0, [], []) G) else none
  | none => none
def rv_sto1 (t : Nat) (P : List Nat) (nL k : Nat) (G : rv_S) : Option rv_S := match G.2.1 with
  | a :: S => if a.1 = t ∧ k < nL ∧ P.any (fun j => decide (j = k)) = false then some (rv_st k a (G.1, S, G.2.2)) else none
  | [] => none
def rv_ii (P : List Nat) (nL k : Nat) (n : Int) (G : rv_S) : Option rv_S := match G.1[k]? with
  | some a => if a.1 = 1 ∧ k < nL ∧ P.any (fun j => decide (j = k)) = false ∧ -2147483648 ≤ n ∧ n ≤ 2147483647 then some (rv_inc k n a G) else none
  | none => none
def rv_b2 (op : Nat) (G : rv_S) : Option rv_S := match G.2.1 with
  | b :: a :: S => match rv_bin op a b with
    | some r => some (G.1, r :: S, G.2.2)
    | none => none
  | _ => none
def rv_u1 (f : rv_A → rv_A) (G : rv_S) : Option rv_S := match G.2.1 with
  | a :: S => if a.1 = 1 then some (G.1, f a :: S, G.2.2) else none
  | _ => none
def rv_ne (c : Nat) : Nat := match c with
  | 0 => 1
  | 1 => 0
  | 2 => 3
  | 3 => 2
  | 4 => 5
  | _ => 4
def rv_cc (c : Jvm.ClassFile.Cond) : Nat := match c with
  | .eq => 0
  | .ne => 1
  | .lt => 2
  | .ge => 3
  | .gt => 4
  | .le => 5
def rv_two (pc len : Nat) (off : Int) (c : Nat) (a b : rv_A) (G : rv_S) : List (Nat × rv_S) := (rv_one c a b G).map (fun g => (rv_tg pc off, g)) ++ (rv_one (rv_ne c) a b G).map (fun g => (pc + len, g))
def rv_gf (tm : List fm_C) (fl : List (Nat × Nat × Nat)) (i : Nat) (G : rv_S) : Option rv_S := match fl.find? (fun q => decide (q.1 = i)), G.2.1 with
  | some q, a :: S => if a.1 = 2 ∧ q.2.2 < 5000 then (match tm[a.2.1]? with
    | some (.inr (ci, ts)) => if ci = q.2.1 then (match ts[q.2.2]? with
      | some (.inl (lo, hi)) => some (G.1, rv_rd G.2.2 (a.2.1, q.2.2) lo hi :: S, G.2.2)
      | some (.inr j) => some (G.1, (2, j, 0, 0, [], []) :: S, G.2.2)
      | none => none) else none
    | _ => none) else none
  | _, _ => none
def rv_pfd (tm : List fm_C) (fl wr : List (Nat × Nat × Nat)) (M : List (Nat × Nat)) (i : Nat) (G : rv_S) : Option rv_S := match fl.find? (fun q => decide (q.1 = i)), G.2.1 with
  | some q, v :: a :: S => if a.1 = 2 ∧ v.1 = 1 ∧ q.2.2 < 5000 ∧ rv_in M a.2.1 q.2.2 = true then (match tm[a.2.1]?, wr.find? (fun w => decide (w.1 = q.2.1) && decide (w.2.1 = q.2.2)) with
    | some (.inr (ci, ts)), some w => if ci = q.2.1 then (match ts[q.2.2]? with
      | some (.inl (lo, hi)) => if lo ≤ rv_l v ∧ rv_h v ≤ hi ∧ (w.2.2 = 0 ∨ (0 ≤ lo ∧ hi ≤ 1)) then some (rv_pt a.2.1 q.2.2 v (G.1, S, G.2.2)) else none
      | _ => none) else none
    | _, _ => none) else none
  | _, _ => none
def rv_xl (tm : List fm_C) (b8 : Bool) (G : rv_S) : Option rv_S := match G.2.1 with
  | b :: a :: S => if a.1 = 2 ∧ b.1 = 1 then (match tm[a.2.1]? with
    | some (.inl (t, n, lo, hi)) => if (if b8 = true then t = 1 ∨ t = 2 else t = 0) ∧ 0 ≤ rv_l b ∧ rv_h b < n then some (G.1, (match rv_ip b with
      | some f => rv_rd G.2.2 (a.2.1, f) lo hi
      | none => (1, 0, lo, hi, [], [])) :: S, G.2.2) else none
    | _ => none) else none
  | _ => none
def rv_xs (tm : List fm_C) (M : List (Nat × Nat)) (b8 : Bool) (G : rv_S) : Option rv_S := match G.2.1 with
  | v :: b :: a :: S => if a.1 = 2 ∧ b.1 = 1 ∧ v.1 = 1 then (match tm[a.2.1]? with
    | some (.inl (t, n, lo, hi)) => if (if b8 = true then (t = 1 ∧ -128 ≤ lo ∧ hi ≤ 127) ∨ (t = 2 ∧ 0 ≤ lo ∧ hi ≤ 1) else t = 0) ∧ 0 ≤ rv_l b ∧ rv_h b < n ∧ lo ≤ rv_l v ∧ rv_h v ≤ hi then
        (if rv_l b = rv_h b ∧ rv_l b < 5000 then (if rv_in M a.2.1 (rv_l b).toNat = true then some (rv_pt a.2.1 (rv_l b).toNat v (G.1, S, G.2.2)) else none) else if rv_in M a.2.1 9999 = true then some (rv_pc a.2.1 (G.1, S, G.2.2)) else none) else none
    | _ => none) else none
  | _ => none
def rv_o1 (pc : Nat) (G : Option rv_S) : Option (List (Nat × rv_S)) := match G with
  | some g => some [(pc, g)]
  | none => none
def rv_tr (E : rv_E) (pc : Nat) (ins : Instr) (len : Nat) (G : rv_S) (kx : List rv_K) : Option (List (Nat × rv_S)) :=
  match ins, len with
  | .iconst n, 1 => if -1 ≤ n ∧ n ≤ 5 then some [(pc + 1, rv_psh (rv_cst n) G)] else none
  | .bipush n, 2 => if -128 ≤ n ∧ n ≤ 127 then some [(pc + 2, rv_psh (rv_cst n) G)] else none
  | .sipush n, 3 => if -32768 ≤ n ∧ n ≤ 32767 then some [(pc + 3, rv_psh (rv_cst n) G)] else none
  | .ldc i, 2 => match rv_kf E.2.2.2.1 i with
    | some n => some [(pc + 2, rv_psh (rv_cst n) G)]
    | none => none
  | .ldc_w i, 3 => match rv_kf E.2.2.2.1 i with
    | some n => some [(pc + 3, rv_psh (rv_cst n) G)]
    | none => none
  | .ldc2_w i, 3 => match rv_kf E.2.2.2.2.1 i with
    | some n => some [(pc + 3, rv_psh (3, 0, n, n, [], []) G)]
    | none => none
  | .lconst n, 1 => some [(pc + 1, rv_psh (3, 0, ((n : Nat) : Int), ((n : Nat) : Int), [], []) G)]
  | .iload_n k, 1 => rv_o1 (pc + 1) (rv_ild k G)
  | .iload k, 2 => rv_o1 (pc + 2) (rv_ild k G)
  | .aload_n k, 1 => rv_o1 (pc + 1) (rv_ald k G)
  | .aload k, 2 => rv_o1 (pc + 2) (rv_ald k G)
  | .istore_n k, 1 => rv_o1 (pc + 1) (rv_sto1 1 E.2.2.2.2.2.2.1 E.2.2.2.2.2.2.2 k G)
  | .istore k, 2 => rv_o1 (pc + 2) (rv_sto1 1 E.2.2.2.2.2.2.1 E.2.2.2.2.2.2.2 k G)
  | .astore_n k, 1 => rv_o1 (pc + 1) (rv_sto1 2 E.2.2.2.2.2.2.1 E.2.2.2.2.2.2.2 k G)
  | .astore k, 2 => rv_o1 (pc + 2) (rv_sto1 2 E.2.2.2.2.2.2.1 E.2.2.2.2.2.2.2 k G)
  | .iinc k n, 3 => rv_o1 (pc + 3) (rv_ii E.2.2.2.2.2.2.1 E.2.2.2.2.2.2.2 k n G)
  | .iadd, 1 => rv_o1 (pc + 1) (rv_b2 0 G)
  | .isub, 1 => rv_o1 (pc + 1) (rv_b2 1 G)
  | .imul, 1 => rv_o1 (pc + 1) (rv_b2 2 G)
  | .iand, 1 => rv_o1 (pc + 1) (rv_b2 3 G)
  | .ior, 1 => rv_o1 (pc + 1) (rv_b2 4 G)
  | .ixor, 1 => rv_o1 (pc + 1) (rv_b2 5 G)
  | .ishl, 1 => rv_o1 (pc + 1) (rv_b2 5 G)
  | .ishr, 1 => rv_o1 (pc + 1) (rv_b2 5 G)
  | .iushr, 1 => rv_o1 (pc + 1) (rv_b2 5 G)
  | .idiv, 1 => rv_o1 (pc + 1) (rv_b2 6 G)
  | .irem, 1 => rv_o1 (pc + 1) (rv_b2 6 G)
  | .ineg, 1 => rv_o1 (pc + 1) (rv_u1 (fun _ => rv_full) G)
  | .i2c, 1 => rv_o1 (pc + 1) (rv_u1 (fun _ => rv_full) G)
  | .i2b, 1 => rv_o1 (pc + 1) (rv_u1 (fun _ => (1, 0, -128, 127, [], [])) G)
  | .i2l, 1 => rv_o1 (pc + 1) (rv_u1 (fun a => (3, 0, rv_l a, rv_h a, rv_al a, [])) G)
  | .dup, 1 => match G.2.1 with
    | a :: S => if a.1 = 3 then none else some [(pc + 1, (G.1, a :: a :: S, G.2.2))]
    | _ => none
  | .dup2, 1 => match G.2.1 with
    | b :: a :: S => if a.1 = 3 ∨ b.1 = 3 then none else some [(pc + 1, (G.1, b :: a :: b :: a :: S, G.2.2))]
    | _ => none
  | .pop, 1 => match G.2.1 with
    | a :: S => if a.1 = 3 then none else some [(pc + 1, (G.1, S, G.2.2))]
    | _ => none
  | .goto off, 3 => if 0 ≤ (pc : Int) + off then some [(rv_tg pc off, G)] else none
  | .ifCond c off, 3 => match G.2.1 with
    | a :: S => if a.1 = 1 ∧ 0 ≤ (pc : Int) + off then some (rv_two pc 3 off (rv_cc c) a (rv_cst 0) (G.1, S, G.2.2)) else none
    | _ => none
  | .if_icmp c off, 3 => match G.2.1 with
    | b :: a :: S => if a.1 = 1 ∧ b.1 = 1 ∧ 0 ≤ (pc : Int) + off then some (rv_two pc 3 off (rv_cc c) a b (G.1, S, G.2.2)) else none
    | _ => none
  | .getfield i, 3 => rv_o1 (pc + 3) (rv_gf E.1 E.2.1 i G)
  | .putfield i, 3 => rv_o1 (pc + 3) (rv_pfd E.1 E.2.1 E.2.2.1 E.2.2.2.2.2.1 i G)
  | .iaload, 1 => rv_o1 (pc + 1) (rv_xl E.1 false G)
  | .baload, 1 => rv_o1 (pc + 1) (rv_xl E.1 true G)
  | .iastore, 1 => rv_o1 (pc + 1) (rv_xs E.1 E.2.2.2.2.2.1 false G)
  | .bastore, 1 => rv_o1 (pc + 1) (rv_xs E.1 E.2.2.2.2.2.1 true G)
  | .invokevirtual _, 3 => match kx with
    | K :: _ => rv_o1 (pc + 3) (rv_call E.1 E.2.2.2.2.2.1 K G)
    | [] => none
  | .invokestatic _, 3 => match kx with
    | K :: _ => rv_o1 (pc + 3) (rv_call E.1 E.2.2.2.2.2.1 K G)
    | [] => none
  | .tableswitch d lo hi offs, _ => match G.2.1 with
    | a :: S => if a.1 = 1 ∧ 0 ≤ (pc : Int) + d ∧ offs.toList.all (fun o => decide (0 ≤ (pc : Int) + o)) = true ∧ hi - lo + 1 = offs.size ∧ -2147483648 ≤ lo ∧ hi ≤ 2147483647 then some ((rv_tg pc d, (G.1, S, G.2.2)) :: (List.range offs.size).flatMap (fun (i : Nat) => match rv_br 0 a (rv_cst (lo + (i : Int))) (G.1, S, G.2.2) with
      | some g => [(rv_tg pc (offs.toList.getD i 0), g)]
      | none => [])) else none
    | _ => none
  | .lookupswitch d ps, _ => match G.2.1 with
    | a :: S => if a.1 = 1 ∧ 0 ≤ (pc : Int) + d ∧ ps.toList.all (fun o => decide (0 ≤ (pc : Int) + o.2) && decide (-2147483648 ≤ o.1) && decide (o.1 ≤ 2147483647)) = true ∧ (ps.toList.zip (ps.toList.drop 1)).all (fun (a, next) => a.1 < next.1) = true then some ((rv_tg pc d, (G.1, S, G.2.2)) :: ps.toList.flatMap (fun q => match rv_br 0 a (rv_cst q.1) (G.1, S, G.2.2) with
      | some g => [(rv_tg pc q.2, g)]
      | none => [])) else none
    | _ => none
  | _, _ => none
/-- which local a step changes -/
def rv_tch (ins : Instr) (G : rv_S) : Option (Nat × Option Int) := match ins with
  | .istore_n k => some (k, none)
  | .istore k => some (k, none)
  | .astore_n k => some (k, none)
  | .astore k => some (k, none)
  | .iinc k n => match G.1[k]? with
    | some a => if a.1 = 1 ∧ -2147483648 ≤ rv_l a + n ∧ rv_h a + n ≤ 2147483647 then some (k, some n) else some (k, none)
    | none => some (k, none)
  | _ => none
def rv_Rl (t : Option (Nat × Option Int)) (ls ls' : Array Slot) : Prop := match t with
  | none => ∀ j, rv_lx ls' j = rv_lx ls j
  | some (k, none) => ∀ j, j ≠ k → rv_lx ls' j = rv_lx ls j
  | some (k, some n) => (∀ j, j ≠ k → rv_lx ls' j = rv_lx ls j) ∧ rv_lx ls' k = rv_lx ls k + n
section STEP
variable {p : Program} {l : Launch} {e : Env} {R : Room} {s : State} {m : MethodId} {args : Array Value} {below : List Frame} {meth : Method} {c : Code} {Q : State → Prop} {cc : ByteArray} {own : String} {D : va_G} {cl : List vw_C} {tm : List fm_C} {ad : Nat → Nat} {cy : Nat → ClassId} {A : Nat → Prop} {Ts : List Cond} {nL : Nat}
variable {pc : Nat} {ls : Array Slot} {rest : List Value} {V : fm_V}
theorem fm_istore (X : fm_X p s m args c cc own D cl tm ad cy A Ts nL) {i : Nat} {x : Int32} (hd : decode cc pc = .ok (.istore i, 2)) (hs : ls.size = nL) (hw : lv_wf ls) (hi : i < nL) (kk : ∀ ls', rv_sto ls ls' i (.int x) → fm_W p l e R s m args below meth c Q D cl tm ad cy A V (pc + 2) ls' rest) : fm_W p l e R s m args below meth c Q D cl tm ad cy A V pc ls (.int x :: rest) := by
  obtain ⟨hx, hb, -⟩ := X
  obtain ⟨ls', e', h'⟩ := rv_sto_of (v := .int x) hw (show i < ls.size by omega) rfl
  intro H locs hP hS T hT X
  obtain ⟨t, a, b⟩ := kk ls' h' H locs hP hS T hT X
  refine ⟨t, ?_, b⟩
  jvm_step X.here [X.here.top, ↓top_set X.here.top, hx, hb, hd, e']
  exact a
theorem fm_istore_n (X : fm_X p s m args c cc own D cl tm ad cy A Ts nL) {i : Fin 4} {x : Int32} (hd : decode cc pc = .ok (.istore_n i, 1)) (hs : ls.size = nL) (hw : lv_wf ls) (hi : (i : Nat) < nL) (kk : ∀ ls', rv_sto ls ls' i (.int x) → fm_W p l e R s m args below meth c Q D cl tm ad cy A V (pc + 1) ls' rest) : fm_W p l e R s m args below meth c Q D cl tm ad cy A V pc ls (.int x :: rest) := by
  obtain ⟨hx, hb, -⟩ := X
  obtain ⟨ls', e', h'⟩ := rv_sto_of (v := .int x) hw (show (i : Nat) < ls.size by omega) rfl
  intro H locs hP hS T hT X
  obtain ⟨t, a, b⟩ := kk ls' h' H locs hP hS T hT X
  refine ⟨t, ?_, b⟩
  jvm_step X.here [X.here.top, ↓top_set X.here.top, hx, hb, hd, e']
  exact a
theorem fm_astore (X : fm_X p s m args c cc own D cl tm ad cy A Ts nL) {i : Nat} {x : Nat} (hd : decode cc pc = .ok (.astore i, 2)) (hs : ls.size = nL) (hw : lv_wf ls) (hi : i < nL) (kk : ∀ ls', rv_sto ls ls' i (.ref x) → fm_W p l e R s m args below meth c Q D cl tm ad cy A V (pc + 2) ls' rest) : fm_W p l e R s m args below meth c Q D cl tm ad cy A V pc ls (.ref x :: rest) := by
  obtain ⟨hx, hb, -⟩ := X
  obtain ⟨ls', e', h'⟩ := rv_sto_of (v := .ref x) hw (show i < ls.size by omega) rfl
  intro H locs hP hS T hT X
  obtain ⟨t, a, b⟩ := kk ls' h' H locs hP hS T hT X
  refine ⟨t, ?_, b⟩
  jvm_step X.here [X.here.top, ↓top_set X.here.top, hx, hb, hd, e', Value.isRef]
  exact a
theorem fm_astore_n (X : fm_X p s m args c cc own D cl tm ad cy A Ts nL) {i : Fin 4} {x : Nat} (hd : decode cc pc = .ok (.astore_n i, 1)) (hs : ls.size = nL) (hw : lv_wf ls) (hi : (i : Nat) < nL) (kk : ∀ ls', rv_sto ls ls' i (.ref x) → fm_W p l e R s m args below meth c Q D cl tm ad cy A V (pc + 1) ls' rest) : fm_W p l e R s m args below meth c Q D cl tm ad cy A V pc ls (.ref x :: rest) := by
  obtain ⟨hx, hb, -⟩ := X
  obtain ⟨ls', e', h'⟩ := rv_sto_of (v := .ref x) hw (show (i : Nat) < ls.size by omega) rfl
  intro H locs hP hS T hT X
  obtain ⟨t, a, b⟩ := kk ls' h' H locs hP hS T hT X
  refine ⟨t, ?_, b⟩
  jvm_step X.here [X.here.top, ↓top_set X.here.top, hx, hb, hd, e', Value.isRef]
  exact a
theorem fm_iinc (X : fm_X p s m args c cc own D cl tm ad cy A Ts nL) {i : Nat} {n : Int} {x : Int32} (hd : decode cc pc = .ok (.iinc i n, 3)) (hl : ls[i]? = some (.val (.int x))) (hs : ls.size = nL) (hw : lv_wf ls) (hi : i < nL) (kk : ∀ ls', rv_sto ls ls' i (.int (x + Int32.ofInt n)) → fm_W p l e R s m args below meth c Q D cl tm ad cy A V (pc + 3) ls' rest) : fm_W p l e R s m args below meth c Q D cl tm ad cy A V pc ls rest := by
  obtain ⟨hx, hb, -⟩ := X
  obtain ⟨ls', e', h'⟩ := rv_sto_of (v := .int (x + Int32.ofInt n)) hw (show i < ls.size by omega) rfl
  intro H locs hP hS T hT X
  obtain ⟨t, a, b⟩ := kk ls' h' H locs hP hS T hT X
  refine ⟨t, ?_, b⟩
  jvm_step X.here [X.here.top, ↓top_set X.here.top, hx, hb, hd, hl, e']
  exact a
end STEP
end
section
/-! the step is right -/
theorem zi_b (n : Int) (h1 : -128 ≤ n) (h2 : n ≤ 127) : (Int8.ofInt n).toInt32.toInt = n := by
  rw [Int8.toInt_toInt32]
  exact Int8.toInt_ofInt_of_le (by omega) (by omega)
theorem zi_s (n : Int) (h1 : -32768 ≤ n) (h2 : n ≤ 32767) : (Int16.ofInt n).toInt32.toInt = n := by
  rw [Int16.toInt_toInt32]
  exact Int16.toInt_ofInt_of_le (by omega) (by omega)
theorem rv_kf_mem {l : List (Nat × Int)} {i : Nat} {n : Int} (h : rv_kf l i = some n) : (i, n) ∈ l := by
  unfold rv_kf at h
  cases hf : l.find? (fun q => decide (q.1 = i)) with
  | none => rw [hf] at h; cases h
  | some q =>
    rw [hf] at h
    have h1 := List.mem_of_find?_eq_some hf
    have h2 : q.1 = i := by simpa using List.find?_some hf
    have h3 : q.2 = n := Option.some.inj h
    rw [← h2, ← h3]
    exact h1
def rv_I (tm : List fm_C) (M : List (Nat × Nat)) (P : List Nat) (nL : Nat) (V0 : fm_V) (avs : List Value) (V : fm_V) (ls : Array Slot) : Prop := fm_Tm tm V ∧ (∀ i f, rv_in M i f = false → V i f = V0 i f) ∧ ls.size = nL ∧ lv_wf ls ∧ ∀ j ∈ P, ∀ v, avs[j]? = some v → v.category = 1 → ls[j]? = some (.val v)
theorem rv_I_sto {tm : List fm_C} {M : List (Nat × Nat)} {P : List Nat} {nL : Nat} {V0 V : fm_V} {avs : List Value} {ls ls' : Array Slot} {k : Nat} {v : Value} (h : rv_I tm M P nL V0 avs V ls) (hs : rv_sto ls ls' k v) (hk : P.any (fun j => decide (j = k)) = false) : rv_I tm M P nL V0 avs V ls' := by
  obtain ⟨h1, h2, h3, h4, h5⟩ := h
  obtain ⟨s1, s2, s3, s4, s5⟩ := hs
  refine ⟨h1, h2, by omega, s2, fun j hj w hw hc => s4 j w (fun e => ?_) (h5 j hj w hw hc) hc⟩
  simp only [List.any_eq_false, decide_eq_true_eq] at hk
  exact hk j hj e
theorem rv_cR_ne {n : Nat} (c : Jvm.ClassFile.Cond) {x y : Int} (h : ¬ rv_cR (rv_cc c) x y) : rv_cR (rv_ne (rv_cc c)) x y := by
  cases c
  · exact h
  · exact Classical.not_not.mp h
  · exact Int.not_lt.mp h
  · exact Int.not_le.mp h
  · exact Int.not_lt.mp h
  · exact Int.not_le.mp h
/-- the tables that a body's check goes by are the machine's -/
def rv_Ev (cl : List vw_C) (Ts : List Jvm.Cond) (own : String) (fl wr : List (Nat × Nat × Nat)) (kc kl : List (Nat × Int)) : Prop :=
  (∀ q ∈ fl, fm_Lk cl Ts own q.1 q.2.1 q.2.2) ∧ (∀ q ∈ wr, fm_Cl cl q.1 ∧ ∀ (C : String) (T : u_T) (N : Nat), cl[q.1]? = some (C, T, N) → (T q.2.1).2.2.2 = false ∧ parseFieldDescriptor (T q.2.1).2.2.1 = some (if q.2.2 = 0 then .int else .boolean)) ∧ (∀ q ∈ kc, (-2147483648 ≤ q.2 ∧ q.2 ≤ 2147483647) ∧ Jvm.Cond.constant own q.1 (Int32.ofInt q.2) ∈ Ts) ∧ ∀ q ∈ kl, (-2147483648 ≤ q.2 ∧ q.2 ≤ 2147483647) ∧ Jvm.Cond.constantLong own q.1 (Int64.ofInt q.2) ∈ Ts
section SOUND
variable {p : Program} {l : Launch} {e : Env} {R : Room} {s : State} {m : MethodId} {args : Array Value} {below : List Frame} {meth : Method} {c : Code} {Q : State → Prop} {cc : ByteArray} {own : String} {D : va_G} {cl : List vw_C} {tm : List fm_C} {ad : Nat → Nat} {cy : Nat → ClassId} {A : Nat → Prop} {Ts : List Jvm.Cond} {nL : Nat}
variable {pc : Nat} {ls : Array Slot} {st : List Value} {V0 V : fm_V} {fl wr : List (Nat × Nat × Nat)} {kc kl : List (Nat × Int)} {M : List (Nat × Nat)} {P : List Nat} {avs : List Value} {Gp : fm_V → Prop}
/-- a call at pc keeps to a contract -/
def rv_Call (p : Program) (l : Launch) (e : Env) (R : Room) (s : State) (m : MethodId) (args : Array Value) (below : List Frame) (meth : Method) (c : Code) (Q : State → Prop) (D : va_G) (cl : List vw_C) (tm : List fm_C) (ad : Nat → Nat) (cy : Nat → ClassId) (A : Nat → Prop) (Gp : fm_V → Prop) (nL : Nat) (pc : Nat) (K : rv_K) : Prop :=
  ∀ (V : fm_V) (ls : Array Slot) (avs rest : List Value), rv_Pre tm Gp ad K V avs → ls.size = nL → (rest.map fun v => v.category).sum ≤ 8 → (∀ r V', rv_Post tm K V avs r V' → fm_W p l e R s m args below meth c Q D cl tm ad cy A V' (pc + 3) ls (r.toList ++ rest)) → fm_W p l e R s m args below meth c Q D cl tm ad cy A V pc ls (avs.reverse ++ rest)
theorem rv_two_ok {len : Nat} {off : Int} {c0 : Jvm.ClassFile.Cond} {a b : rv_A} {G : rv_S} {x y : Int32} {W1 W2 : Prop} (ha : rv_oI V ls a (.int x)) (hb : rv_oI V ls b (.int y)) (hG : rv_G ad V0 V ls st G)
    (n1 : ∀ g, (rv_tg pc off, g) ∈ rv_two pc len off (rv_cc c0) a b G → rv_G ad V0 V ls st g → W1) (n2 : ∀ g, (pc + len, g) ∈ rv_two pc len off (rv_cc c0) a b G → rv_G ad V0 V ls st g → W2) : (rv_cR (rv_cc c0) x.toInt y.toInt → W1) ∧ (¬ rv_cR (rv_cc c0) x.toInt y.toInt → W2) := by
  refine ⟨fun h => ?_, fun h => ?_⟩
  · obtain ⟨g, g1, g2⟩ := rv_one_ok ha hb h hG
    exact n1 g (by unfold rv_two; exact List.mem_append_left _ (List.mem_map.mpr ⟨g, g1, rfl⟩)) g2
  · obtain ⟨g, g1, g2⟩ := rv_one_ok ha hb (rv_cR_ne (n := 0) c0 h) hG
    exact n2 g (by unfold rv_two; exact List.mem_append_right _ (List.mem_map.mpr ⟨g, g1, rfl⟩)) g2
theorem rv_cst_ok {n : Int} (h1 : -2147483648 ≤ n) (h2 : n ≤ 2147483647) : rv_oI V ls (rv_cst n) (.int (Int32.ofInt n)) := by
  have h := rv_okB (ad := fun x => x) (V := V) (ls := ls) (lo := n) (hi := n) (x := Int32.ofInt n) (by rw [zi_of h1 h2]; omega) (by rw [zi_of h1 h2]; omega)
  exact rv_okI rfl h
theorem rv_ild_ok {k : Nat} {G G' : rv_S} (h : rv_ild k G = some G') (hG : rv_G ad V0 V ls st G) : ∃ x : Int32, ls[k]? = some (.val (.int x)) ∧ rv_G ad V0 V ls (.int x :: st) G' := by
  unfold rv_ild at h
  cases ha : G.1[k]? with
  | none => rw [ha] at h; cases h
  | some a =>
    rw [ha] at h
    dsimp only at h
    by_cases c1 : a.1 = 1
    · rw [if_pos c1] at h
      cases h
      have h1 := hG.1 k a ha
      unfold rv_lok at h1
      rw [if_pos c1] at h1
      obtain ⟨y, y1, y2, y3, y4⟩ := h1
      refine ⟨y, y1, hG.1, ⟨rv_okI' rfl ⟨y, rfl, y2, y3, y4, fun q hq => ?_, fun _ q hq => absurd hq List.not_mem_nil⟩, hG.2.1⟩, hG.2.2⟩
      rw [List.mem_singleton.mp (show q ∈ [((.inl k : rv_U), (0 : Int))] from hq)]
      refine ⟨0, ?_⟩
      show y.toInt = rv_lx ls k + 0 + 4294967296 * 0
      rw [rv_lx_at y1]
      omega
    · rw [if_neg c1] at h
      cases h
theorem rv_ald_ok {k : Nat} {G G' : rv_S} (h : rv_ald k G = some G') (hG : rv_G ad V0 V ls st G) : ∃ x : Nat, ls[k]? = some (.val (.ref x)) ∧ rv_G ad V0 V ls (.ref x :: st) G' := by
  unfold rv_ald at h
  cases ha : G.1[k]? with
  | none => rw [ha] at h; cases h
  | some a =>
    rw [ha] at h
    dsimp only at h
    by_cases c1 : a.1 = 2
    · rw [if_pos c1] at h
      cases h
      have h1 := hG.1 k a ha
      unfold rv_lok at h1
      rw [if_neg (by omega), if_pos c1] at h1
      exact ⟨_, h1, hG.1, ⟨rv_okR' rfl rfl, hG.2.1⟩, hG.2.2⟩
    · rw [if_neg c1] at h
      cases h
theorem rv_sto1_ok {t k : Nat} {G G' : rv_S} (ht : t = 1 ∨ t = 2) (h : rv_sto1 t P nL k G = some G') (hG : rv_G ad V0 V ls st G) : k < nL ∧ P.any (fun j => decide (j = k)) = false ∧ ∃ v rest, st = v :: rest ∧ (t = 1 → ∃ x, v = .int x) ∧ (t = 2 → ∃ x, v = .ref x) ∧ ∀ ls', rv_sto ls ls' k v → rv_G ad V0 V ls' rest G' := by
  unfold rv_sto1 at h
  cases hs : G.2.1 with
  | nil => rw [hs] at h; cases h
  | cons a S =>
    rw [hs] at h
    dsimp only at h
    by_cases c1 : a.1 = t ∧ k < nL ∧ P.any (fun j => decide (j = k)) = false
    · rw [if_pos c1] at h
      cases h
      have hS := hG.2.1
      rw [hs] at hS
      obtain ⟨v, vs, rfl, h1, h2⟩ := rv_sk_cons hS
      refine ⟨c1.2.1, c1.2.2, v, vs, rfl, fun e1 => ?_, fun e2 => ?_, fun ls' hst => rv_st_ok hst h1 (by omega) ⟨hG.1, h2, hG.2.2⟩⟩
      · obtain ⟨x, e, -⟩ := rv_okI (by omega) h1
        exact ⟨x, e⟩
      · exact ⟨_, rv_okR (by omega) h1⟩
    · rw [if_neg c1] at h
      cases h
theorem rv_ii_ok {k : Nat} {n : Int} {G G' : rv_S} (h : rv_ii P nL k n G = some G') (hG : rv_G ad V0 V ls st G) : k < nL ∧ P.any (fun j => decide (j = k)) = false ∧ ∃ x : Int32, ls[k]? = some (.val (.int x)) ∧ ∀ ls', rv_sto ls ls' k (.int (x + Int32.ofInt n)) → rv_G ad V0 V ls' st G' ∧ rv_Rl (rv_tch (.iinc k n) G) ls ls' := by
  unfold rv_ii at h
  cases ha : G.1[k]? with
  | none => rw [ha] at h; cases h
  | some a =>
    rw [ha] at h
    dsimp only at h
    by_cases c1 : a.1 = 1 ∧ k < nL ∧ P.any (fun j => decide (j = k)) = false ∧ -2147483648 ≤ n ∧ n ≤ 2147483647
    · rw [if_pos c1] at h
      cases h
      have h1 := hG.1 k a ha
      unfold rv_lok at h1
      rw [if_pos c1.1] at h1
      obtain ⟨y, y1, y2, y3, y4⟩ := h1
      refine ⟨c1.2.1, c1.2.2.1, y, y1, fun ls' hst => ⟨rv_inc_ok c1.2.2.2 y1 hst y2 y3 hG, ?_⟩⟩
      obtain ⟨s1, s2, s3, s4, s5⟩ := hst
      unfold rv_tch
      dsimp only
      rw [ha]
      dsimp only
      by_cases c2 : a.1 = 1 ∧ -2147483648 ≤ rv_l a + n ∧ rv_h a + n ≤ 2147483647
      · rw [if_pos c2]
        refine ⟨s5, ?_⟩
        rw [rv_lx_at s3, rv_lx_at y1]
        obtain ⟨q, hq⟩ := zi_add y (Int32.ofInt n)
        rw [zi_of c1.2.2.2.1 c1.2.2.2.2] at hq
        have hr := zi_rng (y + Int32.ofInt n)
        omega
      · rw [if_neg c2]
        exact s5
    · rw [if_neg c1] at h
      cases h
theorem rv_b2_ok {op : Nat} {G G' : rv_S} (h : rv_b2 op G = some G') (hG : rv_G ad V0 V ls st G) : ∃ x y rest, st = .int y :: .int x :: rest ∧ (6 ≤ op → ¬ y = 0) ∧ ∀ z : Int32, rv_rel op x y z → rv_G ad V0 V ls (.int z :: rest) G' := by
  unfold rv_b2 at h
  match hs : G.2.1, h with
  | b :: a :: S, h =>
    dsimp only at h
    cases hr : rv_bin op a b with
    | none => rw [hr] at h; cases h
    | some r =>
      rw [hr] at h
      cases h
      have hS := hG.2.1
      rw [hs] at hS
      obtain ⟨vb, vs, rfl, h1, h2⟩ := rv_sk_cons hS
      obtain ⟨va, vs, rfl, h3, h4⟩ := rv_sk_cons h2
      obtain ⟨x, y, rfl, rfl, h5, h6⟩ := rv_bin_ok hr h3 h1
      exact ⟨x, y, vs, rfl, h5, fun z hz => ⟨hG.1, ⟨h6 z hz, h4⟩, hG.2.2⟩⟩
  | [_], h => cases h
  | [], h => cases h
theorem rv_u1_ok {f : rv_A → rv_A} {G G' : rv_S} (h : rv_u1 f G = some G') (hG : rv_G ad V0 V ls st G) : ∃ a x rest, st = .int x :: rest ∧ rv_oI V ls a (.int x) ∧ ∀ v, rv_ok ad V ls (f a) v → rv_G ad V0 V ls (v :: rest) G' := by
  unfold rv_u1 at h
  match hs : G.2.1, h with
  | a :: S, h =>
    dsimp only at h
    by_cases c1 : a.1 = 1
    · rw [if_pos c1] at h
      cases h
      have hS := hG.2.1
      rw [hs] at hS
      obtain ⟨va, vs, rfl, h1, h2⟩ := rv_sk_cons hS
      have h3 := rv_okI c1 h1
      obtain ⟨x, rfl, -⟩ := id h3
      exact ⟨a, x, vs, rfl, h3, fun v hv => ⟨hG.1, ⟨hv, h2⟩, hG.2.2⟩⟩
    · rw [if_neg c1] at h
      cases h
  | [], h => cases h
theorem rv_o1_some {n : Nat} {G : Option rv_S} {outs : List (Nat × rv_S)} (h : rv_o1 n G = some outs) : ∃ g, G = some g ∧ outs = [(n, g)] := by
  unfold rv_o1 at h
  cases G with
  | none => cases h
  | some g => exact ⟨g, rfl, (Option.some.inj h).symm⟩
end SOUND
end
section
/-! the step is right: fields, arrays, and all of them together -/
section STEPOK
variable {p : Program} {l : Launch} {e : Env} {R : Room} {s : State} {m : MethodId} {args : Array Value} {below : List Frame} {meth : Method} {c : Code} {Q : State → Prop} {cc : ByteArray} {own : String} {D : va_G} {cl : List vw_C} {tm : List fm_C} {ad : Nat → Nat} {cy : Nat → ClassId} {A : Nat → Prop} {Ts : List Jvm.Cond} {nL : Nat}
variable {pc : Nat} {ls : Array Slot} {st : List Value} {V0 V : fm_V} {fl wr : List (Nat × Nat × Nat)} {kc kl : List (Nat × Int)} {M : List (Nat × Nat)} {P : List Nat} {avs : List Value} {Gp : fm_V → Prop}
theorem rv_gf_ok {i : Nat} {G G' : rv_S} (hE : rv_Ev cl Ts own fl wr kc kl) (hT : fm_Tm tm V) (h : rv_gf tm fl i G = some G') (hG : rv_G ad V0 V ls st G) :
    ∃ (j : Nat) (rest : List Value) (ci k : Nat) (ts : List fm_F) (t : fm_F), st = .ref (ad j) :: rest ∧ fm_Lk cl Ts own i ci k ∧ tm[j]? = some (.inr (ci, ts)) ∧ ts[k]? = some t ∧ rv_G ad V0 V ls (fm_val ad (V j k) t :: rest) G' := by
  unfold rv_gf at h
  cases hq : fl.find? (fun q => decide (q.1 = i)) with
  | none => rw [hq] at h; cases h
  | some q =>
    have q1 := List.mem_of_find?_eq_some hq
    have q2 : q.1 = i := by simpa using List.find?_some hq
    rw [hq] at h
    cases hs : G.2.1 with
    | nil => rw [hs] at h; cases h
    | cons a S =>
      rw [hs] at h
      dsimp only at h
      by_cases c1 : a.1 = 2 ∧ q.2.2 < 5000
      · rw [if_pos c1] at h
        have hS := hG.2.1
        rw [hs] at hS
        obtain ⟨v, vs, rfl, h1, h2⟩ := rv_sk_cons hS
        have hv := rv_okR c1.1 h1
        have hL := hE.1 q q1
        rw [q2] at hL
        cases ht : tm[a.2.1]? with
        | none => rw [ht] at h; cases h
        | some t =>
          rw [ht] at h
          cases t with
          | inl t => cases h
          | inr o =>
            obtain ⟨ci, ts⟩ := o
            dsimp only at h
            by_cases c2 : ci = q.2.1
            · rw [if_pos c2] at h
              cases hk : ts[q.2.2]? with
              | none => rw [hk] at h; cases h
              | some t =>
                rw [hk] at h
                refine ⟨a.2.1, vs, ci, q.2.2, ts, t, by rw [hv], by rw [c2]; exact hL, ht, hk, ?_⟩
                cases t with
                | inr j =>
                  cases h
                  exact ⟨hG.1, ⟨rv_okR' rfl rfl, h2⟩, hG.2.2⟩
                | inl b =>
                  obtain ⟨lo, hi⟩ := b
                  cases h
                  have hb := hT.2 a.2.1 ci ts q.2.2 lo hi ht hk
                  refine ⟨hG.1, ⟨rv_rd_ok hG.2.2 ?_ hb.1 hb.2, h2⟩, hG.2.2⟩
                  show V a.2.1 q.2.2 = V a.2.1 (rv_ix ls q.2.2)
                  have : rv_ix ls q.2.2 = q.2.2 := by unfold rv_ix; rw [if_pos c1.2]
                  rw [this]
            · rw [if_neg c2] at h
              cases h
      · rw [if_neg c1] at h
        cases h
theorem rv_pfd_ok {i : Nat} {G G' : rv_S} (hE : rv_Ev cl Ts own fl wr kc kl) (h : rv_pfd tm fl wr M i G = some G') (hG : rv_G ad V0 V ls st G) :
    ∃ (j : Nat) (rest : List Value) (ci k : Nat) (ts : List fm_F) (lo hi : Int) (x : Int32), st = .int x :: .ref (ad j) :: rest ∧ fm_Lk cl Ts own i ci k ∧ fm_Cl cl ci ∧ (∀ (C : String) (T : u_T) (N : Nat), cl[ci]? = some (C, T, N) → (T k).2.2.2 = false ∧ ∃ ty, parseFieldDescriptor (T k).2.2.1 = some ty ∧ narrow ty (.int x) = .int x ∧ fits ty (.int x) = true) ∧ tm[j]? = some (.inr (ci, ts)) ∧ ts[k]? = some (.inl (lo, hi)) ∧ lo ≤ x.toInt ∧ x.toInt ≤ hi ∧ rv_in M j k = true ∧ rv_G ad V0 (fm_up V j k x) ls rest G' := by
  unfold rv_pfd at h
  cases hq : fl.find? (fun q => decide (q.1 = i)) with
  | none => rw [hq] at h; cases h
  | some q =>
    have q1 := List.mem_of_find?_eq_some hq
    have q2 : q.1 = i := by simpa using List.find?_some hq
    rw [hq] at h
    match hs : G.2.1, h with
    | [], h => cases h
    | [_], h => cases h
    | v :: a :: S, h =>
      dsimp only at h
      by_cases c1 : a.1 = 2 ∧ v.1 = 1 ∧ q.2.2 < 5000 ∧ rv_in M a.2.1 q.2.2 = true
      · rw [if_pos c1] at h
        have hS := hG.2.1
        rw [hs] at hS
        obtain ⟨vv, vs, rfl, h1, h2⟩ := rv_sk_cons hS
        obtain ⟨va, vs, rfl, h3, h4⟩ := rv_sk_cons h2
        have hv := rv_okR c1.1 h3
        have hx := rv_okI c1.2.1 h1
        obtain ⟨x, rfl, x1, x2, -⟩ := id hx
        have hL := hE.1 q q1
        rw [q2] at hL
        cases ht : tm[a.2.1]? with
        | none => rw [ht] at h; cases h
        | some t =>
          rw [ht] at h
          cases t with
          | inl t => cases h
          | inr o =>
            obtain ⟨ci, ts⟩ := o
            cases hw : wr.find? (fun w => decide (w.1 = q.2.1) && decide (w.2.1 = q.2.2)) with
            | none => rw [hw] at h; cases h
            | some w =>
              rw [hw] at h
              have w1 := List.mem_of_find?_eq_some hw
              have w2 : w.1 = q.2.1 ∧ w.2.1 = q.2.2 := by simpa using List.find?_some hw
              dsimp only at h
              by_cases c2 : ci = q.2.1
              · rw [if_pos c2] at h
                cases hk : ts[q.2.2]? with
                | none => rw [hk] at h; cases h
                | some t =>
                  rw [hk] at h
                  cases t with
                  | inr j => cases h
                  | inl b =>
                    obtain ⟨lo, hi⟩ := b
                    dsimp only at h
                    by_cases c3 : lo ≤ rv_l v ∧ rv_h v ≤ hi ∧ (w.2.2 = 0 ∨ (0 ≤ lo ∧ hi ≤ 1))
                    · rw [if_pos c3] at h
                      cases h
                      obtain ⟨g1, g2⟩ := hE.2.1 w w1
                      rw [w2.1, ← c2] at g1 g2
                      rw [w2.2] at g2
                      refine ⟨a.2.1, vs, ci, q.2.2, ts, lo, hi, x, by rw [hv], by rw [c2]; exact hL, g1, fun C T N hc => ⟨(g2 C T N hc).1, _, (g2 C T N hc).2, ?_, ?_⟩, ht, hk, by omega, by omega, c1.2.2.2, rv_pt_ok c1.2.2.1 hx ⟨hG.1, h4, hG.2.2⟩⟩
                      · by_cases c4 : w.2.2 = 0
                        · rw [if_pos c4]
                          rfl
                        · rw [if_neg c4]
                          rcases zi_bit (x := x) (by omega) (by omega) with rfl | rfl <;> rfl
                      · by_cases c4 : w.2.2 = 0
                        · rw [if_pos c4]
                          rfl
                        · rw [if_neg c4]
                          rcases zi_bit (x := x) (by omega) (by omega) with rfl | rfl <;> rfl
                    · rw [if_neg c3] at h
                      cases h
              · rw [if_neg c2] at h
                cases h
      · rw [if_neg c1] at h
        cases h
theorem rv_xl_ok {b8 : Bool} {G G' : rv_S} (hT : fm_Tm tm V) (h : rv_xl tm b8 G = some G') (hG : rv_G ad V0 V ls st G) :
    ∃ (j : Nat) (rest : List Value) (t n : Nat) (lo hi : Int) (x : Int32), st = .int x :: .ref (ad j) :: rest ∧ tm[j]? = some (.inl (t, n, lo, hi)) ∧ (if b8 = true then t = 1 ∨ t = 2 else t = 0) ∧ vp_in x n ∧ rv_G ad V0 V ls (.int (V j x.toNatClampNeg) :: rest) G' := by
  unfold rv_xl at h
  match hs : G.2.1, h with
  | [], h => cases h
  | [_], h => cases h
  | b :: a :: S, h =>
    dsimp only at h
    by_cases c1 : a.1 = 2 ∧ b.1 = 1
    · rw [if_pos c1] at h
      have hS := hG.2.1
      rw [hs] at hS
      obtain ⟨vv, vs, rfl, h1, h2⟩ := rv_sk_cons hS
      obtain ⟨va, vs, rfl, h3, h4⟩ := rv_sk_cons h2
      have hv := rv_okR c1.1 h3
      have hx := rv_okI c1.2 h1
      obtain ⟨x, rfl, x1, x2, -⟩ := id hx
      cases ht : tm[a.2.1]? with
      | none => rw [ht] at h; cases h
      | some t =>
        rw [ht] at h
        cases t with
        | inr o => cases h
        | inl o =>
          obtain ⟨t, n, lo, hi⟩ := o
          dsimp only at h
          by_cases c2 : (if b8 = true then t = 1 ∨ t = 2 else t = 0) ∧ 0 ≤ rv_l b ∧ rv_h b < n
          · rw [if_pos c2] at h
            have hin : x.toInt.toNat < n := by omega
            have hb := hT.1 a.2.1 t n lo hi x.toInt.toNat ht hin
            refine ⟨a.2.1, vs, t, n, lo, hi, x, by rw [hv], ht, c2.1, zi_in (by omega) (by omega), ?_⟩
            rw [zi_clamp]
            cases hf : rv_ip b with
            | none =>
              rw [hf] at h
              cases h
              exact ⟨hG.1, ⟨rv_okB hb.1 hb.2, h4⟩, hG.2.2⟩
            | some f =>
              rw [hf] at h
              cases h
              refine ⟨hG.1, ⟨rv_rd_ok hG.2.2 ?_ hb.1 hb.2, h4⟩, hG.2.2⟩
              show V a.2.1 x.toInt.toNat = V a.2.1 (rv_ix ls f)
              rw [rv_ip_ok hx hf]
          · rw [if_neg c2] at h
            cases h
    · rw [if_neg c1] at h
      cases h
theorem rv_xs_ok {b8 : Bool} {G G' : rv_S} (hT : fm_Tm tm V) (h : rv_xs tm M b8 G = some G') (hG : rv_G ad V0 V ls st G) :
    ∃ (j : Nat) (rest : List Value) (t n : Nat) (lo hi : Int) (x y : Int32), st = .int y :: .int x :: .ref (ad j) :: rest ∧ tm[j]? = some (.inl (t, n, lo, hi)) ∧ (if b8 = true then (t = 1 ∧ -128 ≤ lo ∧ hi ≤ 127) ∨ (t = 2 ∧ 0 ≤ lo ∧ hi ≤ 1) else t = 0) ∧ vp_in x n ∧ lo ≤ y.toInt ∧ y.toInt ≤ hi ∧ rv_in M j x.toNatClampNeg = true ∧ rv_G ad V0 (fm_up V j x.toNatClampNeg y) ls rest G' := by
  unfold rv_xs at h
  match hs : G.2.1, h with
  | [], h => cases h
  | [_], h => cases h
  | [_, _], h => cases h
  | v :: b :: a :: S, h =>
    dsimp only at h
    by_cases c1 : a.1 = 2 ∧ b.1 = 1 ∧ v.1 = 1
    · rw [if_pos c1] at h
      have hS := hG.2.1
      rw [hs] at hS
      obtain ⟨vy, vs, rfl, h5, h6⟩ := rv_sk_cons hS
      obtain ⟨vv, vs, rfl, h1, h2⟩ := rv_sk_cons h6
      obtain ⟨va, vs, rfl, h3, h4⟩ := rv_sk_cons h2
      have hv := rv_okR c1.1 h3
      have hx := rv_okI c1.2.1 h1
      obtain ⟨x, rfl, x1, x2, -⟩ := id hx
      have hy := rv_okI c1.2.2 h5
      obtain ⟨y, rfl, y1, y2, -⟩ := id hy
      cases ht : tm[a.2.1]? with
      | none => rw [ht] at h; cases h
      | some t =>
        rw [ht] at h
        cases t with
        | inr o => cases h
        | inl o =>
          obtain ⟨t, n, lo, hi⟩ := o
          dsimp only at h
          by_cases c2 : (if b8 = true then (t = 1 ∧ -128 ≤ lo ∧ hi ≤ 127) ∨ (t = 2 ∧ 0 ≤ lo ∧ hi ≤ 1) else t = 0) ∧ 0 ≤ rv_l b ∧ rv_h b < n ∧ lo ≤ rv_l v ∧ rv_h v ≤ hi
          · rw [if_pos c2] at h
            refine ⟨a.2.1, vs, t, n, lo, hi, x, y, by rw [hv], ht, c2.1, zi_in (by omega) (by omega), by omega, by omega, ?_⟩
            rw [zi_clamp]
            by_cases c3 : rv_l b = rv_h b ∧ rv_l b < 5000
            · rw [if_pos c3] at h
              have e : x.toInt.toNat = (rv_l b).toNat := by congr 1; omega
              rw [e]
              by_cases c4 : rv_in M a.2.1 (rv_l b).toNat = true
              · rw [if_pos c4] at h
                cases h
                exact ⟨c4, rv_pt_ok (by omega) hy ⟨hG.1, h4, hG.2.2⟩⟩
              · rw [if_neg c4] at h
                cases h
            · rw [if_neg c3] at h
              by_cases c4 : rv_in M a.2.1 9999 = true
              · rw [if_pos c4] at h
                cases h
                refine ⟨?_, rv_pc_ok ⟨hG.1, h4, hG.2.2⟩⟩
                simp only [rv_in, List.any_eq_true, Bool.and_eq_true, Bool.or_eq_true, decide_eq_true_eq] at c4 ⊢
                obtain ⟨q, q1, q2, q3⟩ := c4
                exact ⟨q, q1, q2, Or.inr (q3.elim id id)⟩
              · rw [if_neg c4] at h
                cases h
          · rw [if_neg c2] at h
            cases h
    · rw [if_neg c1] at h
      cases h
theorem rv_I_up {j k : Nat} {x : Int32} (h : rv_I tm M P nL V0 avs V ls) (hT : fm_Tm tm (fm_up V j k x)) (hM : rv_in M j k = true) : rv_I tm M P nL V0 avs (fm_up V j k x) ls := by
  obtain ⟨h1, h2, h3⟩ := h
  refine ⟨hT, fun i f hif => ?_, h3⟩
  rw [fm_up_ne (fun q => by rw [q.1, q.2, hM] at hif; cases hif)]
  exact h2 i f hif
end STEPOK
end
section
/-! ALL STEPS -/
section ALLSTEPS
variable {p : Program} {l : Launch} {e : Env} {R : Room} {s : State} {m : MethodId} {args : Array Value} {below : List Frame} {meth : Method} {c : Code} {Q : State → Prop} {cc : ByteArray} {own : String} {D : va_G} {cl : List vw_C} {tm : List fm_C} {ad : Nat → Nat} {cy : Nat → ClassId} {A : Nat → Prop} {Ts : List Jvm.Cond} {nL : Nat}
variable {pc : Nat} {ls : Array Slot} {st : List Value} {V0 V : fm_V} {fl wr : List (Nat × Nat × Nat)} {kc kl : List (Nat × Int)} {M : List (Nat × Nat)} {P : List Nat} {avs : List Value} {Gp : fm_V → Prop}
theorem rv_lk_off {x : Int} {d : Int} : ∀ (ps : List (Int × Int)), Op.lookupswitch.offset ps d x = d ∨ ∃ q ∈ ps, q.1 = x ∧ Op.lookupswitch.offset ps d x = q.2 := by
  intro ps
  induction ps with
  | nil => exact Or.inl rfl
  | cons q ps ih =>
    rw [Op.lookupswitch.offset_cons]
    by_cases c : q.1 = x
    · first
        | (rw [if_pos c]; exact Or.inr ⟨q, List.mem_cons_self, c, rfl⟩)
        | (rw [if_pos c.symm]; exact Or.inr ⟨q, List.mem_cons_self, c, rfl⟩)
    · first
        | rw [if_neg c]
        | rw [if_neg (fun z => c z.symm)]
      rcases ih with h | ⟨q', h1, h2, h3⟩
      · exact Or.inl h
      · exact Or.inr ⟨q', List.mem_cons_of_mem _ h1, h2, h3⟩
theorem rv_G_psh {G : rv_S} {a : rv_A} {v : Value} (h : rv_ok ad V ls a v) (hG : rv_G ad V0 V ls st G) : rv_G ad V0 V ls (v :: st) (rv_psh a G) := ⟨hG.1, ⟨h, hG.2.1⟩, hG.2.2⟩
set_option maxHeartbeats 2000000 in
theorem rv_step (X : fm_X p s m args c cc own D cl tm ad cy A Ts nL) (hE : rv_Ev cl Ts own fl wr kc kl) {ins : Instr} {len : Nat} {G : rv_S} {kx : List rv_K} {outs : List (Nat × rv_S)} (hd : decode cc pc = .ok (ins, len)) (h : rv_tr (tm, fl, wr, kc, kl, M, P, nL) pc ins len G kx = some outs) (hI : rv_I tm M P nL V0 avs V ls) (hG : rv_G ad V0 V ls st G)
    (hGp : ∀ V', (∀ i f, rv_in M i f = false → V' i f = V0 i f) → Gp V') (hC : ∀ K ∈ kx, rv_Call p l e R s m args below meth c Q D cl tm ad cy A Gp nL pc K)
    (next : ∀ o ∈ outs, ∀ V' ls' st', rv_I tm M P nL V0 avs V' ls' → rv_G ad V0 V' ls' st' o.2 → rv_Rl (rv_tch ins G) ls ls' → fm_W p l e R s m args below meth c Q D cl tm ad cy A V' o.1 ls' st') : fm_W p l e R s m args below meth c Q D cl tm ad cy A V pc ls st := by
  obtain ⟨hx, hb, hown, hts, hK, hD, hml⟩ := id X
  have hT := hI.1
  unfold rv_tr at h
  split at h
  · rename_i n
    by_cases c1 : -1 ≤ n ∧ n ≤ 5
    · rw [if_pos c1] at h
      cases h
      intro H locs hP hS
      have e := zi_of (z := n) (by omega) (by omega)
      exact lv_iconst (v := Int32.ofInt n) hx hb hd rfl (next _ (List.mem_singleton.mpr rfl) V ls _ hI (rv_G_psh (rv_okB (by rw [e]; omega) (by rw [e]; omega)) hG) (fun j => rfl) H locs hP hS)
    · rw [if_neg c1] at h
      cases h
  · rename_i n
    by_cases c1 : -128 ≤ n ∧ n ≤ 127
    · rw [if_pos c1] at h
      cases h
      intro H locs hP hS
      have e := zi_b n c1.1 c1.2
      exact lv_bipush (v := (Int8.ofInt n).toInt32) hx hb hd rfl (next _ (List.mem_singleton.mpr rfl) V ls _ hI (rv_G_psh (rv_okB (by rw [e]; omega) (by rw [e]; omega)) hG) (fun j => rfl) H locs hP hS)
    · rw [if_neg c1] at h
      cases h
  · rename_i n
    by_cases c1 : -32768 ≤ n ∧ n ≤ 32767
    · rw [if_pos c1] at h
      cases h
      intro H locs hP hS
      have e := zi_s n c1.1 c1.2
      exact lv_sipush (v := (Int16.ofInt n).toInt32) hx hb hd rfl (next _ (List.mem_singleton.mpr rfl) V ls _ hI (rv_G_psh (rv_okB (by rw [e]; omega) (by rw [e]; omega)) hG) (fun j => rfl) H locs hP hS)
    · rw [if_neg c1] at h
      cases h
  · rename_i i
    dsimp only at h
    cases hn : rv_kf kc i with
    | none => rw [hn] at h; cases h
    | some n =>
      rw [hn] at h
      cases h
      obtain ⟨b1, b2⟩ := hE.2.2.1 _ (rv_kf_mem hn)
      intro H locs hP hS
      have e := zi_of b1.1 b1.2
      exact lv_ldc hx hb hown (hts _ b2) hd (next _ (List.mem_singleton.mpr rfl) V ls _ hI (rv_G_psh (rv_okB (by rw [e]; omega) (by rw [e]; omega)) hG) (fun j => rfl) H locs hP hS)
  · rename_i i
    dsimp only at h
    cases hn : rv_kf kc i with
    | none => rw [hn] at h; cases h
    | some n =>
      rw [hn] at h
      cases h
      obtain ⟨b1, b2⟩ := hE.2.2.1 _ (rv_kf_mem hn)
      intro H locs hP hS
      have e := zi_of b1.1 b1.2
      exact lv_ldcw hx hb hown (hts _ b2) hd (next _ (List.mem_singleton.mpr rfl) V ls _ hI (rv_G_psh (rv_okB (by rw [e]; omega) (by rw [e]; omega)) hG) (fun j => rfl) H locs hP hS)
  · rename_i i
    dsimp only at h
    cases hn : rv_kf kl i with
    | none => rw [hn] at h; cases h
    | some n =>
      rw [hn] at h
      cases h
      obtain ⟨b1, b2⟩ := hE.2.2.2 _ (rv_kf_mem hn)
      dsimp only at b1
      intro H locs hP hS
      have e : (Int64.ofInt n).toInt = n := Int64.toInt_ofInt_of_le (by omega) (by omega)
      exact lv_ldc2 hx hb hown (hts _ b2) hd (next _ (List.mem_singleton.mpr rfl) V ls _ hI (rv_G_psh (rv_okL' rfl ⟨_, rfl, by rw [e]; exact Int.le_refl _, by rw [e]; exact Int.le_refl _, fun q hq => absurd hq List.not_mem_nil⟩) hG) (fun j => rfl) H locs hP hS)
  · rename_i n
    cases h
    intro H locs hP hS
    have e : (Int64.ofNat (n : Nat)).toInt = ((n : Nat) : Int) := by
      match n with
      | 0 => rfl
      | 1 => rfl
    exact lv_lconst (v := Int64.ofNat (n : Nat)) hx hb hd rfl (next _ (List.mem_singleton.mpr rfl) V ls _ hI (rv_G_psh (rv_okL' rfl ⟨_, rfl, by rw [e]; exact Int.le_refl _, by rw [e]; exact Int.le_refl _, fun q hq => absurd hq List.not_mem_nil⟩) hG) (fun j => rfl) H locs hP hS)
  · obtain ⟨g, hg, rfl⟩ := rv_o1_some h
    obtain ⟨x, hx1, hx2⟩ := rv_ild_ok hg hG
    intro H locs hP hS
    exact lv_iload_n hx hb hd rfl hx1 (next _ (List.mem_singleton.mpr rfl) V ls _ hI hx2 (fun j => rfl) H locs hP hS)
  · obtain ⟨g, hg, rfl⟩ := rv_o1_some h
    obtain ⟨x, hx1, hx2⟩ := rv_ild_ok hg hG
    intro H locs hP hS
    exact lv_iload hx hb hd hx1 (next _ (List.mem_singleton.mpr rfl) V ls _ hI hx2 (fun j => rfl) H locs hP hS)
  · obtain ⟨g, hg, rfl⟩ := rv_o1_some h
    obtain ⟨x, hx1, hx2⟩ := rv_ald_ok hg hG
    intro H locs hP hS
    exact lv_aload_n hx hb hd rfl hx1 (next _ (List.mem_singleton.mpr rfl) V ls _ hI hx2 (fun j => rfl) H locs hP hS)
  · obtain ⟨g, hg, rfl⟩ := rv_o1_some h
    obtain ⟨x, hx1, hx2⟩ := rv_ald_ok hg hG
    intro H locs hP hS
    exact lv_aload hx hb hd hx1 (next _ (List.mem_singleton.mpr rfl) V ls _ hI hx2 (fun j => rfl) H locs hP hS)
  · obtain ⟨g, hg, rfl⟩ := rv_o1_some h
    obtain ⟨k1, k2, v, rest, rfl, i1, i2, k3⟩ := rv_sto1_ok (by decide) hg hG
    obtain ⟨x, rfl⟩ := i1 rfl
    exact fm_istore_n X hd hI.2.2.1 hI.2.2.2.1 k1 (fun ls' hs' => next _ (List.mem_singleton.mpr rfl) V ls' _ (rv_I_sto hI hs' k2) (k3 ls' hs') hs'.2.2.2.2)
  · obtain ⟨g, hg, rfl⟩ := rv_o1_some h
    obtain ⟨k1, k2, v, rest, rfl, i1, i2, k3⟩ := rv_sto1_ok (by decide) hg hG
    obtain ⟨x, rfl⟩ := i1 rfl
    exact fm_istore X hd hI.2.2.1 hI.2.2.2.1 k1 (fun ls' hs' => next _ (List.mem_singleton.mpr rfl) V ls' _ (rv_I_sto hI hs' k2) (k3 ls' hs') hs'.2.2.2.2)
  · obtain ⟨g, hg, rfl⟩ := rv_o1_some h
    obtain ⟨k1, k2, v, rest, rfl, i1, i2, k3⟩ := rv_sto1_ok (by decide) hg hG
    obtain ⟨x, rfl⟩ := i2 rfl
    exact fm_astore_n X hd hI.2.2.1 hI.2.2.2.1 k1 (fun ls' hs' => next _ (List.mem_singleton.mpr rfl) V ls' _ (rv_I_sto hI hs' k2) (k3 ls' hs') hs'.2.2.2.2)
  · obtain ⟨g, hg, rfl⟩ := rv_o1_some h
    obtain ⟨k1, k2, v, rest, rfl, i1, i2, k3⟩ := rv_sto1_ok (by decide) hg hG
    obtain ⟨x, rfl⟩ := i2 rfl
    exact fm_astore X hd hI.2.2.1 hI.2.2.2.1 k1 (fun ls' hs' => next _ (List.mem_singleton.mpr rfl) V ls' _ (rv_I_sto hI hs' k2) (k3 ls' hs') hs'.2.2.2.2)
  · obtain ⟨g, hg, rfl⟩ := rv_o1_some h
    obtain ⟨k1, k2, x, k3, k4⟩ := rv_ii_ok hg hG
    exact fm_iinc X hd k3 hI.2.2.1 hI.2.2.2.1 k1 (fun ls' hs' => next _ (List.mem_singleton.mpr rfl) V ls' _ (rv_I_sto hI hs' k2) (k4 ls' hs').1 (k4 ls' hs').2)
  · obtain ⟨g, hg, rfl⟩ := rv_o1_some h
    obtain ⟨x, y, rest, rfl, -, k3⟩ := rv_b2_ok hg hG
    intro H locs hP hS
    exact lv_iadd hx hb hd (next _ (List.mem_singleton.mpr rfl) V ls _ hI (k3 _ rfl) (fun j => rfl) H locs hP hS)
  · obtain ⟨g, hg, rfl⟩ := rv_o1_some h
    obtain ⟨x, y, rest, rfl, -, k3⟩ := rv_b2_ok hg hG
    intro H locs hP hS
    exact lv_isub hx hb hd (next _ (List.mem_singleton.mpr rfl) V ls _ hI (k3 _ rfl) (fun j => rfl) H locs hP hS)
  · obtain ⟨g, hg, rfl⟩ := rv_o1_some h
    obtain ⟨x, y, rest, rfl, -, k3⟩ := rv_b2_ok hg hG
    intro H locs hP hS
    exact lv_imul hx hb hd (next _ (List.mem_singleton.mpr rfl) V ls _ hI (k3 _ rfl) (fun j => rfl) H locs hP hS)
  · obtain ⟨g, hg, rfl⟩ := rv_o1_some h
    obtain ⟨x, y, rest, rfl, -, k3⟩ := rv_b2_ok hg hG
    intro H locs hP hS
    exact lv_iand hx hb hd (next _ (List.mem_singleton.mpr rfl) V ls _ hI (k3 _ rfl) (fun j => rfl) H locs hP hS)
  · obtain ⟨g, hg, rfl⟩ := rv_o1_some h
    obtain ⟨x, y, rest, rfl, -, k3⟩ := rv_b2_ok hg hG
    intro H locs hP hS
    exact lv_ior hx hb hd (next _ (List.mem_singleton.mpr rfl) V ls _ hI (k3 _ rfl) (fun j => rfl) H locs hP hS)
  · obtain ⟨g, hg, rfl⟩ := rv_o1_some h
    obtain ⟨x, y, rest, rfl, -, k3⟩ := rv_b2_ok hg hG
    intro H locs hP hS
    exact lv_ixor hx hb hd (next _ (List.mem_singleton.mpr rfl) V ls _ hI (k3 _ trivial) (fun j => rfl) H locs hP hS)
  · obtain ⟨g, hg, rfl⟩ := rv_o1_some h
    obtain ⟨x, y, rest, rfl, -, k3⟩ := rv_b2_ok hg hG
    intro H locs hP hS
    exact lv_ishl hx hb hd (next _ (List.mem_singleton.mpr rfl) V ls _ hI (k3 _ trivial) (fun j => rfl) H locs hP hS)
  · obtain ⟨g, hg, rfl⟩ := rv_o1_some h
    obtain ⟨x, y, rest, rfl, -, k3⟩ := rv_b2_ok hg hG
    intro H locs hP hS
    exact lv_ishr hx hb hd (next _ (List.mem_singleton.mpr rfl) V ls _ hI (k3 _ trivial) (fun j => rfl) H locs hP hS)
  · obtain ⟨g, hg, rfl⟩ := rv_o1_some h
    obtain ⟨x, y, rest, rfl, -, k3⟩ := rv_b2_ok hg hG
    intro H locs hP hS
    exact lv_iushr hx hb hd rfl (next _ (List.mem_singleton.mpr rfl) V ls _ hI (k3 _ trivial) (fun j => rfl) H locs hP hS)
  · obtain ⟨g, hg, rfl⟩ := rv_o1_some h
    obtain ⟨x, y, rest, rfl, k2, k3⟩ := rv_b2_ok hg hG
    intro H locs hP hS
    exact lv_idiv hx hb hd (k2 (by decide)) (next _ (List.mem_singleton.mpr rfl) V ls _ hI (k3 _ trivial) (fun j => rfl) H locs hP hS)
  · obtain ⟨g, hg, rfl⟩ := rv_o1_some h
    obtain ⟨x, y, rest, rfl, k2, k3⟩ := rv_b2_ok hg hG
    intro H locs hP hS
    exact lv_irem hx hb hd (k2 (by decide)) (next _ (List.mem_singleton.mpr rfl) V ls _ hI (k3 _ trivial) (fun j => rfl) H locs hP hS)
  · obtain ⟨g, hg, rfl⟩ := rv_o1_some h
    obtain ⟨a, x, rest, rfl, k2, k3⟩ := rv_u1_ok hg hG
    intro H locs hP hS
    exact lv_ineg hx hb hd (next _ (List.mem_singleton.mpr rfl) V ls _ hI (k3 _ (rv_full_ok _)) (fun j => rfl) H locs hP hS)
  · obtain ⟨g, hg, rfl⟩ := rv_o1_some h
    obtain ⟨a, x, rest, rfl, k2, k3⟩ := rv_u1_ok hg hG
    intro H locs hP hS
    exact lv_i2c hx hb hd rfl (next _ (List.mem_singleton.mpr rfl) V ls _ hI (k3 _ (rv_full_ok _)) (fun j => rfl) H locs hP hS)
  · obtain ⟨g, hg, rfl⟩ := rv_o1_some h
    obtain ⟨a, x, rest, rfl, k2, k3⟩ := rv_u1_ok hg hG
    intro H locs hP hS
    exact lv_i2b hx hb hd rfl (next _ (List.mem_singleton.mpr rfl) V ls _ hI (k3 _ (rv_okB (zi_b8 x).1 (zi_b8 x).2)) (fun j => rfl) H locs hP hS)
  · obtain ⟨g, hg, rfl⟩ := rv_o1_some h
    obtain ⟨a, x, rest, rfl, k2, k3⟩ := rv_u1_ok hg hG
    intro H locs hP hS
    obtain ⟨x', ex, x1, x2, x3, x4, x5⟩ := k2
    cases ex
    have e := zi_i64 x
    exact lv_i2l hx hb hd rfl (next _ (List.mem_singleton.mpr rfl) V ls _ hI (k3 _ (rv_okL' rfl ⟨_, rfl, by rw [e]; exact x1, by rw [e]; exact x2, fun q hq => by rw [e]; exact x4 q hq⟩)) (fun j => rfl) H locs hP hS)
  · match hs : G.2.1, h with
    | [], h => cases h
    | a :: S, h =>
      dsimp only at h
      by_cases c1 : a.1 = 3
      · rw [if_pos c1] at h
        cases h
      · rw [if_neg c1] at h
        cases h
        have hS := hG.2.1
        rw [hs] at hS
        obtain ⟨va, vs, rfl, h1, h2⟩ := rv_sk_cons hS
        have hc := rv_ok_cat h1
        rw [if_neg c1] at hc
        intro H locs hP hS
        exact lv_dup hx hb hd hc (next _ (List.mem_singleton.mpr rfl) V ls (va :: va :: vs) hI ⟨hG.1, ⟨h1, h1, h2⟩, hG.2.2⟩ (fun j => rfl) H locs hP hS)
  · match hs : G.2.1, h with
    | [], h => cases h
    | [_], h => cases h
    | b :: a :: S, h =>
      dsimp only at h
      by_cases c1 : a.1 = 3 ∨ b.1 = 3
      · rw [if_pos c1] at h
        cases h
      · rw [if_neg c1] at h
        cases h
        have hS := hG.2.1
        rw [hs] at hS
        obtain ⟨vb, vs, rfl, h1, h2⟩ := rv_sk_cons hS
        obtain ⟨va, vs, rfl, h3, h4⟩ := rv_sk_cons h2
        have hcb := rv_ok_cat h1
        rw [if_neg (fun z => c1 (Or.inr z))] at hcb
        have hca := rv_ok_cat h3
        rw [if_neg (fun z => c1 (Or.inl z))] at hca
        intro H locs hP hS
        exact lv_dup2_11 hx hb hd hcb hca (next _ (List.mem_singleton.mpr rfl) V ls (vb :: va :: vb :: va :: vs) hI ⟨hG.1, ⟨h1, h3, h1, h3, h4⟩, hG.2.2⟩ (fun j => rfl) H locs hP hS)
  · match hs : G.2.1, h with
    | [], h => cases h
    | a :: S, h =>
      dsimp only at h
      by_cases c1 : a.1 = 3
      · rw [if_pos c1] at h
        cases h
      · rw [if_neg c1] at h
        cases h
        have hS := hG.2.1
        rw [hs] at hS
        obtain ⟨va, vs, rfl, h1, h2⟩ := rv_sk_cons hS
        have hc := rv_ok_cat h1
        rw [if_neg c1] at hc
        intro H locs hP hS
        exact lv_pop hx hb hd hc (next _ (List.mem_singleton.mpr rfl) V ls _ hI ⟨hG.1, h2, hG.2.2⟩ (fun j => rfl) H locs hP hS)
  · rename_i off
    by_cases c1 : 0 ≤ (pc : Int) + off
    · rw [if_pos c1] at h
      cases h
      intro H locs hP hS
      exact lv_goto (tgt := rv_tg pc off) hx hb hd (by unfold rv_tg; omega) (next _ (List.mem_singleton.mpr rfl) V ls _ hI hG (fun j => rfl) H locs hP hS)
    · rw [if_neg c1] at h
      cases h
  · rename_i c0 off
    match hs : G.2.1, h with
    | [], h => cases h
    | a :: S, h =>
      dsimp only at h
      by_cases c1 : a.1 = 1 ∧ 0 ≤ (pc : Int) + off
      · rw [if_pos c1] at h
        cases h
        have hS := hG.2.1
        rw [hs] at hS
        obtain ⟨va, vs, rfl, h1, h2⟩ := rv_sk_cons hS
        have h3 := rv_okI c1.1 h1
        obtain ⟨x, rfl, -⟩ := id h3
        have htg : (pc : Int) + off = ((rv_tg pc off : Nat) : Int) := by unfold rv_tg; omega
        intro H locs hP hS
        obtain ⟨k1, k2⟩ := rv_two_ok (pc := pc) (len := 3) (off := off) (c0 := c0) (W1 := W p l e R s m args below meth c H locs 0 0 Q (F0 m (rv_tg pc off) ls vs)) (W2 := W p l e R s m args below meth c H locs 0 0 Q (F0 m (pc + 3) ls vs)) h3 (rv_cst_ok (V := V) (ls := ls) (n := 0) (by decide) (by decide)) (show rv_G ad V0 V ls vs (G.1, S, G.2.2) from ⟨hG.1, h2, hG.2.2⟩)
          (fun g hg1 hg2 => next _ hg1 V ls _ hI hg2 (fun j => rfl) H locs hP hS) (fun g hg1 hg2 => next _ hg1 V ls _ hI hg2 (fun j => rfl) H locs hP hS)
        have e0 : (Int32.ofInt 0).toInt = 0 := rfl
        rw [e0] at k1 k2
        cases c0
        · exact lv_if_eq (tgt := rv_tg pc off) hx hb hd htg (fun z => k1 (show x.toInt = 0 by rw [z]; rfl)) (fun z => k2 (fun y => z (zi_inj y)))
        · exact lv_if_ne (tgt := rv_tg pc off) hx hb hd htg (fun z => k1 (fun y => z (zi_inj y))) (fun z => k2 (fun y => y (show x.toInt = 0 by rw [z]; rfl)))
        · exact lv_if_lt (tgt := rv_tg pc off) hx hb hd htg (fun z => k1 (zi_lt.mp z)) (fun z => k2 (fun y => z (zi_lt.mpr y)))
        · exact lv_if_ge (tgt := rv_tg pc off) hx hb hd htg (fun z => k1 (zi_le.mp z)) (fun z => k2 (fun y => z (zi_le.mpr y)))
        · exact lv_if_gt (tgt := rv_tg pc off) hx hb hd htg (fun z => k1 (zi_lt.mp z)) (fun z => k2 (fun y => z (zi_lt.mpr y)))
        · exact lv_if_le (tgt := rv_tg pc off) hx hb hd htg (fun z => k1 (zi_le.mp z)) (fun z => k2 (fun y => z (zi_le.mpr y)))
      · rw [if_neg c1] at h
        cases h
  · rename_i c0 off
    match hs : G.2.1, h with
    | [], h => cases h
    | [_], h => cases h
    | b :: a :: S, h =>
      dsimp only at h
      by_cases c1 : a.1 = 1 ∧ b.1 = 1 ∧ 0 ≤ (pc : Int) + off
      · rw [if_pos c1] at h
        cases h
        have hS := hG.2.1
        rw [hs] at hS
        obtain ⟨vb, vs, rfl, h5, h6⟩ := rv_sk_cons hS
        obtain ⟨va, vs, rfl, h1, h2⟩ := rv_sk_cons h6
        have h3 := rv_okI c1.1 h1
        obtain ⟨x, rfl, -⟩ := id h3
        have h4 := rv_okI c1.2.1 h5
        obtain ⟨y, rfl, -⟩ := id h4
        have htg : (pc : Int) + off = ((rv_tg pc off : Nat) : Int) := by unfold rv_tg; omega
        intro H locs hP hS
        obtain ⟨k1, k2⟩ := rv_two_ok (pc := pc) (len := 3) (off := off) (c0 := c0) (W1 := W p l e R s m args below meth c H locs 0 0 Q (F0 m (rv_tg pc off) ls vs)) (W2 := W p l e R s m args below meth c H locs 0 0 Q (F0 m (pc + 3) ls vs)) h3 h4 (show rv_G ad V0 V ls vs (G.1, S, G.2.2) from ⟨hG.1, h2, hG.2.2⟩)
          (fun g hg1 hg2 => next _ hg1 V ls _ hI hg2 (fun j => rfl) H locs hP hS) (fun g hg1 hg2 => next _ hg1 V ls _ hI hg2 (fun j => rfl) H locs hP hS)
        cases c0
        · exact lv_icmp_eq (tgt := rv_tg pc off) hx hb hd htg (fun z => k1 (show x.toInt = y.toInt by rw [z])) (fun z => k2 (fun q => z (zi_inj q)))
        · exact lv_icmp_ne (tgt := rv_tg pc off) hx hb hd htg (fun z => k1 (fun q => z (zi_inj q))) (fun z => k2 (fun q => q (show x.toInt = y.toInt by rw [z])))
        · exact lv_icmp_lt (tgt := rv_tg pc off) hx hb hd htg (fun z => k1 (zi_lt.mp z)) (fun z => k2 (fun q => z (zi_lt.mpr q)))
        · exact lv_icmp_ge (tgt := rv_tg pc off) hx hb hd htg (fun z => k1 (zi_le.mp z)) (fun z => k2 (fun q => z (zi_le.mpr q)))
        · exact lv_icmp_gt (tgt := rv_tg pc off) hx hb hd htg (fun z => k1 (zi_lt.mp z)) (fun z => k2 (fun q => z (zi_lt.mpr q)))
        · exact lv_icmp_le (tgt := rv_tg pc off) hx hb hd htg (fun z => k1 (zi_le.mp z)) (fun z => k2 (fun q => z (zi_le.mpr q)))
      · rw [if_neg c1] at h
        cases h
  · obtain ⟨g, hg, rfl⟩ := rv_o1_some h
    obtain ⟨j, rest, ci, k, ts, t, rfl, g1, g2, g3, g4⟩ := rv_gf_ok hE hT hg hG
    exact fm_get X g1 g2 g3 hd (next _ (List.mem_singleton.mpr rfl) V ls _ hI g4 (fun j => rfl))
  · obtain ⟨g, hg, rfl⟩ := rv_o1_some h
    obtain ⟨j, rest, ci, k, ts, lo, hi, x, rfl, g1, g2, g3, g4, g5, g6, g7, g8, g9⟩ := rv_pfd_ok hE hg hG
    exact fm_put X g1 g2 g3 g4 g5 hd (next _ (List.mem_singleton.mpr rfl) _ ls _ (rv_I_up hI (fm_Tm_o hT g4 g5 g6 g7) g8) g9 (fun j => rfl))
  · obtain ⟨g, hg, rfl⟩ := rv_o1_some h
    obtain ⟨j, rest, t, n, lo, hi, x, rfl, g1, g2, g3, g4⟩ := rv_xl_ok hT hg hG
    have g2 : t = 0 := g2
    subst g2
    exact fm_ald0 X g1 g3 hd (next _ (List.mem_singleton.mpr rfl) V ls _ hI g4 (fun j => rfl))
  · obtain ⟨g, hg, rfl⟩ := rv_o1_some h
    obtain ⟨j, rest, t, n, lo, hi, x, rfl, g1, g2, g3, g4⟩ := rv_xl_ok hT hg hG
    have g2 : t = 1 ∨ t = 2 := g2
    rcases g2 with g2 | g2
    · subst g2
      exact fm_ald1 X g1 g3 hd (next _ (List.mem_singleton.mpr rfl) V ls _ hI g4 (fun j => rfl))
    · subst g2
      exact fm_ald2 X g1 g3 hd (next _ (List.mem_singleton.mpr rfl) V ls _ hI g4 (fun j => rfl))
  · obtain ⟨g, hg, rfl⟩ := rv_o1_some h
    obtain ⟨j, rest, t, n, lo, hi, x, y, rfl, g1, g2, g3, g4, g5, g6, g7⟩ := rv_xs_ok hT hg hG
    have g2 : t = 0 := g2
    subst g2
    exact fm_ast0 X g1 g3 hd (next _ (List.mem_singleton.mpr rfl) _ ls _ (rv_I_up hI (fm_Tm_a hT g1 g4 g5) g6) g7 (fun j => rfl))
  · obtain ⟨g, hg, rfl⟩ := rv_o1_some h
    obtain ⟨j, rest, t, n, lo, hi, x, y, rfl, g1, g2, g3, g4, g5, g6, g7⟩ := rv_xs_ok hT hg hG
    have g2 : (t = 1 ∧ -128 ≤ lo ∧ hi ≤ 127) ∨ (t = 2 ∧ 0 ≤ lo ∧ hi ≤ 1) := g2
    rcases g2 with g2 | g2
    · obtain ⟨rfl, z1, z2⟩ := g2
      refine fm_ast1 X g1 g3 hd ?_
      rw [zi_nb (by omega) (by omega)]
      exact next _ (List.mem_singleton.mpr rfl) _ ls _ (rv_I_up hI (fm_Tm_a hT g1 g4 g5) g6) g7 (fun j => rfl)
    · obtain ⟨rfl, z1, z2⟩ := g2
      refine fm_ast2 X g1 g3 hd ?_
      rw [zi_nz (by omega) (by omega)]
      exact next _ (List.mem_singleton.mpr rfl) _ ls _ (rv_I_up hI (fm_Tm_a hT g1 g4 g5) g6) g7 (fun j => rfl)
  · match kx, h, hC with
    | [], h, hC => cases h
    | K :: ks, h, hC =>
      obtain ⟨g, hg, rfl⟩ := rv_o1_some h
      obtain ⟨av, rest, rfl, k1, k2, k3, k4⟩ := rv_call_ok hg hT hG
      refine hC K List.mem_cons_self V ls av rest ⟨hT, hGp V hI.2.1, k1, k2⟩ hI.2.2.1 k3 (fun r V' hp => ?_)
      obtain ⟨k5, k6⟩ := k4 r V' hp
      exact next _ (List.mem_singleton.mpr rfl) V' ls _ ⟨hp.1, fun i f hif => (k6 i f hif).trans (hI.2.1 i f hif), hI.2.2⟩ k5 (fun j => rfl)
  · match kx, h, hC with
    | [], h, hC => cases h
    | K :: ks, h, hC =>
      obtain ⟨g, hg, rfl⟩ := rv_o1_some h
      obtain ⟨av, rest, rfl, k1, k2, k3, k4⟩ := rv_call_ok hg hT hG
      refine hC K List.mem_cons_self V ls av rest ⟨hT, hGp V hI.2.1, k1, k2⟩ hI.2.2.1 k3 (fun r V' hp => ?_)
      obtain ⟨k5, k6⟩ := k4 r V' hp
      exact next _ (List.mem_singleton.mpr rfl) V' ls _ ⟨hp.1, fun i f hif => (k6 i f hif).trans (hI.2.1 i f hif), hI.2.2⟩ k5 (fun j => rfl)
  · rename_i d lo hi offs
    match hs : G.2.1, h with
    | [], h => cases h
    | a :: S, h =>
      dsimp only at h
      by_cases c1 : a.1 = 1 ∧ 0 ≤ (pc : Int) + d ∧ offs.toList.all (fun o => decide (0 ≤ (pc : Int) + o)) = true ∧ hi - lo + 1 = offs.size ∧ -2147483648 ≤ lo ∧ hi ≤ 2147483647
      · rw [if_pos c1] at h
        cases h
        obtain ⟨c1, c2, c3, c4, c5, c6⟩ := c1
        have hS := hG.2.1
        rw [hs] at hS
        obtain ⟨va, vs, rfl, h1, h2⟩ := rv_sk_cons hS
        have h3 := rv_okI c1 h1
        obtain ⟨x, rfl, -⟩ := id h3
        intro H locs hP hS
        by_cases hin : x.toInt < lo ∨ hi < x.toInt
        · exact lv_tableOut (tgt := rv_tg pc d) hx hb hd hin (by unfold rv_tg; omega) (next _ List.mem_cons_self V ls _ hI (show rv_G ad V0 V ls vs (G.1, S, G.2.2) from ⟨hG.1, h2, hG.2.2⟩) (fun j => rfl) H locs hP hS)
        · have hlt : (x.toInt - lo).toNat < offs.toList.length := by rw [Array.length_toList]; omega
          have hlt' : (x.toInt - lo).toNat < offs.size := by omega
          have ho : offs[(x.toInt - lo).toNat]? = some offs.toList[(x.toInt - lo).toNat] := by rw [← Array.getElem?_toList]; exact List.getElem?_eq_getElem hlt
          have hz : x.toInt = lo + ((x.toInt - lo).toNat : Int) := by omega
          have h0 := List.all_eq_true.mp c3 _ (List.getElem_mem hlt)
          simp only [decide_eq_true_eq] at h0
          obtain ⟨g, g1, g2⟩ := rv_br_ok (c := 0) (va := .int x) (vb := .int x) h3 (rv_cst_ok (V := V) (ls := ls) (n := lo + ((x.toInt - lo).toNat : Int)) (by omega) (by omega)) (show x.toInt = _ by rw [zi_of (by omega) (by omega)]; exact hz) (show rv_G ad V0 V ls vs (G.1, S, G.2.2) from ⟨hG.1, h2, hG.2.2⟩)
          refine lv_tableIn (tgt := rv_tg pc offs.toList[(x.toInt - lo).toNat]) hx hb hd (fun z => hin (Or.inl z)) (fun z => hin (Or.inr z)) ho (by unfold rv_tg; omega) (next (_, g) (List.mem_cons_of_mem _ (List.mem_flatMap.mpr ⟨(x.toInt - lo).toNat, List.mem_range.mpr hlt', ?_⟩)) V ls _ hI g2 (fun j => rfl) H locs hP hS)
          rw [g1]
          have e9 : offs.toList.getD (x.toInt - lo).toNat 0 = offs.toList[(x.toInt - lo).toNat] := by simp [List.getD, List.getElem?_eq_getElem hlt]
          rw [e9]
          exact List.mem_singleton.mpr rfl
      · rw [if_neg c1] at h
        cases h
  · rename_i d ps
    match hs : G.2.1, h with
    | [], h => cases h
    | a :: S, h =>
      dsimp only at h
      by_cases c1 : a.1 = 1 ∧ 0 ≤ (pc : Int) + d ∧ ps.toList.all (fun o => decide (0 ≤ (pc : Int) + o.2) && decide (-2147483648 ≤ o.1) && decide (o.1 ≤ 2147483647)) = true ∧ (ps.toList.zip (ps.toList.drop 1)).all (fun (a, next) => a.1 < next.1) = true
      · rw [if_pos c1] at h
        cases h
        obtain ⟨c1, c2, c3, c4⟩ := c1
        have hS := hG.2.1
        rw [hs] at hS
        obtain ⟨va, vs, rfl, h1, h2⟩ := rv_sk_cons hS
        have h3 := rv_okI c1 h1
        obtain ⟨x, rfl, -⟩ := id h3
        intro H locs hP hS
        rcases rv_lk_off (x := x.toInt) (d := d) ps.toList with ho | ⟨q, q1, q2, ho⟩
        · exact lv_lookup (tgt := rv_tg pc d) hx hb hd c4 ho (by unfold rv_tg; omega) (next _ List.mem_cons_self V ls _ hI (show rv_G ad V0 V ls vs (G.1, S, G.2.2) from ⟨hG.1, h2, hG.2.2⟩) (fun j => rfl) H locs hP hS)
        · have h0 := List.all_eq_true.mp c3 q q1
          simp only [Bool.and_eq_true, decide_eq_true_eq] at h0
          obtain ⟨g, g1, g2⟩ := rv_br_ok (c := 0) (va := .int x) (vb := .int x) h3 (rv_cst_ok (V := V) (ls := ls) (n := q.1) (by omega) (by omega)) (show x.toInt = _ by rw [zi_of (by omega) (by omega)]; exact q2.symm) (show rv_G ad V0 V ls vs (G.1, S, G.2.2) from ⟨hG.1, h2, hG.2.2⟩)
          refine lv_lookup (tgt := rv_tg pc q.2) hx hb hd c4 ho (by unfold rv_tg; omega) (next (_, g) (List.mem_cons_of_mem _ (List.mem_flatMap.mpr ⟨q, q1, ?_⟩)) V ls _ hI g2 (fun j => rfl) H locs hP hS)
          rw [g1]
          exact List.mem_singleton.mpr rfl
      · rw [if_neg c1] at h
        cases h
  · cases h
end ALLSTEPS
end
section
/-! THE CHECK OF A BODY: nodes with what is known there, successors, a rank that falls. -/
def rv_ev (ls : Array Slot) : List (Nat × Int) → Int
  | [] => 0
  | q :: cs => q.2 * rv_lx ls q.1 + rv_ev ls cs
def rv_bl (L : List rv_A) (k : Nat) : Int × Int := match L[k]? with
  | some a => if a.1 = 1 then (rv_l a, rv_h a) else (-2147483648, 2147483647)
  | none => (-2147483648, 2147483647)
def rv_lw (c : Int) (b : Int × Int) : Int := if 0 ≤ c then c * b.1 else c * b.2
theorem rv_lw_ok {c x : Int} {b : Int × Int} (h1 : b.1 ≤ x) (h2 : x ≤ b.2) : rv_lw c b ≤ c * x := by
  unfold rv_lw
  by_cases h : 0 ≤ c
  · rw [if_pos h]
    exact Int.mul_le_mul_of_nonneg_left h1 h
  · rw [if_neg h]
    exact Int.mul_le_mul_of_nonpos_left (by omega) h2
theorem rv_bl_ok {ad : Nat → Nat} {ls : Array Slot} {L : List rv_A} (hL : ∀ (k : Nat) (a : rv_A), L[k]? = some a → rv_lok ad ls k a) (k : Nat) : (rv_bl L k).1 ≤ rv_lx ls k ∧ rv_lx ls k ≤ (rv_bl L k).2 := by
  have hr := rv_lx_rng ls k
  unfold rv_bl
  cases ha : L[k]? with
  | none => exact hr
  | some a =>
    dsimp only
    by_cases c : a.1 = 1
    · rw [if_pos c]
      have h := hL k a ha
      unfold rv_lok at h
      rw [if_pos c] at h
      obtain ⟨y, y1, y2, y3, -⟩ := h
      rw [rv_lx_at y1]
      exact ⟨y2, y3⟩
    · rw [if_neg c]
      exact hr
def rv_pr (t : Option (Nat × Option Int)) (L : List rv_A) : List (Nat × Int) → Int × List (Nat × Int)
  | [] => (0, [])
  | q :: cs => match t with
    | none => ((rv_pr t L cs).1, q :: (rv_pr t L cs).2)
    | some (k, o) => if q.1 = k then (match o with
      | some n => ((rv_pr t L cs).1 - q.2 * n, q :: (rv_pr t L cs).2)
      | none => ((rv_pr t L cs).1 + rv_lw q.2 (rv_bl L q.1), (rv_pr t L cs).2)) else ((rv_pr t L cs).1, q :: (rv_pr t L cs).2)
theorem rv_pr_ok {ad : Nat → Nat} {ls ls' : Array Slot} {L : List rv_A} {t : Option (Nat × Option Int)} (hL : ∀ (k : Nat) (a : rv_A), L[k]? = some a → rv_lok ad ls k a) (hR : rv_Rl t ls ls') : ∀ cs, (rv_pr t L cs).1 + rv_ev ls' (rv_pr t L cs).2 ≤ rv_ev ls cs := by
  intro cs
  induction cs with
  | nil => exact Int.le_refl _
  | cons q cs ih =>
    unfold rv_pr
    match t, hR, ih with
    | none, hR, ih =>
      have hR : ∀ j, rv_lx ls' j = rv_lx ls j := hR
      dsimp only
      simp only [rv_ev, hR q.1]
      omega
    | some (k, o), hR, ih =>
      dsimp only
      by_cases c : q.1 = k
      · rw [if_pos c]
        match o, hR, ih with
        | some n, hR, ih =>
          have hR : (∀ j, j ≠ k → rv_lx ls' j = rv_lx ls j) ∧ rv_lx ls' k = rv_lx ls k + n := hR
          dsimp only
          simp only [rv_ev]
          rw [c, hR.2, Int.mul_add]
          omega
        | none, hR, ih =>
          dsimp only
          have h1 := rv_bl_ok hL q.1
          have h2 := rv_lw_ok (c := q.2) h1.1 h1.2
          simp only [rv_ev]
          omega
      · rw [if_neg c]
        have e : rv_lx ls' q.1 = rv_lx ls q.1 := by
          match o, hR with
          | some n, hR => exact hR.1 q.1 c
          | none, hR => exact hR q.1 c
        simp only [rv_ev, e]
        omega
def rv_ca (k : Nat) (c : Int) : List (Nat × Int) → List (Nat × Int)
  | [] => [(k, c)]
  | q :: l => if q.1 = k then (k, q.2 + c) :: l else q :: rv_ca k c l
theorem rv_ca_ok {ls : Array Slot} {k : Nat} {c : Int} : ∀ l, rv_ev ls (rv_ca k c l) = rv_ev ls l + c * rv_lx ls k := by
  intro l
  induction l with
  | nil => simp [rv_ca, rv_ev]
  | cons q l ih =>
    unfold rv_ca
    by_cases h : q.1 = k
    · rw [if_pos h]
      simp only [rv_ev, h, Int.add_mul]
      omega
    · rw [if_neg h]
      simp only [rv_ev, ih]
      omega
def rv_sb : List (Nat × Int) → List (Nat × Int) → List (Nat × Int)
  | l, [] => l
  | l, q :: cs => rv_sb (rv_ca q.1 (-q.2) l) cs
theorem rv_sb_ok {ls : Array Slot} : ∀ cs l, rv_ev ls (rv_sb l cs) = rv_ev ls l - rv_ev ls cs := by
  intro cs
  induction cs with
  | nil => intro l; simp [rv_sb, rv_ev]
  | cons q cs ih =>
    intro l
    unfold rv_sb
    rw [ih, rv_ca_ok]
    simp only [rv_ev, Int.neg_mul]
    omega
def rv_mi (L : List rv_A) : List (Nat × Int) → Int
  | [] => 0
  | q :: cs => rv_lw q.2 (rv_bl L q.1) + rv_mi L cs
theorem rv_mi_ok {ad : Nat → Nat} {ls : Array Slot} {L : List rv_A} (hL : ∀ (k : Nat) (a : rv_A), L[k]? = some a → rv_lok ad ls k a) : ∀ cs, rv_mi L cs ≤ rv_ev ls cs := by
  intro cs
  induction cs with
  | nil => exact Int.le_refl _
  | cons q cs ih =>
    have h1 := rv_bl_ok hL q.1
    have h2 := rv_lw_ok (c := q.2) h1.1 h1.2
    simp only [rv_mi, rv_ev]
    omega
/-- a node: its instruction's place in the listing, what is known, successors, rank, contract -/
abbrev rv_N : Type := Nat × rv_S × List Nat × Int × List (Nat × Int) × List Nat
/-- the calls of a body: the instruction's place in the listing, a contract -/
def rv_kx (ct : List (Nat × rv_K)) (ci : Nat) (is : List Nat) : List rv_K := is.filterMap (fun i => match ct[i]? with
  | some t => if t.1 = ci then some t.2 else none
  | none => none)
theorem rv_kx_mem {ct : List (Nat × rv_K)} {ci : Nat} {is : List Nat} {K : rv_K} (h : K ∈ rv_kx ct ci is) : ∃ t ∈ ct, t.1 = ci ∧ t.2 = K := by
  obtain ⟨i, -, hi⟩ := List.mem_filterMap.mp h
  cases ht : ct[i]? with
  | none => rw [ht] at hi; cases hi
  | some t =>
    rw [ht] at hi
    dsimp only at hi
    by_cases c : t.1 = ci
    · rw [if_pos c] at hi
      exact ⟨t, List.mem_of_getElem? ht, c, Option.some.inj hi⟩
    · rw [if_neg c] at hi
      cases hi
def rv_edge (tm : List fm_C) (cd : List (Nat × Instr × Nat)) (nodes : List rv_N) (d : Int) (cs : List (Nat × Int)) (o : Nat × rv_S) (id : Nat) : Bool := match nodes[id]? with
  | some n => (match cd[n.1]? with
    | some q => decide (q.1 = o.1) && rv_le tm o.2 n.2.1 && decide (1 ≤ d - n.2.2.2.1 + rv_mi o.2.1 (rv_sb cs n.2.2.2.2.1))
    | none => false)
  | none => false
def rv_rc (tm : List fm_C) (K : rv_K) (P : List Nat) (G : rv_S) (c : rv_U × Int × Int) : Bool := match c.1 with
  | .inl j => P.any (fun i => decide (i = j)) && (match K.1[j]?, G.1[j]? with
    | some k, some a => decide (k.1 = 1) && decide (a.1 = 1) && decide (c.2.1 ≤ rv_l a) && decide (rv_h a ≤ c.2.2)
    | _, _ => false)
  | .inr q => (decide (q.2 < 5000) || (P.any (fun i => decide (i = q.2 - 5000)) && (match K.1[q.2 - 5000]? with
    | some k => decide (k.1 = 1)
    | none => false))) && rv_leF tm G.2.2 (q, c.2.1, c.2.2, [])
def rv_pk (tm : List fm_C) (K : rv_K) (G : rv_S) : Bool := K.2.2.2.2.2.all (fun f => decide (f.1.2 < 5000) && rv_leF tm G.2.2 f)
def rv_rI (tm : List fm_C) (K : rv_K) (P : List Nat) (G : rv_S) : Bool := match G.2.1, K.2.2.2.1 with
  | [a], q :: _ => decide (a.1 = 1) && decide (q.2.1 ≤ rv_l a) && decide (rv_h a ≤ q.2.2) && (decide (q.1 ≠ 1) || decide (a.2.1 = 1) || decide (0 < rv_l a) || decide (rv_h a < 0)) && (decide (rv_l a = 0 ∧ rv_h a = 0) || K.2.2.2.2.1.all (rv_rc tm K P (rv_rfC (rv_cs a) (G.1, [], G.2.2)))) && rv_pk tm K G
  | _, _ => false
def rv_rV (tm : List fm_C) (K : rv_K) (G : rv_S) : Bool := match G.2.1, K.2.2.2.1 with
  | [], [] => rv_pk tm K G
  | _, _ => false
def rv_chk (E : rv_E) (ct : List (Nat × rv_K)) (cd : List (Nat × Instr × Nat)) (nodes : List rv_N) (K : rv_K) (n : rv_N) : Bool := decide (0 ≤ n.2.2.2.1 + rv_mi n.2.1.1 n.2.2.2.2.1) && (match cd[n.1]? with
  | none => false
  | some q => match q.2.1, q.2.2 with
    | .ireturn, 1 => rv_rI E.1 K E.2.2.2.2.2.2.1 n.2.1
    | .return_, 1 => rv_rV E.1 K n.2.1
    | _, _ => match rv_tr E q.1 q.2.1 q.2.2 n.2.1 (rv_kx ct n.1 n.2.2.2.2.2) with
      | none => false
      | some outs => outs.all (fun o => n.2.2.1.any (rv_edge E.1 cd nodes (n.2.2.2.1 + (rv_pr (rv_tch q.2.1 n.2.1) n.2.1.1 n.2.2.2.2.1).1) (rv_pr (rv_tch q.2.1 n.2.1) n.2.1.1 n.2.2.2.2.1).2 o)))
def rv_all (E : rv_E) (ct : List (Nat × rv_K)) (cd : List (Nat × Instr × Nat)) (nodes : List rv_N) (K : rv_K) (xs : List Nat) : Nat → List rv_N → Bool
  | _, [] => true
  | id, n :: ns => (xs.any (fun x => decide (x = id)) || rv_chk E ct cd nodes K n) && rv_all E ct cd nodes K xs (id + 1) ns
theorem rv_all_ok {E : rv_E} {ct : List (Nat × rv_K)} {cd : List (Nat × Instr × Nat)} {nodes : List rv_N} {K : rv_K} {xs : List Nat} : ∀ {ns : List rv_N} {id : Nat}, rv_all E ct cd nodes K xs id ns = true → ∀ {k : Nat} {n : rv_N}, ns[k]? = some n → id + k ∈ xs ∨ rv_chk E ct cd nodes K n = true := by
  intro ns
  induction ns with
  | nil => intro id _ k n h; simp at h
  | cons n0 ns ih =>
    intro id h k n hk
    unfold rv_all at h
    simp only [Bool.and_eq_true, Bool.or_eq_true, List.any_eq_true, decide_eq_true_eq] at h
    cases k with
    | zero =>
      simp only [List.getElem?_cons_zero, Option.some.injEq] at hk
      subst hk
      rcases h.1 with ⟨x, x1, x2⟩ | h1
      · exact Or.inl (by rw [← show x = id + 0 by omega]; exact x1)
      · exact Or.inr h1
    | succ k =>
      have := ih h.2 (k := k) (n := n) (by simpa using hk)
      rw [show id + (k + 1) = id + 1 + k by omega]
      exact this
end
section
/-! FROM THE CHECK TO A CONTRACT -/
def fm_A (tm : List fm_C) (ad : Nat → Nat) : Nat → Prop := fun q => ∃ i, i < tm.length ∧ q = ad i
def fm_Ad (tm : List fm_C) (ad : Nat → Nat) : Prop := ∀ i j, i < tm.length → j < tm.length → ad i = ad j → i = j
theorem fm_D {tm : List fm_C} {ad : Nat → Nat} (h : fm_Ad tm ad) (cy : Nat → ClassId) (V : fm_V) : va_D (fm_A tm ad) (fm_ws tm ad cy V) := by
  have key : ∀ (k : Nat) (q : Nat × va_E), (fm_ws tm ad cy V)[k]? = some q → k < tm.length ∧ q.1 = ad k := by
    intro k q hq
    have hk : k < tm.length := by
      have := (List.getElem?_eq_some_iff.mp hq).1
      rw [fm_ws_len] at this
      exact this
    rw [fm_ws_get (List.getElem?_eq_getElem hk)] at hq
    cases hq
    exact ⟨hk, rfl⟩
  refine ⟨fun i j p q hp hq e => ?_, fun k q hq => ?_⟩
  · obtain ⟨a1, a2⟩ := key i p hp
    obtain ⟨b1, b2⟩ := key j q hq
    exact h i j a1 b1 (by rw [← a2, ← b2]; exact e)
  · obtain ⟨a1, a2⟩ := key k q hq
    exact ⟨k, a1, a2⟩
/-- words of a nest: who names, by which row, which method, whose nest -/
abbrev fm_Nt : Type := List (String × Nat × MethodName × String)
def fm_Nw (nt : fm_Nt) (U : State) : Prop := ∀ q ∈ nt, va_Nw (.methodLinkNest q.1 q.2.1 q.2.2.1 q.2.2.2) U
/-- what else must be known of the state, outside the world -/
def fm_Zk (A : Nat → Prop) (Z : State → Heap → Prop) : Prop := (∀ (u U : State) (H : Heap), U.vm = u.vm → Z u H → Z U H) ∧ (∀ (u U : State) (H : Heap), u.WarmedH U.vm → Z u H → Z U H) ∧ ∀ (U : State) (H H' : Heap), H.size ≤ H'.size → (∀ q, q < H.size → ¬ A q → H'[q]? = H[q]?) → Z U H → Z U H'
def fm_Wd (D : va_G) (cl : List vw_C) (tm : List fm_C) (ad : Nat → Nat) (cy : Nat → ClassId) (nt : fm_Nt) (Z : State → Heap → Prop) (V : fm_V) (U : State) : Prop := va_P D cl (fm_ws tm ad cy V) U.heap ∧ va_K D cl (fm_tys cy) U ∧ fm_Nw nt U ∧ Z U U.heap
def rv_Pc (D : va_G) (cl : List vw_C) (tm : List fm_C) (ad : Nat → Nat) (cy : Nat → ClassId) (nt : fm_Nt) (Z : State → Heap → Prop) (V : fm_V) (avs : List Value) : Array Value → State → Prop := fun v U => v = avs.toArray ∧ fm_Wd D cl tm ad cy nt Z V U
def rv_Qc (D : va_G) (cl : List vw_C) (tm : List fm_C) (ad : Nat → Nat) (cy : Nat → ClassId) (nt : fm_Nt) (Z : State → Heap → Prop) (po : Option Value → fm_V → Prop) : Array Value → State → Outcome → State → Prop := fun _ st oc t => (∃ (r : Option Value) (V' : fm_V), oc = .returned r ∧ po r V' ∧ fm_Wd D cl tm ad cy nt Z V' t) ∧ va_F (fm_A tm ad) st t
/-- a method keeps to a contract, from every world -/
def rv_Met (l : Launch) (D : va_G) (cl : List vw_C) (tm : List fm_C) (ad : Nat → Nat) (cy : Nat → ClassId) (nt : fm_Nt) (Z : State → Heap → Prop) (Gp : fm_V → Prop) (y : MethodName) (ws : List Jvm.Cond) (rm : Room) (K : rv_K) : Prop :=
  ∀ (V : fm_V) (avs : List Value), rv_Pre tm Gp ad K V avs → Met l y ws rm (rv_Pc D cl tm ad cy nt Z V avs) (rv_Qc D cl tm ad cy nt Z (rv_Post tm K V avs)) 0 0 (fm_A tm ad)
theorem rv_Pc_blind {D : va_G} {cl : List vw_C} {tm : List fm_C} {ad : Nat → Nat} {cy : Nat → ClassId} {nt : fm_Nt} {Z : State → Heap → Prop} {V : fm_V} {avs : List Value} (hZ : fm_Zk (fm_A tm ad) Z) : FrameBlind (rv_Pc D cl tm ad cy nt Z V avs) := by
  intro a U g mk h
  obtain ⟨h1, h2, h3, h4, h5⟩ := h
  exact ⟨h1, h2, va_K.moved (u := U) (U := U.calling g mk a) (Vm.Alike.refl U.vm) h3, fun q hq => va_Nw.same rfl rfl (h4 q hq), hZ.1 U (U.calling g mk a) _ rfl h5⟩
section MET
variable {p : Program} {l : Launch} {e : Env} {R : Room} {s : State} {m : MethodId} {args : Array Value} {below : List Frame} {meth : Method} {c : Code} {Q : State → Prop} {cc : ByteArray} {own : String} {D : va_G} {cl : List vw_C} {tm : List fm_C} {ad : Nat → Nat} {cy : Nat → ClassId} {A : Nat → Prop} {Ts : List Jvm.Cond} {nL : Nat} {nt : fm_Nt} {Z : State → Heap → Prop}
variable {pc : Nat} {ls : Array Slot} {st : List Value} {V0 V : fm_V} {fl wr : List (Nat × Nat × Nat)} {kc kl : List (Nat × Int)} {M : List (Nat × Nat)} {P : List Nat} {avs : List Value} {Gp : fm_V → Prop} {K : rv_K} {po : Option Value → fm_V → Prop}
/-- the world of the start, with other numbers, at a state that came from it -/
theorem fm_Wd_of (hZ : fm_Zk (fm_A tm ad) Z) (hAA : ∀ q, q < s.heap.size → A q → fm_A tm ad q) (hK : va_K D cl (fm_tys cy) s) (hN : fm_Nw nt s) (hZ0 : Z s s.heap) {H : Heap} {locs : List Loc} (hP : va_P D cl (fm_ws tm ad cy V) H) (hS : va_S A s.heap H locs) {U : State} (hU : U.heap = H) (hW : s.WarmedH U.vm) : fm_Wd D cl tm ad cy nt Z V U := by
  refine ⟨by rw [hU]; exact hP, va_K.moved hW.alike hK, fun q hq => va_Nw.warmM hW (hN q hq), ?_⟩
  rw [hU]
  exact hZ.2.1 s U _ hW (hZ.2.2 s s.heap H hS.1 (fun q h1 h2 => hS.2.1 q h1 (fun z => h2 (hAA q h1 z))) hZ0)
theorem fm_callW {rest st0 : List Value} {a : Array Value} {H : Heap} {locs : List Loc} (hr : va_Run p l e R s m args below meth c H locs 0 0 0 0 (F0 m pc ls st0) rest (rv_Qc D cl tm ad cy nt Z po a) (fm_A tm ad)) (hS : va_S A s.heap H locs) (hA : ∀ q, fm_A tm ad q → A q)
    (kk : ∀ (r : Option Value) (V' : fm_V), po r V' → fm_W p l e R s m args below meth c Q D cl tm ad cy A V' (pc + 3) ls (r.toList ++ rest)) : W p l e R s m args below meth c H locs 0 0 Q (F0 m pc ls st0) := by
  intro T hT X
  obtain ⟨v, st₀, t, T', L, h0, X', hL, e1, e2, ⟨⟨r, V', hv, hp, hw⟩, hz, hk⟩, st⟩ := hr T hT X
  cases hv
  rw [h0] at hz hk
  obtain ⟨t2, a1, b1⟩ := kk v V' hp T'.heap (locs ++ L) (by rw [e1]; exact hw.1)
    ⟨Nat.le_trans hS.1 (by rw [e1]; exact hz), fun q h1 h2 => by rw [e1, hk q (Nat.lt_of_lt_of_le h1 hS.1) (fun z => h2 (hA q z))]; exact hS.2.1 q h1 h2, fun q hq => by
      rcases List.mem_append.mp hq with h | h
      · exact hS.2.2 q h
      · exact hA _ (hL q h)⟩ T' rfl X'
  exact ⟨t2, st t2 a1, b1⟩
/-- what holds in a body: fm_X, and what a callee wants -/
def fm_Y (s : State) (nt : fm_Nt) (Z : State → Heap → Prop) (tm : List fm_C) (ad : Nat → Nat) (A : Nat → Prop) : Prop := fm_Zk (fm_A tm ad) Z ∧ (∀ q, q < s.heap.size → A q → fm_A tm ad q) ∧ (∀ q, fm_A tm ad q → A q) ∧ fm_Nw nt s ∧ Z s s.heap
/-- the words of a callee, among those that all have -/
def fm_Good (Ts : List Jvm.Cond) : Prop := Ts.all goodWord = true
theorem fm_Good.of (h : fm_Good Ts) {ws : List Jvm.Cond} (hw : ∀ w ∈ ws, w ∈ Ts) : GoodIn Ts ws := fun w hw' => ⟨hw w hw', good_of_word (List.all_eq_true.mp h w (hw w hw'))⟩
theorem rv_sk_hd {as : List rv_A} {vs : List Value} {a : rv_A} (h : rv_sk (rv_ok ad V ls) (a :: as) vs) (ha : a.1 = 2) : ∃ vs', vs = .ref (ad a.2.1) :: vs' ∧ rv_sk (rv_ok ad V ls) as vs' := by
  obtain ⟨v, vs', rfl, h1, h2⟩ := rv_sk_cons h
  exact ⟨vs', by rw [rv_okR ha h1], h2⟩
/-- a call of a method of an object: its class's own -/
theorem rv_callV (X : fm_X p s m args c cc own D cl tm ad cy A Ts nL) (Y : fm_Y s nt Z tm ad A) (hg : fm_Good Ts) {y : MethodName} {C : String} {idx maxL n : Nat} {bytes : ByteArray} {ret : Option FieldType} {rm : Room} (hM : rv_Met l D cl tm ad cy nt Z Gp y (.code y bytes maxL ret :: Ts) rm K)
    (hw : Jvm.Cond.methodLink own idx y ∈ Ts ∧ Jvm.Cond.instanceMethod y ∈ Ts ∧ Jvm.Cond.selects C y y ∈ Ts ∧ Jvm.Cond.initialized C ∈ Ts ∧ Jvm.Cond.code y bytes maxL ret ∈ Ts) (hy : y.cls = C ∧ y.cls ≠ "java/lang/invoke/MethodHandle" ∧ y.cls ≠ "java/lang/invoke/VarHandle" ∧ (parseMethodDescriptor y.desc).map (fun d => d.parameters.length) = some n)
    (hrm : (rm.cells = 0 ∧ rm.slots = 0) ∧ rm.frames + 1 ≤ R.frames ∧ 8 + (maxL + 11) + rm.locals ≤ R.locals) {a0 : rv_A} {as : List rv_A} (hK1 : K.1 = a0 :: as ∧ a0.1 = 2 ∧ as.length = n) {ci N : Nat} {T : u_T} {ts : List fm_F} (hci : tm[a0.2.1]? = some (.inr (ci, ts)) ∧ cl[ci]? = some (C, T, N)) (hd : decode cc pc = .ok (.invokevirtual idx, 3)) :
    rv_Call p l e R s m args below meth c Q D cl tm ad cy A Gp nL pc K := by
  obtain ⟨hx, hb, hown, hts, hKk, hD, hml⟩ := id X
  obtain ⟨hZ, hAA, hA, hN, hZ0⟩ := Y
  intro V ls avs rest hpre hls hcat kk H locs hP hS
  obtain ⟨p1, p2, p3, p4⟩ := id hpre
  rw [hK1.1] at p3
  obtain ⟨vs', rfl, hvs⟩ := rv_sk_hd (a := rv_bare a0) (as := as.map rv_bare) p3 hK1.2.1
  have hlen : vs'.length = n := by rw [rv_sk_len hvs, List.length_map]; exact hK1.2.2
  have hstk : (Value.ref (ad (rv_bare a0).2.1) :: vs').reverse ++ rest = vs'.reverse ++ .ref (ad a0.2.1) :: rest := by
    rw [List.reverse_cons, List.append_assoc]
    rfl
  rw [hstk]
  refine fm_callW (a := (Value.ref (ad a0.2.1) :: vs').toArray) (rest := rest) (va_runV (As := vs') (rest := rest) (C := C) (n := n) ⟨hx, hb, hml, hown, hts⟩ (hM V _ hpre) (cwV n hts (hg.of (fun w hw' => ?_)) rfl hrm.1.1 hrm.1.2 hy hrm.2) ⟨rv_Pc_blind hZ, va_recv hKk hP hci.2 (fm_ws_get (ad := ad) (cy := cy) (V := V) hci.1), fun U hU hW => ⟨rfl, fm_Wd_of hZ hAA hKk hN hZ0 hP hS hU hW⟩⟩ rfl hlen hls rfl (lv_room hcat) hd ⟨Nat.zero_le _, Nat.zero_le _⟩) hS hA kk
  unfold wsV at hw'
  rcases List.mem_append.mp hw' with hw' | hw'
  · simp only [List.mem_cons, List.not_mem_nil, or_false] at hw'
    rcases hw' with rfl | rfl | rfl | rfl
    · exact hw.1
    · exact hw.2.1
    · exact hw.2.2.1
    · exact hw.2.2.2.1
  · rcases List.mem_cons.mp hw' with rfl | hw'
    · exact hw.2.2.2.2
    · exact hw'
/-- a call of a static method -/
theorem rv_callS (X : fm_X p s m args c cc own D cl tm ad cy A Ts nL) (Y : fm_Y s nt Z tm ad A) (hg : fm_Good Ts) {y : MethodName} {idx maxL n : Nat} {bytes : ByteArray} {ret : Option FieldType} {rm : Room} (hM : rv_Met l D cl tm ad cy nt Z Gp y (.code y bytes maxL ret :: Ts) rm K)
    (hw : Jvm.Cond.methodLink own idx y ∈ Ts ∧ Jvm.Cond.static y ∈ Ts ∧ Jvm.Cond.initialized y.cls ∈ Ts ∧ Jvm.Cond.code y bytes maxL ret ∈ Ts) (hy : y.cls ≠ "java/lang/invoke/MethodHandle" ∧ y.cls ≠ "java/lang/invoke/VarHandle" ∧ (parseMethodDescriptor y.desc).map (fun d => d.parameters.length) = some n)
    (hrm : (rm.cells = 0 ∧ rm.slots = 0) ∧ rm.frames + 1 ≤ R.frames ∧ 8 + (maxL + 11) + rm.locals ≤ R.locals) (hK1 : K.1.length = n) (hd : decode cc pc = .ok (.invokestatic idx, 3)) :
    rv_Call p l e R s m args below meth c Q D cl tm ad cy A Gp nL pc K := by
  obtain ⟨hx, hb, hown, hts, hKk, hD, hml⟩ := id X
  obtain ⟨hZ, hAA, hA, hN, hZ0⟩ := Y
  intro V ls avs rest hpre hls hcat kk H locs hP hS
  obtain ⟨p1, p2, p3, p4⟩ := id hpre
  have hlen : avs.length = n := by rw [rv_sk_len p3, List.length_map]; exact hK1
  refine fm_callW (a := avs.toArray) (rest := rest) (va_runS (As := avs) (rest := rest) (n := n) ⟨hx, hb, hml, hown, hts⟩ (hM V _ hpre) (va_cwS n hts (hg.of (fun w hw' => ?_)) rfl hrm.1.1 hrm.1.2 hy hrm.2) ⟨rv_Pc_blind hZ, fun U hU hW => ⟨rfl, fm_Wd_of hZ hAA hKk hN hZ0 hP hS hU hW⟩⟩ rfl hlen hls rfl (lv_room hcat) hd ⟨Nat.zero_le _, Nat.zero_le _⟩) hS hA kk
  unfold va_wsS at hw'
  rcases List.mem_append.mp hw' with hw' | hw'
  · simp only [List.mem_cons, List.not_mem_nil, or_false] at hw'
    rcases hw' with rfl | rfl | rfl
    · exact hw.1
    · exact hw.2.1
    · exact hw.2.2.1
  · rcases List.mem_cons.mp hw' with rfl | hw'
    · exact hw.2.2.2
    · exact hw'
/-- a call of a nest mate's private static method -/
theorem rv_callSN (X : fm_X p s m args c cc own D cl tm ad cy A Ts nL) (Y : fm_Y s nt Z tm ad A) (hg : fm_Good Ts) {y : MethodName} {host : String} {idx maxL n : Nat} {bytes : ByteArray} {ret : Option FieldType} {rm : Room} (hM : rv_Met l D cl tm ad cy nt Z Gp y (.code y bytes maxL ret :: Ts) rm K)
    (hq : (own, idx, y, host) ∈ nt) (hw : Jvm.Cond.static y ∈ Ts ∧ Jvm.Cond.initialized y.cls ∈ Ts ∧ Jvm.Cond.code y bytes maxL ret ∈ Ts) (hy : y.cls ≠ "java/lang/invoke/MethodHandle" ∧ y.cls ≠ "java/lang/invoke/VarHandle" ∧ (parseMethodDescriptor y.desc).map (fun d => d.parameters.length) = some n)
    (hrm : (rm.cells = 0 ∧ rm.slots = 0) ∧ rm.frames + 1 ≤ R.frames ∧ 8 + (maxL + 11) + rm.locals ≤ R.locals) (hK1 : K.1.length = n) (hd : decode cc pc = .ok (.invokestatic idx, 3)) :
    rv_Call p l e R s m args below meth c Q D cl tm ad cy A Gp nL pc K := by
  obtain ⟨hx, hb, hown, hts, hKk, hD, hml⟩ := id X
  obtain ⟨hZ, hAA, hA, hN, hZ0⟩ := Y
  intro V ls avs rest hpre hls hcat kk H locs hP hS
  obtain ⟨p1, p2, p3, p4⟩ := id hpre
  have hlen : avs.length = n := by rw [rv_sk_len p3, List.length_map]; exact hK1
  refine fm_callW (a := avs.toArray) (rest := rest) (va_runSN (As := avs) (rest := rest) (n := n) ⟨hx, hb, hml, hown, hts⟩ (hM V _ hpre) ⟨va_cnB n hts (hg.of (fun w hw' => ?_)) rfl hrm.1.1 hrm.1.2 (hN _ hq) (hts _ hw.2.1) hy hrm.2, hts _ hw.1, trivial⟩ ⟨rv_Pc_blind hZ, fun U hU hW => ⟨rfl, fm_Wd_of hZ hAA hKk hN hZ0 hP hS hU hW⟩⟩ rfl hlen hls rfl (lv_room hcat) hd ⟨Nat.zero_le _, Nat.zero_le _⟩) hS hA kk
  rcases List.mem_cons.mp hw' with rfl | hw'
  · exact hw.2.2
  · exact hw'
end MET
end
section
/-! THE CHECK IS RIGHT -/
section FIN
variable {p : Program} {l : Launch} {e : Env} {R : Room} {s : State} {m : MethodId} {args : Array Value} {below : List Frame} {meth : Method} {c : Code} {cc : ByteArray} {own : String} {D : va_G} {cl : List vw_C} {tm : List fm_C} {ad : Nat → Nat} {cy : Nat → ClassId} {Ts : List Jvm.Cond} {nL : Nat} {nt : fm_Nt} {Z : State → Heap → Prop}
variable {pc : Nat} {ls : Array Slot} {st : List Value} {V0 V : fm_V} {fl wr : List (Nat × Nat × Nat)} {kc kl : List (Nat × Int)} {M : List (Nat × Nat)} {P : List Nat} {avs : List Value} {Gp : fm_V → Prop} {K : rv_K}
theorem rv_any_mem {P : List Nat} {j : Nat} (h : P.any (fun i => decide (i = j)) = true) : j ∈ P := by
  simp only [List.any_eq_true, decide_eq_true_eq] at h
  obtain ⟨x, x1, x2⟩ := h
  rw [← x2]
  exact x1
theorem rv_rc_ok {G : rv_S} {q : rv_U × Int × Int} (ha : rv_sk (rv_ok ad V0 #[]) (K.1.map rv_bare) avs) (hI : rv_I tm M P nL V0 avs V ls) (hG : rv_G ad V0 V ls st G) (h : rv_rc tm K P G q = true) : q.2.1 ≤ rv_ua V avs q.1 ∧ rv_ua V avs q.1 ≤ q.2.2 := by
  have arg : ∀ j k, j ∈ P → K.1[j]? = some k → k.1 = 1 → ∃ y : Int32, avs[j]? = some (.int y) ∧ ls[j]? = some (.val (.int y)) := by
    intro j k hj hk h1
    obtain ⟨v, v1, v2⟩ := rv_sk_get ha (j := j) (a := rv_bare k) (by rw [List.getElem?_map, hk]; rfl)
    obtain ⟨y, rfl, -⟩ := rv_okI (show (rv_bare k).1 = 1 from h1) v2
    exact ⟨y, v1, hI.2.2.2.2 j hj _ v1 rfl⟩
  obtain ⟨u, lo, hi⟩ := q
  cases u with
  | inl j =>
    unfold rv_rc at h
    simp only [Bool.and_eq_true] at h
    obtain ⟨h1, h2⟩ := h
    cases hk : K.1[j]? with
    | none => rw [hk] at h2; cases h2
    | some k =>
      cases hg : G.1[j]? with
      | none => rw [hk, hg] at h2; cases h2
      | some a =>
        rw [hk, hg] at h2
        simp only [Bool.and_eq_true, decide_eq_true_eq] at h2
        obtain ⟨⟨⟨h3, h4⟩, h5⟩, h6⟩ := h2
        obtain ⟨y, y1, y2⟩ := arg j k (rv_any_mem h1) hk h3
        have h7 := hG.1 j a hg
        unfold rv_lok at h7
        rw [if_pos h4] at h7
        obtain ⟨z, z1, z2, z3, -⟩ := h7
        rw [y2] at z1
        cases z1
        have e : rv_ua V avs (.inl j) = y.toInt := by
          show rv_av avs j = y.toInt
          unfold rv_av
          rw [y1]
        dsimp only
        rw [e]
        omega
  | inr w =>
    unfold rv_rc at h
    simp only [Bool.and_eq_true, Bool.or_eq_true, decide_eq_true_eq] at h
    obtain ⟨h1, h2⟩ := h
    have h3 := (rv_leF_ok hI.1 hG.2.2 h2).1
    dsimp only at h3 ⊢
    have e : rv_ua V avs (.inr w) = rv_uv V ls (.inr w) := by
      show (V w.1 (if w.2 < 5000 then w.2 else (rv_av avs (w.2 - 5000)).toNat)).toInt = (V w.1 (rv_ix ls w.2)).toInt
      unfold rv_ix
      by_cases c5 : w.2 < 5000
      · rw [if_pos c5, if_pos c5]
      · rw [if_neg c5, if_neg c5]
        rcases h1 with h1 | ⟨h1, h4⟩
        · exact absurd h1 c5
        · cases hk : K.1[w.2 - 5000]? with
          | none => rw [hk] at h4; cases h4
          | some k =>
            rw [hk] at h4
            obtain ⟨y, y1, y2⟩ := arg _ k (rv_any_mem h1) hk (of_decide_eq_true h4)
            rw [rv_lx_at y2]
            unfold rv_av
            rw [y1]
    rw [e]
    exact h3
theorem rv_pk_ok {G : rv_S} (hT : fm_Tm tm V) (hG : rv_G ad V0 V ls st G) (h : rv_pk tm K G = true) : ∀ f ∈ K.2.2.2.2.2, rv_pok V0 V f := by
  intro f hf
  have h1 := List.all_eq_true.mp h f hf
  simp only [Bool.and_eq_true, decide_eq_true_eq] at h1
  have h2 := rv_leF_ok hT hG.2.2 h1.2
  have e : rv_uv V ls (.inr f.1) = (V f.1.1 f.1.2).toInt := by
    show (V f.1.1 (rv_ix ls f.1.2)).toInt = _
    have : rv_ix ls f.1.2 = f.1.2 := by unfold rv_ix; rw [if_pos h1.1]
    rw [this]
  unfold rv_fok at h2
  rw [e] at h2
  exact h2
theorem rv_rI_ok {G : rv_S} (hKM : M = K.2.2.1) (ha : rv_sk (rv_ok ad V0 #[]) (K.1.map rv_bare) avs) (hI : rv_I tm M P nL V0 avs V ls) (hG : rv_G ad V0 V ls st G) (h : rv_rI tm K P G = true) : ∃ x : Int32, st = [.int x] ∧ rv_Post tm K V0 avs (some (.int x)) V ∧ ∃ q qs, K.2.2.2.1 = q :: qs ∧ q.2.1 ≤ x.toInt ∧ x.toInt ≤ q.2.2 := by
  unfold rv_rI at h
  match hs : G.2.1, hk : K.2.2.2.1, h with
  | [a], q :: qs, h =>
    simp only [Bool.and_eq_true, Bool.or_eq_true, decide_eq_true_eq, List.all_eq_true] at h
    obtain ⟨⟨⟨⟨⟨h1, h2⟩, h3⟩, h4⟩, h5⟩, h6⟩ := h
    have hS := hG.2.1
    rw [hs] at hS
    obtain ⟨v, vs, rfl, g1, g2⟩ := rv_sk_cons hS
    rw [rv_sk_nil g2]
    obtain ⟨x, rfl, x1, x2, x3, x4, x5⟩ := rv_okI h1 g1
    refine ⟨x, rfl, ⟨hI.1, by rw [← hKM]; exact hI.2.1, ?_, rv_pk_ok hI.1 hG h6⟩, q, qs, rfl, by omega, by omega⟩
    unfold rv_Res
    rw [hk]
    refine ⟨x, rfl, by omega, by omega, fun hq => ?_, fun hx cs hc => ?_⟩
    · rcases h4 with ((h4 | h4) | h4) | h4
      · exact absurd hq h4
      · exact x3 h4
      · omega
      · omega
    · rcases h5 with h5 | h5
      · omega
      · exact rv_rc_ok (st := []) ha hI (rv_rfC_ok (x5 hx) (show rv_G ad V0 V ls [] (G.1, [], G.2.2) from ⟨hG.1, trivial, hG.2.2⟩)) (h5 cs hc)
  | [], [], h => cases h
  | [], _ :: _, h => cases h
  | [_], [], h => cases h
  | _ :: _ :: _, [], h => cases h
  | _ :: _ :: _, _ :: _, h => cases h
theorem rv_rV_ok {G : rv_S} (hKM : M = K.2.2.1) (hI : rv_I tm M P nL V0 avs V ls) (hG : rv_G ad V0 V ls st G) (h : rv_rV tm K G = true) : st = [] ∧ rv_Post tm K V0 avs none V ∧ K.2.2.2.1 = [] := by
  unfold rv_rV at h
  match hs : G.2.1, hk : K.2.2.2.1, h with
  | [], [], h =>
    have hS := hG.2.1
    rw [hs] at hS
    refine ⟨rv_sk_nil hS, ⟨hI.1, by rw [← hKM]; exact hI.2.1, ?_, rv_pk_ok hI.1 hG h⟩, rfl⟩
    unfold rv_Res
    rw [hk]
  | [], _ :: _, h => cases h
  | _ :: _, [], h => cases h
  | _ :: _, _ :: _, h => cases h
/-- the answer's type -/
def rv_rt (K : rv_K) (ret : Option FieldType) : Prop := match K.2.2.2.1 with
  | [] => ret = none
  | q :: _ => ret = some .int ∨ (ret = some .boolean ∧ 0 ≤ q.2.1 ∧ q.2.2 ≤ 1)
theorem rv_sound {ct : List (Nat × rv_K)} {cd : List (Nat × Instr × Nat)} {nodes : List rv_N} {xs : List Nat} {ret : Option FieldType} (X : fm_X p s m args c cc own D cl tm ad cy (fm_A tm ad) Ts nL) (Y : fm_Y s nt Z tm ad (fm_A tm ad)) (hE : rv_Ev cl Ts own fl wr kc kl) (hdec : ∀ q ∈ cd, decode cc q.1 = .ok (q.2.1, q.2.2)) (hall : rv_all (tm, fl, wr, kc, kl, M, P, nL) ct cd nodes K xs 0 nodes = true) (hKM : M = K.2.2.1) (ha : rv_sk (rv_ok ad V0 #[]) (K.1.map rv_bare) avs)
    (hGp : ∀ V', (∀ i f, rv_in M i f = false → V' i f = V0 i f) → Gp V') (hr : meth.sig.returnType = ret) (hrt : rv_rt K ret) (hlocks : meth.locks = false)
    (hcalls : ∀ t ∈ ct, ∀ q, cd[t.1]? = some q → rv_Call p l e R s m args below meth c (MQ below (rv_Qc D cl tm ad cy nt Z (rv_Post tm K V0 avs)) args s 0 0 (fm_A tm ad)) D cl tm ad cy (fm_A tm ad) Gp nL q.1 t.2)
    (hext : ∀ id ∈ xs, ∀ n, nodes[id]? = some n → ∀ q, cd[n.1]? = some q → ∀ V ls st, rv_I tm M P nL V0 avs V ls → rv_G ad V0 V ls st n.2.1 → (∀ (id' : Nat) (n' : rv_N) (q' : Nat × Instr × Nat), nodes[id']? = some n' → cd[n'.1]? = some q' → ∀ V' ls' st', rv_I tm M P nL V0 avs V' ls' → rv_G ad V0 V' ls' st' n'.2.1 → (n'.2.2.2.1 + rv_ev ls' n'.2.2.2.2.1 + 1).toNat < (n.2.2.2.1 + rv_ev ls n.2.2.2.2.1 + 1).toNat → fm_W p l e R s m args below meth c (MQ below (rv_Qc D cl tm ad cy nt Z (rv_Post tm K V0 avs)) args s 0 0 (fm_A tm ad)) D cl tm ad cy (fm_A tm ad) V' q'.1 ls' st') → fm_W p l e R s m args below meth c (MQ below (rv_Qc D cl tm ad cy nt Z (rv_Post tm K V0 avs)) args s 0 0 (fm_A tm ad)) D cl tm ad cy (fm_A tm ad) V q.1 ls st) :
    ∀ (N id : Nat) (n : rv_N) (q : Nat × Instr × Nat), nodes[id]? = some n → cd[n.1]? = some q → ∀ V ls st, rv_I tm M P nL V0 avs V ls → rv_G ad V0 V ls st n.2.1 → (n.2.2.2.1 + rv_ev ls n.2.2.2.2.1 + 1).toNat < N → fm_W p l e R s m args below meth c (MQ below (rv_Qc D cl tm ad cy nt Z (rv_Post tm K V0 avs)) args s 0 0 (fm_A tm ad)) D cl tm ad cy (fm_A tm ad) V q.1 ls st := by
  obtain ⟨hx, hb, hown, hts, hKk, hD, hml⟩ := id X
  obtain ⟨hZ, hAA, hA, hN, hZ0⟩ := id Y
  intro N
  induction N with
  | zero => intro id n q _ _ V ls st _ _ h; omega
  | succ N ih =>
    intro id n q hn hq V ls st hI hG hrk
    rcases rv_all_ok hall hn with hxs | hchk
    · rw [Nat.zero_add] at hxs
      exact hext id hxs n hn q hq V ls st hI hG (fun id' n' q' hn' hq' V' ls' st' hI' hG' hlt => ih id' n' q' hn' hq' V' ls' st' hI' hG' (by omega))
    · unfold rv_chk at hchk
      rw [hq] at hchk
      simp only [Bool.and_eq_true, decide_eq_true_eq] at hchk
      obtain ⟨h0, hchk⟩ := hchk
      have hmi := rv_mi_ok hG.1 n.2.2.2.2.1
      have hdq := hdec q (List.mem_of_getElem? hq)
      obtain ⟨pcq, ins, len⟩ := q
      dsimp only at hchk hdq ⊢
      split at hchk
      · obtain ⟨x, rfl, hpo, q0, qs, hk, b1, b2⟩ := rv_rI_ok hKM ha hI hG hchk
        intro H locs hP hS
        unfold rv_rt at hrt
        rw [hk] at hrt
        rcases hrt with hrt | ⟨hrt, c1, c2⟩
        · exact W.iret (v := x) hx hb (by rw [hr, hrt]) (fun t ht hW => ⟨⟨_, V, rfl, hpo, fm_Wd_of hZ hAA hKk hN hZ0 hP hS ht hW⟩, hS.F ht⟩) hS.2.2 hdq hlocks
        · exact W.zret (v := x) (ty := .boolean) hx hb (by rw [hr, hrt]) (by rcases zi_bit (x := x) (by omega) (by omega) with rfl | rfl <;> rfl) (fun t ht hW => ⟨⟨_, V, rfl, hpo, fm_Wd_of hZ hAA hKk hN hZ0 hP hS ht hW⟩, hS.F ht⟩) hS.2.2 hdq hlocks
      · obtain ⟨rfl, hpo, hk⟩ := rv_rV_ok hKM hI hG hchk
        intro H locs hP hS
        unfold rv_rt at hrt
        rw [hk] at hrt
        exact W.vret hx hb (by rw [hr]; exact hrt) (fun t ht hW => ⟨⟨_, V, rfl, hpo, fm_Wd_of hZ hAA hKk hN hZ0 hP hS ht hW⟩, hS.F ht⟩) hS.2.2 hdq hlocks
      · cases ht : rv_tr (tm, fl, wr, kc, kl, M, P, nL) pcq ins len n.2.1 (rv_kx ct n.1 n.2.2.2.2.2) with
        | none => rw [ht] at hchk; cases hchk
        | some outs =>
          rw [ht] at hchk
          dsimp only at hchk
          refine rv_step X hE hdq ht hI hG hGp (fun K' hK' => by
            obtain ⟨t, t1, t2, t3⟩ := rv_kx_mem hK'
            have := hcalls t t1 _ (by rw [t2]; exact hq)
            rw [t3] at this
            exact this) (fun o ho V' ls' st' hI' hG' hRl => ?_)
          have h1 := List.all_eq_true.mp hchk o ho
          simp only [List.any_eq_true] at h1
          obtain ⟨id', -, h2⟩ := h1
          unfold rv_edge at h2
          cases hn' : nodes[id']? with
          | none => rw [hn'] at h2; cases h2
          | some n' =>
            rw [hn'] at h2
            dsimp only at h2
            cases hq' : cd[n'.1]? with
            | none => rw [hq'] at h2; cases h2
            | some q' =>
              rw [hq'] at h2
              simp only [Bool.and_eq_true, decide_eq_true_eq] at h2
              obtain ⟨⟨e1, e2⟩, e3⟩ := h2
              have hpr := rv_pr_ok hG.1 hRl n.2.2.2.2.1
              have hm2 := rv_mi_ok hG'.1 (rv_sb (rv_pr (rv_tch ins n.2.1) n.2.1.1 n.2.2.2.2.1).2 n'.2.2.2.2.1)
              rw [rv_sb_ok] at hm2
              have := ih id' n' q' hn' hq' V' ls' st' hI' (rv_le_ok hI'.1 e2 hG') (by omega)
              rw [e1] at this
              exact this
/-- locals at the start: all of one slot -/
theorem rv_ent {n : Nat} : ∀ (vs : List Value) (i : Nat), (∀ v ∈ vs, v.category = 1) → ∀ (j : Nat) (v : Value), vs[j]? = some v → (i + j, v) ∈ lv_args i vs := by
  intro vs
  induction vs with
  | nil => intro i _ j v h; simp at h
  | cons w vs ih =>
    intro i hc j v h
    have hw := hc w List.mem_cons_self
    unfold lv_args
    rw [if_neg (by omega)]
    cases j with
    | zero =>
      simp only [List.getElem?_cons_zero, Option.some.injEq] at h
      subst h
      exact List.mem_cons_self
    | succ j =>
      have := ih (i + 1) (fun v hv => hc v (List.mem_cons_of_mem _ hv)) j v (by simpa using h)
      rw [show i + (j + 1) = i + 1 + j by omega]
      exact List.mem_cons_of_mem _ this
theorem rv_slen : ∀ (vs : List Value), (∀ v ∈ vs, v.category = 1) → (lg_sl vs).length = vs.length := by
  intro vs
  induction vs with
  | nil => intro _; rfl
  | cons w vs ih =>
    intro hc
    have h1 := ih (fun v hv => hc v (List.mem_cons_of_mem _ hv))
    have hw := hc w List.mem_cons_self
    unfold lg_sl at h1 ⊢
    rw [List.flatMap_cons, if_neg (by omega)]
    simp [h1]
theorem rv_catA : ∀ {as : List rv_A} {vs : List Value}, (as.all (fun a => decide (a.1 ≠ 3)) = true) → rv_sk (rv_ok ad V ls) (as.map rv_bare) vs → ∀ v ∈ vs, v.category = 1 := by
  intro as
  induction as with
  | nil => intro vs _ h v hv; rw [rv_sk_nil (show rv_sk _ [] vs from h)] at hv; cases hv
  | cons a as ih =>
    intro vs hc h v hv
    obtain ⟨w, ws, rfl, h1, h2⟩ := rv_sk_cons (a := rv_bare a) (as := as.map rv_bare) h
    rw [List.all_cons, Bool.and_eq_true] at hc
    have hcw := rv_ok_cat h1
    rw [if_neg (show ¬ (rv_bare a).1 = 3 from of_decide_eq_true hc.1)] at hcw
    rcases List.mem_cons.mp hv with rfl | hv
    · exact hcw
    · exact ih hc.2 h2 v hv
/-- the first node fits the contract's start -/
def rv_ini (tm : List fm_C) (K : rv_K) (G : rv_S) : Bool := rv_leL (K.1.map rv_bare) G.1 && G.2.1.isEmpty && K.2.1.all (fun f => decide (f.1.2 < 5000) || (match K.1[f.1.2 - 5000]? with
  | some a => decide (a.1 = 1)
  | none => false)) && G.2.2.all (fun g => rv_leF tm (K.2.1.map (fun f => (f.1, f.2.1, f.2.2.1, []))) (g.1, g.2.1, g.2.2.1, []) && g.2.2.2.all (fun r => decide (g.1.2 < 5000) && decide (r.1 = g.1) && decide (r.2.1 ≤ 0) && decide (0 ≤ r.2.2)))
theorem rv_ini_ok {Gp' : fm_V → Prop} {G : rv_S} (hpre : rv_Pre tm Gp' ad K V avs) (hls : ∀ (j : Nat) (v : Value), avs[j]? = some v → ls[j]? = some (.val v)) (h : rv_ini tm K G = true) : rv_G ad V V ls [] G := by
  obtain ⟨p1, p2, p3, p4⟩ := hpre
  unfold rv_ini at h
  simp only [Bool.and_eq_true, List.isEmpty_iff, List.all_eq_true, decide_eq_true_eq] at h
  obtain ⟨⟨⟨h1, h2⟩, h4⟩, h3⟩ := h
  refine ⟨fun k b hb => ?_, by rw [h2]; exact trivial, fun g hg => ?_⟩
  · have := rv_leL_ok (ad := ad) (ls := ls) 0 (K.1.map rv_bare) G.1 h1 (fun k a hk => ?_) k b hb
    · rw [Nat.zero_add] at this
      exact this
    · rw [Nat.zero_add]
      obtain ⟨v, v1, v2⟩ := rv_sk_get p3 hk
      have v3 := hls k v v1
      unfold rv_lok
      by_cases c1 : a.1 = 1
      · rw [if_pos c1]
        obtain ⟨x, rfl, x1, x2, x3, -⟩ := rv_okI c1 v2
        exact ⟨x, v3, x1, x2, x3⟩
      · rw [if_neg c1]
        by_cases c2 : a.1 = 2
        · rw [if_pos c2, v3, rv_okR c2 v2]
        · rw [if_neg c2]
          trivial
  · obtain ⟨g2, g3⟩ := h3 g hg
    have e : ∀ (q : Nat × Nat), q.2 < 5000 → rv_uv V ls (.inr q) = (V q.1 q.2).toInt := fun q hq => by
      show (V q.1 (rv_ix ls q.2)).toInt = _
      have : rv_ix ls q.2 = q.2 := by unfold rv_ix; rw [if_pos hq]
      rw [this]
    have hF : ∀ f ∈ (K.2.1.map (fun f => ((f.1, f.2.1, f.2.2.1, []) : rv_Fa))), rv_fok V V ls f := by
      intro f hf
      obtain ⟨f0, f1, rfl⟩ := List.mem_map.mp hf
      have hf0 := p4 f0 f1
      have e2 : rv_ua V avs (.inr f0.1) = rv_uv V ls (.inr f0.1) := by
        show (V f0.1.1 (if f0.1.2 < 5000 then f0.1.2 else (rv_av avs (f0.1.2 - 5000)).toNat)).toInt = (V f0.1.1 (rv_ix ls f0.1.2)).toInt
        unfold rv_ix
        by_cases c5 : f0.1.2 < 5000
        · rw [if_pos c5, if_pos c5]
        · rw [if_neg c5, if_neg c5]
          have h6 := h4 f0 f1
          rw [Bool.or_eq_true] at h6
          rcases h6 with h6 | h6
          · exact absurd (of_decide_eq_true h6) c5
          · cases hk : K.1[f0.1.2 - 5000]? with
            | none => rw [hk] at h6; cases h6
            | some k =>
              rw [hk] at h6
              have h7 := of_decide_eq_true h6
              obtain ⟨v, v1, v2⟩ := rv_sk_get p3 (j := f0.1.2 - 5000) (a := rv_bare k) (by rw [List.getElem?_map, hk]; rfl)
              obtain ⟨y, rfl, -⟩ := rv_okI (show (rv_bare k).1 = 1 from h7) v2
              rw [rv_lx_at (hls _ _ v1)]
              unfold rv_av
              rw [v1]
      rw [e2] at hf0
      exact ⟨hf0, fun r hr => absurd hr List.not_mem_nil⟩
    have h5 := (rv_leF_ok p1 hF g2).1
    refine ⟨h5, fun r hr => ?_⟩
    obtain ⟨⟨⟨r0, r1⟩, r2⟩, r3⟩ := g3 r hr
    rw [e g.1 r0, r1]
    omega
/-- A CHECKED BODY KEEPS TO ITS CONTRACT -/
theorem rv_met {ct : List (Nat × rv_K)} {y : MethodName} {bytes : ByteArray} {ret : Option FieldType} {rm : Room} {cd : List (Nat × Instr × Nat)} {nodes : List rv_N} {xs : List Nat} {n0 : rv_N} {q0 : Nat × Instr × Nat} (hAd : fm_Ad tm ad) (hZ : fm_Zk (fm_A tm ad) Z) (hy : plainName y.cls = true) (hE : rv_Ev cl Ts y.cls fl wr kc kl) (hdec : ∀ q ∈ cd, decode bytes q.1 = .ok (q.2.1, q.2.2)) (hall : rv_all (tm, fl, wr, kc, kl, K.2.2.1, P, nL) ct cd nodes K xs 0 nodes = true)
    (h0 : nodes[0]? = some n0 ∧ cd[n0.1]? = some q0 ∧ q0.1 = 0) (hini : rv_ini tm K n0.2.1 = true) (hcat : K.1.all (fun a => decide (a.1 ≠ 3)) = true) (hlen : K.1.length ≤ nL)
    (hGm : ∀ V V' : fm_V, (∀ i f, rv_in K.2.2.1 i f = false → V' i f = V i f) → Gp V → Gp V') (hrt : rv_rt K ret)
    (hcalls : ∀ (p : Program) (e : Env) (s : State) (m : MethodId) (args : Array Value) (below : List Frame) (meth : Method) (c : Code) (Q : State → Prop), fm_X p s m args c bytes y.cls D cl tm ad cy (fm_A tm ad) Ts nL → fm_Y s nt Z tm ad (fm_A tm ad) → ∀ t ∈ ct, ∀ q, cd[t.1]? = some q → rv_Call p l e rm s m args below meth c Q D cl tm ad cy (fm_A tm ad) Gp nL q.1 t.2)
    (hext : ∀ (p : Program) (e : Env) (s : State) (m : MethodId) (args : Array Value) (below : List Frame) (meth : Method) (c : Code) (V0 : fm_V) (avs : List Value), rv_Pre tm Gp ad K V0 avs → meth.sig.returnType = ret → meth.locks = false → fm_X p s m args c bytes y.cls D cl tm ad cy (fm_A tm ad) Ts nL → fm_Y s nt Z tm ad (fm_A tm ad) → ∀ id ∈ xs, ∀ n, nodes[id]? = some n → ∀ q, cd[n.1]? = some q → ∀ V ls st, rv_I tm K.2.2.1 P nL V0 avs V ls → rv_G ad V0 V ls st n.2.1 → (∀ (id' : Nat) (n' : rv_N) (q' : Nat × Instr × Nat), nodes[id']? = some n' → cd[n'.1]? = some q' → ∀ V' ls' st', rv_I tm K.2.2.1 P nL V0 avs V' ls' → rv_G ad V0 V' ls' st' n'.2.1 → (n'.2.2.2.1 + rv_ev ls' n'.2.2.2.2.1 + 1).toNat < (n.2.2.2.1 + rv_ev ls n.2.2.2.2.1 + 1).toNat → fm_W p l e rm s m args below meth c (MQ below (rv_Qc D cl tm ad cy nt Z (rv_Post tm K V0 avs)) args s 0 0 (fm_A tm ad)) D cl tm ad cy (fm_A tm ad) V' q'.1 ls' st') → fm_W p l e rm s m args below meth c (MQ below (rv_Qc D cl tm ad cy nt Z (rv_Post tm K V0 avs)) args s 0 0 (fm_A tm ad)) D cl tm ad cy (fm_A tm ad) V q.1 ls st) :
    rv_Met l D cl tm ad cy nt Z Gp y (.code y bytes nL ret :: Ts) rm K := by
  intro V avs hpre
  refine Met.ofW (cc := bytes) (maxL := nL) (ret := ret) hy rfl ?_
  intro p e s m args below meth c s₁ B hml hv
  obtain ⟨rfl, hP, hK, hN, hZ0⟩ := hv
  have hts := atoms_spec (ws := Jvm.Cond.code y bytes nL ret :: Ts) B.pre
  have hown : s.vm.findClass y.cls = some m.cls := findClass_of_methodNamed B.named
  have X : fm_X p s m avs.toArray c bytes y.cls D cl tm ad cy (fm_A tm ad) Ts nL := ⟨B.exec, B.bytes, hown, fun w hw => hts w (List.mem_cons_of_mem _ hw), hK, fun V => fm_D hAd cy V, hml⟩
  have Y : fm_Y s nt Z tm ad (fm_A tm ad) := ⟨hZ, fun q _ h => h, fun q h => h, hN, hZ0⟩
  have hc1 := rv_catA hcat hpre.2.2.1
  have hsl := rv_slen avs hc1
  have hal : avs.length = K.1.length := by rw [rv_sk_len hpre.2.2.1, List.length_map]
  have hl := lv_entry avs (n := nL) (by rw [hsl, hal]; exact hlen)
  rw [lg_entry_eq]
  generalize (lg_sl avs ++ List.replicate (nL - (lg_sl avs).length) Slot.unset).toArray = ls at hl ⊢
  have hls : ∀ (j : Nat) (v : Value), avs[j]? = some v → ls[j]? = some (.val v) := fun j v hj => by
    have := hl.2.2 _ (rv_ent (n := 0) avs 0 hc1 j v hj)
    simpa using this
  have hI : rv_I tm K.2.2.1 P nL V avs V ls := ⟨hpre.1, fun i f _ => rfl, hl.1, hl.2.1, fun j _ v hv _ => hls j v hv⟩
  have := rv_sound (Gp := Gp) (l := l) (R := rm) (e := e) (below := below) X Y hE hdec hall rfl hpre.2.2.1 (fun V' h => hGm V V' h hpre.2.1) B.returns hrt B.notSynchronized (hcalls p e s m avs.toArray below meth c _ X Y) (hext p e s m avs.toArray below meth c V avs hpre B.returns B.notSynchronized X Y) _ 0 n0 q0 h0.1 h0.2.1 V ls [] hI (rv_ini_ok hpre hls hini) (Nat.lt_succ_self _)
  rw [h0.2.2] at this
  exact this s.heap [] hP va_S.rf
end FIN
end
section
/-! CALLS OF A BODY, by its listing -/
theorem fm_ws_row {tm : List fm_C} {ad : Nat → Nat} {cy : Nat → ClassId} {V : fm_V} {i : Nat} {g : Nat → Int32} {t : fm_C} {e : va_E} (h : tm[i]? = some t) (he : e = fm_cell ad cy g t) : (fm_ws tm ad cy V).set i (ad i, e) = fm_ws tm ad cy (fun a b => if a = i then g b else V a b) := by
  have hi : i < tm.length := (List.getElem?_eq_some_iff.mp h).1
  apply List.ext_getElem?
  intro j
  rw [List.getElem?_set]
  by_cases hj : i = j
  · subst hj
    rw [if_pos rfl, if_pos (by rw [fm_ws_len]; exact hi), fm_ws_get h, he]
    simp
  · rw [if_neg hj]
    by_cases hl : j < tm.length
    · have h2 : tm[j]? = some tm[j] := List.getElem?_eq_getElem hl
      rw [fm_ws_get h2, fm_ws_get h2]
      simp [Ne.symm hj]
    · rw [List.getElem?_eq_none (by rw [fm_ws_len]; omega), List.getElem?_eq_none (by rw [fm_ws_len]; omega)]
section CT
variable {p : Program} {l : Launch} {e : Env} {R : Room} {s : State} {m : MethodId} {args : Array Value} {below : List Frame} {meth : Method} {c : Code} {Q : State → Prop} {cc : ByteArray} {own : String} {D : va_G} {cl : List vw_C} {tm : List fm_C} {ad : Nat → Nat} {cy : Nat → ClassId} {A : Nat → Prop} {Ts : List Jvm.Cond} {nL : Nat} {nt : fm_Nt} {Z : State → Heap → Prop}
variable {pc i : Nat} {Gp : fm_V → Prop} {K : rv_K} {cd : List (Nat × Instr × Nat)}
theorem rv_ctV (X : fm_X p s m args c cc own D cl tm ad cy A Ts nL) (Y : fm_Y s nt Z tm ad A) (hg : fm_Good Ts) (hdec : ∀ q ∈ cd, decode cc q.1 = .ok (q.2.1, q.2.2)) {y : MethodName} {C : String} {idx maxL n : Nat} {bytes : ByteArray} {ret : Option FieldType} {rm : Room} (hcd : cd[i]? = some (pc, .invokevirtual idx, 3)) (hM : rv_Met l D cl tm ad cy nt Z Gp y (.code y bytes maxL ret :: Ts) rm K)
    (hl : Jvm.Cond.methodLink own idx y ∈ Ts) (hw : Jvm.Cond.instanceMethod y ∈ Ts ∧ Jvm.Cond.selects C y y ∈ Ts ∧ Jvm.Cond.initialized C ∈ Ts ∧ Jvm.Cond.code y bytes maxL ret ∈ Ts) (hy : y.cls = C ∧ y.cls ≠ "java/lang/invoke/MethodHandle" ∧ y.cls ≠ "java/lang/invoke/VarHandle" ∧ (parseMethodDescriptor y.desc).map (fun d => d.parameters.length) = some n)
    (hrm : (rm.cells = 0 ∧ rm.slots = 0) ∧ rm.frames + 1 ≤ R.frames ∧ 8 + (maxL + 11) + rm.locals ≤ R.locals) {a0 : rv_A} {as : List rv_A} (hK1 : K.1 = a0 :: as ∧ a0.1 = 2 ∧ as.length = n) {ci N : Nat} {T : u_T} {ts : List fm_F} (hci : tm[a0.2.1]? = some (.inr (ci, ts)) ∧ cl[ci]? = some (C, T, N)) :
    ∀ q, cd[i]? = some q → rv_Call p l e R s m args below meth c Q D cl tm ad cy A Gp nL q.1 K := by
  intro q hq
  have hd := hdec _ (List.mem_of_getElem? hcd)
  rw [hcd] at hq
  cases hq
  exact rv_callV X Y hg hM ⟨hl, hw⟩ hy hrm hK1 hci hd
theorem rv_ctS (X : fm_X p s m args c cc own D cl tm ad cy A Ts nL) (Y : fm_Y s nt Z tm ad A) (hg : fm_Good Ts) (hdec : ∀ q ∈ cd, decode cc q.1 = .ok (q.2.1, q.2.2)) {y : MethodName} {idx maxL n : Nat} {bytes : ByteArray} {ret : Option FieldType} {rm : Room} (hcd : cd[i]? = some (pc, .invokestatic idx, 3)) (hM : rv_Met l D cl tm ad cy nt Z Gp y (.code y bytes maxL ret :: Ts) rm K)
    (hl : Jvm.Cond.methodLink own idx y ∈ Ts) (hw : Jvm.Cond.static y ∈ Ts ∧ Jvm.Cond.initialized y.cls ∈ Ts ∧ Jvm.Cond.code y bytes maxL ret ∈ Ts) (hy : y.cls ≠ "java/lang/invoke/MethodHandle" ∧ y.cls ≠ "java/lang/invoke/VarHandle" ∧ (parseMethodDescriptor y.desc).map (fun d => d.parameters.length) = some n)
    (hrm : (rm.cells = 0 ∧ rm.slots = 0) ∧ rm.frames + 1 ≤ R.frames ∧ 8 + (maxL + 11) + rm.locals ≤ R.locals) (hK1 : K.1.length = n) :
    ∀ q, cd[i]? = some q → rv_Call p l e R s m args below meth c Q D cl tm ad cy A Gp nL q.1 K := by
  intro q hq
  have hd := hdec _ (List.mem_of_getElem? hcd)
  rw [hcd] at hq
  cases hq
  exact rv_callS X Y hg hM ⟨hl, hw⟩ hy hrm hK1 hd
theorem rv_ctN (X : fm_X p s m args c cc own D cl tm ad cy A Ts nL) (Y : fm_Y s nt Z tm ad A) (hg : fm_Good Ts) (hdec : ∀ q ∈ cd, decode cc q.1 = .ok (q.2.1, q.2.2)) {y : MethodName} {host : String} {idx maxL n : Nat} {bytes : ByteArray} {ret : Option FieldType} {rm : Room} (hcd : cd[i]? = some (pc, .invokestatic idx, 3)) (hM : rv_Met l D cl tm ad cy nt Z Gp y (.code y bytes maxL ret :: Ts) rm K)
    (hq : (own, idx, y, host) ∈ nt) (hw : Jvm.Cond.static y ∈ Ts ∧ Jvm.Cond.initialized y.cls ∈ Ts ∧ Jvm.Cond.code y bytes maxL ret ∈ Ts) (hy : y.cls ≠ "java/lang/invoke/MethodHandle" ∧ y.cls ≠ "java/lang/invoke/VarHandle" ∧ (parseMethodDescriptor y.desc).map (fun d => d.parameters.length) = some n)
    (hrm : (rm.cells = 0 ∧ rm.slots = 0) ∧ rm.frames + 1 ≤ R.frames ∧ 8 + (maxL + 11) + rm.locals ≤ R.locals) (hK1 : K.1.length = n) :
    ∀ q, cd[i]? = some q → rv_Call p l e R s m args below meth c Q D cl tm ad cy A Gp nL q.1 K := by
  intro q hq'
  have hd := hdec _ (List.mem_of_getElem? hcd)
  rw [hcd] at hq'
  cases hq'
  exact rv_callSN X Y hg hM hq hw hy hrm hK1 hd
/-- System.arraycopy(a, 0, b, 0, n) of ints -/
theorem rv_ctC (X : fm_X p s m args c cc own D cl tm ad cy A Ts nL) (hdec : ∀ q ∈ cd, decode cc q.1 = .ok (q.2.1, q.2.2)) {idx : Nat} (hcd : cd[i]? = some (pc, .invokestatic idx, 3)) (hl : Jvm.Cond.methodLink own idx arraycopyName ∈ Ts) (hw : Jvm.Cond.native arraycopyName ∈ Ts ∧ Jvm.Cond.static arraycopyName ∈ Ts ∧ Jvm.Cond.initialized "java/lang/System" ∈ Ts)
    (hR : 1 ≤ R.frames ∧ 8 + (nativeFrameWords "java/lang/System" "arraycopy" 5 + 11) ≤ R.locals) {a b n na nb : Nat} {la ha lb hb : Int} (hab : tm[a]? = some (.inl (0, na, la, ha)) ∧ tm[b]? = some (.inl (0, nb, lb, hb))) (hn : n ≤ na ∧ n ≤ nb ∧ n < 2147483648 ∧ lb ≤ la ∧ ha ≤ hb)
    (hK : K = ([(2, a, 0, 0, [], []), (1, 0, 0, 0, [], []), (2, b, 0, 0, [], []), (1, 0, 0, 0, [], []), (1, 0, (n : Int), (n : Int), [], [])], [], [(b, 9999)], [], [], [])) :
    ∀ q, cd[i]? = some q → rv_Call p l e R s m args below meth c Q D cl tm ad cy A Gp nL q.1 K := by
  intro q hq
  have hd := hdec _ (List.mem_of_getElem? hcd)
  rw [hcd] at hq
  cases hq
  subst hK
  obtain ⟨hx, hbb, hown, hts, hKk, hD, hml⟩ := id X
  intro V ls avs rest hpre hls hcat kk H locs hP hS
  obtain ⟨p1, p2, p3, p4⟩ := id hpre
  obtain ⟨v0, r0, rfl, q0, p3⟩ := rv_sk_cons p3
  obtain ⟨v1, r1, rfl, q1, p3⟩ := rv_sk_cons p3
  obtain ⟨v2, r2, rfl, q2, p3⟩ := rv_sk_cons p3
  obtain ⟨v3, r3, rfl, q3, p3⟩ := rv_sk_cons p3
  obtain ⟨v4, r4, rfl, q4, p3⟩ := rv_sk_cons p3
  rw [rv_sk_nil p3] at *
  have e0 := rv_okR rfl q0
  have e2 := rv_okR rfl q2
  obtain ⟨x1, rfl, a1, b1, -⟩ := rv_okI rfl q1
  obtain ⟨x3, rfl, a3, b3, -⟩ := rv_okI rfl q3
  obtain ⟨x4, rfl, a4, b4, -⟩ := rv_okI rfl q4
  have z1 : x1.toInt = 0 := by have h1 : (0 : Int) ≤ x1.toInt := a1; have h2 : x1.toInt ≤ (0 : Int) := b1; omega
  have z3 : x3.toInt = 0 := by have h1 : (0 : Int) ≤ x3.toInt := a3; have h2 : x3.toInt ≤ (0 : Int) := b3; omega
  have z4 : x4.toInt = (n : Int) := by have h1 : (n : Int) ≤ x4.toInt := a4; have h2 : x4.toInt ≤ (n : Int) := b4; omega
  have c1 : x1.toNatClampNeg = 0 := by rw [zi_clamp, z1]; rfl
  have c3 : x3.toNatClampNeg = 0 := by rw [zi_clamp, z3]; rfl
  have c4 : x4.toNatClampNeg = n := by rw [zi_clamp, z4]; rfl
  have e0' : v0 = .ref (ad a) := e0
  have e2' : v2 = .ref (ad b) := e2
  subst e0'
  subst e2'
  show W p l e R s m args below meth c H locs 0 0 Q (F0 m pc ls (.int x4 :: .int x3 :: .ref (ad b) :: .int x1 :: .ref (ad a) :: rest))
  refine va_copyi hx hbb (by rw [hml, hls]) hown (hts _ hl) (hts _ hw.1) (hts _ hw.2.1) (hts _ hw.2.2) hKk hP (hD V) hS a b 0 0 (fm_ws_get (ad := ad) (cy := cy) (V := V) hab.1) (fm_ws_get (ad := ad) (cy := cy) (V := V) hab.2) (ty := .int) rfl rfl rfl (fun z => by have := zi_lt.mp z; rw [z1, zi_0] at this; omega) (fun z => by have := zi_lt.mp z; rw [z3, zi_0] at this; omega) (fun z => by have := zi_lt.mp z; rw [z4, zi_0] at this; omega) (by rw [c1, c4]; show 0 + n ≤ na; omega) (by rw [c3, c4]; show 0 + n ≤ nb; omega) (fun i _ => rfl) hR.1 (by omega) hd (fun H1 locs1 hP1 _ hS1 => ?_)
  rw [c1, c3, c4] at hP1
  have hrow := fm_ws_row (ad := ad) (cy := cy) (V := V) (g := va_cpy (V a) (V b) 0 0 n) (e := .inl (cy 0, nb, .inl (va_cpy (V a) (V b) 0 0 n))) hab.2 rfl
  have hP1 : va_P D cl (fm_ws tm ad cy (fun x y => if x = b then va_cpy (V a) (V b) 0 0 n y else V x y)) H1 := by rw [← hrow]; exact hP1
  refine kk none _ ⟨?_, fun i f hif => ?_, rfl, fun f hf => absurd hf List.not_mem_nil⟩ H1 locs1 hP1 hS1
  · refine ⟨fun i t n' lo hi j ht hj => ?_, fun i ci ts k lo hi ht hk => ?_⟩
    · by_cases hib : i = b
      · subst hib
        rw [hab.2] at ht
        cases ht
        simp only [if_true]
        by_cases hjn : j < n
        · rw [pk_cpy_in (by omega) (by omega)]
          have := p1.1 a 0 na la ha (0 + (j - 0)) hab.1 (by omega)
          omega
        · rw [pk_cpy_out (by omega)]
          exact p1.1 i 0 nb lb hb j hab.2 hj
      · simp only [if_neg hib]
        exact p1.1 i t n' lo hi j ht hj
    · by_cases hib : i = b
      · subst hib
        rw [hab.2] at ht
        cases ht
      · simp only [if_neg hib]
        exact p1.2 i ci ts k lo hi ht hk
  · by_cases hib : i = b
    · subst hib
      simp [rv_in] at hif
    · simp only [if_neg hib]
end CT
end
section
-- ===== PART A: goes FIRST, ahead of the names: the tables' words, and 'selects' of the private methods out of them =====
/-- a private method of a class that the tables say can be made, by its rows of tables_1 -/
def lw_okq (q : MethodName × Nat) : Prop := (q.1.cls ≠ "java/lang/invoke/MethodHandle" ∧ q.1.cls ≠ "java/lang/invoke/VarHandle") ∧ Cond.instantiable q.1.cls q.2 ∈ tables_1 ∧ Cond.privateMethod q.1 ∈ tables_1 ∧ Cond.instanceMethod q.1 ∈ tables_1
theorem lw_p0 : lw_okq (⟨"DustMint$Reader", "readClause", "()Z"⟩, 5) := ⟨⟨by decide +kernel, by decide +kernel⟩, List.mem_of_getElem? (i := 96) (by decide +kernel), List.mem_of_getElem? (i := 393) (by decide +kernel), List.mem_of_getElem? (i := 394) (by decide +kernel)⟩
theorem lw_p1 : lw_okq (⟨"DustMint$Reader", "next", "()I"⟩, 5) := ⟨⟨by decide +kernel, by decide +kernel⟩, List.mem_of_getElem? (i := 96) (by decide +kernel), List.mem_of_getElem? (i := 397) (by decide +kernel), List.mem_of_getElem? (i := 398) (by decide +kernel)⟩
theorem lw_p2 : lw_okq (⟨"DustMint$Reader", "fail", "(I)Z"⟩, 5) := ⟨⟨by decide +kernel, by decide +kernel⟩, List.mem_of_getElem? (i := 96) (by decide +kernel), List.mem_of_getElem? (i := 488) (by decide +kernel), List.mem_of_getElem? (i := 489) (by decide +kernel)⟩
theorem lw_p3 : lw_okq (⟨"DustMint$Reader", "readSum", "(I)Z"⟩, 5) := ⟨⟨by decide +kernel, by decide +kernel⟩, List.mem_of_getElem? (i := 96) (by decide +kernel), List.mem_of_getElem? (i := 492) (by decide +kernel), List.mem_of_getElem? (i := 493) (by decide +kernel)⟩
theorem lw_p4 : lw_okq (⟨"DustMint$Reader", "readTerm", "(I)Z"⟩, 5) := ⟨⟨by decide +kernel, by decide +kernel⟩, List.mem_of_getElem? (i := 96) (by decide +kernel), List.mem_of_getElem? (i := 496) (by decide +kernel), List.mem_of_getElem? (i := 497) (by decide +kernel)⟩
theorem lw_p5 : lw_okq (⟨"DustMint$Reader", "readFactor", "(I)Z"⟩, 5) := ⟨⟨by decide +kernel, by decide +kernel⟩, List.mem_of_getElem? (i := 96) (by decide +kernel), List.mem_of_getElem? (i := 500) (by decide +kernel), List.mem_of_getElem? (i := 501) (by decide +kernel)⟩
theorem lw_p6 : lw_okq (⟨"DustMint$Reader", "open", "(II)Z"⟩, 5) := ⟨⟨by decide +kernel, by decide +kernel⟩, List.mem_of_getElem? (i := 96) (by decide +kernel), List.mem_of_getElem? (i := 504) (by decide +kernel), List.mem_of_getElem? (i := 505) (by decide +kernel)⟩
theorem lw_p7 : lw_okq (⟨"DustMint$Reader", "close", "(I)Z"⟩, 5) := ⟨⟨by decide +kernel, by decide +kernel⟩, List.mem_of_getElem? (i := 96) (by decide +kernel), List.mem_of_getElem? (i := 508) (by decide +kernel), List.mem_of_getElem? (i := 509) (by decide +kernel)⟩
theorem lw_p8 : lw_okq (⟨"DustMint$Reader", "readNumber", "()Z"⟩, 5) := ⟨⟨by decide +kernel, by decide +kernel⟩, List.mem_of_getElem? (i := 96) (by decide +kernel), List.mem_of_getElem? (i := 515) (by decide +kernel), List.mem_of_getElem? (i := 516) (by decide +kernel)⟩
theorem lw_p9 : lw_okq (⟨"DustMint$Reader", "readParts", "(I)Z"⟩, 5) := ⟨⟨by decide +kernel, by decide +kernel⟩, List.mem_of_getElem? (i := 96) (by decide +kernel), List.mem_of_getElem? (i := 524) (by decide +kernel), List.mem_of_getElem? (i := 525) (by decide +kernel)⟩
theorem lw_p10 : lw_okq (⟨"DustMint$Reader", "readPieces", "(I)Z"⟩, 5) := ⟨⟨by decide +kernel, by decide +kernel⟩, List.mem_of_getElem? (i := 96) (by decide +kernel), List.mem_of_getElem? (i := 528) (by decide +kernel), List.mem_of_getElem? (i := 529) (by decide +kernel)⟩
theorem lw_p11 : lw_okq (⟨"DustMint$Reader", "readPiece", "(I)Z"⟩, 5) := ⟨⟨by decide +kernel, by decide +kernel⟩, List.mem_of_getElem? (i := 96) (by decide +kernel), List.mem_of_getElem? (i := 532) (by decide +kernel), List.mem_of_getElem? (i := 533) (by decide +kernel)⟩
theorem lw_p12 : lw_okq (⟨"DustMint$Reader", "seesDust", "(I)Z"⟩, 5) := ⟨⟨by decide +kernel, by decide +kernel⟩, List.mem_of_getElem? (i := 96) (by decide +kernel), List.mem_of_getElem? (i := 540) (by decide +kernel), List.mem_of_getElem? (i := 541) (by decide +kernel)⟩
theorem lw_p13 : lw_okq (⟨"DustMint$Hill", "spill", "(LDustMint$Law;I)I"⟩, 18) := ⟨⟨by decide +kernel, by decide +kernel⟩, List.mem_of_getElem? (i := 121) (by decide +kernel), List.mem_of_getElem? (i := 569) (by decide +kernel), List.mem_of_getElem? (i := 570) (by decide +kernel)⟩
theorem lw_p14 : lw_okq (⟨"DustMint$Hill", "show", "(LDustMint$Law;I)V"⟩, 18) := ⟨⟨by decide +kernel, by decide +kernel⟩, List.mem_of_getElem? (i := 121) (by decide +kernel), List.mem_of_getElem? (i := 587) (by decide +kernel), List.mem_of_getElem? (i := 588) (by decide +kernel)⟩
theorem lw_p15 : lw_okq (⟨"DustMint$Law", "reckon", "(II)I"⟩, 11) := ⟨⟨by decide +kernel, by decide +kernel⟩, List.mem_of_getElem? (i := 44) (by decide +kernel), List.mem_of_getElem? (i := 600) (by decide +kernel), List.mem_of_getElem? (i := 601) (by decide +kernel)⟩
def lw_privs_1 : List (MethodName × Nat) := [(⟨"DustMint$Reader", "readClause", "()Z"⟩, 5), (⟨"DustMint$Reader", "next", "()I"⟩, 5), (⟨"DustMint$Reader", "fail", "(I)Z"⟩, 5), (⟨"DustMint$Reader", "readSum", "(I)Z"⟩, 5), (⟨"DustMint$Reader", "readTerm", "(I)Z"⟩, 5), (⟨"DustMint$Reader", "readFactor", "(I)Z"⟩, 5), (⟨"DustMint$Reader", "open", "(II)Z"⟩, 5), (⟨"DustMint$Reader", "close", "(I)Z"⟩, 5), (⟨"DustMint$Reader", "readNumber", "()Z"⟩, 5), (⟨"DustMint$Reader", "readParts", "(I)Z"⟩, 5), (⟨"DustMint$Reader", "readPieces", "(I)Z"⟩, 5), (⟨"DustMint$Reader", "readPiece", "(I)Z"⟩, 5), (⟨"DustMint$Reader", "seesDust", "(I)Z"⟩, 5), (⟨"DustMint$Hill", "spill", "(LDustMint$Law;I)I"⟩, 18), (⟨"DustMint$Hill", "show", "(LDustMint$Law;I)V"⟩, 18), (⟨"DustMint$Law", "reckon", "(II)I"⟩, 11)]
theorem lw_r1 : ∀ q ∈ lw_privs_1, lw_okq q := List.forall_mem_cons.mpr ⟨lw_p0, List.forall_mem_cons.mpr ⟨lw_p1, List.forall_mem_cons.mpr ⟨lw_p2, List.forall_mem_cons.mpr ⟨lw_p3, List.forall_mem_cons.mpr ⟨lw_p4, List.forall_mem_cons.mpr ⟨lw_p5, List.forall_mem_cons.mpr ⟨lw_p6, List.forall_mem_cons.mpr ⟨lw_p7, List.forall_mem_cons.mpr ⟨lw_p8, List.forall_mem_cons.mpr ⟨lw_p9, List.forall_mem_cons.mpr ⟨lw_p10, List.forall_mem_cons.mpr ⟨lw_p11, List.forall_mem_cons.mpr ⟨lw_p12, List.forall_mem_cons.mpr ⟨lw_p13, List.forall_mem_cons.mpr ⟨lw_p14, List.forall_mem_cons.mpr ⟨lw_p15, fun _ h => absurd h List.not_mem_nil⟩⟩⟩⟩⟩⟩⟩⟩⟩⟩⟩⟩⟩⟩⟩⟩
theorem lw_p16 : lw_okq (⟨"DustMint$Hill", "heap", "(II)V"⟩, 18) := ⟨⟨by decide +kernel, by decide +kernel⟩, List.mem_of_getElem? (i := 121) (by decide +kernel), List.mem_of_getElem? (i := 607) (by decide +kernel), List.mem_of_getElem? (i := 608) (by decide +kernel)⟩
theorem lw_p17 : lw_okq (⟨"DustMint$Hill", "climb", "()V"⟩, 18) := ⟨⟨by decide +kernel, by decide +kernel⟩, List.mem_of_getElem? (i := 121) (by decide +kernel), List.mem_of_getElem? (i := 612) (by decide +kernel), List.mem_of_getElem? (i := 613) (by decide +kernel)⟩
theorem lw_p18 : lw_okq (⟨"DustMint$Hill", "blow", "(LDustMint$Law;)V"⟩, 18) := ⟨⟨by decide +kernel, by decide +kernel⟩, List.mem_of_getElem? (i := 121) (by decide +kernel), List.mem_of_getElem? (i := 616) (by decide +kernel), List.mem_of_getElem? (i := 617) (by decide +kernel)⟩
theorem lw_p19 : lw_okq (⟨"DustMint$Hill", "taken", "(LDustMint$Law;II)I"⟩, 18) := ⟨⟨by decide +kernel, by decide +kernel⟩, List.mem_of_getElem? (i := 121) (by decide +kernel), List.mem_of_getElem? (i := 624) (by decide +kernel), List.mem_of_getElem? (i := 625) (by decide +kernel)⟩
theorem lw_p20 : lw_okq (⟨"DustMint$Hill", "wash", "(LDustMint$Law;)V"⟩, 18) := ⟨⟨by decide +kernel, by decide +kernel⟩, List.mem_of_getElem? (i := 121) (by decide +kernel), List.mem_of_getElem? (i := 628) (by decide +kernel), List.mem_of_getElem? (i := 629) (by decide +kernel)⟩
theorem lw_p21 : lw_okq (⟨"DustMint$Hill", "sieve", "(LDustMint$Law;)V"⟩, 18) := ⟨⟨by decide +kernel, by decide +kernel⟩, List.mem_of_getElem? (i := 121) (by decide +kernel), List.mem_of_getElem? (i := 632) (by decide +kernel), List.mem_of_getElem? (i := 633) (by decide +kernel)⟩
theorem lw_p22 : lw_okq (⟨"DustMint", "isTriable", "(I)Z"⟩, 12) := ⟨⟨by decide +kernel, by decide +kernel⟩, List.mem_of_getElem? (i := 20) (by decide +kernel), List.mem_of_getElem? (i := 659) (by decide +kernel), List.mem_of_getElem? (i := 660) (by decide +kernel)⟩
theorem lw_p23 : lw_okq (⟨"DustMint$Sieving", "weigh", "(I)I"⟩, 12) := ⟨⟨by decide +kernel, by decide +kernel⟩, List.mem_of_getElem? (i := 235) (by decide +kernel), List.mem_of_getElem? (i := 695) (by decide +kernel), List.mem_of_getElem? (i := 696) (by decide +kernel)⟩
theorem lw_p24 : lw_okq (⟨"DustMint$Sieving", "grant", "(II)V"⟩, 12) := ⟨⟨by decide +kernel, by decide +kernel⟩, List.mem_of_getElem? (i := 235) (by decide +kernel), List.mem_of_getElem? (i := 700) (by decide +kernel), List.mem_of_getElem? (i := 701) (by decide +kernel)⟩
theorem lw_p25 : lw_okq (⟨"DustMint", "searchSwap", "(II)I"⟩, 12) := ⟨⟨by decide +kernel, by decide +kernel⟩, List.mem_of_getElem? (i := 20) (by decide +kernel), List.mem_of_getElem? (i := 739) (by decide +kernel), List.mem_of_getElem? (i := 740) (by decide +kernel)⟩
theorem lw_p26 : lw_okq (⟨"DustMint$Swap", "handOutBy", "([ILDustMint$Porters;LDustMint$Porters;)V"⟩, 4) := ⟨⟨by decide +kernel, by decide +kernel⟩, List.mem_of_getElem? (i := 280) (by decide +kernel), List.mem_of_getElem? (i := 753) (by decide +kernel), List.mem_of_getElem? (i := 754) (by decide +kernel)⟩
theorem lw_p27 : lw_okq (⟨"DustMint$Swap", "exchange", "(II)V"⟩, 4) := ⟨⟨by decide +kernel, by decide +kernel⟩, List.mem_of_getElem? (i := 280) (by decide +kernel), List.mem_of_getElem? (i := 771) (by decide +kernel), List.mem_of_getElem? (i := 772) (by decide +kernel)⟩
theorem lw_p28 : lw_okq (⟨"DustMint", "tryUnlicensed", "(II)V"⟩, 12) := ⟨⟨by decide +kernel, by decide +kernel⟩, List.mem_of_getElem? (i := 20) (by decide +kernel), List.mem_of_getElem? (i := 799) (by decide +kernel), List.mem_of_getElem? (i := 800) (by decide +kernel)⟩
theorem lw_p29 : lw_okq (⟨"DustMint", "worthTo", "(III)I"⟩, 12) := ⟨⟨by decide +kernel, by decide +kernel⟩, List.mem_of_getElem? (i := 20) (by decide +kernel), List.mem_of_getElem? (i := 803) (by decide +kernel), List.mem_of_getElem? (i := 804) (by decide +kernel)⟩
theorem lw_p30 : lw_okq (⟨"DustMint", "wouldShake", "(IIII)Z"⟩, 12) := ⟨⟨by decide +kernel, by decide +kernel⟩, List.mem_of_getElem? (i := 20) (by decide +kernel), List.mem_of_getElem? (i := 818) (by decide +kernel), List.mem_of_getElem? (i := 819) (by decide +kernel)⟩
theorem lw_p31 : lw_okq (⟨"DustMintModel", "push", "(I)V"⟩, 74) := ⟨⟨by decide +kernel, by decide +kernel⟩, List.mem_of_getElem? (i := 880) (by decide +kernel), List.mem_of_getElem? (i := 1155) (by decide +kernel), List.mem_of_getElem? (i := 1156) (by decide +kernel)⟩
def lw_privs_2 : List (MethodName × Nat) := [(⟨"DustMint$Hill", "heap", "(II)V"⟩, 18), (⟨"DustMint$Hill", "climb", "()V"⟩, 18), (⟨"DustMint$Hill", "blow", "(LDustMint$Law;)V"⟩, 18), (⟨"DustMint$Hill", "taken", "(LDustMint$Law;II)I"⟩, 18), (⟨"DustMint$Hill", "wash", "(LDustMint$Law;)V"⟩, 18), (⟨"DustMint$Hill", "sieve", "(LDustMint$Law;)V"⟩, 18), (⟨"DustMint", "isTriable", "(I)Z"⟩, 12), (⟨"DustMint$Sieving", "weigh", "(I)I"⟩, 12), (⟨"DustMint$Sieving", "grant", "(II)V"⟩, 12), (⟨"DustMint", "searchSwap", "(II)I"⟩, 12), (⟨"DustMint$Swap", "handOutBy", "([ILDustMint$Porters;LDustMint$Porters;)V"⟩, 4), (⟨"DustMint$Swap", "exchange", "(II)V"⟩, 4), (⟨"DustMint", "tryUnlicensed", "(II)V"⟩, 12), (⟨"DustMint", "worthTo", "(III)I"⟩, 12), (⟨"DustMint", "wouldShake", "(IIII)Z"⟩, 12), (⟨"DustMintModel", "push", "(I)V"⟩, 74)]
theorem lw_r2 : ∀ q ∈ lw_privs_2, lw_okq q := List.forall_mem_cons.mpr ⟨lw_p16, List.forall_mem_cons.mpr ⟨lw_p17, List.forall_mem_cons.mpr ⟨lw_p18, List.forall_mem_cons.mpr ⟨lw_p19, List.forall_mem_cons.mpr ⟨lw_p20, List.forall_mem_cons.mpr ⟨lw_p21, List.forall_mem_cons.mpr ⟨lw_p22, List.forall_mem_cons.mpr ⟨lw_p23, List.forall_mem_cons.mpr ⟨lw_p24, List.forall_mem_cons.mpr ⟨lw_p25, List.forall_mem_cons.mpr ⟨lw_p26, List.forall_mem_cons.mpr ⟨lw_p27, List.forall_mem_cons.mpr ⟨lw_p28, List.forall_mem_cons.mpr ⟨lw_p29, List.forall_mem_cons.mpr ⟨lw_p30, List.forall_mem_cons.mpr ⟨lw_p31, fun _ h => absurd h List.not_mem_nil⟩⟩⟩⟩⟩⟩⟩⟩⟩⟩⟩⟩⟩⟩⟩⟩
theorem lw_p32 : lw_okq (⟨"DustMintModel", "isGood", "()Z"⟩, 74) := ⟨⟨by decide +kernel, by decide +kernel⟩, List.mem_of_getElem? (i := 880) (by decide +kernel), List.mem_of_getElem? (i := 1164) (by decide +kernel), List.mem_of_getElem? (i := 1165) (by decide +kernel)⟩
theorem lw_p33 : lw_okq (⟨"DustMintModel", "clause", "()V"⟩, 74) := ⟨⟨by decide +kernel, by decide +kernel⟩, List.mem_of_getElem? (i := 880) (by decide +kernel), List.mem_of_getElem? (i := 1168) (by decide +kernel), List.mem_of_getElem? (i := 1169) (by decide +kernel)⟩
theorem lw_p34 : lw_okq (⟨"DustMintModel", "here", "()I"⟩, 74) := ⟨⟨by decide +kernel, by decide +kernel⟩, List.mem_of_getElem? (i := 880) (by decide +kernel), List.mem_of_getElem? (i := 1172) (by decide +kernel), List.mem_of_getElem? (i := 1173) (by decide +kernel)⟩
theorem lw_p35 : lw_okq (⟨"DustMintModel", "wrongs", "(II)V"⟩, 74) := ⟨⟨by decide +kernel, by decide +kernel⟩, List.mem_of_getElem? (i := 880) (by decide +kernel), List.mem_of_getElem? (i := 1176) (by decide +kernel), List.mem_of_getElem? (i := 1177) (by decide +kernel)⟩
theorem lw_p36 : lw_okq (⟨"DustMintModel", "value", "()V"⟩, 74) := ⟨⟨by decide +kernel, by decide +kernel⟩, List.mem_of_getElem? (i := 880) (by decide +kernel), List.mem_of_getElem? (i := 1180) (by decide +kernel), List.mem_of_getElem? (i := 1181) (by decide +kernel)⟩
theorem lw_p37 : lw_okq (⟨"DustMintModel", "factor", "()V"⟩, 74) := ⟨⟨by decide +kernel, by decide +kernel⟩, List.mem_of_getElem? (i := 880) (by decide +kernel), List.mem_of_getElem? (i := 1184) (by decide +kernel), List.mem_of_getElem? (i := 1185) (by decide +kernel)⟩
theorem lw_p38 : lw_okq (⟨"DustMintModel", "opens", "()V"⟩, 74) := ⟨⟨by decide +kernel, by decide +kernel⟩, List.mem_of_getElem? (i := 880) (by decide +kernel), List.mem_of_getElem? (i := 1188) (by decide +kernel), List.mem_of_getElem? (i := 1189) (by decide +kernel)⟩
theorem lw_p39 : lw_okq (⟨"DustMintModel", "puts", "(I)V"⟩, 74) := ⟨⟨by decide +kernel, by decide +kernel⟩, List.mem_of_getElem? (i := 880) (by decide +kernel), List.mem_of_getElem? (i := 1192) (by decide +kernel), List.mem_of_getElem? (i := 1193) (by decide +kernel)⟩
theorem lw_p40 : lw_okq (⟨"DustMintModel", "seesDigit", "()Z"⟩, 74) := ⟨⟨by decide +kernel, by decide +kernel⟩, List.mem_of_getElem? (i := 880) (by decide +kernel), List.mem_of_getElem? (i := 1196) (by decide +kernel), List.mem_of_getElem? (i := 1197) (by decide +kernel)⟩
theorem lw_p41 : lw_okq (⟨"DustMintModel", "reads", "()I"⟩, 74) := ⟨⟨by decide +kernel, by decide +kernel⟩, List.mem_of_getElem? (i := 880) (by decide +kernel), List.mem_of_getElem? (i := 1202) (by decide +kernel), List.mem_of_getElem? (i := 1203) (by decide +kernel)⟩
theorem lw_p42 : lw_okq (⟨"DustMintModel", "emit", "(II)V"⟩, 74) := ⟨⟨by decide +kernel, by decide +kernel⟩, List.mem_of_getElem? (i := 880) (by decide +kernel), List.mem_of_getElem? (i := 1206) (by decide +kernel), List.mem_of_getElem? (i := 1207) (by decide +kernel)⟩
theorem lw_p43 : lw_okq (⟨"DustMintModel", "stays", "()Z"⟩, 74) := ⟨⟨by decide +kernel, by decide +kernel⟩, List.mem_of_getElem? (i := 880) (by decide +kernel), List.mem_of_getElem? (i := 1216) (by decide +kernel), List.mem_of_getElem? (i := 1217) (by decide +kernel)⟩
theorem lw_p44 : lw_okq (⟨"DustMintModel", "sums", "(Z)V"⟩, 74) := ⟨⟨by decide +kernel, by decide +kernel⟩, List.mem_of_getElem? (i := 880) (by decide +kernel), List.mem_of_getElem? (i := 1226) (by decide +kernel), List.mem_of_getElem? (i := 1227) (by decide +kernel)⟩
theorem lw_p45 : lw_okq (⟨"DustMintModel", "top", "()I"⟩, 74) := ⟨⟨by decide +kernel, by decide +kernel⟩, List.mem_of_getElem? (i := 880) (by decide +kernel), List.mem_of_getElem? (i := 1230) (by decide +kernel), List.mem_of_getElem? (i := 1231) (by decide +kernel)⟩
theorem lw_p46 : lw_okq (⟨"DustMintModel", "condition", "()V"⟩, 74) := ⟨⟨by decide +kernel, by decide +kernel⟩, List.mem_of_getElem? (i := 880) (by decide +kernel), List.mem_of_getElem? (i := 1234) (by decide +kernel), List.mem_of_getElem? (i := 1235) (by decide +kernel)⟩
theorem lw_p47 : lw_okq (⟨"DustMintModel", "pieceOfC", "()V"⟩, 74) := ⟨⟨by decide +kernel, by decide +kernel⟩, List.mem_of_getElem? (i := 880) (by decide +kernel), List.mem_of_getElem? (i := 1238) (by decide +kernel), List.mem_of_getElem? (i := 1239) (by decide +kernel)⟩
def lw_privs_3 : List (MethodName × Nat) := [(⟨"DustMintModel", "isGood", "()Z"⟩, 74), (⟨"DustMintModel", "clause", "()V"⟩, 74), (⟨"DustMintModel", "here", "()I"⟩, 74), (⟨"DustMintModel", "wrongs", "(II)V"⟩, 74), (⟨"DustMintModel", "value", "()V"⟩, 74), (⟨"DustMintModel", "factor", "()V"⟩, 74), (⟨"DustMintModel", "opens", "()V"⟩, 74), (⟨"DustMintModel", "puts", "(I)V"⟩, 74), (⟨"DustMintModel", "seesDigit", "()Z"⟩, 74), (⟨"DustMintModel", "reads", "()I"⟩, 74), (⟨"DustMintModel", "emit", "(II)V"⟩, 74), (⟨"DustMintModel", "stays", "()Z"⟩, 74), (⟨"DustMintModel", "sums", "(Z)V"⟩, 74), (⟨"DustMintModel", "top", "()I"⟩, 74), (⟨"DustMintModel", "condition", "()V"⟩, 74), (⟨"DustMintModel", "pieceOfC", "()V"⟩, 74)]
theorem lw_r3 : ∀ q ∈ lw_privs_3, lw_okq q := List.forall_mem_cons.mpr ⟨lw_p32, List.forall_mem_cons.mpr ⟨lw_p33, List.forall_mem_cons.mpr ⟨lw_p34, List.forall_mem_cons.mpr ⟨lw_p35, List.forall_mem_cons.mpr ⟨lw_p36, List.forall_mem_cons.mpr ⟨lw_p37, List.forall_mem_cons.mpr ⟨lw_p38, List.forall_mem_cons.mpr ⟨lw_p39, List.forall_mem_cons.mpr ⟨lw_p40, List.forall_mem_cons.mpr ⟨lw_p41, List.forall_mem_cons.mpr ⟨lw_p42, List.forall_mem_cons.mpr ⟨lw_p43, List.forall_mem_cons.mpr ⟨lw_p44, List.forall_mem_cons.mpr ⟨lw_p45, List.forall_mem_cons.mpr ⟨lw_p46, List.forall_mem_cons.mpr ⟨lw_p47, fun _ h => absurd h List.not_mem_nil⟩⟩⟩⟩⟩⟩⟩⟩⟩⟩⟩⟩⟩⟩⟩⟩
theorem lw_p48 : lw_okq (⟨"DustMintModel", "ends", "()V"⟩, 74) := ⟨⟨by decide +kernel, by decide +kernel⟩, List.mem_of_getElem? (i := 880) (by decide +kernel), List.mem_of_getElem? (i := 1245) (by decide +kernel), List.mem_of_getElem? (i := 1246) (by decide +kernel)⟩
theorem lw_p49 : lw_okq (⟨"DustMintModel", "goesBehind", "()Z"⟩, 74) := ⟨⟨by decide +kernel, by decide +kernel⟩, List.mem_of_getElem? (i := 880) (by decide +kernel), List.mem_of_getElem? (i := 1249) (by decide +kernel), List.mem_of_getElem? (i := 1250) (by decide +kernel)⟩
theorem lw_p50 : lw_okq (⟨"DustMintModel", "joins", "(Z)V"⟩, 74) := ⟨⟨by decide +kernel, by decide +kernel⟩, List.mem_of_getElem? (i := 880) (by decide +kernel), List.mem_of_getElem? (i := 1253) (by decide +kernel), List.mem_of_getElem? (i := 1254) (by decide +kernel)⟩
theorem lw_p51 : lw_okq (⟨"DustMintModel", "goesOn", "(I)V"⟩, 74) := ⟨⟨by decide +kernel, by decide +kernel⟩, List.mem_of_getElem? (i := 880) (by decide +kernel), List.mem_of_getElem? (i := 1265) (by decide +kernel), List.mem_of_getElem? (i := 1266) (by decide +kernel)⟩
theorem lw_p52 : lw_okq (⟨"DustMintModel", "passes", "(I)V"⟩, 74) := ⟨⟨by decide +kernel, by decide +kernel⟩, List.mem_of_getElem? (i := 880) (by decide +kernel), List.mem_of_getElem? (i := 1270) (by decide +kernel), List.mem_of_getElem? (i := 1271) (by decide +kernel)⟩
theorem lw_p53 : lw_okq (⟨"DustMintModel", "loses", "()V"⟩, 74) := ⟨⟨by decide +kernel, by decide +kernel⟩, List.mem_of_getElem? (i := 880) (by decide +kernel), List.mem_of_getElem? (i := 1274) (by decide +kernel), List.mem_of_getElem? (i := 1275) (by decide +kernel)⟩
theorem lw_p54 : lw_okq (⟨"DustMintModel", "goesStill", "(I)Z"⟩, 74) := ⟨⟨by decide +kernel, by decide +kernel⟩, List.mem_of_getElem? (i := 880) (by decide +kernel), List.mem_of_getElem? (i := 1278) (by decide +kernel), List.mem_of_getElem? (i := 1279) (by decide +kernel)⟩
theorem lw_p55 : lw_okq (⟨"DustMintModel", "isPorter", "(I)Z"⟩, 74) := ⟨⟨by decide +kernel, by decide +kernel⟩, List.mem_of_getElem? (i := 880) (by decide +kernel), List.mem_of_getElem? (i := 1282) (by decide +kernel), List.mem_of_getElem? (i := 1283) (by decide +kernel)⟩
theorem lw_p56 : lw_okq (⟨"DustMintModel", "wouldLose", "(I)I"⟩, 74) := ⟨⟨by decide +kernel, by decide +kernel⟩, List.mem_of_getElem? (i := 880) (by decide +kernel), List.mem_of_getElem? (i := 1286) (by decide +kernel), List.mem_of_getElem? (i := 1287) (by decide +kernel)⟩
theorem lw_p57 : lw_okq (⟨"DustMintModel", "tells", "(IIII)I"⟩, 74) := ⟨⟨by decide +kernel, by decide +kernel⟩, List.mem_of_getElem? (i := 880) (by decide +kernel), List.mem_of_getElem? (i := 1290) (by decide +kernel), List.mem_of_getElem? (i := 1291) (by decide +kernel)⟩
theorem lw_p58 : lw_okq (⟨"DustMintModel", "works", "(II)V"⟩, 74) := ⟨⟨by decide +kernel, by decide +kernel⟩, List.mem_of_getElem? (i := 880) (by decide +kernel), List.mem_of_getElem? (i := 1294) (by decide +kernel), List.mem_of_getElem? (i := 1295) (by decide +kernel)⟩
theorem lw_p59 : lw_okq (⟨"DustMintModel", "does", "(II)V"⟩, 74) := ⟨⟨by decide +kernel, by decide +kernel⟩, List.mem_of_getElem? (i := 880) (by decide +kernel), List.mem_of_getElem? (i := 1298) (by decide +kernel), List.mem_of_getElem? (i := 1299) (by decide +kernel)⟩
theorem lw_p60 : lw_okq (⟨"DustMintModel", "valueOf", "(I)I"⟩, 74) := ⟨⟨by decide +kernel, by decide +kernel⟩, List.mem_of_getElem? (i := 880) (by decide +kernel), List.mem_of_getElem? (i := 1305) (by decide +kernel), List.mem_of_getElem? (i := 1306) (by decide +kernel)⟩
theorem lw_p61 : lw_okq (⟨"DustMintModel", "ofYard", "(I)I"⟩, 74) := ⟨⟨by decide +kernel, by decide +kernel⟩, List.mem_of_getElem? (i := 880) (by decide +kernel), List.mem_of_getElem? (i := 1309) (by decide +kernel), List.mem_of_getElem? (i := 1310) (by decide +kernel)⟩
theorem lw_p62 : lw_okq (⟨"DustMintModel", "rainNow", "()I"⟩, 74) := ⟨⟨by decide +kernel, by decide +kernel⟩, List.mem_of_getElem? (i := 880) (by decide +kernel), List.mem_of_getElem? (i := 1313) (by decide +kernel), List.mem_of_getElem? (i := 1314) (by decide +kernel)⟩
theorem lw_p63 : lw_okq (⟨"DustMintModel", "ofPorter", "(I)I"⟩, 74) := ⟨⟨by decide +kernel, by decide +kernel⟩, List.mem_of_getElem? (i := 880) (by decide +kernel), List.mem_of_getElem? (i := 1317) (by decide +kernel), List.mem_of_getElem? (i := 1318) (by decide +kernel)⟩
def lw_privs_4 : List (MethodName × Nat) := [(⟨"DustMintModel", "ends", "()V"⟩, 74), (⟨"DustMintModel", "goesBehind", "()Z"⟩, 74), (⟨"DustMintModel", "joins", "(Z)V"⟩, 74), (⟨"DustMintModel", "goesOn", "(I)V"⟩, 74), (⟨"DustMintModel", "passes", "(I)V"⟩, 74), (⟨"DustMintModel", "loses", "()V"⟩, 74), (⟨"DustMintModel", "goesStill", "(I)Z"⟩, 74), (⟨"DustMintModel", "isPorter", "(I)Z"⟩, 74), (⟨"DustMintModel", "wouldLose", "(I)I"⟩, 74), (⟨"DustMintModel", "tells", "(IIII)I"⟩, 74), (⟨"DustMintModel", "works", "(II)V"⟩, 74), (⟨"DustMintModel", "does", "(II)V"⟩, 74), (⟨"DustMintModel", "valueOf", "(I)I"⟩, 74), (⟨"DustMintModel", "ofYard", "(I)I"⟩, 74), (⟨"DustMintModel", "rainNow", "()I"⟩, 74), (⟨"DustMintModel", "ofPorter", "(I)I"⟩, 74)]
theorem lw_r4 : ∀ q ∈ lw_privs_4, lw_okq q := List.forall_mem_cons.mpr ⟨lw_p48, List.forall_mem_cons.mpr ⟨lw_p49, List.forall_mem_cons.mpr ⟨lw_p50, List.forall_mem_cons.mpr ⟨lw_p51, List.forall_mem_cons.mpr ⟨lw_p52, List.forall_mem_cons.mpr ⟨lw_p53, List.forall_mem_cons.mpr ⟨lw_p54, List.forall_mem_cons.mpr ⟨lw_p55, List.forall_mem_cons.mpr ⟨lw_p56, List.forall_mem_cons.mpr ⟨lw_p57, List.forall_mem_cons.mpr ⟨lw_p58, List.forall_mem_cons.mpr ⟨lw_p59, List.forall_mem_cons.mpr ⟨lw_p60, List.forall_mem_cons.mpr ⟨lw_p61, List.forall_mem_cons.mpr ⟨lw_p62, List.forall_mem_cons.mpr ⟨lw_p63, fun _ h => absurd h List.not_mem_nil⟩⟩⟩⟩⟩⟩⟩⟩⟩⟩⟩⟩⟩⟩⟩⟩
theorem lw_p64 : lw_okq (⟨"DustMintModel", "portersAt", "(I)I"⟩, 74) := ⟨⟨by decide +kernel, by decide +kernel⟩, List.mem_of_getElem? (i := 880) (by decide +kernel), List.mem_of_getElem? (i := 1321) (by decide +kernel), List.mem_of_getElem? (i := 1322) (by decide +kernel)⟩
theorem lw_p65 : lw_okq (⟨"DustMintModel", "comes", "(II)V"⟩, 74) := ⟨⟨by decide +kernel, by decide +kernel⟩, List.mem_of_getElem? (i := 880) (by decide +kernel), List.mem_of_getElem? (i := 1328) (by decide +kernel), List.mem_of_getElem? (i := 1329) (by decide +kernel)⟩
theorem lw_p66 : lw_okq (⟨"DustMintModel", "climbs", "()V"⟩, 74) := ⟨⟨by decide +kernel, by decide +kernel⟩, List.mem_of_getElem? (i := 880) (by decide +kernel), List.mem_of_getElem? (i := 1333) (by decide +kernel), List.mem_of_getElem? (i := 1334) (by decide +kernel)⟩
theorem lw_p67 : lw_okq (⟨"DustMintModel", "blows", "()V"⟩, 74) := ⟨⟨by decide +kernel, by decide +kernel⟩, List.mem_of_getElem? (i := 880) (by decide +kernel), List.mem_of_getElem? (i := 1337) (by decide +kernel), List.mem_of_getElem? (i := 1338) (by decide +kernel)⟩
theorem lw_p68 : lw_okq (⟨"DustMintModel", "washes", "()V"⟩, 74) := ⟨⟨by decide +kernel, by decide +kernel⟩, List.mem_of_getElem? (i := 880) (by decide +kernel), List.mem_of_getElem? (i := 1341) (by decide +kernel), List.mem_of_getElem? (i := 1342) (by decide +kernel)⟩
theorem lw_p69 : lw_okq (⟨"DustMintModel", "sieves", "()V"⟩, 74) := ⟨⟨by decide +kernel, by decide +kernel⟩, List.mem_of_getElem? (i := 880) (by decide +kernel), List.mem_of_getElem? (i := 1345) (by decide +kernel), List.mem_of_getElem? (i := 1346) (by decide +kernel)⟩
theorem lw_p70 : lw_okq (⟨"DustMintModel", "losesNow", "(I)I"⟩, 74) := ⟨⟨by decide +kernel, by decide +kernel⟩, List.mem_of_getElem? (i := 880) (by decide +kernel), List.mem_of_getElem? (i := 1361) (by decide +kernel), List.mem_of_getElem? (i := 1362) (by decide +kernel)⟩
theorem lw_p71 : lw_okq (⟨"DustMintModel", "isTried", "(I)Z"⟩, 74) := ⟨⟨by decide +kernel, by decide +kernel⟩, List.mem_of_getElem? (i := 880) (by decide +kernel), List.mem_of_getElem? (i := 1369) (by decide +kernel), List.mem_of_getElem? (i := 1370) (by decide +kernel)⟩
theorem lw_p72 : lw_okq (⟨"DustMintModel", "setsAside", "(I)V"⟩, 74) := ⟨⟨by decide +kernel, by decide +kernel⟩, List.mem_of_getElem? (i := 880) (by decide +kernel), List.mem_of_getElem? (i := 1373) (by decide +kernel), List.mem_of_getElem? (i := 1374) (by decide +kernel)⟩
theorem lw_p73 : lw_okq (⟨"DustMintModel", "triedNow", "(I)I"⟩, 74) := ⟨⟨by decide +kernel, by decide +kernel⟩, List.mem_of_getElem? (i := 880) (by decide +kernel), List.mem_of_getElem? (i := 1377) (by decide +kernel), List.mem_of_getElem? (i := 1378) (by decide +kernel)⟩
theorem lw_p74 : lw_okq (⟨"DustMintModel", "putsBack", "(I)V"⟩, 74) := ⟨⟨by decide +kernel, by decide +kernel⟩, List.mem_of_getElem? (i := 880) (by decide +kernel), List.mem_of_getElem? (i := 1388) (by decide +kernel), List.mem_of_getElem? (i := 1389) (by decide +kernel)⟩
theorem lw_p75 : lw_okq (⟨"DustMintModel", "sievesBy", "(IIII)V"⟩, 74) := ⟨⟨by decide +kernel, by decide +kernel⟩, List.mem_of_getElem? (i := 880) (by decide +kernel), List.mem_of_getElem? (i := 1402) (by decide +kernel), List.mem_of_getElem? (i := 1403) (by decide +kernel)⟩
theorem lw_p76 : lw_okq (⟨"DustMintModel", "goesToNext", "(I)Z"⟩, 74) := ⟨⟨by decide +kernel, by decide +kernel⟩, List.mem_of_getElem? (i := 880) (by decide +kernel), List.mem_of_getElem? (i := 1423) (by decide +kernel), List.mem_of_getElem? (i := 1424) (by decide +kernel)⟩
theorem lw_p77 : lw_okq (⟨"DustMintModel", "worthOf", "(III)I"⟩, 74) := ⟨⟨by decide +kernel, by decide +kernel⟩, List.mem_of_getElem? (i := 880) (by decide +kernel), List.mem_of_getElem? (i := 1439) (by decide +kernel), List.mem_of_getElem? (i := 1440) (by decide +kernel)⟩
theorem lw_p78 : lw_okq (⟨"DustMintModel", "purseBy", "(IIII)I"⟩, 74) := ⟨⟨by decide +kernel, by decide +kernel⟩, List.mem_of_getElem? (i := 880) (by decide +kernel), List.mem_of_getElem? (i := 1443) (by decide +kernel), List.mem_of_getElem? (i := 1444) (by decide +kernel)⟩
theorem lw_p79 : lw_okq (⟨"DustMintModel", "isShaken", "(II)Z"⟩, 74) := ⟨⟨by decide +kernel, by decide +kernel⟩, List.mem_of_getElem? (i := 880) (by decide +kernel), List.mem_of_getElem? (i := 1455) (by decide +kernel), List.mem_of_getElem? (i := 1456) (by decide +kernel)⟩
def lw_privs_5 : List (MethodName × Nat) := [(⟨"DustMintModel", "portersAt", "(I)I"⟩, 74), (⟨"DustMintModel", "comes", "(II)V"⟩, 74), (⟨"DustMintModel", "climbs", "()V"⟩, 74), (⟨"DustMintModel", "blows", "()V"⟩, 74), (⟨"DustMintModel", "washes", "()V"⟩, 74), (⟨"DustMintModel", "sieves", "()V"⟩, 74), (⟨"DustMintModel", "losesNow", "(I)I"⟩, 74), (⟨"DustMintModel", "isTried", "(I)Z"⟩, 74), (⟨"DustMintModel", "setsAside", "(I)V"⟩, 74), (⟨"DustMintModel", "triedNow", "(I)I"⟩, 74), (⟨"DustMintModel", "putsBack", "(I)V"⟩, 74), (⟨"DustMintModel", "sievesBy", "(IIII)V"⟩, 74), (⟨"DustMintModel", "goesToNext", "(I)Z"⟩, 74), (⟨"DustMintModel", "worthOf", "(III)I"⟩, 74), (⟨"DustMintModel", "purseBy", "(IIII)I"⟩, 74), (⟨"DustMintModel", "isShaken", "(II)Z"⟩, 74)]
theorem lw_r5 : ∀ q ∈ lw_privs_5, lw_okq q := List.forall_mem_cons.mpr ⟨lw_p64, List.forall_mem_cons.mpr ⟨lw_p65, List.forall_mem_cons.mpr ⟨lw_p66, List.forall_mem_cons.mpr ⟨lw_p67, List.forall_mem_cons.mpr ⟨lw_p68, List.forall_mem_cons.mpr ⟨lw_p69, List.forall_mem_cons.mpr ⟨lw_p70, List.forall_mem_cons.mpr ⟨lw_p71, List.forall_mem_cons.mpr ⟨lw_p72, List.forall_mem_cons.mpr ⟨lw_p73, List.forall_mem_cons.mpr ⟨lw_p74, List.forall_mem_cons.mpr ⟨lw_p75, List.forall_mem_cons.mpr ⟨lw_p76, List.forall_mem_cons.mpr ⟨lw_p77, List.forall_mem_cons.mpr ⟨lw_p78, List.forall_mem_cons.mpr ⟨lw_p79, fun _ h => absurd h List.not_mem_nil⟩⟩⟩⟩⟩⟩⟩⟩⟩⟩⟩⟩⟩⟩⟩⟩
theorem lw_p80 : lw_okq (⟨"DustMintModel", "byteAt", "(I)I"⟩, 74) := ⟨⟨by decide +kernel, by decide +kernel⟩, List.mem_of_getElem? (i := 880) (by decide +kernel), List.mem_of_getElem? (i := 1459) (by decide +kernel), List.mem_of_getElem? (i := 1460) (by decide +kernel)⟩
theorem lw_p81 : lw_okq (⟨"DustMintModel", "ledOf", "(II)I"⟩, 74) := ⟨⟨by decide +kernel, by decide +kernel⟩, List.mem_of_getElem? (i := 880) (by decide +kernel), List.mem_of_getElem? (i := 1467) (by decide +kernel), List.mem_of_getElem? (i := 1468) (by decide +kernel)⟩
theorem lw_p82 : lw_okq (⟨"DustMintModel", "numberAt", "(I)I"⟩, 74) := ⟨⟨by decide +kernel, by decide +kernel⟩, List.mem_of_getElem? (i := 880) (by decide +kernel), List.mem_of_getElem? (i := 1499) (by decide +kernel), List.mem_of_getElem? (i := 1500) (by decide +kernel)⟩
theorem lw_p83 : lw_okq (⟨"DustMintModel", "allDust", "()I"⟩, 74) := ⟨⟨by decide +kernel, by decide +kernel⟩, List.mem_of_getElem? (i := 880) (by decide +kernel), List.mem_of_getElem? (i := 1509) (by decide +kernel), List.mem_of_getElem? (i := 1510) (by decide +kernel)⟩
theorem lw_p84 : lw_okq (⟨"DustMintModel", "portersTold", "()I"⟩, 74) := ⟨⟨by decide +kernel, by decide +kernel⟩, List.mem_of_getElem? (i := 880) (by decide +kernel), List.mem_of_getElem? (i := 1513) (by decide +kernel), List.mem_of_getElem? (i := 1514) (by decide +kernel)⟩
def lw_privs_6 : List (MethodName × Nat) := [(⟨"DustMintModel", "byteAt", "(I)I"⟩, 74), (⟨"DustMintModel", "ledOf", "(II)I"⟩, 74), (⟨"DustMintModel", "numberAt", "(I)I"⟩, 74), (⟨"DustMintModel", "allDust", "()I"⟩, 74), (⟨"DustMintModel", "portersTold", "()I"⟩, 74)]
theorem lw_r6 : ∀ q ∈ lw_privs_6, lw_okq q := List.forall_mem_cons.mpr ⟨lw_p80, List.forall_mem_cons.mpr ⟨lw_p81, List.forall_mem_cons.mpr ⟨lw_p82, List.forall_mem_cons.mpr ⟨lw_p83, List.forall_mem_cons.mpr ⟨lw_p84, fun _ h => absurd h List.not_mem_nil⟩⟩⟩⟩⟩
def lw_privs : List (MethodName × Nat) := lw_privs_1 ++ (lw_privs_2 ++ (lw_privs_3 ++ (lw_privs_4 ++ (lw_privs_5 ++ (lw_privs_6)))))
def lw_tbl : List Cond := k2_sels lw_privs ++ tables_1
theorem lw_privs_ok : ∀ q ∈ lw_privs, lw_okq q := by
  show ∀ q ∈ lw_privs_1 ++ (lw_privs_2 ++ (lw_privs_3 ++ (lw_privs_4 ++ (lw_privs_5 ++ (lw_privs_6))))), lw_okq q
  exact List.forall_mem_append.mpr ⟨lw_r1, List.forall_mem_append.mpr ⟨lw_r2, List.forall_mem_append.mpr ⟨lw_r3, List.forall_mem_append.mpr ⟨lw_r4, List.forall_mem_append.mpr ⟨lw_r5, lw_r6⟩⟩⟩⟩⟩
end
section
/-! NAMES: classes, fields, methods (as the listing has them) -/
def fm_Ts : List Jvm.Cond := lw_tbl.filter goodWord
theorem fm_Ts_good : fm_Good fm_Ts := by
  unfold fm_Good fm_Ts
  rw [List.all_eq_true]
  intro w hw
  exact (List.mem_filter.mp hw).2
theorem fm_ins {ws : List Jvm.Cond} (ps : List Nat) (h : ws.map some = ps.map (fun i => lw_tbl[i]?)) (hg : ws.all goodWord = true) : ∀ w ∈ ws, w ∈ fm_Ts := by
  intro w hw
  have h1 : some w ∈ ws.map some := List.mem_map.mpr ⟨w, hw, rfl⟩
  rw [h] at h1
  obtain ⟨i, -, hi⟩ := List.mem_map.mp h1
  exact List.mem_filter.mpr ⟨List.mem_of_getElem? hi, List.all_eq_true.mp hg w hw⟩
theorem fm_mem {w : Jvm.Cond} (i : Nat) (h : lw_tbl[i]? = some w) (hg : goodWord w = true) : w ∈ fm_Ts := List.mem_filter.mpr ⟨List.mem_of_getElem? h, hg⟩
def RX0 : String := "DustMint$Hill"
def TX0 : u_T := fun k => match k with
  | 0 => ("DustMint$Hill", "dust", "[I", true)
  | 1 => ("DustMint$Hill", "wind", "[I", true)
  | 2 => ("DustMint$Hill", "carpets", "[I", true)
  | 3 => ("DustMint$Hill", "licences", "[I", true)
  | 4 => ("DustMint$Hill", "skills", "[I", true)
  | 5 => ("DustMint$Hill", "purses", "[I", true)
  | 6 => ("DustMint$Hill", "porters", "LDustMint$Porters;", true)
  | 7 => ("DustMint$Hill", "rains", "[I", true)
  | 8 => ("DustMint$Hill", "leds", "[I", true)
  | 9 => ("DustMint$Hill", "clock", "I", false)
  | 10 => ("DustMint$Hill", "x", "I", false)
  | 11 => ("DustMint$Hill", "gold", "I", false)
  | 12 => ("DustMint$Hill", "river", "I", false)
  | 13 => ("DustMint$Hill", "gone", "I", false)
  | 14 => ("DustMint$Hill", "needsDust", "Z", false)
  | 15 => ("DustMint$Hill", "prober", "I", false)
  | 16 => ("DustMint$Hill", "probed", "I", false)
  | _ => ("DustMint$Hill", "moved", "[I", true)
def tyX0 : Nat → FieldType := fun k => match k with
  | 0 => .array .int
  | 1 => .array .int
  | 2 => .array .int
  | 3 => .array .int
  | 4 => .array .int
  | 5 => .array .int
  | 6 => .object "DustMint$Porters"
  | 7 => .array .int
  | 8 => .array .int
  | 9 => .int
  | 10 => .int
  | 11 => .int
  | 12 => .int
  | 13 => .int
  | 14 => .boolean
  | 15 => .int
  | 16 => .int
  | _ => .array .int
theorem nmX0 : ∀ a, a < 18 → ∀ b, b < 18 → a ≠ b → (TX0 a).2.1 ≠ (TX0 b).2.1 := by decide +kernel
theorem tyX0_ok : ∀ k, k < 18 → parseFieldDescriptor (TX0 k).2.2.1 = some (tyX0 k) := by decide +kernel
theorem inX0 : ∀ w ∈ u_ws RX0 TX0 18, w ∈ fm_Ts := fm_ins [282, 284, 286, 288, 290, 292, 294, 296, 298, 300, 302, 304, 306, 308, 310, 312, 314, 316] (by decide +kernel) (by decide +kernel)
def RX1 : String := "DustMint$Law"
def TX1 : u_T := fun k => match k with
  | 0 => ("DustMint$Law", "kinds", "[I", true)
  | 1 => ("DustMint$Law", "operands", "[I", true)
  | 2 => ("DustMint$Law", "steps", "I", false)
  | 3 => ("DustMint$Law", "letters", "[I", true)
  | 4 => ("DustMint$Law", "starts", "[I", true)
  | 5 => ("DustMint$Law", "middles", "[I", true)
  | 6 => ("DustMint$Law", "ends", "[I", true)
  | 7 => ("DustMint$Law", "clauses", "I", false)
  | 8 => ("DustMint$Law", "lossSeesDust", "Z", false)
  | 9 => ("DustMint$Law", "sees", "[I", true)
  | _ => ("DustMint$Law", "stack", "[I", true)
def tyX1 : Nat → FieldType := fun k => match k with
  | 0 => .array .int
  | 1 => .array .int
  | 2 => .int
  | 3 => .array .int
  | 4 => .array .int
  | 5 => .array .int
  | 6 => .array .int
  | 7 => .int
  | 8 => .boolean
  | 9 => .array .int
  | _ => .array .int
theorem nmX1 : ∀ a, a < 11 → ∀ b, b < 11 → a ≠ b → (TX1 a).2.1 ≠ (TX1 b).2.1 := by decide +kernel
theorem tyX1_ok : ∀ k, k < 11 → parseFieldDescriptor (TX1 k).2.2.1 = some (tyX1 k) := by decide +kernel
theorem inX1 : ∀ w ∈ u_ws RX1 TX1 11, w ∈ fm_Ts := fm_ins [157, 159, 161, 163, 165, 167, 169, 171, 173, 175, 177] (by decide +kernel) (by decide +kernel)
def RX2 : String := "DustMint$Porters"
def TX2 : u_T := fun k => match k with
  | 0 => ("DustMint$Porters", "told", "I", false)
  | 1 => ("DustMint$Porters", "places", "[I", true)
  | 2 => ("DustMint$Porters", "bowl", "[I", true)
  | 3 => ("DustMint$Porters", "limps", "[I", true)
  | _ => ("DustMint$Porters", "sneezes", "[I", true)
def tyX2 : Nat → FieldType := fun k => match k with
  | 0 => .int
  | 1 => .array .int
  | 2 => .array .int
  | 3 => .array .int
  | _ => .array .int
theorem nmX2 : ∀ a, a < 5 → ∀ b, b < 5 → a ≠ b → (TX2 a).2.1 ≠ (TX2 b).2.1 := by decide +kernel
theorem tyX2_ok : ∀ k, k < 5 → parseFieldDescriptor (TX2 k).2.2.1 = some (tyX2 k) := by decide +kernel
theorem inX2 : ∀ w ∈ u_ws RX2 TX2 5, w ∈ fm_Ts := fm_ins [232, 234, 236, 238, 240] (by decide +kernel) (by decide +kernel)
def RX3 : String := "DustMint$Reader"
def TX3 : u_T := fun k => match k with
  | 0 => ("DustMint$Reader", "found", "LDustMint$Law;", true)
  | 1 => ("DustMint$Reader", "tape", "LDustMint$Tape;", true)
  | 2 => ("DustMint$Reader", "size", "I", false)
  | 3 => ("DustMint$Reader", "at", "I", false)
  | _ => ("DustMint$Reader", "fault", "I", false)
def tyX3 : Nat → FieldType := fun k => match k with
  | 0 => .object "DustMint$Law"
  | 1 => .object "DustMint$Tape"
  | 2 => .int
  | 3 => .int
  | _ => .int
theorem nmX3 : ∀ a, a < 5 → ∀ b, b < 5 → a ≠ b → (TX3 a).2.1 ≠ (TX3 b).2.1 := by decide +kernel
theorem tyX3_ok : ∀ k, k < 5 → parseFieldDescriptor (TX3 k).2.2.1 = some (tyX3 k) := by decide +kernel
theorem inX3 : ∀ w ∈ u_ws RX3 TX3 5, w ∈ fm_Ts := fm_ins [194, 196, 198, 200, 202] (by decide +kernel) (by decide +kernel)
def RX4 : String := "DustMint$Sieving"
def TX4 : u_T := fun k => match k with
  | 0 => ("DustMint$Sieving", "bestSize", "I", false)
  | 1 => ("DustMint$Sieving", "bestGain", "I", false)
  | 2 => ("DustMint$Sieving", "best", "[I", true)
  | 3 => ("DustMint$Sieving", "row", "[I", true)
  | 4 => ("DustMint$Sieving", "besideOne", "[I", true)
  | 5 => ("DustMint$Sieving", "besideTwo", "[I", true)
  | 6 => ("DustMint$Sieving", "hill", "LDustMint$Hill;", true)
  | 7 => ("DustMint$Sieving", "trial", "LDustMint$Hill;", true)
  | 8 => ("DustMint$Sieving", "law", "LDustMint$Law;", true)
  | 9 => ("DustMint$Sieving", "beggar", "I", false)
  | 10 => ("DustMint$Sieving", "hours", "I", false)
  | _ => ("DustMint$Sieving", "price", "I", false)
def tyX4 : Nat → FieldType := fun k => match k with
  | 0 => .int
  | 1 => .int
  | 2 => .array .int
  | 3 => .array .int
  | 4 => .array .int
  | 5 => .array .int
  | 6 => .object "DustMint$Hill"
  | 7 => .object "DustMint$Hill"
  | 8 => .object "DustMint$Law"
  | 9 => .int
  | 10 => .int
  | _ => .int
theorem nmX4 : ∀ a, a < 12 → ∀ b, b < 12 → a ≠ b → (TX4 a).2.1 ≠ (TX4 b).2.1 := by decide +kernel
theorem tyX4_ok : ∀ k, k < 12 → parseFieldDescriptor (TX4 k).2.2.1 = some (tyX4 k) := by decide +kernel
theorem inX4 : ∀ w ∈ u_ws RX4 TX4 12, w ∈ fm_Ts := fm_ins [339, 341, 343, 345, 347, 349, 351, 353, 355, 357, 359, 361] (by decide +kernel) (by decide +kernel)
def RX5 : String := "DustMint$Swap"
def TX5 : u_T := fun k => match k with
  | 0 => ("DustMint$Swap", "who", "[I", true)
  | 1 => ("DustMint$Swap", "row", "[I", true)
  | 2 => ("DustMint$Swap", "best", "[I", true)
  | _ => ("DustMint$Swap", "size", "I", false)
def tyX5 : Nat → FieldType := fun k => match k with
  | 0 => .array .int
  | 1 => .array .int
  | 2 => .array .int
  | _ => .int
theorem nmX5 : ∀ a, a < 4 → ∀ b, b < 4 → a ≠ b → (TX5 a).2.1 ≠ (TX5 b).2.1 := by decide +kernel
theorem tyX5_ok : ∀ k, k < 4 → parseFieldDescriptor (TX5 k).2.2.1 = some (tyX5 k) := by decide +kernel
theorem inX5 : ∀ w ∈ u_ws RX5 TX5 4, w ∈ fm_Ts := fm_ins [374, 376, 378, 380] (by decide +kernel) (by decide +kernel)
def RX6 : String := "DustMint$Tape"
def TX6 : u_T := fun k => match k with
  | 0 => ("DustMint$Tape", "bytes", "[I", true)
  | _ => ("DustMint$Tape", "size", "I", false)
def tyX6 : Nat → FieldType := fun k => match k with
  | 0 => .array .int
  | _ => .int
theorem nmX6 : ∀ a, a < 2 → ∀ b, b < 2 → a ≠ b → (TX6 a).2.1 ≠ (TX6 b).2.1 := by decide +kernel
theorem tyX6_ok : ∀ k, k < 2 → parseFieldDescriptor (TX6 k).2.2.1 = some (tyX6 k) := by decide +kernel
theorem inX6 : ∀ w ∈ u_ws RX6 TX6 2, w ∈ fm_Ts := fm_ins [122, 124] (by decide +kernel) (by decide +kernel)
def RX7 : String := "DustMint"
def TX7 : u_T := fun k => match k with
  | 0 => ("DustMint", "tape", "LDustMint$Tape;", true)
  | 1 => ("DustMint", "keptTape", "LDustMint$Tape;", true)
  | 2 => ("DustMint", "text", "LDustMint$Law;", true)
  | 3 => ("DustMint", "reader", "LDustMint$Reader;", true)
  | 4 => ("DustMint", "hill", "LDustMint$Hill;", true)
  | 5 => ("DustMint", "keptHill", "LDustMint$Hill;", true)
  | 6 => ("DustMint", "trial", "LDustMint$Hill;", true)
  | 7 => ("DustMint", "sieving", "LDustMint$Sieving;", true)
  | 8 => ("DustMint", "swap", "LDustMint$Swap;", true)
  | 9 => ("DustMint", "without", "[I", true)
  | 10 => ("DustMint", "worths", "[I", true)
  | _ => ("DustMint", "isKept", "Z", false)
def tyX7 : Nat → FieldType := fun k => match k with
  | 0 => .object "DustMint$Tape"
  | 1 => .object "DustMint$Tape"
  | 2 => .object "DustMint$Law"
  | 3 => .object "DustMint$Reader"
  | 4 => .object "DustMint$Hill"
  | 5 => .object "DustMint$Hill"
  | 6 => .object "DustMint$Hill"
  | 7 => .object "DustMint$Sieving"
  | 8 => .object "DustMint$Swap"
  | 9 => .array .int
  | 10 => .array .int
  | _ => .boolean
theorem nmX7 : ∀ a, a < 12 → ∀ b, b < 12 → a ≠ b → (TX7 a).2.1 ≠ (TX7 b).2.1 := by decide +kernel
theorem tyX7_ok : ∀ k, k < 12 → parseFieldDescriptor (TX7 k).2.2.1 = some (tyX7 k) := by decide +kernel
theorem inX7 : ∀ w ∈ u_ws RX7 TX7 12, w ∈ fm_Ts := fm_ins [395, 397, 399, 401, 403, 405, 407, 409, 411, 413, 415, 417] (by decide +kernel) (by decide +kernel)
def RX8 : String := "DustMintModel"
def TX8 : u_T := fun k => match k with
  | 0 => ("DustMintModel", "tape", "[B", true)
  | 1 => ("DustMintModel", "taped", "I", false)
  | 2 => ("DustMintModel", "hour", "I", false)
  | 3 => ("DustMintModel", "luck", "I", false)
  | 4 => ("DustMintModel", "gold", "I", false)
  | 5 => ("DustMintModel", "river", "I", false)
  | 6 => ("DustMintModel", "gone", "I", false)
  | 7 => ("DustMintModel", "dust", "[I", true)
  | 8 => ("DustMintModel", "windOf", "[I", true)
  | 9 => ("DustMintModel", "isCarpet", "[Z", true)
  | 10 => ("DustMintModel", "licenceOf", "[I", true)
  | 11 => ("DustMintModel", "skills", "[I", true)
  | 12 => ("DustMintModel", "purse", "[I", true)
  | 13 => ("DustMintModel", "isTold", "[Z", true)
  | 14 => ("DustMintModel", "porterYard", "[I", true)
  | 15 => ("DustMintModel", "bowl", "[I", true)
  | 16 => ("DustMintModel", "limp", "[I", true)
  | 17 => ("DustMintModel", "sneeze", "[I", true)
  | 18 => ("DustMintModel", "rains", "[I", true)
  | 19 => ("DustMintModel", "ledTo", "[I", true)
  | 20 => ("DustMintModel", "clauseMany", "I", false)
  | 21 => ("DustMintModel", "clauseLetter", "[I", true)
  | 22 => ("DustMintModel", "sumFrom", "[I", true)
  | 23 => ("DustMintModel", "codeFrom", "[I", true)
  | 24 => ("DustMintModel", "codeTo", "[I", true)
  | 25 => ("DustMintModel", "code", "[I", true)
  | 26 => ("DustMintModel", "codeArg", "[I", true)
  | 27 => ("DustMintModel", "newLetter", "[I", true)
  | 28 => ("DustMintModel", "newSum", "[I", true)
  | 29 => ("DustMintModel", "newFrom", "[I", true)
  | 30 => ("DustMintModel", "newTo", "[I", true)
  | 31 => ("DustMintModel", "newCode", "[I", true)
  | 32 => ("DustMintModel", "newArg", "[I", true)
  | 33 => ("DustMintModel", "place", "I", false)
  | 34 => ("DustMintModel", "end", "I", false)
  | 35 => ("DustMintModel", "bad", "I", false)
  | 36 => ("DustMintModel", "clauses", "I", false)
  | 37 => ("DustMintModel", "codes", "I", false)
  | 38 => ("DustMintModel", "open", "I", false)
  | 39 => ("DustMintModel", "stacked", "I", false)
  | 40 => ("DustMintModel", "isOver", "Z", false)
  | 41 => ("DustMintModel", "isBehind", "Z", false)
  | 42 => ("DustMintModel", "stack", "[I", true)
  | 43 => ("DustMintModel", "atYard", "I", false)
  | 44 => ("DustMintModel", "atPorter", "I", false)
  | 45 => ("DustMintModel", "atBeggar", "I", false)
  | 46 => ("DustMintModel", "drawn", "I", false)
  | 47 => ("DustMintModel", "worths", "[I", true)
  | 48 => ("DustMintModel", "isRefused", "[Z", true)
  | 49 => ("DustMintModel", "lostNow", "[I", true)
  | 50 => ("DustMintModel", "moves", "[I", true)
  | 51 => ("DustMintModel", "lost", "I", false)
  | 52 => ("DustMintModel", "sideDust", "[I", true)
  | 53 => ("DustMintModel", "sideWind", "[I", true)
  | 54 => ("DustMintModel", "sideCarpet", "[Z", true)
  | 55 => ("DustMintModel", "sideLicence", "[I", true)
  | 56 => ("DustMintModel", "sideSkill", "[I", true)
  | 57 => ("DustMintModel", "sidePurse", "[I", true)
  | 58 => ("DustMintModel", "sideTold", "[Z", true)
  | 59 => ("DustMintModel", "sideYard", "[I", true)
  | 60 => ("DustMintModel", "sideBowl", "[I", true)
  | 61 => ("DustMintModel", "sideLimp", "[I", true)
  | 62 => ("DustMintModel", "sideSneeze", "[I", true)
  | 63 => ("DustMintModel", "sideRain", "[I", true)
  | 64 => ("DustMintModel", "sideLed", "[I", true)
  | 65 => ("DustMintModel", "sideNumbers", "[I", true)
  | 66 => ("DustMintModel", "sieveBest", "I", false)
  | 67 => ("DustMintModel", "sieveSet", "I", false)
  | 68 => ("DustMintModel", "some", "[I", true)
  | 69 => ("DustMintModel", "row", "[I", true)
  | 70 => ("DustMintModel", "bestRow", "[I", true)
  | 71 => ("DustMintModel", "bowlWas", "[I", true)
  | 72 => ("DustMintModel", "dustThen", "[I", true)
  | _ => ("DustMintModel", "isKept", "Z", false)
def tyX8 : Nat → FieldType := fun k => match k with
  | 0 => .array .byte
  | 1 => .int
  | 2 => .int
  | 3 => .int
  | 4 => .int
  | 5 => .int
  | 6 => .int
  | 7 => .array .int
  | 8 => .array .int
  | 9 => .array .boolean
  | 10 => .array .int
  | 11 => .array .int
  | 12 => .array .int
  | 13 => .array .boolean
  | 14 => .array .int
  | 15 => .array .int
  | 16 => .array .int
  | 17 => .array .int
  | 18 => .array .int
  | 19 => .array .int
  | 20 => .int
  | 21 => .array .int
  | 22 => .array .int
  | 23 => .array .int
  | 24 => .array .int
  | 25 => .array .int
  | 26 => .array .int
  | 27 => .array .int
  | 28 => .array .int
  | 29 => .array .int
  | 30 => .array .int
  | 31 => .array .int
  | 32 => .array .int
  | 33 => .int
  | 34 => .int
  | 35 => .int
  | 36 => .int
  | 37 => .int
  | 38 => .int
  | 39 => .int
  | 40 => .boolean
  | 41 => .boolean
  | 42 => .array .int
  | 43 => .int
  | 44 => .int
  | 45 => .int
  | 46 => .int
  | 47 => .array .int
  | 48 => .array .boolean
  | 49 => .array .int
  | 50 => .array .int
  | 51 => .int
  | 52 => .array .int
  | 53 => .array .int
  | 54 => .array .boolean
  | 55 => .array .int
  | 56 => .array .int
  | 57 => .array .int
  | 58 => .array .boolean
  | 59 => .array .int
  | 60 => .array .int
  | 61 => .array .int
  | 62 => .array .int
  | 63 => .array .int
  | 64 => .array .int
  | 65 => .array .int
  | 66 => .int
  | 67 => .int
  | 68 => .array .int
  | 69 => .array .int
  | 70 => .array .int
  | 71 => .array .int
  | 72 => .array .int
  | _ => .boolean
theorem nmX8 : ∀ a, a < 74 → ∀ b, b < 74 → a ≠ b → (TX8 a).2.1 ≠ (TX8 b).2.1 := by decide +kernel
theorem tyX8_ok : ∀ k, k < 74 → parseFieldDescriptor (TX8 k).2.2.1 = some (tyX8 k) := by decide +kernel
theorem inX8 : ∀ w ∈ u_ws RX8 TX8 74, w ∈ fm_Ts := fm_ins [1044, 1046, 1048, 1050, 1052, 1054, 1056, 1058, 1060, 1062, 1064, 1066, 1068, 1070, 1072, 1074, 1076, 1078, 1080, 1082, 1084, 1086, 1088, 1090, 1092, 1094, 1096, 1098, 1100, 1102, 1104, 1106, 1108, 1110, 1112, 1114, 1116, 1118, 1120, 1122, 1124, 1126, 1128, 1130, 1132, 1134, 1136, 1138, 1140, 1142, 1144, 1146, 1148, 1150, 1152, 1154, 1156, 1158, 1160, 1162, 1164, 1166, 1168, 1170, 1172, 1174, 1176, 1178, 1180, 1182, 1184, 1186, 1188, 1190] (by decide +kernel) (by decide +kernel)
abbrev fm_cl : List vw_C := [(RX0, TX0, 18), (RX1, TX1, 11), (RX2, TX2, 5), (RX3, TX3, 5), (RX4, TX4, 12), (RX5, TX5, 4), (RX6, TX6, 2), (RX7, TX7, 12), (RX8, TX8, 74)]
theorem clX0 : fm_Cl fm_cl 0 := ⟨RX0, TX0, 18, tyX0, rfl, tyX0_ok, nmX0⟩
theorem clX1 : fm_Cl fm_cl 1 := ⟨RX1, TX1, 11, tyX1, rfl, tyX1_ok, nmX1⟩
theorem clX2 : fm_Cl fm_cl 2 := ⟨RX2, TX2, 5, tyX2, rfl, tyX2_ok, nmX2⟩
theorem clX3 : fm_Cl fm_cl 3 := ⟨RX3, TX3, 5, tyX3, rfl, tyX3_ok, nmX3⟩
theorem clX4 : fm_Cl fm_cl 4 := ⟨RX4, TX4, 12, tyX4, rfl, tyX4_ok, nmX4⟩
theorem clX5 : fm_Cl fm_cl 5 := ⟨RX5, TX5, 4, tyX5, rfl, tyX5_ok, nmX5⟩
theorem clX6 : fm_Cl fm_cl 6 := ⟨RX6, TX6, 2, tyX6, rfl, tyX6_ok, nmX6⟩
theorem clX7 : fm_Cl fm_cl 7 := ⟨RX7, TX7, 12, tyX7, rfl, tyX7_ok, nmX7⟩
theorem clX8 : fm_Cl fm_cl 8 := ⟨RX8, TX8, 74, tyX8, rfl, tyX8_ok, nmX8⟩
def yX0_init : MethodName := ⟨RX0, "<init>", "()V"⟩
def yX0_takeAll : MethodName := ⟨RX0, "takeAll", "(LDustMint$Hill;)V"⟩
def yX0_takeMoving : MethodName := ⟨RX0, "takeMoving", "(LDustMint$Hill;)V"⟩
def yX0_sumDust : MethodName := ⟨RX0, "sumDust", "()I"⟩
def yX0_sumLed : MethodName := ⟨RX0, "sumLed", "(II)I"⟩
def yX0_passDrawn : MethodName := ⟨RX0, "passDrawn", "(LDustMint$Law;I)I"⟩
def yX0_passUnder : MethodName := ⟨RX0, "passUnder", "(LDustMint$Law;II)I"⟩
def yX0_nextDraw : MethodName := ⟨RX0, "nextDraw", "()I"⟩
def yX0_pass : MethodName := ⟨RX0, "pass", "(LDustMint$Law;I)I"⟩
def yX0_spill : MethodName := ⟨RX0, "spill", "(LDustMint$Law;I)I"⟩
def yX0_loss : MethodName := ⟨RX0, "loss", "(LDustMint$Law;II)I"⟩
def yX0_show : MethodName := ⟨RX0, "show", "(LDustMint$Law;I)V"⟩
def yX0_heap : MethodName := ⟨RX0, "heap", "(II)V"⟩
def yX0_climb : MethodName := ⟨RX0, "climb", "()V"⟩
def yX0_blow : MethodName := ⟨RX0, "blow", "(LDustMint$Law;)V"⟩
def yX0_wash : MethodName := ⟨RX0, "wash", "(LDustMint$Law;)V"⟩
def yX0_sieve : MethodName := ⟨RX0, "sieve", "(LDustMint$Law;)V"⟩
def yX0_taken : MethodName := ⟨RX0, "taken", "(LDustMint$Law;II)I"⟩
def yX1_init : MethodName := ⟨RX1, "<init>", "()V"⟩
def yX1_take : MethodName := ⟨RX1, "take", "(LDustMint$Law;)V"⟩
def yX1_clear : MethodName := ⟨RX1, "clear", "()V"⟩
def yX1_putStep : MethodName := ⟨RX1, "putStep", "(II)I"⟩
def yX1_leadToEnd : MethodName := ⟨RX1, "leadToEnd", "(I)V"⟩
def yX1_forgetWho : MethodName := ⟨RX1, "forgetWho", "()V"⟩
def yX1_has : MethodName := ⟨RX1, "has", "(I)Z"⟩
def yX1_amount : MethodName := ⟨RX1, "amount", "(I)I"⟩
def yX1_reckon : MethodName := ⟨RX1, "reckon", "(II)I"⟩
def yX2_init : MethodName := ⟨RX2, "<init>", "()V"⟩
def yX2_takeAll : MethodName := ⟨RX2, "takeAll", "(LDustMint$Porters;)V"⟩
def yX2_takeMoving : MethodName := ⟨RX2, "takeMoving", "(LDustMint$Porters;)V"⟩
def yX2_isTold : MethodName := ⟨RX2, "isTold", "(I)Z"⟩
def yX2_climbs : MethodName := ⟨RX2, "climbs", "(I)Z"⟩
def yX2_allClimb : MethodName := ⟨RX2, "allClimb", "(I)Z"⟩
def yX2_countAt : MethodName := ⟨RX2, "countAt", "(I)I"⟩
def yX3_init : MethodName := ⟨RX3, "<init>", "(LDustMint$Tape;)V"⟩
def yX3_readText : MethodName := ⟨RX3, "readText", "(I)I"⟩
def yX3_next : MethodName := ⟨RX3, "next", "()I"⟩
def yX3_fail : MethodName := ⟨RX3, "fail", "(I)Z"⟩
def yX3_close : MethodName := ⟨RX3, "close", "(I)Z"⟩
def yX3_open : MethodName := ⟨RX3, "open", "(II)Z"⟩
def yX3_readClause : MethodName := ⟨RX3, "readClause", "()Z"⟩
def yX3_seesDust : MethodName := ⟨RX3, "seesDust", "(I)Z"⟩
def yX3_readParts : MethodName := ⟨RX3, "readParts", "(I)Z"⟩
def yX3_readPieces : MethodName := ⟨RX3, "readPieces", "(I)Z"⟩
def yX3_readPiece : MethodName := ⟨RX3, "readPiece", "(I)Z"⟩
def yX3_readSum : MethodName := ⟨RX3, "readSum", "(I)Z"⟩
def yX3_readTerm : MethodName := ⟨RX3, "readTerm", "(I)Z"⟩
def yX3_readFactor : MethodName := ⟨RX3, "readFactor", "(I)Z"⟩
def yX3_readNumber : MethodName := ⟨RX3, "readNumber", "()Z"⟩
def yX3_isDigit : MethodName := ⟨RX3, "isDigit", "(I)Z"⟩
def yX4_init : MethodName := ⟨RX4, "<init>", "(LDustMint$Hill;LDustMint$Hill;LDustMint$Law;)V"⟩
def yX4_begin : MethodName := ⟨RX4, "begin", "(III)V"⟩
def yX4_bestAt : MethodName := ⟨RX4, "bestAt", "(I)I"⟩
def yX4_weighOnes : MethodName := ⟨RX4, "weighOnes", "()V"⟩
def yX4_weighPairs : MethodName := ⟨RX4, "weighPairs", "()V"⟩
def yX4_weighTriples : MethodName := ⟨RX4, "weighTriples", "()V"⟩
def yX4_hasBit : MethodName := ⟨RX4, "hasBit", "(II)Z"⟩
def yX4_weigh : MethodName := ⟨RX4, "weigh", "(I)I"⟩
def yX4_grant : MethodName := ⟨RX4, "grant", "(II)V"⟩
def yX5_init : MethodName := ⟨RX5, "<init>", "()V"⟩
def yX5_begin : MethodName := ⟨RX5, "begin", "(I)V"⟩
def yX5_goOn : MethodName := ⟨RX5, "goOn", "()Z"⟩
def yX5_exchange : MethodName := ⟨RX5, "exchange", "(II)V"⟩
def yX5_holdBest : MethodName := ⟨RX5, "holdBest", "()V"⟩
def yX5_whoseFor : MethodName := ⟨RX5, "whoseFor", "(I)I"⟩
def yX5_handOut : MethodName := ⟨RX5, "handOut", "(LDustMint$Porters;LDustMint$Porters;)V"⟩
def yX5_handOutBest : MethodName := ⟨RX5, "handOutBest", "(LDustMint$Porters;LDustMint$Porters;)V"⟩
def yX5_handOutBy : MethodName := ⟨RX5, "handOutBy", "([ILDustMint$Porters;LDustMint$Porters;)V"⟩
def yX6_init : MethodName := ⟨RX6, "<init>", "()V"⟩
def yX6_hasRoom : MethodName := ⟨RX6, "hasRoom", "(I)Z"⟩
def yX6_putNumber : MethodName := ⟨RX6, "putNumber", "(I)V"⟩
def yX6_byteAt : MethodName := ⟨RX6, "byteAt", "(I)I"⟩
def yX6_numberAt : MethodName := ⟨RX6, "numberAt", "(I)I"⟩
def yX6_take : MethodName := ⟨RX6, "take", "(LDustMint$Tape;)V"⟩
def yX7_init : MethodName := ⟨RX7, "<init>", "()V"⟩
def yX7_yard : MethodName := ⟨RX7, "yard", "(IIIZ)Z"⟩
def yX7_rain : MethodName := ⟨RX7, "rain", "(II)Z"⟩
def yX7_porter : MethodName := ⟨RX7, "porter", "(IIIII)Z"⟩
def yX7_licence : MethodName := ⟨RX7, "licence", "(II)Z"⟩
def yX7_skill : MethodName := ⟨RX7, "skill", "(II)Z"⟩
def yX7_feed : MethodName := ⟨RX7, "feed", "(IIIII)I"⟩
def yX7_law : MethodName := ⟨RX7, "law", "(I)I"⟩
def yX7_hours : MethodName := ⟨RX7, "hours", "(I)I"⟩
def yX7_hour : MethodName := ⟨RX7, "hour", "(I)I"⟩
def yX7_yardIs : MethodName := ⟨RX7, "yardIs", "(II)I"⟩
def yX7_porterIs : MethodName := ⟨RX7, "porterIs", "(II)I"⟩
def yX7_tried : MethodName := ⟨RX7, "tried", "(II)I"⟩
def yX7_isTriable : MethodName := ⟨RX7, "isTriable", "(I)Z"⟩
def yX7_sieved : MethodName := ⟨RX7, "sieved", "(IIIII)I"⟩
def yX7_bowls : MethodName := ⟨RX7, "bowls", "(III)I"⟩
def yX7_searchSwap : MethodName := ⟨RX7, "searchSwap", "(II)I"⟩
def yX7_carpet : MethodName := ⟨RX7, "carpet", "(II)I"⟩
def yX7_gust : MethodName := ⟨RX7, "gust", "(IIII)I"⟩
def yX7_worth : MethodName := ⟨RX7, "worth", "(III)I"⟩
def yX7_sold : MethodName := ⟨RX7, "sold", "(III)I"⟩
def yX7_tryUnlicensed : MethodName := ⟨RX7, "tryUnlicensed", "(II)V"⟩
def yX7_worthTo : MethodName := ⟨RX7, "worthTo", "(III)I"⟩
def yX7_shook : MethodName := ⟨RX7, "shook", "(III)I"⟩
def yX7_wouldShake : MethodName := ⟨RX7, "wouldShake", "(IIII)Z"⟩
def yX7_led : MethodName := ⟨RX7, "led", "(II)I"⟩
def yX7_share : MethodName := ⟨RX7, "share", "(III)I"⟩
def yX7_odds : MethodName := ⟨RX7, "odds", "(III)I"⟩
def yX7_seed : MethodName := ⟨RX7, "seed", "(I)Z"⟩
def yX7_keep : MethodName := ⟨RX7, "keep", "()I"⟩
def yX7_undo : MethodName := ⟨RX7, "undo", "()Z"⟩
def yX7_check : MethodName := ⟨RX7, "check", "(I)I"⟩
def yX7_count : MethodName := ⟨RX7, "count", "(I)I"⟩
def yX7_isWithin : MethodName := ⟨RX7, "isWithin", "(III)Z"⟩
def yX7_isYard : MethodName := ⟨RX7, "isYard", "(I)Z"⟩
def yX7_isPorter : MethodName := ⟨RX7, "isPorter", "(I)Z"⟩
def yX7_isBeggar : MethodName := ⟨RX7, "isBeggar", "(I)Z"⟩
def yX7_reduced : MethodName := ⟨RX7, "reduced", "(III)I"⟩
def yX8_init : MethodName := ⟨RX8, "<init>", "()V"⟩
def yX8_lies : MethodName := ⟨RX8, "lies", "(JJJ)Z"⟩
def yX8_has : MethodName := ⟨RX8, "has", "(II)Z"⟩
def yX8_sizeOf : MethodName := ⟨RX8, "sizeOf", "(I)I"⟩
def yX8_isYard : MethodName := ⟨RX8, "isYard", "(I)Z"⟩
def yX8_isBeggar : MethodName := ⟨RX8, "isBeggar", "(I)Z"⟩
def yX8_isPorter : MethodName := ⟨RX8, "isPorter", "(I)Z"⟩
def yX8_goesStill : MethodName := ⟨RX8, "goesStill", "(I)Z"⟩
def yX8_isDigit : MethodName := ⟨RX8, "isDigit", "(I)Z"⟩
def yX8_yard : MethodName := ⟨RX8, "yard", "(IIIZ)Z"⟩
def yX8_rain : MethodName := ⟨RX8, "rain", "(II)Z"⟩
def yX8_porter : MethodName := ⟨RX8, "porter", "(IIIII)Z"⟩
def yX8_licence : MethodName := ⟨RX8, "licence", "(II)Z"⟩
def yX8_skill : MethodName := ⟨RX8, "skill", "(II)Z"⟩
def yX8_push : MethodName := ⟨RX8, "push", "(I)V"⟩
def yX8_feed : MethodName := ⟨RX8, "feed", "(IIIII)I"⟩
def yX8_byteAt : MethodName := ⟨RX8, "byteAt", "(I)I"⟩
def yX8_here : MethodName := ⟨RX8, "here", "()I"⟩
def yX8_wrongs : MethodName := ⟨RX8, "wrongs", "(II)V"⟩
def yX8_isGood : MethodName := ⟨RX8, "isGood", "()Z"⟩
def yX8_emit : MethodName := ⟨RX8, "emit", "(II)V"⟩
def yX8_top : MethodName := ⟨RX8, "top", "()I"⟩
def yX8_puts : MethodName := ⟨RX8, "puts", "(I)V"⟩
def yX8_opens : MethodName := ⟨RX8, "opens", "()V"⟩
def yX8_seesDigit : MethodName := ⟨RX8, "seesDigit", "()Z"⟩
def yX8_reads : MethodName := ⟨RX8, "reads", "()I"⟩
def yX8_isTimes : MethodName := ⟨RX8, "isTimes", "(I)Z"⟩
def yX8_isPlus : MethodName := ⟨RX8, "isPlus", "(I)Z"⟩
def yX8_isSign : MethodName := ⟨RX8, "isSign", "(I)Z"⟩
def yX8_isOfYard : MethodName := ⟨RX8, "isOfYard", "(I)Z"⟩
def yX8_isValue : MethodName := ⟨RX8, "isValue", "(I)Z"⟩
def yX8_sums : MethodName := ⟨RX8, "sums", "(Z)V"⟩
def yX8_joins : MethodName := ⟨RX8, "joins", "(Z)V"⟩
def yX8_ends : MethodName := ⟨RX8, "ends", "()V"⟩
def yX8_factor : MethodName := ⟨RX8, "factor", "()V"⟩
def yX8_stays : MethodName := ⟨RX8, "stays", "()Z"⟩
def yX8_value : MethodName := ⟨RX8, "value", "()V"⟩
def yX8_pieceOfC : MethodName := ⟨RX8, "pieceOfC", "()V"⟩
def yX8_goesBehind : MethodName := ⟨RX8, "goesBehind", "()Z"⟩
def yX8_condition : MethodName := ⟨RX8, "condition", "()V"⟩
def yX8_clause : MethodName := ⟨RX8, "clause", "()V"⟩
def yX8_law : MethodName := ⟨RX8, "law", "(I)I"⟩
def yX8_rainNow : MethodName := ⟨RX8, "rainNow", "()I"⟩
def yX8_portersAt : MethodName := ⟨RX8, "portersAt", "(I)I"⟩
def yX8_ofYard : MethodName := ⟨RX8, "ofYard", "(I)I"⟩
def yX8_ofPorter : MethodName := ⟨RX8, "ofPorter", "(I)I"⟩
def yX8_valueOf : MethodName := ⟨RX8, "valueOf", "(I)I"⟩
def yX8_worked : MethodName := ⟨RX8, "worked", "(III)I"⟩
def yX8_does : MethodName := ⟨RX8, "does", "(II)V"⟩
def yX8_works : MethodName := ⟨RX8, "works", "(II)V"⟩
def yX8_tells : MethodName := ⟨RX8, "tells", "(IIII)I"⟩
def yX8_less : MethodName := ⟨RX8, "less", "(II)I"⟩
def yX8_wouldLose : MethodName := ⟨RX8, "wouldLose", "(I)I"⟩
def yX8_comes : MethodName := ⟨RX8, "comes", "(II)V"⟩
def yX8_loses : MethodName := ⟨RX8, "loses", "()V"⟩
def yX8_climbs : MethodName := ⟨RX8, "climbs", "()V"⟩
def yX8_blows : MethodName := ⟨RX8, "blows", "()V"⟩
def yX8_washes : MethodName := ⟨RX8, "washes", "()V"⟩
def yX8_sieves : MethodName := ⟨RX8, "sieves", "()V"⟩
def yX8_passes : MethodName := ⟨RX8, "passes", "(I)V"⟩
def yX8_goesOn : MethodName := ⟨RX8, "goesOn", "(I)V"⟩
def yX8_areHours : MethodName := ⟨RX8, "areHours", "(I)Z"⟩
def yX8_areFew : MethodName := ⟨RX8, "areFew", "(I)Z"⟩
def yX8_hours : MethodName := ⟨RX8, "hours", "(I)I"⟩
def yX8_hour : MethodName := ⟨RX8, "hour", "(I)I"⟩
def yX8_yardIs : MethodName := ⟨RX8, "yardIs", "(II)I"⟩
def yX8_losesNow : MethodName := ⟨RX8, "losesNow", "(I)I"⟩
def yX8_porterIs : MethodName := ⟨RX8, "porterIs", "(II)I"⟩
def yX8_setsAside : MethodName := ⟨RX8, "setsAside", "(I)V"⟩
def yX8_putsBack : MethodName := ⟨RX8, "putsBack", "(I)V"⟩
def yX8_triedNow : MethodName := ⟨RX8, "triedNow", "(I)I"⟩
def yX8_isTried : MethodName := ⟨RX8, "isTried", "(I)Z"⟩
def yX8_tried : MethodName := ⟨RX8, "tried", "(II)I"⟩
def yX8_sievesBy : MethodName := ⟨RX8, "sievesBy", "(IIII)V"⟩
def yX8_isAhead : MethodName := ⟨RX8, "isAhead", "(II)Z"⟩
def yX8_sieved : MethodName := ⟨RX8, "sieved", "(IIIII)I"⟩
def yX8_goesToNext : MethodName := ⟨RX8, "goesToNext", "(I)Z"⟩
def yX8_bowls : MethodName := ⟨RX8, "bowls", "(III)I"⟩
def yX8_carpet : MethodName := ⟨RX8, "carpet", "(II)I"⟩
def yX8_gust : MethodName := ⟨RX8, "gust", "(IIII)I"⟩
def yX8_purseBy : MethodName := ⟨RX8, "purseBy", "(IIII)I"⟩
def yX8_worthOf : MethodName := ⟨RX8, "worthOf", "(III)I"⟩
def yX8_worth : MethodName := ⟨RX8, "worth", "(III)I"⟩
def yX8_sold : MethodName := ⟨RX8, "sold", "(III)I"⟩
def yX8_isShaken : MethodName := ⟨RX8, "isShaken", "(II)Z"⟩
def yX8_shook : MethodName := ⟨RX8, "shook", "(III)I"⟩
def yX8_ledOf : MethodName := ⟨RX8, "ledOf", "(II)I"⟩
def yX8_led : MethodName := ⟨RX8, "led", "(II)I"⟩
def yX8_divisor : MethodName := ⟨RX8, "divisor", "(II)I"⟩
def yX8_share : MethodName := ⟨RX8, "share", "(III)I"⟩
def yX8_odds : MethodName := ⟨RX8, "odds", "(III)I"⟩
def yX8_seed : MethodName := ⟨RX8, "seed", "(I)Z"⟩
def yX8_keep : MethodName := ⟨RX8, "keep", "()I"⟩
def yX8_undo : MethodName := ⟨RX8, "undo", "()Z"⟩
def yX8_numberAt : MethodName := ⟨RX8, "numberAt", "(I)I"⟩
def yX8_check : MethodName := ⟨RX8, "check", "(I)I"⟩
def yX8_allDust : MethodName := ⟨RX8, "allDust", "()I"⟩
def yX8_portersTold : MethodName := ⟨RX8, "portersTold", "()I"⟩
def yX8_count : MethodName := ⟨RX8, "count", "(I)I"⟩
def yJ6_bitCount_0f7a4 : MethodName := ⟨"java/lang/Integer", "bitCount", "(I)I"⟩
def yJ9_abs_0f7a4 : MethodName := ⟨"java/lang/Math", "abs", "(I)I"⟩
def yJ9_max_7cf53 : MethodName := ⟨"java/lang/Math", "max", "(II)I"⟩
def yJ9_min_7cf53 : MethodName := ⟨"java/lang/Math", "min", "(II)I"⟩
def flX6 : List (Nat × Nat × Nat) := [(9, 6, 0), (15, 6, 1)]
theorem fwX6 : ∀ w ∈ [Jvm.Cond.fieldLink RX6 9 RX6 "bytes" "[I", Jvm.Cond.fieldLink RX6 15 RX6 "size" "I"], w ∈ fm_Ts := fm_ins [118, 120] (by decide +kernel) (by decide +kernel)
theorem lkX6_9 : fm_Lk fm_cl fm_Ts RX6 9 6 0 := ⟨RX6, TX6, 2, rfl, inX6, by decide, fwX6 _ (List.mem_of_getElem? (i := 0) rfl), rfl⟩
theorem lkX6_15 : fm_Lk fm_cl fm_Ts RX6 15 6 1 := ⟨RX6, TX6, 2, rfl, inX6, by decide, fwX6 _ (List.mem_of_getElem? (i := 1) rfl), rfl⟩
theorem flX6_ok : ∀ q ∈ flX6, fm_Lk fm_cl fm_Ts RX6 q.1 q.2.1 q.2.2 := List.forall_mem_cons.mpr ⟨lkX6_9, List.forall_mem_cons.mpr ⟨lkX6_15, fun _ h => absurd h List.not_mem_nil⟩⟩
def flX3 : List (Nat × Nat × Nat) := [(12, 3, 0), (18, 3, 2), (22, 3, 3), (25, 3, 4), (28, 3, 1), (47, 1, 7), (50, 6, 0), (64, 1, 3), (67, 1, 4), (70, 1, 2), (76, 1, 5), (89, 1, 6), (92, 1, 8), (99, 1, 0), (102, 1, 1)]
theorem fwX3 : ∀ w ∈ [Jvm.Cond.fieldLink RX3 12 RX3 "found" "LDustMint$Law;", Jvm.Cond.fieldLink RX3 18 RX3 "size" "I", Jvm.Cond.fieldLink RX3 22 RX3 "at" "I", Jvm.Cond.fieldLink RX3 25 RX3 "fault" "I", Jvm.Cond.fieldLink RX3 28 RX3 "tape" "LDustMint$Tape;", Jvm.Cond.fieldLink RX3 47 RX1 "clauses" "I", Jvm.Cond.fieldLink RX3 50 RX6 "bytes" "[I", Jvm.Cond.fieldLink RX3 64 RX1 "letters" "[I", Jvm.Cond.fieldLink RX3 67 RX1 "starts" "[I", Jvm.Cond.fieldLink RX3 70 RX1 "steps" "I", Jvm.Cond.fieldLink RX3 76 RX1 "middles" "[I", Jvm.Cond.fieldLink RX3 89 RX1 "ends" "[I", Jvm.Cond.fieldLink RX3 92 RX1 "lossSeesDust" "Z", Jvm.Cond.fieldLink RX3 99 RX1 "kinds" "[I", Jvm.Cond.fieldLink RX3 102 RX1 "operands" "[I"], w ∈ fm_Ts := fm_ins [188, 191, 192, 193, 190, 149, 119, 141, 143, 139, 145, 147, 152, 135, 137] (by decide +kernel) (by decide +kernel)
theorem lkX3_12 : fm_Lk fm_cl fm_Ts RX3 12 3 0 := ⟨RX3, TX3, 5, rfl, inX3, by decide, fwX3 _ (List.mem_of_getElem? (i := 0) rfl), rfl⟩
theorem lkX3_18 : fm_Lk fm_cl fm_Ts RX3 18 3 2 := ⟨RX3, TX3, 5, rfl, inX3, by decide, fwX3 _ (List.mem_of_getElem? (i := 1) rfl), rfl⟩
theorem lkX3_22 : fm_Lk fm_cl fm_Ts RX3 22 3 3 := ⟨RX3, TX3, 5, rfl, inX3, by decide, fwX3 _ (List.mem_of_getElem? (i := 2) rfl), rfl⟩
theorem lkX3_25 : fm_Lk fm_cl fm_Ts RX3 25 3 4 := ⟨RX3, TX3, 5, rfl, inX3, by decide, fwX3 _ (List.mem_of_getElem? (i := 3) rfl), rfl⟩
theorem lkX3_28 : fm_Lk fm_cl fm_Ts RX3 28 3 1 := ⟨RX3, TX3, 5, rfl, inX3, by decide, fwX3 _ (List.mem_of_getElem? (i := 4) rfl), rfl⟩
theorem lkX3_47 : fm_Lk fm_cl fm_Ts RX3 47 1 7 := ⟨RX1, TX1, 11, rfl, inX1, by decide, fwX3 _ (List.mem_of_getElem? (i := 5) rfl), rfl⟩
theorem lkX3_50 : fm_Lk fm_cl fm_Ts RX3 50 6 0 := ⟨RX6, TX6, 2, rfl, inX6, by decide, fwX3 _ (List.mem_of_getElem? (i := 6) rfl), rfl⟩
theorem lkX3_64 : fm_Lk fm_cl fm_Ts RX3 64 1 3 := ⟨RX1, TX1, 11, rfl, inX1, by decide, fwX3 _ (List.mem_of_getElem? (i := 7) rfl), rfl⟩
theorem lkX3_67 : fm_Lk fm_cl fm_Ts RX3 67 1 4 := ⟨RX1, TX1, 11, rfl, inX1, by decide, fwX3 _ (List.mem_of_getElem? (i := 8) rfl), rfl⟩
theorem lkX3_70 : fm_Lk fm_cl fm_Ts RX3 70 1 2 := ⟨RX1, TX1, 11, rfl, inX1, by decide, fwX3 _ (List.mem_of_getElem? (i := 9) rfl), rfl⟩
theorem lkX3_76 : fm_Lk fm_cl fm_Ts RX3 76 1 5 := ⟨RX1, TX1, 11, rfl, inX1, by decide, fwX3 _ (List.mem_of_getElem? (i := 10) rfl), rfl⟩
theorem lkX3_89 : fm_Lk fm_cl fm_Ts RX3 89 1 6 := ⟨RX1, TX1, 11, rfl, inX1, by decide, fwX3 _ (List.mem_of_getElem? (i := 11) rfl), rfl⟩
theorem lkX3_92 : fm_Lk fm_cl fm_Ts RX3 92 1 8 := ⟨RX1, TX1, 11, rfl, inX1, by decide, fwX3 _ (List.mem_of_getElem? (i := 12) rfl), rfl⟩
theorem lkX3_99 : fm_Lk fm_cl fm_Ts RX3 99 1 0 := ⟨RX1, TX1, 11, rfl, inX1, by decide, fwX3 _ (List.mem_of_getElem? (i := 13) rfl), rfl⟩
theorem lkX3_102 : fm_Lk fm_cl fm_Ts RX3 102 1 1 := ⟨RX1, TX1, 11, rfl, inX1, by decide, fwX3 _ (List.mem_of_getElem? (i := 14) rfl), rfl⟩
theorem flX3_ok : ∀ q ∈ flX3, fm_Lk fm_cl fm_Ts RX3 q.1 q.2.1 q.2.2 := List.forall_mem_cons.mpr ⟨lkX3_12, List.forall_mem_cons.mpr ⟨lkX3_18, List.forall_mem_cons.mpr ⟨lkX3_22, List.forall_mem_cons.mpr ⟨lkX3_25, List.forall_mem_cons.mpr ⟨lkX3_28, List.forall_mem_cons.mpr ⟨lkX3_47, List.forall_mem_cons.mpr ⟨lkX3_50, List.forall_mem_cons.mpr ⟨lkX3_64, List.forall_mem_cons.mpr ⟨lkX3_67, List.forall_mem_cons.mpr ⟨lkX3_70, List.forall_mem_cons.mpr ⟨lkX3_76, List.forall_mem_cons.mpr ⟨lkX3_89, List.forall_mem_cons.mpr ⟨lkX3_92, List.forall_mem_cons.mpr ⟨lkX3_99, List.forall_mem_cons.mpr ⟨lkX3_102, fun _ h => absurd h List.not_mem_nil⟩⟩⟩⟩⟩⟩⟩⟩⟩⟩⟩⟩⟩⟩⟩
def flX7 : List (Nat × Nat × Nat) := [(12, 7, 0), (16, 7, 1), (22, 7, 2), (31, 7, 3), (38, 7, 4), (42, 7, 5), (45, 7, 6), (53, 7, 7), (60, 7, 8), (64, 7, 9), (68, 7, 10), (71, 7, 11), (84, 0, 0), (87, 0, 1), (90, 0, 2), (93, 0, 7), (99, 0, 6), (103, 2, 0), (109, 2, 1), (112, 2, 2), (115, 2, 3), (118, 2, 4), (121, 0, 3), (127, 0, 4), (137, 6, 1), (144, 3, 0), (172, 0, 5), (175, 0, 11), (178, 0, 12), (181, 0, 13), (197, 4, 1), (200, 4, 0), (231, 1, 8), (234, 0, 14), (290, 0, 10), (295, 0, 9), (301, 1, 7)]
theorem fwX7 : ∀ w ∈ [Jvm.Cond.fieldLink RX7 12 RX7 "tape" "LDustMint$Tape;", Jvm.Cond.fieldLink RX7 16 RX7 "keptTape" "LDustMint$Tape;", Jvm.Cond.fieldLink RX7 22 RX7 "text" "LDustMint$Law;", Jvm.Cond.fieldLink RX7 31 RX7 "reader" "LDustMint$Reader;", Jvm.Cond.fieldLink RX7 38 RX7 "hill" "LDustMint$Hill;", Jvm.Cond.fieldLink RX7 42 RX7 "keptHill" "LDustMint$Hill;", Jvm.Cond.fieldLink RX7 45 RX7 "trial" "LDustMint$Hill;", Jvm.Cond.fieldLink RX7 53 RX7 "sieving" "LDustMint$Sieving;", Jvm.Cond.fieldLink RX7 60 RX7 "swap" "LDustMint$Swap;", Jvm.Cond.fieldLink RX7 64 RX7 "without" "[I", Jvm.Cond.fieldLink RX7 68 RX7 "worths" "[I", Jvm.Cond.fieldLink RX7 71 RX7 "isKept" "Z", Jvm.Cond.fieldLink RX7 84 RX0 "dust" "[I", Jvm.Cond.fieldLink RX7 87 RX0 "wind" "[I", Jvm.Cond.fieldLink RX7 90 RX0 "carpets" "[I", Jvm.Cond.fieldLink RX7 93 RX0 "rains" "[I", Jvm.Cond.fieldLink RX7 99 RX0 "porters" "LDustMint$Porters;", Jvm.Cond.fieldLink RX7 103 RX2 "told" "I", Jvm.Cond.fieldLink RX7 109 RX2 "places" "[I", Jvm.Cond.fieldLink RX7 112 RX2 "bowl" "[I", Jvm.Cond.fieldLink RX7 115 RX2 "limps" "[I", Jvm.Cond.fieldLink RX7 118 RX2 "sneezes" "[I", Jvm.Cond.fieldLink RX7 121 RX0 "licences" "[I", Jvm.Cond.fieldLink RX7 127 RX0 "skills" "[I", Jvm.Cond.fieldLink RX7 137 RX6 "size" "I", Jvm.Cond.fieldLink RX7 144 RX3 "found" "LDustMint$Law;", Jvm.Cond.fieldLink RX7 172 RX0 "purses" "[I", Jvm.Cond.fieldLink RX7 175 RX0 "gold" "I", Jvm.Cond.fieldLink RX7 178 RX0 "river" "I", Jvm.Cond.fieldLink RX7 181 RX0 "gone" "I", Jvm.Cond.fieldLink RX7 197 RX4 "bestGain" "I", Jvm.Cond.fieldLink RX7 200 RX4 "bestSize" "I", Jvm.Cond.fieldLink RX7 231 RX1 "lossSeesDust" "Z", Jvm.Cond.fieldLink RX7 234 RX0 "needsDust" "Z", Jvm.Cond.fieldLink RX7 290 RX0 "x" "I", Jvm.Cond.fieldLink RX7 295 RX0 "clock" "I", Jvm.Cond.fieldLink RX7 301 RX1 "clauses" "I"], w ∈ fm_Ts := fm_ins [383, 384, 385, 386, 387, 388, 389, 390, 391, 392, 393, 394, 247, 249, 251, 263, 261, 218, 220, 223, 227, 230, 253, 256, 121, 189, 259, 270, 272, 274, 328, 326, 153, 276, 268, 266, 150] (by decide +kernel) (by decide +kernel)
theorem lkX7_12 : fm_Lk fm_cl fm_Ts RX7 12 7 0 := ⟨RX7, TX7, 12, rfl, inX7, by decide, fwX7 _ (List.mem_of_getElem? (i := 0) rfl), rfl⟩
theorem lkX7_16 : fm_Lk fm_cl fm_Ts RX7 16 7 1 := ⟨RX7, TX7, 12, rfl, inX7, by decide, fwX7 _ (List.mem_of_getElem? (i := 1) rfl), rfl⟩
theorem lkX7_22 : fm_Lk fm_cl fm_Ts RX7 22 7 2 := ⟨RX7, TX7, 12, rfl, inX7, by decide, fwX7 _ (List.mem_of_getElem? (i := 2) rfl), rfl⟩
theorem lkX7_31 : fm_Lk fm_cl fm_Ts RX7 31 7 3 := ⟨RX7, TX7, 12, rfl, inX7, by decide, fwX7 _ (List.mem_of_getElem? (i := 3) rfl), rfl⟩
theorem lkX7_38 : fm_Lk fm_cl fm_Ts RX7 38 7 4 := ⟨RX7, TX7, 12, rfl, inX7, by decide, fwX7 _ (List.mem_of_getElem? (i := 4) rfl), rfl⟩
theorem lkX7_42 : fm_Lk fm_cl fm_Ts RX7 42 7 5 := ⟨RX7, TX7, 12, rfl, inX7, by decide, fwX7 _ (List.mem_of_getElem? (i := 5) rfl), rfl⟩
theorem lkX7_45 : fm_Lk fm_cl fm_Ts RX7 45 7 6 := ⟨RX7, TX7, 12, rfl, inX7, by decide, fwX7 _ (List.mem_of_getElem? (i := 6) rfl), rfl⟩
theorem lkX7_53 : fm_Lk fm_cl fm_Ts RX7 53 7 7 := ⟨RX7, TX7, 12, rfl, inX7, by decide, fwX7 _ (List.mem_of_getElem? (i := 7) rfl), rfl⟩
theorem lkX7_60 : fm_Lk fm_cl fm_Ts RX7 60 7 8 := ⟨RX7, TX7, 12, rfl, inX7, by decide, fwX7 _ (List.mem_of_getElem? (i := 8) rfl), rfl⟩
theorem lkX7_64 : fm_Lk fm_cl fm_Ts RX7 64 7 9 := ⟨RX7, TX7, 12, rfl, inX7, by decide, fwX7 _ (List.mem_of_getElem? (i := 9) rfl), rfl⟩
theorem lkX7_68 : fm_Lk fm_cl fm_Ts RX7 68 7 10 := ⟨RX7, TX7, 12, rfl, inX7, by decide, fwX7 _ (List.mem_of_getElem? (i := 10) rfl), rfl⟩
theorem lkX7_71 : fm_Lk fm_cl fm_Ts RX7 71 7 11 := ⟨RX7, TX7, 12, rfl, inX7, by decide, fwX7 _ (List.mem_of_getElem? (i := 11) rfl), rfl⟩
theorem lkX7_84 : fm_Lk fm_cl fm_Ts RX7 84 0 0 := ⟨RX0, TX0, 18, rfl, inX0, by decide, fwX7 _ (List.mem_of_getElem? (i := 12) rfl), rfl⟩
theorem lkX7_87 : fm_Lk fm_cl fm_Ts RX7 87 0 1 := ⟨RX0, TX0, 18, rfl, inX0, by decide, fwX7 _ (List.mem_of_getElem? (i := 13) rfl), rfl⟩
theorem lkX7_90 : fm_Lk fm_cl fm_Ts RX7 90 0 2 := ⟨RX0, TX0, 18, rfl, inX0, by decide, fwX7 _ (List.mem_of_getElem? (i := 14) rfl), rfl⟩
theorem lkX7_93 : fm_Lk fm_cl fm_Ts RX7 93 0 7 := ⟨RX0, TX0, 18, rfl, inX0, by decide, fwX7 _ (List.mem_of_getElem? (i := 15) rfl), rfl⟩
theorem lkX7_99 : fm_Lk fm_cl fm_Ts RX7 99 0 6 := ⟨RX0, TX0, 18, rfl, inX0, by decide, fwX7 _ (List.mem_of_getElem? (i := 16) rfl), rfl⟩
theorem lkX7_103 : fm_Lk fm_cl fm_Ts RX7 103 2 0 := ⟨RX2, TX2, 5, rfl, inX2, by decide, fwX7 _ (List.mem_of_getElem? (i := 17) rfl), rfl⟩
theorem lkX7_109 : fm_Lk fm_cl fm_Ts RX7 109 2 1 := ⟨RX2, TX2, 5, rfl, inX2, by decide, fwX7 _ (List.mem_of_getElem? (i := 18) rfl), rfl⟩
theorem lkX7_112 : fm_Lk fm_cl fm_Ts RX7 112 2 2 := ⟨RX2, TX2, 5, rfl, inX2, by decide, fwX7 _ (List.mem_of_getElem? (i := 19) rfl), rfl⟩
theorem lkX7_115 : fm_Lk fm_cl fm_Ts RX7 115 2 3 := ⟨RX2, TX2, 5, rfl, inX2, by decide, fwX7 _ (List.mem_of_getElem? (i := 20) rfl), rfl⟩
theorem lkX7_118 : fm_Lk fm_cl fm_Ts RX7 118 2 4 := ⟨RX2, TX2, 5, rfl, inX2, by decide, fwX7 _ (List.mem_of_getElem? (i := 21) rfl), rfl⟩
theorem lkX7_121 : fm_Lk fm_cl fm_Ts RX7 121 0 3 := ⟨RX0, TX0, 18, rfl, inX0, by decide, fwX7 _ (List.mem_of_getElem? (i := 22) rfl), rfl⟩
theorem lkX7_127 : fm_Lk fm_cl fm_Ts RX7 127 0 4 := ⟨RX0, TX0, 18, rfl, inX0, by decide, fwX7 _ (List.mem_of_getElem? (i := 23) rfl), rfl⟩
theorem lkX7_137 : fm_Lk fm_cl fm_Ts RX7 137 6 1 := ⟨RX6, TX6, 2, rfl, inX6, by decide, fwX7 _ (List.mem_of_getElem? (i := 24) rfl), rfl⟩
theorem lkX7_144 : fm_Lk fm_cl fm_Ts RX7 144 3 0 := ⟨RX3, TX3, 5, rfl, inX3, by decide, fwX7 _ (List.mem_of_getElem? (i := 25) rfl), rfl⟩
theorem lkX7_172 : fm_Lk fm_cl fm_Ts RX7 172 0 5 := ⟨RX0, TX0, 18, rfl, inX0, by decide, fwX7 _ (List.mem_of_getElem? (i := 26) rfl), rfl⟩
theorem lkX7_175 : fm_Lk fm_cl fm_Ts RX7 175 0 11 := ⟨RX0, TX0, 18, rfl, inX0, by decide, fwX7 _ (List.mem_of_getElem? (i := 27) rfl), rfl⟩
theorem lkX7_178 : fm_Lk fm_cl fm_Ts RX7 178 0 12 := ⟨RX0, TX0, 18, rfl, inX0, by decide, fwX7 _ (List.mem_of_getElem? (i := 28) rfl), rfl⟩
theorem lkX7_181 : fm_Lk fm_cl fm_Ts RX7 181 0 13 := ⟨RX0, TX0, 18, rfl, inX0, by decide, fwX7 _ (List.mem_of_getElem? (i := 29) rfl), rfl⟩
theorem lkX7_197 : fm_Lk fm_cl fm_Ts RX7 197 4 1 := ⟨RX4, TX4, 12, rfl, inX4, by decide, fwX7 _ (List.mem_of_getElem? (i := 30) rfl), rfl⟩
theorem lkX7_200 : fm_Lk fm_cl fm_Ts RX7 200 4 0 := ⟨RX4, TX4, 12, rfl, inX4, by decide, fwX7 _ (List.mem_of_getElem? (i := 31) rfl), rfl⟩
theorem lkX7_231 : fm_Lk fm_cl fm_Ts RX7 231 1 8 := ⟨RX1, TX1, 11, rfl, inX1, by decide, fwX7 _ (List.mem_of_getElem? (i := 32) rfl), rfl⟩
theorem lkX7_234 : fm_Lk fm_cl fm_Ts RX7 234 0 14 := ⟨RX0, TX0, 18, rfl, inX0, by decide, fwX7 _ (List.mem_of_getElem? (i := 33) rfl), rfl⟩
theorem lkX7_290 : fm_Lk fm_cl fm_Ts RX7 290 0 10 := ⟨RX0, TX0, 18, rfl, inX0, by decide, fwX7 _ (List.mem_of_getElem? (i := 34) rfl), rfl⟩
theorem lkX7_295 : fm_Lk fm_cl fm_Ts RX7 295 0 9 := ⟨RX0, TX0, 18, rfl, inX0, by decide, fwX7 _ (List.mem_of_getElem? (i := 35) rfl), rfl⟩
theorem lkX7_301 : fm_Lk fm_cl fm_Ts RX7 301 1 7 := ⟨RX1, TX1, 11, rfl, inX1, by decide, fwX7 _ (List.mem_of_getElem? (i := 36) rfl), rfl⟩
theorem flX7_ok : ∀ q ∈ flX7, fm_Lk fm_cl fm_Ts RX7 q.1 q.2.1 q.2.2 := List.forall_mem_cons.mpr ⟨lkX7_12, List.forall_mem_cons.mpr ⟨lkX7_16, List.forall_mem_cons.mpr ⟨lkX7_22, List.forall_mem_cons.mpr ⟨lkX7_31, List.forall_mem_cons.mpr ⟨lkX7_38, List.forall_mem_cons.mpr ⟨lkX7_42, List.forall_mem_cons.mpr ⟨lkX7_45, List.forall_mem_cons.mpr ⟨lkX7_53, List.forall_mem_cons.mpr ⟨lkX7_60, List.forall_mem_cons.mpr ⟨lkX7_64, List.forall_mem_cons.mpr ⟨lkX7_68, List.forall_mem_cons.mpr ⟨lkX7_71, List.forall_mem_cons.mpr ⟨lkX7_84, List.forall_mem_cons.mpr ⟨lkX7_87, List.forall_mem_cons.mpr ⟨lkX7_90, List.forall_mem_cons.mpr ⟨lkX7_93, List.forall_mem_cons.mpr ⟨lkX7_99, List.forall_mem_cons.mpr ⟨lkX7_103, List.forall_mem_cons.mpr ⟨lkX7_109, List.forall_mem_cons.mpr ⟨lkX7_112, List.forall_mem_cons.mpr ⟨lkX7_115, List.forall_mem_cons.mpr ⟨lkX7_118, List.forall_mem_cons.mpr ⟨lkX7_121, List.forall_mem_cons.mpr ⟨lkX7_127, List.forall_mem_cons.mpr ⟨lkX7_137, List.forall_mem_cons.mpr ⟨lkX7_144, List.forall_mem_cons.mpr ⟨lkX7_172, List.forall_mem_cons.mpr ⟨lkX7_175, List.forall_mem_cons.mpr ⟨lkX7_178, List.forall_mem_cons.mpr ⟨lkX7_181, List.forall_mem_cons.mpr ⟨lkX7_197, List.forall_mem_cons.mpr ⟨lkX7_200, List.forall_mem_cons.mpr ⟨lkX7_231, List.forall_mem_cons.mpr ⟨lkX7_234, List.forall_mem_cons.mpr ⟨lkX7_290, List.forall_mem_cons.mpr ⟨lkX7_295, List.forall_mem_cons.mpr ⟨lkX7_301, fun _ h => absurd h List.not_mem_nil⟩⟩⟩⟩⟩⟩⟩⟩⟩⟩⟩⟩⟩⟩⟩⟩⟩⟩⟩⟩⟩⟩⟩⟩⟩⟩⟩⟩⟩⟩⟩⟩⟩⟩⟩⟩⟩
def flX1 : List (Nat × Nat × Nat) := [(9, 1, 0), (15, 1, 1), (18, 1, 2), (22, 1, 3), (25, 1, 4), (28, 1, 5), (31, 1, 6), (34, 1, 7), (37, 1, 8), (41, 1, 9), (44, 1, 10)]
theorem fwX1 : ∀ w ∈ [Jvm.Cond.fieldLink RX1 9 RX1 "kinds" "[I", Jvm.Cond.fieldLink RX1 15 RX1 "operands" "[I", Jvm.Cond.fieldLink RX1 18 RX1 "steps" "I", Jvm.Cond.fieldLink RX1 22 RX1 "letters" "[I", Jvm.Cond.fieldLink RX1 25 RX1 "starts" "[I", Jvm.Cond.fieldLink RX1 28 RX1 "middles" "[I", Jvm.Cond.fieldLink RX1 31 RX1 "ends" "[I", Jvm.Cond.fieldLink RX1 34 RX1 "clauses" "I", Jvm.Cond.fieldLink RX1 37 RX1 "lossSeesDust" "Z", Jvm.Cond.fieldLink RX1 41 RX1 "sees" "[I", Jvm.Cond.fieldLink RX1 44 RX1 "stack" "[I"], w ∈ fm_Ts := fm_ins [134, 136, 138, 140, 142, 144, 146, 148, 151, 154, 156] (by decide +kernel) (by decide +kernel)
theorem lkX1_9 : fm_Lk fm_cl fm_Ts RX1 9 1 0 := ⟨RX1, TX1, 11, rfl, inX1, by decide, fwX1 _ (List.mem_of_getElem? (i := 0) rfl), rfl⟩
theorem lkX1_15 : fm_Lk fm_cl fm_Ts RX1 15 1 1 := ⟨RX1, TX1, 11, rfl, inX1, by decide, fwX1 _ (List.mem_of_getElem? (i := 1) rfl), rfl⟩
theorem lkX1_18 : fm_Lk fm_cl fm_Ts RX1 18 1 2 := ⟨RX1, TX1, 11, rfl, inX1, by decide, fwX1 _ (List.mem_of_getElem? (i := 2) rfl), rfl⟩
theorem lkX1_22 : fm_Lk fm_cl fm_Ts RX1 22 1 3 := ⟨RX1, TX1, 11, rfl, inX1, by decide, fwX1 _ (List.mem_of_getElem? (i := 3) rfl), rfl⟩
theorem lkX1_25 : fm_Lk fm_cl fm_Ts RX1 25 1 4 := ⟨RX1, TX1, 11, rfl, inX1, by decide, fwX1 _ (List.mem_of_getElem? (i := 4) rfl), rfl⟩
theorem lkX1_28 : fm_Lk fm_cl fm_Ts RX1 28 1 5 := ⟨RX1, TX1, 11, rfl, inX1, by decide, fwX1 _ (List.mem_of_getElem? (i := 5) rfl), rfl⟩
theorem lkX1_31 : fm_Lk fm_cl fm_Ts RX1 31 1 6 := ⟨RX1, TX1, 11, rfl, inX1, by decide, fwX1 _ (List.mem_of_getElem? (i := 6) rfl), rfl⟩
theorem lkX1_34 : fm_Lk fm_cl fm_Ts RX1 34 1 7 := ⟨RX1, TX1, 11, rfl, inX1, by decide, fwX1 _ (List.mem_of_getElem? (i := 7) rfl), rfl⟩
theorem lkX1_37 : fm_Lk fm_cl fm_Ts RX1 37 1 8 := ⟨RX1, TX1, 11, rfl, inX1, by decide, fwX1 _ (List.mem_of_getElem? (i := 8) rfl), rfl⟩
theorem lkX1_41 : fm_Lk fm_cl fm_Ts RX1 41 1 9 := ⟨RX1, TX1, 11, rfl, inX1, by decide, fwX1 _ (List.mem_of_getElem? (i := 9) rfl), rfl⟩
theorem lkX1_44 : fm_Lk fm_cl fm_Ts RX1 44 1 10 := ⟨RX1, TX1, 11, rfl, inX1, by decide, fwX1 _ (List.mem_of_getElem? (i := 10) rfl), rfl⟩
theorem flX1_ok : ∀ q ∈ flX1, fm_Lk fm_cl fm_Ts RX1 q.1 q.2.1 q.2.2 := List.forall_mem_cons.mpr ⟨lkX1_9, List.forall_mem_cons.mpr ⟨lkX1_15, List.forall_mem_cons.mpr ⟨lkX1_18, List.forall_mem_cons.mpr ⟨lkX1_22, List.forall_mem_cons.mpr ⟨lkX1_25, List.forall_mem_cons.mpr ⟨lkX1_28, List.forall_mem_cons.mpr ⟨lkX1_31, List.forall_mem_cons.mpr ⟨lkX1_34, List.forall_mem_cons.mpr ⟨lkX1_37, List.forall_mem_cons.mpr ⟨lkX1_41, List.forall_mem_cons.mpr ⟨lkX1_44, fun _ h => absurd h List.not_mem_nil⟩⟩⟩⟩⟩⟩⟩⟩⟩⟩⟩
def flX0 : List (Nat × Nat × Nat) := [(9, 0, 0), (15, 0, 1), (18, 0, 2), (21, 0, 3), (24, 0, 4), (27, 0, 5), (33, 0, 6), (37, 0, 7), (40, 0, 8), (43, 0, 9), (47, 0, 10), (50, 0, 11), (53, 0, 12), (56, 0, 13), (59, 0, 14), (63, 0, 15), (66, 0, 16), (69, 0, 17), (128, 2, 1), (135, 2, 2), (152, 1, 9), (155, 2, 3), (158, 2, 4)]
theorem fwX0 : ∀ w ∈ [Jvm.Cond.fieldLink RX0 9 RX0 "dust" "[I", Jvm.Cond.fieldLink RX0 15 RX0 "wind" "[I", Jvm.Cond.fieldLink RX0 18 RX0 "carpets" "[I", Jvm.Cond.fieldLink RX0 21 RX0 "licences" "[I", Jvm.Cond.fieldLink RX0 24 RX0 "skills" "[I", Jvm.Cond.fieldLink RX0 27 RX0 "purses" "[I", Jvm.Cond.fieldLink RX0 33 RX0 "porters" "LDustMint$Porters;", Jvm.Cond.fieldLink RX0 37 RX0 "rains" "[I", Jvm.Cond.fieldLink RX0 40 RX0 "leds" "[I", Jvm.Cond.fieldLink RX0 43 RX0 "clock" "I", Jvm.Cond.fieldLink RX0 47 RX0 "x" "I", Jvm.Cond.fieldLink RX0 50 RX0 "gold" "I", Jvm.Cond.fieldLink RX0 53 RX0 "river" "I", Jvm.Cond.fieldLink RX0 56 RX0 "gone" "I", Jvm.Cond.fieldLink RX0 59 RX0 "needsDust" "Z", Jvm.Cond.fieldLink RX0 63 RX0 "prober" "I", Jvm.Cond.fieldLink RX0 66 RX0 "probed" "I", Jvm.Cond.fieldLink RX0 69 RX0 "moved" "[I", Jvm.Cond.fieldLink RX0 128 RX2 "places" "[I", Jvm.Cond.fieldLink RX0 135 RX2 "bowl" "[I", Jvm.Cond.fieldLink RX0 152 RX1 "sees" "[I", Jvm.Cond.fieldLink RX0 155 RX2 "limps" "[I", Jvm.Cond.fieldLink RX0 158 RX2 "sneezes" "[I"], w ∈ fm_Ts := fm_ins [246, 248, 250, 252, 255, 257, 260, 262, 264, 265, 267, 269, 271, 273, 275, 277, 279, 281, 221, 225, 155, 228, 231] (by decide +kernel) (by decide +kernel)
theorem lkX0_9 : fm_Lk fm_cl fm_Ts RX0 9 0 0 := ⟨RX0, TX0, 18, rfl, inX0, by decide, fwX0 _ (List.mem_of_getElem? (i := 0) rfl), rfl⟩
theorem lkX0_15 : fm_Lk fm_cl fm_Ts RX0 15 0 1 := ⟨RX0, TX0, 18, rfl, inX0, by decide, fwX0 _ (List.mem_of_getElem? (i := 1) rfl), rfl⟩
theorem lkX0_18 : fm_Lk fm_cl fm_Ts RX0 18 0 2 := ⟨RX0, TX0, 18, rfl, inX0, by decide, fwX0 _ (List.mem_of_getElem? (i := 2) rfl), rfl⟩
theorem lkX0_21 : fm_Lk fm_cl fm_Ts RX0 21 0 3 := ⟨RX0, TX0, 18, rfl, inX0, by decide, fwX0 _ (List.mem_of_getElem? (i := 3) rfl), rfl⟩
theorem lkX0_24 : fm_Lk fm_cl fm_Ts RX0 24 0 4 := ⟨RX0, TX0, 18, rfl, inX0, by decide, fwX0 _ (List.mem_of_getElem? (i := 4) rfl), rfl⟩
theorem lkX0_27 : fm_Lk fm_cl fm_Ts RX0 27 0 5 := ⟨RX0, TX0, 18, rfl, inX0, by decide, fwX0 _ (List.mem_of_getElem? (i := 5) rfl), rfl⟩
theorem lkX0_33 : fm_Lk fm_cl fm_Ts RX0 33 0 6 := ⟨RX0, TX0, 18, rfl, inX0, by decide, fwX0 _ (List.mem_of_getElem? (i := 6) rfl), rfl⟩
theorem lkX0_37 : fm_Lk fm_cl fm_Ts RX0 37 0 7 := ⟨RX0, TX0, 18, rfl, inX0, by decide, fwX0 _ (List.mem_of_getElem? (i := 7) rfl), rfl⟩
theorem lkX0_40 : fm_Lk fm_cl fm_Ts RX0 40 0 8 := ⟨RX0, TX0, 18, rfl, inX0, by decide, fwX0 _ (List.mem_of_getElem? (i := 8) rfl), rfl⟩
theorem lkX0_43 : fm_Lk fm_cl fm_Ts RX0 43 0 9 := ⟨RX0, TX0, 18, rfl, inX0, by decide, fwX0 _ (List.mem_of_getElem? (i := 9) rfl), rfl⟩
theorem lkX0_47 : fm_Lk fm_cl fm_Ts RX0 47 0 10 := ⟨RX0, TX0, 18, rfl, inX0, by decide, fwX0 _ (List.mem_of_getElem? (i := 10) rfl), rfl⟩
theorem lkX0_50 : fm_Lk fm_cl fm_Ts RX0 50 0 11 := ⟨RX0, TX0, 18, rfl, inX0, by decide, fwX0 _ (List.mem_of_getElem? (i := 11) rfl), rfl⟩
theorem lkX0_53 : fm_Lk fm_cl fm_Ts RX0 53 0 12 := ⟨RX0, TX0, 18, rfl, inX0, by decide, fwX0 _ (List.mem_of_getElem? (i := 12) rfl), rfl⟩
theorem lkX0_56 : fm_Lk fm_cl fm_Ts RX0 56 0 13 := ⟨RX0, TX0, 18, rfl, inX0, by decide, fwX0 _ (List.mem_of_getElem? (i := 13) rfl), rfl⟩
theorem lkX0_59 : fm_Lk fm_cl fm_Ts RX0 59 0 14 := ⟨RX0, TX0, 18, rfl, inX0, by decide, fwX0 _ (List.mem_of_getElem? (i := 14) rfl), rfl⟩
theorem lkX0_63 : fm_Lk fm_cl fm_Ts RX0 63 0 15 := ⟨RX0, TX0, 18, rfl, inX0, by decide, fwX0 _ (List.mem_of_getElem? (i := 15) rfl), rfl⟩
theorem lkX0_66 : fm_Lk fm_cl fm_Ts RX0 66 0 16 := ⟨RX0, TX0, 18, rfl, inX0, by decide, fwX0 _ (List.mem_of_getElem? (i := 16) rfl), rfl⟩
theorem lkX0_69 : fm_Lk fm_cl fm_Ts RX0 69 0 17 := ⟨RX0, TX0, 18, rfl, inX0, by decide, fwX0 _ (List.mem_of_getElem? (i := 17) rfl), rfl⟩
theorem lkX0_128 : fm_Lk fm_cl fm_Ts RX0 128 2 1 := ⟨RX2, TX2, 5, rfl, inX2, by decide, fwX0 _ (List.mem_of_getElem? (i := 18) rfl), rfl⟩
theorem lkX0_135 : fm_Lk fm_cl fm_Ts RX0 135 2 2 := ⟨RX2, TX2, 5, rfl, inX2, by decide, fwX0 _ (List.mem_of_getElem? (i := 19) rfl), rfl⟩
theorem lkX0_152 : fm_Lk fm_cl fm_Ts RX0 152 1 9 := ⟨RX1, TX1, 11, rfl, inX1, by decide, fwX0 _ (List.mem_of_getElem? (i := 20) rfl), rfl⟩
theorem lkX0_155 : fm_Lk fm_cl fm_Ts RX0 155 2 3 := ⟨RX2, TX2, 5, rfl, inX2, by decide, fwX0 _ (List.mem_of_getElem? (i := 21) rfl), rfl⟩
theorem lkX0_158 : fm_Lk fm_cl fm_Ts RX0 158 2 4 := ⟨RX2, TX2, 5, rfl, inX2, by decide, fwX0 _ (List.mem_of_getElem? (i := 22) rfl), rfl⟩
theorem flX0_ok : ∀ q ∈ flX0, fm_Lk fm_cl fm_Ts RX0 q.1 q.2.1 q.2.2 := List.forall_mem_cons.mpr ⟨lkX0_9, List.forall_mem_cons.mpr ⟨lkX0_15, List.forall_mem_cons.mpr ⟨lkX0_18, List.forall_mem_cons.mpr ⟨lkX0_21, List.forall_mem_cons.mpr ⟨lkX0_24, List.forall_mem_cons.mpr ⟨lkX0_27, List.forall_mem_cons.mpr ⟨lkX0_33, List.forall_mem_cons.mpr ⟨lkX0_37, List.forall_mem_cons.mpr ⟨lkX0_40, List.forall_mem_cons.mpr ⟨lkX0_43, List.forall_mem_cons.mpr ⟨lkX0_47, List.forall_mem_cons.mpr ⟨lkX0_50, List.forall_mem_cons.mpr ⟨lkX0_53, List.forall_mem_cons.mpr ⟨lkX0_56, List.forall_mem_cons.mpr ⟨lkX0_59, List.forall_mem_cons.mpr ⟨lkX0_63, List.forall_mem_cons.mpr ⟨lkX0_66, List.forall_mem_cons.mpr ⟨lkX0_69, List.forall_mem_cons.mpr ⟨lkX0_128, List.forall_mem_cons.mpr ⟨lkX0_135, List.forall_mem_cons.mpr ⟨lkX0_152, List.forall_mem_cons.mpr ⟨lkX0_155, List.forall_mem_cons.mpr ⟨lkX0_158, fun _ h => absurd h List.not_mem_nil⟩⟩⟩⟩⟩⟩⟩⟩⟩⟩⟩⟩⟩⟩⟩⟩⟩⟩⟩⟩⟩⟩⟩
def flX2 : List (Nat × Nat × Nat) := [(9, 2, 0), (15, 2, 1), (19, 2, 2), (22, 2, 3), (25, 2, 4)]
theorem fwX2 : ∀ w ∈ [Jvm.Cond.fieldLink RX2 9 RX2 "told" "I", Jvm.Cond.fieldLink RX2 15 RX2 "places" "[I", Jvm.Cond.fieldLink RX2 19 RX2 "bowl" "[I", Jvm.Cond.fieldLink RX2 22 RX2 "limps" "[I", Jvm.Cond.fieldLink RX2 25 RX2 "sneezes" "[I"], w ∈ fm_Ts := fm_ins [217, 219, 222, 226, 229] (by decide +kernel) (by decide +kernel)
theorem lkX2_9 : fm_Lk fm_cl fm_Ts RX2 9 2 0 := ⟨RX2, TX2, 5, rfl, inX2, by decide, fwX2 _ (List.mem_of_getElem? (i := 0) rfl), rfl⟩
theorem lkX2_15 : fm_Lk fm_cl fm_Ts RX2 15 2 1 := ⟨RX2, TX2, 5, rfl, inX2, by decide, fwX2 _ (List.mem_of_getElem? (i := 1) rfl), rfl⟩
theorem lkX2_19 : fm_Lk fm_cl fm_Ts RX2 19 2 2 := ⟨RX2, TX2, 5, rfl, inX2, by decide, fwX2 _ (List.mem_of_getElem? (i := 2) rfl), rfl⟩
theorem lkX2_22 : fm_Lk fm_cl fm_Ts RX2 22 2 3 := ⟨RX2, TX2, 5, rfl, inX2, by decide, fwX2 _ (List.mem_of_getElem? (i := 3) rfl), rfl⟩
theorem lkX2_25 : fm_Lk fm_cl fm_Ts RX2 25 2 4 := ⟨RX2, TX2, 5, rfl, inX2, by decide, fwX2 _ (List.mem_of_getElem? (i := 4) rfl), rfl⟩
theorem flX2_ok : ∀ q ∈ flX2, fm_Lk fm_cl fm_Ts RX2 q.1 q.2.1 q.2.2 := List.forall_mem_cons.mpr ⟨lkX2_9, List.forall_mem_cons.mpr ⟨lkX2_15, List.forall_mem_cons.mpr ⟨lkX2_19, List.forall_mem_cons.mpr ⟨lkX2_22, List.forall_mem_cons.mpr ⟨lkX2_25, fun _ h => absurd h List.not_mem_nil⟩⟩⟩⟩⟩
def flX5 : List (Nat × Nat × Nat) := [(9, 5, 0), (15, 5, 1), (18, 5, 2), (21, 5, 3), (43, 2, 2)]
theorem fwX5 : ∀ w ∈ [Jvm.Cond.fieldLink RX5 9 RX5 "who" "[I", Jvm.Cond.fieldLink RX5 15 RX5 "row" "[I", Jvm.Cond.fieldLink RX5 18 RX5 "best" "[I", Jvm.Cond.fieldLink RX5 21 RX5 "size" "I", Jvm.Cond.fieldLink RX5 43 RX2 "bowl" "[I"], w ∈ fm_Ts := fm_ins [370, 371, 372, 373, 224] (by decide +kernel) (by decide +kernel)
theorem lkX5_9 : fm_Lk fm_cl fm_Ts RX5 9 5 0 := ⟨RX5, TX5, 4, rfl, inX5, by decide, fwX5 _ (List.mem_of_getElem? (i := 0) rfl), rfl⟩
theorem lkX5_15 : fm_Lk fm_cl fm_Ts RX5 15 5 1 := ⟨RX5, TX5, 4, rfl, inX5, by decide, fwX5 _ (List.mem_of_getElem? (i := 1) rfl), rfl⟩
theorem lkX5_18 : fm_Lk fm_cl fm_Ts RX5 18 5 2 := ⟨RX5, TX5, 4, rfl, inX5, by decide, fwX5 _ (List.mem_of_getElem? (i := 2) rfl), rfl⟩
theorem lkX5_21 : fm_Lk fm_cl fm_Ts RX5 21 5 3 := ⟨RX5, TX5, 4, rfl, inX5, by decide, fwX5 _ (List.mem_of_getElem? (i := 3) rfl), rfl⟩
theorem lkX5_43 : fm_Lk fm_cl fm_Ts RX5 43 2 2 := ⟨RX2, TX2, 5, rfl, inX2, by decide, fwX5 _ (List.mem_of_getElem? (i := 4) rfl), rfl⟩
theorem flX5_ok : ∀ q ∈ flX5, fm_Lk fm_cl fm_Ts RX5 q.1 q.2.1 q.2.2 := List.forall_mem_cons.mpr ⟨lkX5_9, List.forall_mem_cons.mpr ⟨lkX5_15, List.forall_mem_cons.mpr ⟨lkX5_18, List.forall_mem_cons.mpr ⟨lkX5_21, List.forall_mem_cons.mpr ⟨lkX5_43, fun _ h => absurd h List.not_mem_nil⟩⟩⟩⟩⟩
def flX4 : List (Nat × Nat × Nat) := [(9, 4, 0), (15, 4, 1), (18, 4, 2), (22, 4, 3), (25, 4, 4), (28, 4, 5), (31, 4, 9), (34, 4, 10), (37, 4, 11), (40, 4, 6), (44, 4, 7), (47, 4, 8), (57, 0, 15), (72, 0, 16), (91, 0, 5), (103, 0, 3)]
theorem fwX4 : ∀ w ∈ [Jvm.Cond.fieldLink RX4 9 RX4 "bestSize" "I", Jvm.Cond.fieldLink RX4 15 RX4 "bestGain" "I", Jvm.Cond.fieldLink RX4 18 RX4 "best" "[I", Jvm.Cond.fieldLink RX4 22 RX4 "row" "[I", Jvm.Cond.fieldLink RX4 25 RX4 "besideOne" "[I", Jvm.Cond.fieldLink RX4 28 RX4 "besideTwo" "[I", Jvm.Cond.fieldLink RX4 31 RX4 "beggar" "I", Jvm.Cond.fieldLink RX4 34 RX4 "hours" "I", Jvm.Cond.fieldLink RX4 37 RX4 "price" "I", Jvm.Cond.fieldLink RX4 40 RX4 "hill" "LDustMint$Hill;", Jvm.Cond.fieldLink RX4 44 RX4 "trial" "LDustMint$Hill;", Jvm.Cond.fieldLink RX4 47 RX4 "law" "LDustMint$Law;", Jvm.Cond.fieldLink RX4 57 RX0 "prober" "I", Jvm.Cond.fieldLink RX4 72 RX0 "probed" "I", Jvm.Cond.fieldLink RX4 91 RX0 "purses" "[I", Jvm.Cond.fieldLink RX4 103 RX0 "licences" "[I"], w ∈ fm_Ts := fm_ins [325, 327, 329, 330, 331, 332, 336, 337, 338, 333, 334, 335, 278, 280, 258, 254] (by decide +kernel) (by decide +kernel)
theorem lkX4_9 : fm_Lk fm_cl fm_Ts RX4 9 4 0 := ⟨RX4, TX4, 12, rfl, inX4, by decide, fwX4 _ (List.mem_of_getElem? (i := 0) rfl), rfl⟩
theorem lkX4_15 : fm_Lk fm_cl fm_Ts RX4 15 4 1 := ⟨RX4, TX4, 12, rfl, inX4, by decide, fwX4 _ (List.mem_of_getElem? (i := 1) rfl), rfl⟩
theorem lkX4_18 : fm_Lk fm_cl fm_Ts RX4 18 4 2 := ⟨RX4, TX4, 12, rfl, inX4, by decide, fwX4 _ (List.mem_of_getElem? (i := 2) rfl), rfl⟩
theorem lkX4_22 : fm_Lk fm_cl fm_Ts RX4 22 4 3 := ⟨RX4, TX4, 12, rfl, inX4, by decide, fwX4 _ (List.mem_of_getElem? (i := 3) rfl), rfl⟩
theorem lkX4_25 : fm_Lk fm_cl fm_Ts RX4 25 4 4 := ⟨RX4, TX4, 12, rfl, inX4, by decide, fwX4 _ (List.mem_of_getElem? (i := 4) rfl), rfl⟩
theorem lkX4_28 : fm_Lk fm_cl fm_Ts RX4 28 4 5 := ⟨RX4, TX4, 12, rfl, inX4, by decide, fwX4 _ (List.mem_of_getElem? (i := 5) rfl), rfl⟩
theorem lkX4_31 : fm_Lk fm_cl fm_Ts RX4 31 4 9 := ⟨RX4, TX4, 12, rfl, inX4, by decide, fwX4 _ (List.mem_of_getElem? (i := 6) rfl), rfl⟩
theorem lkX4_34 : fm_Lk fm_cl fm_Ts RX4 34 4 10 := ⟨RX4, TX4, 12, rfl, inX4, by decide, fwX4 _ (List.mem_of_getElem? (i := 7) rfl), rfl⟩
theorem lkX4_37 : fm_Lk fm_cl fm_Ts RX4 37 4 11 := ⟨RX4, TX4, 12, rfl, inX4, by decide, fwX4 _ (List.mem_of_getElem? (i := 8) rfl), rfl⟩
theorem lkX4_40 : fm_Lk fm_cl fm_Ts RX4 40 4 6 := ⟨RX4, TX4, 12, rfl, inX4, by decide, fwX4 _ (List.mem_of_getElem? (i := 9) rfl), rfl⟩
theorem lkX4_44 : fm_Lk fm_cl fm_Ts RX4 44 4 7 := ⟨RX4, TX4, 12, rfl, inX4, by decide, fwX4 _ (List.mem_of_getElem? (i := 10) rfl), rfl⟩
theorem lkX4_47 : fm_Lk fm_cl fm_Ts RX4 47 4 8 := ⟨RX4, TX4, 12, rfl, inX4, by decide, fwX4 _ (List.mem_of_getElem? (i := 11) rfl), rfl⟩
theorem lkX4_57 : fm_Lk fm_cl fm_Ts RX4 57 0 15 := ⟨RX0, TX0, 18, rfl, inX0, by decide, fwX4 _ (List.mem_of_getElem? (i := 12) rfl), rfl⟩
theorem lkX4_72 : fm_Lk fm_cl fm_Ts RX4 72 0 16 := ⟨RX0, TX0, 18, rfl, inX0, by decide, fwX4 _ (List.mem_of_getElem? (i := 13) rfl), rfl⟩
theorem lkX4_91 : fm_Lk fm_cl fm_Ts RX4 91 0 5 := ⟨RX0, TX0, 18, rfl, inX0, by decide, fwX4 _ (List.mem_of_getElem? (i := 14) rfl), rfl⟩
theorem lkX4_103 : fm_Lk fm_cl fm_Ts RX4 103 0 3 := ⟨RX0, TX0, 18, rfl, inX0, by decide, fwX4 _ (List.mem_of_getElem? (i := 15) rfl), rfl⟩
theorem flX4_ok : ∀ q ∈ flX4, fm_Lk fm_cl fm_Ts RX4 q.1 q.2.1 q.2.2 := List.forall_mem_cons.mpr ⟨lkX4_9, List.forall_mem_cons.mpr ⟨lkX4_15, List.forall_mem_cons.mpr ⟨lkX4_18, List.forall_mem_cons.mpr ⟨lkX4_22, List.forall_mem_cons.mpr ⟨lkX4_25, List.forall_mem_cons.mpr ⟨lkX4_28, List.forall_mem_cons.mpr ⟨lkX4_31, List.forall_mem_cons.mpr ⟨lkX4_34, List.forall_mem_cons.mpr ⟨lkX4_37, List.forall_mem_cons.mpr ⟨lkX4_40, List.forall_mem_cons.mpr ⟨lkX4_44, List.forall_mem_cons.mpr ⟨lkX4_47, List.forall_mem_cons.mpr ⟨lkX4_57, List.forall_mem_cons.mpr ⟨lkX4_72, List.forall_mem_cons.mpr ⟨lkX4_91, List.forall_mem_cons.mpr ⟨lkX4_103, fun _ h => absurd h List.not_mem_nil⟩⟩⟩⟩⟩⟩⟩⟩⟩⟩⟩⟩⟩⟩⟩⟩
def flX8 : List (Nat × Nat × Nat) := [(7, 8, 0), (13, 8, 3), (17, 8, 7), (21, 8, 8), (24, 8, 9), (28, 8, 10), (31, 8, 11), (34, 8, 12), (37, 8, 13), (40, 8, 14), (43, 8, 15), (46, 8, 16), (49, 8, 17), (52, 8, 18), (55, 8, 19), (58, 8, 21), (61, 8, 22), (64, 8, 23), (67, 8, 24), (70, 8, 25), (73, 8, 26), (76, 8, 27), (79, 8, 28), (82, 8, 29), (85, 8, 30), (88, 8, 31), (91, 8, 32), (94, 8, 42), (97, 8, 47), (100, 8, 48), (103, 8, 49), (106, 8, 50), (109, 8, 52), (112, 8, 53), (115, 8, 54), (118, 8, 55), (121, 8, 56), (124, 8, 57), (127, 8, 58), (130, 8, 59), (133, 8, 60), (136, 8, 61), (139, 8, 62), (142, 8, 63), (145, 8, 64), (148, 8, 65), (151, 8, 68), (154, 8, 69), (157, 8, 70), (160, 8, 71), (163, 8, 72), (201, 8, 1), (208, 8, 33), (211, 8, 34), (214, 8, 35), (221, 8, 37), (224, 8, 39), (227, 8, 38), (276, 8, 41), (298, 8, 40), (307, 8, 36), (318, 8, 20), (321, 8, 2), (324, 8, 43), (330, 8, 44), (333, 8, 46), (343, 8, 45), (370, 8, 6), (380, 8, 51), (386, 8, 4), (389, 8, 5), (455, 8, 66), (458, 8, 67), (506, 8, 73)]
theorem fwX8 : ∀ w ∈ [Jvm.Cond.fieldLink RX8 7 RX8 "tape" "[B", Jvm.Cond.fieldLink RX8 13 RX8 "luck" "I", Jvm.Cond.fieldLink RX8 17 RX8 "dust" "[I", Jvm.Cond.fieldLink RX8 21 RX8 "windOf" "[I", Jvm.Cond.fieldLink RX8 24 RX8 "isCarpet" "[Z", Jvm.Cond.fieldLink RX8 28 RX8 "licenceOf" "[I", Jvm.Cond.fieldLink RX8 31 RX8 "skills" "[I", Jvm.Cond.fieldLink RX8 34 RX8 "purse" "[I", Jvm.Cond.fieldLink RX8 37 RX8 "isTold" "[Z", Jvm.Cond.fieldLink RX8 40 RX8 "porterYard" "[I", Jvm.Cond.fieldLink RX8 43 RX8 "bowl" "[I", Jvm.Cond.fieldLink RX8 46 RX8 "limp" "[I", Jvm.Cond.fieldLink RX8 49 RX8 "sneeze" "[I", Jvm.Cond.fieldLink RX8 52 RX8 "rains" "[I", Jvm.Cond.fieldLink RX8 55 RX8 "ledTo" "[I", Jvm.Cond.fieldLink RX8 58 RX8 "clauseLetter" "[I", Jvm.Cond.fieldLink RX8 61 RX8 "sumFrom" "[I", Jvm.Cond.fieldLink RX8 64 RX8 "codeFrom" "[I", Jvm.Cond.fieldLink RX8 67 RX8 "codeTo" "[I", Jvm.Cond.fieldLink RX8 70 RX8 "code" "[I", Jvm.Cond.fieldLink RX8 73 RX8 "codeArg" "[I", Jvm.Cond.fieldLink RX8 76 RX8 "newLetter" "[I", Jvm.Cond.fieldLink RX8 79 RX8 "newSum" "[I", Jvm.Cond.fieldLink RX8 82 RX8 "newFrom" "[I", Jvm.Cond.fieldLink RX8 85 RX8 "newTo" "[I", Jvm.Cond.fieldLink RX8 88 RX8 "newCode" "[I", Jvm.Cond.fieldLink RX8 91 RX8 "newArg" "[I", Jvm.Cond.fieldLink RX8 94 RX8 "stack" "[I", Jvm.Cond.fieldLink RX8 97 RX8 "worths" "[I", Jvm.Cond.fieldLink RX8 100 RX8 "isRefused" "[Z", Jvm.Cond.fieldLink RX8 103 RX8 "lostNow" "[I", Jvm.Cond.fieldLink RX8 106 RX8 "moves" "[I", Jvm.Cond.fieldLink RX8 109 RX8 "sideDust" "[I", Jvm.Cond.fieldLink RX8 112 RX8 "sideWind" "[I", Jvm.Cond.fieldLink RX8 115 RX8 "sideCarpet" "[Z", Jvm.Cond.fieldLink RX8 118 RX8 "sideLicence" "[I", Jvm.Cond.fieldLink RX8 121 RX8 "sideSkill" "[I", Jvm.Cond.fieldLink RX8 124 RX8 "sidePurse" "[I", Jvm.Cond.fieldLink RX8 127 RX8 "sideTold" "[Z", Jvm.Cond.fieldLink RX8 130 RX8 "sideYard" "[I", Jvm.Cond.fieldLink RX8 133 RX8 "sideBowl" "[I", Jvm.Cond.fieldLink RX8 136 RX8 "sideLimp" "[I", Jvm.Cond.fieldLink RX8 139 RX8 "sideSneeze" "[I", Jvm.Cond.fieldLink RX8 142 RX8 "sideRain" "[I", Jvm.Cond.fieldLink RX8 145 RX8 "sideLed" "[I", Jvm.Cond.fieldLink RX8 148 RX8 "sideNumbers" "[I", Jvm.Cond.fieldLink RX8 151 RX8 "some" "[I", Jvm.Cond.fieldLink RX8 154 RX8 "row" "[I", Jvm.Cond.fieldLink RX8 157 RX8 "bestRow" "[I", Jvm.Cond.fieldLink RX8 160 RX8 "bowlWas" "[I", Jvm.Cond.fieldLink RX8 163 RX8 "dustThen" "[I", Jvm.Cond.fieldLink RX8 201 RX8 "taped" "I", Jvm.Cond.fieldLink RX8 208 RX8 "place" "I", Jvm.Cond.fieldLink RX8 211 RX8 "end" "I", Jvm.Cond.fieldLink RX8 214 RX8 "bad" "I", Jvm.Cond.fieldLink RX8 221 RX8 "codes" "I", Jvm.Cond.fieldLink RX8 224 RX8 "stacked" "I", Jvm.Cond.fieldLink RX8 227 RX8 "open" "I", Jvm.Cond.fieldLink RX8 276 RX8 "isBehind" "Z", Jvm.Cond.fieldLink RX8 298 RX8 "isOver" "Z", Jvm.Cond.fieldLink RX8 307 RX8 "clauses" "I", Jvm.Cond.fieldLink RX8 318 RX8 "clauseMany" "I", Jvm.Cond.fieldLink RX8 321 RX8 "hour" "I", Jvm.Cond.fieldLink RX8 324 RX8 "atYard" "I", Jvm.Cond.fieldLink RX8 330 RX8 "atPorter" "I", Jvm.Cond.fieldLink RX8 333 RX8 "drawn" "I", Jvm.Cond.fieldLink RX8 343 RX8 "atBeggar" "I", Jvm.Cond.fieldLink RX8 370 RX8 "gone" "I", Jvm.Cond.fieldLink RX8 380 RX8 "lost" "I", Jvm.Cond.fieldLink RX8 386 RX8 "gold" "I", Jvm.Cond.fieldLink RX8 389 RX8 "river" "I", Jvm.Cond.fieldLink RX8 455 RX8 "sieveBest" "I", Jvm.Cond.fieldLink RX8 458 RX8 "sieveSet" "I", Jvm.Cond.fieldLink RX8 506 RX8 "isKept" "Z"], w ∈ fm_Ts := fm_ins [970, 973, 977, 978, 979, 980, 981, 982, 983, 984, 985, 986, 987, 988, 989, 991, 992, 993, 994, 995, 996, 997, 998, 999, 1000, 1001, 1002, 1012, 1017, 1018, 1019, 1020, 1022, 1023, 1024, 1025, 1026, 1027, 1028, 1029, 1030, 1031, 1032, 1033, 1034, 1035, 1038, 1039, 1040, 1041, 1042, 971, 1003, 1004, 1005, 1007, 1009, 1008, 1011, 1010, 1006, 990, 972, 1013, 1014, 1016, 1015, 976, 1021, 974, 975, 1036, 1037, 1043] (by decide +kernel) (by decide +kernel)
theorem lkX8_7 : fm_Lk fm_cl fm_Ts RX8 7 8 0 := ⟨RX8, TX8, 74, rfl, inX8, by decide, fwX8 _ (List.mem_of_getElem? (i := 0) rfl), rfl⟩
theorem lkX8_13 : fm_Lk fm_cl fm_Ts RX8 13 8 3 := ⟨RX8, TX8, 74, rfl, inX8, by decide, fwX8 _ (List.mem_of_getElem? (i := 1) rfl), rfl⟩
theorem lkX8_17 : fm_Lk fm_cl fm_Ts RX8 17 8 7 := ⟨RX8, TX8, 74, rfl, inX8, by decide, fwX8 _ (List.mem_of_getElem? (i := 2) rfl), rfl⟩
theorem lkX8_21 : fm_Lk fm_cl fm_Ts RX8 21 8 8 := ⟨RX8, TX8, 74, rfl, inX8, by decide, fwX8 _ (List.mem_of_getElem? (i := 3) rfl), rfl⟩
theorem lkX8_24 : fm_Lk fm_cl fm_Ts RX8 24 8 9 := ⟨RX8, TX8, 74, rfl, inX8, by decide, fwX8 _ (List.mem_of_getElem? (i := 4) rfl), rfl⟩
theorem lkX8_28 : fm_Lk fm_cl fm_Ts RX8 28 8 10 := ⟨RX8, TX8, 74, rfl, inX8, by decide, fwX8 _ (List.mem_of_getElem? (i := 5) rfl), rfl⟩
theorem lkX8_31 : fm_Lk fm_cl fm_Ts RX8 31 8 11 := ⟨RX8, TX8, 74, rfl, inX8, by decide, fwX8 _ (List.mem_of_getElem? (i := 6) rfl), rfl⟩
theorem lkX8_34 : fm_Lk fm_cl fm_Ts RX8 34 8 12 := ⟨RX8, TX8, 74, rfl, inX8, by decide, fwX8 _ (List.mem_of_getElem? (i := 7) rfl), rfl⟩
theorem lkX8_37 : fm_Lk fm_cl fm_Ts RX8 37 8 13 := ⟨RX8, TX8, 74, rfl, inX8, by decide, fwX8 _ (List.mem_of_getElem? (i := 8) rfl), rfl⟩
theorem lkX8_40 : fm_Lk fm_cl fm_Ts RX8 40 8 14 := ⟨RX8, TX8, 74, rfl, inX8, by decide, fwX8 _ (List.mem_of_getElem? (i := 9) rfl), rfl⟩
theorem lkX8_43 : fm_Lk fm_cl fm_Ts RX8 43 8 15 := ⟨RX8, TX8, 74, rfl, inX8, by decide, fwX8 _ (List.mem_of_getElem? (i := 10) rfl), rfl⟩
theorem lkX8_46 : fm_Lk fm_cl fm_Ts RX8 46 8 16 := ⟨RX8, TX8, 74, rfl, inX8, by decide, fwX8 _ (List.mem_of_getElem? (i := 11) rfl), rfl⟩
theorem lkX8_49 : fm_Lk fm_cl fm_Ts RX8 49 8 17 := ⟨RX8, TX8, 74, rfl, inX8, by decide, fwX8 _ (List.mem_of_getElem? (i := 12) rfl), rfl⟩
theorem lkX8_52 : fm_Lk fm_cl fm_Ts RX8 52 8 18 := ⟨RX8, TX8, 74, rfl, inX8, by decide, fwX8 _ (List.mem_of_getElem? (i := 13) rfl), rfl⟩
theorem lkX8_55 : fm_Lk fm_cl fm_Ts RX8 55 8 19 := ⟨RX8, TX8, 74, rfl, inX8, by decide, fwX8 _ (List.mem_of_getElem? (i := 14) rfl), rfl⟩
theorem lkX8_58 : fm_Lk fm_cl fm_Ts RX8 58 8 21 := ⟨RX8, TX8, 74, rfl, inX8, by decide, fwX8 _ (List.mem_of_getElem? (i := 15) rfl), rfl⟩
theorem lkX8_61 : fm_Lk fm_cl fm_Ts RX8 61 8 22 := ⟨RX8, TX8, 74, rfl, inX8, by decide, fwX8 _ (List.mem_of_getElem? (i := 16) rfl), rfl⟩
theorem lkX8_64 : fm_Lk fm_cl fm_Ts RX8 64 8 23 := ⟨RX8, TX8, 74, rfl, inX8, by decide, fwX8 _ (List.mem_of_getElem? (i := 17) rfl), rfl⟩
theorem lkX8_67 : fm_Lk fm_cl fm_Ts RX8 67 8 24 := ⟨RX8, TX8, 74, rfl, inX8, by decide, fwX8 _ (List.mem_of_getElem? (i := 18) rfl), rfl⟩
theorem lkX8_70 : fm_Lk fm_cl fm_Ts RX8 70 8 25 := ⟨RX8, TX8, 74, rfl, inX8, by decide, fwX8 _ (List.mem_of_getElem? (i := 19) rfl), rfl⟩
theorem lkX8_73 : fm_Lk fm_cl fm_Ts RX8 73 8 26 := ⟨RX8, TX8, 74, rfl, inX8, by decide, fwX8 _ (List.mem_of_getElem? (i := 20) rfl), rfl⟩
theorem lkX8_76 : fm_Lk fm_cl fm_Ts RX8 76 8 27 := ⟨RX8, TX8, 74, rfl, inX8, by decide, fwX8 _ (List.mem_of_getElem? (i := 21) rfl), rfl⟩
theorem lkX8_79 : fm_Lk fm_cl fm_Ts RX8 79 8 28 := ⟨RX8, TX8, 74, rfl, inX8, by decide, fwX8 _ (List.mem_of_getElem? (i := 22) rfl), rfl⟩
theorem lkX8_82 : fm_Lk fm_cl fm_Ts RX8 82 8 29 := ⟨RX8, TX8, 74, rfl, inX8, by decide, fwX8 _ (List.mem_of_getElem? (i := 23) rfl), rfl⟩
theorem lkX8_85 : fm_Lk fm_cl fm_Ts RX8 85 8 30 := ⟨RX8, TX8, 74, rfl, inX8, by decide, fwX8 _ (List.mem_of_getElem? (i := 24) rfl), rfl⟩
theorem lkX8_88 : fm_Lk fm_cl fm_Ts RX8 88 8 31 := ⟨RX8, TX8, 74, rfl, inX8, by decide, fwX8 _ (List.mem_of_getElem? (i := 25) rfl), rfl⟩
theorem lkX8_91 : fm_Lk fm_cl fm_Ts RX8 91 8 32 := ⟨RX8, TX8, 74, rfl, inX8, by decide, fwX8 _ (List.mem_of_getElem? (i := 26) rfl), rfl⟩
theorem lkX8_94 : fm_Lk fm_cl fm_Ts RX8 94 8 42 := ⟨RX8, TX8, 74, rfl, inX8, by decide, fwX8 _ (List.mem_of_getElem? (i := 27) rfl), rfl⟩
theorem lkX8_97 : fm_Lk fm_cl fm_Ts RX8 97 8 47 := ⟨RX8, TX8, 74, rfl, inX8, by decide, fwX8 _ (List.mem_of_getElem? (i := 28) rfl), rfl⟩
theorem lkX8_100 : fm_Lk fm_cl fm_Ts RX8 100 8 48 := ⟨RX8, TX8, 74, rfl, inX8, by decide, fwX8 _ (List.mem_of_getElem? (i := 29) rfl), rfl⟩
theorem lkX8_103 : fm_Lk fm_cl fm_Ts RX8 103 8 49 := ⟨RX8, TX8, 74, rfl, inX8, by decide, fwX8 _ (List.mem_of_getElem? (i := 30) rfl), rfl⟩
theorem lkX8_106 : fm_Lk fm_cl fm_Ts RX8 106 8 50 := ⟨RX8, TX8, 74, rfl, inX8, by decide, fwX8 _ (List.mem_of_getElem? (i := 31) rfl), rfl⟩
theorem lkX8_109 : fm_Lk fm_cl fm_Ts RX8 109 8 52 := ⟨RX8, TX8, 74, rfl, inX8, by decide, fwX8 _ (List.mem_of_getElem? (i := 32) rfl), rfl⟩
theorem lkX8_112 : fm_Lk fm_cl fm_Ts RX8 112 8 53 := ⟨RX8, TX8, 74, rfl, inX8, by decide, fwX8 _ (List.mem_of_getElem? (i := 33) rfl), rfl⟩
theorem lkX8_115 : fm_Lk fm_cl fm_Ts RX8 115 8 54 := ⟨RX8, TX8, 74, rfl, inX8, by decide, fwX8 _ (List.mem_of_getElem? (i := 34) rfl), rfl⟩
theorem lkX8_118 : fm_Lk fm_cl fm_Ts RX8 118 8 55 := ⟨RX8, TX8, 74, rfl, inX8, by decide, fwX8 _ (List.mem_of_getElem? (i := 35) rfl), rfl⟩
theorem lkX8_121 : fm_Lk fm_cl fm_Ts RX8 121 8 56 := ⟨RX8, TX8, 74, rfl, inX8, by decide, fwX8 _ (List.mem_of_getElem? (i := 36) rfl), rfl⟩
theorem lkX8_124 : fm_Lk fm_cl fm_Ts RX8 124 8 57 := ⟨RX8, TX8, 74, rfl, inX8, by decide, fwX8 _ (List.mem_of_getElem? (i := 37) rfl), rfl⟩
theorem lkX8_127 : fm_Lk fm_cl fm_Ts RX8 127 8 58 := ⟨RX8, TX8, 74, rfl, inX8, by decide, fwX8 _ (List.mem_of_getElem? (i := 38) rfl), rfl⟩
theorem lkX8_130 : fm_Lk fm_cl fm_Ts RX8 130 8 59 := ⟨RX8, TX8, 74, rfl, inX8, by decide, fwX8 _ (List.mem_of_getElem? (i := 39) rfl), rfl⟩
theorem lkX8_133 : fm_Lk fm_cl fm_Ts RX8 133 8 60 := ⟨RX8, TX8, 74, rfl, inX8, by decide, fwX8 _ (List.mem_of_getElem? (i := 40) rfl), rfl⟩
theorem lkX8_136 : fm_Lk fm_cl fm_Ts RX8 136 8 61 := ⟨RX8, TX8, 74, rfl, inX8, by decide, fwX8 _ (List.mem_of_getElem? (i := 41) rfl), rfl⟩
theorem lkX8_139 : fm_Lk fm_cl fm_Ts RX8 139 8 62 := ⟨RX8, TX8, 74, rfl, inX8, by decide, fwX8 _ (List.mem_of_getElem? (i := 42) rfl), rfl⟩
theorem lkX8_142 : fm_Lk fm_cl fm_Ts RX8 142 8 63 := ⟨RX8, TX8, 74, rfl, inX8, by decide, fwX8 _ (List.mem_of_getElem? (i := 43) rfl), rfl⟩
theorem lkX8_145 : fm_Lk fm_cl fm_Ts RX8 145 8 64 := ⟨RX8, TX8, 74, rfl, inX8, by decide, fwX8 _ (List.mem_of_getElem? (i := 44) rfl), rfl⟩
theorem lkX8_148 : fm_Lk fm_cl fm_Ts RX8 148 8 65 := ⟨RX8, TX8, 74, rfl, inX8, by decide, fwX8 _ (List.mem_of_getElem? (i := 45) rfl), rfl⟩
theorem lkX8_151 : fm_Lk fm_cl fm_Ts RX8 151 8 68 := ⟨RX8, TX8, 74, rfl, inX8, by decide, fwX8 _ (List.mem_of_getElem? (i := 46) rfl), rfl⟩
theorem lkX8_154 : fm_Lk fm_cl fm_Ts RX8 154 8 69 := ⟨RX8, TX8, 74, rfl, inX8, by decide, fwX8 _ (List.mem_of_getElem? (i := 47) rfl), rfl⟩
theorem lkX8_157 : fm_Lk fm_cl fm_Ts RX8 157 8 70 := ⟨RX8, TX8, 74, rfl, inX8, by decide, fwX8 _ (List.mem_of_getElem? (i := 48) rfl), rfl⟩
theorem lkX8_160 : fm_Lk fm_cl fm_Ts RX8 160 8 71 := ⟨RX8, TX8, 74, rfl, inX8, by decide, fwX8 _ (List.mem_of_getElem? (i := 49) rfl), rfl⟩
theorem lkX8_163 : fm_Lk fm_cl fm_Ts RX8 163 8 72 := ⟨RX8, TX8, 74, rfl, inX8, by decide, fwX8 _ (List.mem_of_getElem? (i := 50) rfl), rfl⟩
theorem lkX8_201 : fm_Lk fm_cl fm_Ts RX8 201 8 1 := ⟨RX8, TX8, 74, rfl, inX8, by decide, fwX8 _ (List.mem_of_getElem? (i := 51) rfl), rfl⟩
theorem lkX8_208 : fm_Lk fm_cl fm_Ts RX8 208 8 33 := ⟨RX8, TX8, 74, rfl, inX8, by decide, fwX8 _ (List.mem_of_getElem? (i := 52) rfl), rfl⟩
theorem lkX8_211 : fm_Lk fm_cl fm_Ts RX8 211 8 34 := ⟨RX8, TX8, 74, rfl, inX8, by decide, fwX8 _ (List.mem_of_getElem? (i := 53) rfl), rfl⟩
theorem lkX8_214 : fm_Lk fm_cl fm_Ts RX8 214 8 35 := ⟨RX8, TX8, 74, rfl, inX8, by decide, fwX8 _ (List.mem_of_getElem? (i := 54) rfl), rfl⟩
theorem lkX8_221 : fm_Lk fm_cl fm_Ts RX8 221 8 37 := ⟨RX8, TX8, 74, rfl, inX8, by decide, fwX8 _ (List.mem_of_getElem? (i := 55) rfl), rfl⟩
theorem lkX8_224 : fm_Lk fm_cl fm_Ts RX8 224 8 39 := ⟨RX8, TX8, 74, rfl, inX8, by decide, fwX8 _ (List.mem_of_getElem? (i := 56) rfl), rfl⟩
theorem lkX8_227 : fm_Lk fm_cl fm_Ts RX8 227 8 38 := ⟨RX8, TX8, 74, rfl, inX8, by decide, fwX8 _ (List.mem_of_getElem? (i := 57) rfl), rfl⟩
theorem lkX8_276 : fm_Lk fm_cl fm_Ts RX8 276 8 41 := ⟨RX8, TX8, 74, rfl, inX8, by decide, fwX8 _ (List.mem_of_getElem? (i := 58) rfl), rfl⟩
theorem lkX8_298 : fm_Lk fm_cl fm_Ts RX8 298 8 40 := ⟨RX8, TX8, 74, rfl, inX8, by decide, fwX8 _ (List.mem_of_getElem? (i := 59) rfl), rfl⟩
theorem lkX8_307 : fm_Lk fm_cl fm_Ts RX8 307 8 36 := ⟨RX8, TX8, 74, rfl, inX8, by decide, fwX8 _ (List.mem_of_getElem? (i := 60) rfl), rfl⟩
theorem lkX8_318 : fm_Lk fm_cl fm_Ts RX8 318 8 20 := ⟨RX8, TX8, 74, rfl, inX8, by decide, fwX8 _ (List.mem_of_getElem? (i := 61) rfl), rfl⟩
theorem lkX8_321 : fm_Lk fm_cl fm_Ts RX8 321 8 2 := ⟨RX8, TX8, 74, rfl, inX8, by decide, fwX8 _ (List.mem_of_getElem? (i := 62) rfl), rfl⟩
theorem lkX8_324 : fm_Lk fm_cl fm_Ts RX8 324 8 43 := ⟨RX8, TX8, 74, rfl, inX8, by decide, fwX8 _ (List.mem_of_getElem? (i := 63) rfl), rfl⟩
theorem lkX8_330 : fm_Lk fm_cl fm_Ts RX8 330 8 44 := ⟨RX8, TX8, 74, rfl, inX8, by decide, fwX8 _ (List.mem_of_getElem? (i := 64) rfl), rfl⟩
theorem lkX8_333 : fm_Lk fm_cl fm_Ts RX8 333 8 46 := ⟨RX8, TX8, 74, rfl, inX8, by decide, fwX8 _ (List.mem_of_getElem? (i := 65) rfl), rfl⟩
theorem lkX8_343 : fm_Lk fm_cl fm_Ts RX8 343 8 45 := ⟨RX8, TX8, 74, rfl, inX8, by decide, fwX8 _ (List.mem_of_getElem? (i := 66) rfl), rfl⟩
theorem lkX8_370 : fm_Lk fm_cl fm_Ts RX8 370 8 6 := ⟨RX8, TX8, 74, rfl, inX8, by decide, fwX8 _ (List.mem_of_getElem? (i := 67) rfl), rfl⟩
theorem lkX8_380 : fm_Lk fm_cl fm_Ts RX8 380 8 51 := ⟨RX8, TX8, 74, rfl, inX8, by decide, fwX8 _ (List.mem_of_getElem? (i := 68) rfl), rfl⟩
theorem lkX8_386 : fm_Lk fm_cl fm_Ts RX8 386 8 4 := ⟨RX8, TX8, 74, rfl, inX8, by decide, fwX8 _ (List.mem_of_getElem? (i := 69) rfl), rfl⟩
theorem lkX8_389 : fm_Lk fm_cl fm_Ts RX8 389 8 5 := ⟨RX8, TX8, 74, rfl, inX8, by decide, fwX8 _ (List.mem_of_getElem? (i := 70) rfl), rfl⟩
theorem lkX8_455 : fm_Lk fm_cl fm_Ts RX8 455 8 66 := ⟨RX8, TX8, 74, rfl, inX8, by decide, fwX8 _ (List.mem_of_getElem? (i := 71) rfl), rfl⟩
theorem lkX8_458 : fm_Lk fm_cl fm_Ts RX8 458 8 67 := ⟨RX8, TX8, 74, rfl, inX8, by decide, fwX8 _ (List.mem_of_getElem? (i := 72) rfl), rfl⟩
theorem lkX8_506 : fm_Lk fm_cl fm_Ts RX8 506 8 73 := ⟨RX8, TX8, 74, rfl, inX8, by decide, fwX8 _ (List.mem_of_getElem? (i := 73) rfl), rfl⟩
theorem flX8_ok : ∀ q ∈ flX8, fm_Lk fm_cl fm_Ts RX8 q.1 q.2.1 q.2.2 := List.forall_mem_cons.mpr ⟨lkX8_7, List.forall_mem_cons.mpr ⟨lkX8_13, List.forall_mem_cons.mpr ⟨lkX8_17, List.forall_mem_cons.mpr ⟨lkX8_21, List.forall_mem_cons.mpr ⟨lkX8_24, List.forall_mem_cons.mpr ⟨lkX8_28, List.forall_mem_cons.mpr ⟨lkX8_31, List.forall_mem_cons.mpr ⟨lkX8_34, List.forall_mem_cons.mpr ⟨lkX8_37, List.forall_mem_cons.mpr ⟨lkX8_40, List.forall_mem_cons.mpr ⟨lkX8_43, List.forall_mem_cons.mpr ⟨lkX8_46, List.forall_mem_cons.mpr ⟨lkX8_49, List.forall_mem_cons.mpr ⟨lkX8_52, List.forall_mem_cons.mpr ⟨lkX8_55, List.forall_mem_cons.mpr ⟨lkX8_58, List.forall_mem_cons.mpr ⟨lkX8_61, List.forall_mem_cons.mpr ⟨lkX8_64, List.forall_mem_cons.mpr ⟨lkX8_67, List.forall_mem_cons.mpr ⟨lkX8_70, List.forall_mem_cons.mpr ⟨lkX8_73, List.forall_mem_cons.mpr ⟨lkX8_76, List.forall_mem_cons.mpr ⟨lkX8_79, List.forall_mem_cons.mpr ⟨lkX8_82, List.forall_mem_cons.mpr ⟨lkX8_85, List.forall_mem_cons.mpr ⟨lkX8_88, List.forall_mem_cons.mpr ⟨lkX8_91, List.forall_mem_cons.mpr ⟨lkX8_94, List.forall_mem_cons.mpr ⟨lkX8_97, List.forall_mem_cons.mpr ⟨lkX8_100, List.forall_mem_cons.mpr ⟨lkX8_103, List.forall_mem_cons.mpr ⟨lkX8_106, List.forall_mem_cons.mpr ⟨lkX8_109, List.forall_mem_cons.mpr ⟨lkX8_112, List.forall_mem_cons.mpr ⟨lkX8_115, List.forall_mem_cons.mpr ⟨lkX8_118, List.forall_mem_cons.mpr ⟨lkX8_121, List.forall_mem_cons.mpr ⟨lkX8_124, List.forall_mem_cons.mpr ⟨lkX8_127, List.forall_mem_cons.mpr ⟨lkX8_130, List.forall_mem_cons.mpr ⟨lkX8_133, List.forall_mem_cons.mpr ⟨lkX8_136, List.forall_mem_cons.mpr ⟨lkX8_139, List.forall_mem_cons.mpr ⟨lkX8_142, List.forall_mem_cons.mpr ⟨lkX8_145, List.forall_mem_cons.mpr ⟨lkX8_148, List.forall_mem_cons.mpr ⟨lkX8_151, List.forall_mem_cons.mpr ⟨lkX8_154, List.forall_mem_cons.mpr ⟨lkX8_157, List.forall_mem_cons.mpr ⟨lkX8_160, List.forall_mem_cons.mpr ⟨lkX8_163, List.forall_mem_cons.mpr ⟨lkX8_201, List.forall_mem_cons.mpr ⟨lkX8_208, List.forall_mem_cons.mpr ⟨lkX8_211, List.forall_mem_cons.mpr ⟨lkX8_214, List.forall_mem_cons.mpr ⟨lkX8_221, List.forall_mem_cons.mpr ⟨lkX8_224, List.forall_mem_cons.mpr ⟨lkX8_227, List.forall_mem_cons.mpr ⟨lkX8_276, List.forall_mem_cons.mpr ⟨lkX8_298, List.forall_mem_cons.mpr ⟨lkX8_307, List.forall_mem_cons.mpr ⟨lkX8_318, List.forall_mem_cons.mpr ⟨lkX8_321, List.forall_mem_cons.mpr ⟨lkX8_324, List.forall_mem_cons.mpr ⟨lkX8_330, List.forall_mem_cons.mpr ⟨lkX8_333, List.forall_mem_cons.mpr ⟨lkX8_343, List.forall_mem_cons.mpr ⟨lkX8_370, List.forall_mem_cons.mpr ⟨lkX8_380, List.forall_mem_cons.mpr ⟨lkX8_386, List.forall_mem_cons.mpr ⟨lkX8_389, List.forall_mem_cons.mpr ⟨lkX8_455, List.forall_mem_cons.mpr ⟨lkX8_458, List.forall_mem_cons.mpr ⟨lkX8_506, fun _ h => absurd h List.not_mem_nil⟩⟩⟩⟩⟩⟩⟩⟩⟩⟩⟩⟩⟩⟩⟩⟩⟩⟩⟩⟩⟩⟩⟩⟩⟩⟩⟩⟩⟩⟩⟩⟩⟩⟩⟩⟩⟩⟩⟩⟩⟩⟩⟩⟩⟩⟩⟩⟩⟩⟩⟩⟩⟩⟩⟩⟩⟩⟩⟩⟩⟩⟩⟩⟩⟩⟩⟩⟩⟩⟩⟩⟩⟩⟩
def fm_wr : List (Nat × Nat × Nat) := [(0, 9, 0), (0, 10, 0), (0, 11, 0), (0, 12, 0), (0, 13, 0), (0, 14, 2), (0, 15, 0), (0, 16, 0), (1, 2, 0), (1, 7, 0), (1, 8, 2), (2, 0, 0), (3, 2, 0), (3, 3, 0), (3, 4, 0), (4, 0, 0), (4, 1, 0), (4, 9, 0), (4, 10, 0), (4, 11, 0), (5, 3, 0), (6, 1, 0), (7, 11, 2), (8, 1, 0), (8, 2, 0), (8, 3, 0), (8, 4, 0), (8, 5, 0), (8, 6, 0), (8, 20, 0), (8, 33, 0), (8, 34, 0), (8, 35, 0), (8, 36, 0), (8, 37, 0), (8, 38, 0), (8, 39, 0), (8, 40, 2), (8, 41, 2), (8, 43, 0), (8, 44, 0), (8, 45, 0), (8, 46, 0), (8, 51, 0), (8, 66, 0), (8, 67, 0), (8, 73, 2)]
theorem wr_0_9 : fm_Cl fm_cl 0 ∧ ∀ (C : String) (T : u_T) (N : Nat), fm_cl[0]? = some (C, T, N) → (T 9).2.2.2 = false ∧ parseFieldDescriptor (T 9).2.2.1 = some (if 0 = 0 then .int else .boolean) := ⟨clX0, fun C T N h => by cases h; exact ⟨rfl, by decide +kernel⟩⟩
theorem wr_0_10 : fm_Cl fm_cl 0 ∧ ∀ (C : String) (T : u_T) (N : Nat), fm_cl[0]? = some (C, T, N) → (T 10).2.2.2 = false ∧ parseFieldDescriptor (T 10).2.2.1 = some (if 0 = 0 then .int else .boolean) := ⟨clX0, fun C T N h => by cases h; exact ⟨rfl, by decide +kernel⟩⟩
theorem wr_0_11 : fm_Cl fm_cl 0 ∧ ∀ (C : String) (T : u_T) (N : Nat), fm_cl[0]? = some (C, T, N) → (T 11).2.2.2 = false ∧ parseFieldDescriptor (T 11).2.2.1 = some (if 0 = 0 then .int else .boolean) := ⟨clX0, fun C T N h => by cases h; exact ⟨rfl, by decide +kernel⟩⟩
theorem wr_0_12 : fm_Cl fm_cl 0 ∧ ∀ (C : String) (T : u_T) (N : Nat), fm_cl[0]? = some (C, T, N) → (T 12).2.2.2 = false ∧ parseFieldDescriptor (T 12).2.2.1 = some (if 0 = 0 then .int else .boolean) := ⟨clX0, fun C T N h => by cases h; exact ⟨rfl, by decide +kernel⟩⟩
theorem wr_0_13 : fm_Cl fm_cl 0 ∧ ∀ (C : String) (T : u_T) (N : Nat), fm_cl[0]? = some (C, T, N) → (T 13).2.2.2 = false ∧ parseFieldDescriptor (T 13).2.2.1 = some (if 0 = 0 then .int else .boolean) := ⟨clX0, fun C T N h => by cases h; exact ⟨rfl, by decide +kernel⟩⟩
theorem wr_0_14 : fm_Cl fm_cl 0 ∧ ∀ (C : String) (T : u_T) (N : Nat), fm_cl[0]? = some (C, T, N) → (T 14).2.2.2 = false ∧ parseFieldDescriptor (T 14).2.2.1 = some (if 2 = 0 then .int else .boolean) := ⟨clX0, fun C T N h => by cases h; exact ⟨rfl, by decide +kernel⟩⟩
theorem wr_0_15 : fm_Cl fm_cl 0 ∧ ∀ (C : String) (T : u_T) (N : Nat), fm_cl[0]? = some (C, T, N) → (T 15).2.2.2 = false ∧ parseFieldDescriptor (T 15).2.2.1 = some (if 0 = 0 then .int else .boolean) := ⟨clX0, fun C T N h => by cases h; exact ⟨rfl, by decide +kernel⟩⟩
theorem wr_0_16 : fm_Cl fm_cl 0 ∧ ∀ (C : String) (T : u_T) (N : Nat), fm_cl[0]? = some (C, T, N) → (T 16).2.2.2 = false ∧ parseFieldDescriptor (T 16).2.2.1 = some (if 0 = 0 then .int else .boolean) := ⟨clX0, fun C T N h => by cases h; exact ⟨rfl, by decide +kernel⟩⟩
theorem wr_1_2 : fm_Cl fm_cl 1 ∧ ∀ (C : String) (T : u_T) (N : Nat), fm_cl[1]? = some (C, T, N) → (T 2).2.2.2 = false ∧ parseFieldDescriptor (T 2).2.2.1 = some (if 0 = 0 then .int else .boolean) := ⟨clX1, fun C T N h => by cases h; exact ⟨rfl, by decide +kernel⟩⟩
theorem wr_1_7 : fm_Cl fm_cl 1 ∧ ∀ (C : String) (T : u_T) (N : Nat), fm_cl[1]? = some (C, T, N) → (T 7).2.2.2 = false ∧ parseFieldDescriptor (T 7).2.2.1 = some (if 0 = 0 then .int else .boolean) := ⟨clX1, fun C T N h => by cases h; exact ⟨rfl, by decide +kernel⟩⟩
theorem wr_1_8 : fm_Cl fm_cl 1 ∧ ∀ (C : String) (T : u_T) (N : Nat), fm_cl[1]? = some (C, T, N) → (T 8).2.2.2 = false ∧ parseFieldDescriptor (T 8).2.2.1 = some (if 2 = 0 then .int else .boolean) := ⟨clX1, fun C T N h => by cases h; exact ⟨rfl, by decide +kernel⟩⟩
theorem wr_2_0 : fm_Cl fm_cl 2 ∧ ∀ (C : String) (T : u_T) (N : Nat), fm_cl[2]? = some (C, T, N) → (T 0).2.2.2 = false ∧ parseFieldDescriptor (T 0).2.2.1 = some (if 0 = 0 then .int else .boolean) := ⟨clX2, fun C T N h => by cases h; exact ⟨rfl, by decide +kernel⟩⟩
theorem wr_3_2 : fm_Cl fm_cl 3 ∧ ∀ (C : String) (T : u_T) (N : Nat), fm_cl[3]? = some (C, T, N) → (T 2).2.2.2 = false ∧ parseFieldDescriptor (T 2).2.2.1 = some (if 0 = 0 then .int else .boolean) := ⟨clX3, fun C T N h => by cases h; exact ⟨rfl, by decide +kernel⟩⟩
theorem wr_3_3 : fm_Cl fm_cl 3 ∧ ∀ (C : String) (T : u_T) (N : Nat), fm_cl[3]? = some (C, T, N) → (T 3).2.2.2 = false ∧ parseFieldDescriptor (T 3).2.2.1 = some (if 0 = 0 then .int else .boolean) := ⟨clX3, fun C T N h => by cases h; exact ⟨rfl, by decide +kernel⟩⟩
theorem wr_3_4 : fm_Cl fm_cl 3 ∧ ∀ (C : String) (T : u_T) (N : Nat), fm_cl[3]? = some (C, T, N) → (T 4).2.2.2 = false ∧ parseFieldDescriptor (T 4).2.2.1 = some (if 0 = 0 then .int else .boolean) := ⟨clX3, fun C T N h => by cases h; exact ⟨rfl, by decide +kernel⟩⟩
theorem wr_4_0 : fm_Cl fm_cl 4 ∧ ∀ (C : String) (T : u_T) (N : Nat), fm_cl[4]? = some (C, T, N) → (T 0).2.2.2 = false ∧ parseFieldDescriptor (T 0).2.2.1 = some (if 0 = 0 then .int else .boolean) := ⟨clX4, fun C T N h => by cases h; exact ⟨rfl, by decide +kernel⟩⟩
theorem wr_4_1 : fm_Cl fm_cl 4 ∧ ∀ (C : String) (T : u_T) (N : Nat), fm_cl[4]? = some (C, T, N) → (T 1).2.2.2 = false ∧ parseFieldDescriptor (T 1).2.2.1 = some (if 0 = 0 then .int else .boolean) := ⟨clX4, fun C T N h => by cases h; exact ⟨rfl, by decide +kernel⟩⟩
theorem wr_4_9 : fm_Cl fm_cl 4 ∧ ∀ (C : String) (T : u_T) (N : Nat), fm_cl[4]? = some (C, T, N) → (T 9).2.2.2 = false ∧ parseFieldDescriptor (T 9).2.2.1 = some (if 0 = 0 then .int else .boolean) := ⟨clX4, fun C T N h => by cases h; exact ⟨rfl, by decide +kernel⟩⟩
theorem wr_4_10 : fm_Cl fm_cl 4 ∧ ∀ (C : String) (T : u_T) (N : Nat), fm_cl[4]? = some (C, T, N) → (T 10).2.2.2 = false ∧ parseFieldDescriptor (T 10).2.2.1 = some (if 0 = 0 then .int else .boolean) := ⟨clX4, fun C T N h => by cases h; exact ⟨rfl, by decide +kernel⟩⟩
theorem wr_4_11 : fm_Cl fm_cl 4 ∧ ∀ (C : String) (T : u_T) (N : Nat), fm_cl[4]? = some (C, T, N) → (T 11).2.2.2 = false ∧ parseFieldDescriptor (T 11).2.2.1 = some (if 0 = 0 then .int else .boolean) := ⟨clX4, fun C T N h => by cases h; exact ⟨rfl, by decide +kernel⟩⟩
theorem wr_5_3 : fm_Cl fm_cl 5 ∧ ∀ (C : String) (T : u_T) (N : Nat), fm_cl[5]? = some (C, T, N) → (T 3).2.2.2 = false ∧ parseFieldDescriptor (T 3).2.2.1 = some (if 0 = 0 then .int else .boolean) := ⟨clX5, fun C T N h => by cases h; exact ⟨rfl, by decide +kernel⟩⟩
theorem wr_6_1 : fm_Cl fm_cl 6 ∧ ∀ (C : String) (T : u_T) (N : Nat), fm_cl[6]? = some (C, T, N) → (T 1).2.2.2 = false ∧ parseFieldDescriptor (T 1).2.2.1 = some (if 0 = 0 then .int else .boolean) := ⟨clX6, fun C T N h => by cases h; exact ⟨rfl, by decide +kernel⟩⟩
theorem wr_7_11 : fm_Cl fm_cl 7 ∧ ∀ (C : String) (T : u_T) (N : Nat), fm_cl[7]? = some (C, T, N) → (T 11).2.2.2 = false ∧ parseFieldDescriptor (T 11).2.2.1 = some (if 2 = 0 then .int else .boolean) := ⟨clX7, fun C T N h => by cases h; exact ⟨rfl, by decide +kernel⟩⟩
theorem wr_8_1 : fm_Cl fm_cl 8 ∧ ∀ (C : String) (T : u_T) (N : Nat), fm_cl[8]? = some (C, T, N) → (T 1).2.2.2 = false ∧ parseFieldDescriptor (T 1).2.2.1 = some (if 0 = 0 then .int else .boolean) := ⟨clX8, fun C T N h => by cases h; exact ⟨rfl, by decide +kernel⟩⟩
theorem wr_8_2 : fm_Cl fm_cl 8 ∧ ∀ (C : String) (T : u_T) (N : Nat), fm_cl[8]? = some (C, T, N) → (T 2).2.2.2 = false ∧ parseFieldDescriptor (T 2).2.2.1 = some (if 0 = 0 then .int else .boolean) := ⟨clX8, fun C T N h => by cases h; exact ⟨rfl, by decide +kernel⟩⟩
theorem wr_8_3 : fm_Cl fm_cl 8 ∧ ∀ (C : String) (T : u_T) (N : Nat), fm_cl[8]? = some (C, T, N) → (T 3).2.2.2 = false ∧ parseFieldDescriptor (T 3).2.2.1 = some (if 0 = 0 then .int else .boolean) := ⟨clX8, fun C T N h => by cases h; exact ⟨rfl, by decide +kernel⟩⟩
theorem wr_8_4 : fm_Cl fm_cl 8 ∧ ∀ (C : String) (T : u_T) (N : Nat), fm_cl[8]? = some (C, T, N) → (T 4).2.2.2 = false ∧ parseFieldDescriptor (T 4).2.2.1 = some (if 0 = 0 then .int else .boolean) := ⟨clX8, fun C T N h => by cases h; exact ⟨rfl, by decide +kernel⟩⟩
theorem wr_8_5 : fm_Cl fm_cl 8 ∧ ∀ (C : String) (T : u_T) (N : Nat), fm_cl[8]? = some (C, T, N) → (T 5).2.2.2 = false ∧ parseFieldDescriptor (T 5).2.2.1 = some (if 0 = 0 then .int else .boolean) := ⟨clX8, fun C T N h => by cases h; exact ⟨rfl, by decide +kernel⟩⟩
theorem wr_8_6 : fm_Cl fm_cl 8 ∧ ∀ (C : String) (T : u_T) (N : Nat), fm_cl[8]? = some (C, T, N) → (T 6).2.2.2 = false ∧ parseFieldDescriptor (T 6).2.2.1 = some (if 0 = 0 then .int else .boolean) := ⟨clX8, fun C T N h => by cases h; exact ⟨rfl, by decide +kernel⟩⟩
theorem wr_8_20 : fm_Cl fm_cl 8 ∧ ∀ (C : String) (T : u_T) (N : Nat), fm_cl[8]? = some (C, T, N) → (T 20).2.2.2 = false ∧ parseFieldDescriptor (T 20).2.2.1 = some (if 0 = 0 then .int else .boolean) := ⟨clX8, fun C T N h => by cases h; exact ⟨rfl, by decide +kernel⟩⟩
theorem wr_8_33 : fm_Cl fm_cl 8 ∧ ∀ (C : String) (T : u_T) (N : Nat), fm_cl[8]? = some (C, T, N) → (T 33).2.2.2 = false ∧ parseFieldDescriptor (T 33).2.2.1 = some (if 0 = 0 then .int else .boolean) := ⟨clX8, fun C T N h => by cases h; exact ⟨rfl, by decide +kernel⟩⟩
theorem wr_8_34 : fm_Cl fm_cl 8 ∧ ∀ (C : String) (T : u_T) (N : Nat), fm_cl[8]? = some (C, T, N) → (T 34).2.2.2 = false ∧ parseFieldDescriptor (T 34).2.2.1 = some (if 0 = 0 then .int else .boolean) := ⟨clX8, fun C T N h => by cases h; exact ⟨rfl, by decide +kernel⟩⟩
theorem wr_8_35 : fm_Cl fm_cl 8 ∧ ∀ (C : String) (T : u_T) (N : Nat), fm_cl[8]? = some (C, T, N) → (T 35).2.2.2 = false ∧ parseFieldDescriptor (T 35).2.2.1 = some (if 0 = 0 then .int else .boolean) := ⟨clX8, fun C T N h => by cases h; exact ⟨rfl, by decide +kernel⟩⟩
theorem wr_8_36 : fm_Cl fm_cl 8 ∧ ∀ (C : String) (T : u_T) (N : Nat), fm_cl[8]? = some (C, T, N) → (T 36).2.2.2 = false ∧ parseFieldDescriptor (T 36).2.2.1 = some (if 0 = 0 then .int else .boolean) := ⟨clX8, fun C T N h => by cases h; exact ⟨rfl, by decide +kernel⟩⟩
theorem wr_8_37 : fm_Cl fm_cl 8 ∧ ∀ (C : String) (T : u_T) (N : Nat), fm_cl[8]? = some (C, T, N) → (T 37).2.2.2 = false ∧ parseFieldDescriptor (T 37).2.2.1 = some (if 0 = 0 then .int else .boolean) := ⟨clX8, fun C T N h => by cases h; exact ⟨rfl, by decide +kernel⟩⟩
theorem wr_8_38 : fm_Cl fm_cl 8 ∧ ∀ (C : String) (T : u_T) (N : Nat), fm_cl[8]? = some (C, T, N) → (T 38).2.2.2 = false ∧ parseFieldDescriptor (T 38).2.2.1 = some (if 0 = 0 then .int else .boolean) := ⟨clX8, fun C T N h => by cases h; exact ⟨rfl, by decide +kernel⟩⟩
theorem wr_8_39 : fm_Cl fm_cl 8 ∧ ∀ (C : String) (T : u_T) (N : Nat), fm_cl[8]? = some (C, T, N) → (T 39).2.2.2 = false ∧ parseFieldDescriptor (T 39).2.2.1 = some (if 0 = 0 then .int else .boolean) := ⟨clX8, fun C T N h => by cases h; exact ⟨rfl, by decide +kernel⟩⟩
theorem wr_8_40 : fm_Cl fm_cl 8 ∧ ∀ (C : String) (T : u_T) (N : Nat), fm_cl[8]? = some (C, T, N) → (T 40).2.2.2 = false ∧ parseFieldDescriptor (T 40).2.2.1 = some (if 2 = 0 then .int else .boolean) := ⟨clX8, fun C T N h => by cases h; exact ⟨rfl, by decide +kernel⟩⟩
theorem wr_8_41 : fm_Cl fm_cl 8 ∧ ∀ (C : String) (T : u_T) (N : Nat), fm_cl[8]? = some (C, T, N) → (T 41).2.2.2 = false ∧ parseFieldDescriptor (T 41).2.2.1 = some (if 2 = 0 then .int else .boolean) := ⟨clX8, fun C T N h => by cases h; exact ⟨rfl, by decide +kernel⟩⟩
theorem wr_8_43 : fm_Cl fm_cl 8 ∧ ∀ (C : String) (T : u_T) (N : Nat), fm_cl[8]? = some (C, T, N) → (T 43).2.2.2 = false ∧ parseFieldDescriptor (T 43).2.2.1 = some (if 0 = 0 then .int else .boolean) := ⟨clX8, fun C T N h => by cases h; exact ⟨rfl, by decide +kernel⟩⟩
theorem wr_8_44 : fm_Cl fm_cl 8 ∧ ∀ (C : String) (T : u_T) (N : Nat), fm_cl[8]? = some (C, T, N) → (T 44).2.2.2 = false ∧ parseFieldDescriptor (T 44).2.2.1 = some (if 0 = 0 then .int else .boolean) := ⟨clX8, fun C T N h => by cases h; exact ⟨rfl, by decide +kernel⟩⟩
theorem wr_8_45 : fm_Cl fm_cl 8 ∧ ∀ (C : String) (T : u_T) (N : Nat), fm_cl[8]? = some (C, T, N) → (T 45).2.2.2 = false ∧ parseFieldDescriptor (T 45).2.2.1 = some (if 0 = 0 then .int else .boolean) := ⟨clX8, fun C T N h => by cases h; exact ⟨rfl, by decide +kernel⟩⟩
theorem wr_8_46 : fm_Cl fm_cl 8 ∧ ∀ (C : String) (T : u_T) (N : Nat), fm_cl[8]? = some (C, T, N) → (T 46).2.2.2 = false ∧ parseFieldDescriptor (T 46).2.2.1 = some (if 0 = 0 then .int else .boolean) := ⟨clX8, fun C T N h => by cases h; exact ⟨rfl, by decide +kernel⟩⟩
theorem wr_8_51 : fm_Cl fm_cl 8 ∧ ∀ (C : String) (T : u_T) (N : Nat), fm_cl[8]? = some (C, T, N) → (T 51).2.2.2 = false ∧ parseFieldDescriptor (T 51).2.2.1 = some (if 0 = 0 then .int else .boolean) := ⟨clX8, fun C T N h => by cases h; exact ⟨rfl, by decide +kernel⟩⟩
theorem wr_8_66 : fm_Cl fm_cl 8 ∧ ∀ (C : String) (T : u_T) (N : Nat), fm_cl[8]? = some (C, T, N) → (T 66).2.2.2 = false ∧ parseFieldDescriptor (T 66).2.2.1 = some (if 0 = 0 then .int else .boolean) := ⟨clX8, fun C T N h => by cases h; exact ⟨rfl, by decide +kernel⟩⟩
theorem wr_8_67 : fm_Cl fm_cl 8 ∧ ∀ (C : String) (T : u_T) (N : Nat), fm_cl[8]? = some (C, T, N) → (T 67).2.2.2 = false ∧ parseFieldDescriptor (T 67).2.2.1 = some (if 0 = 0 then .int else .boolean) := ⟨clX8, fun C T N h => by cases h; exact ⟨rfl, by decide +kernel⟩⟩
theorem wr_8_73 : fm_Cl fm_cl 8 ∧ ∀ (C : String) (T : u_T) (N : Nat), fm_cl[8]? = some (C, T, N) → (T 73).2.2.2 = false ∧ parseFieldDescriptor (T 73).2.2.1 = some (if 2 = 0 then .int else .boolean) := ⟨clX8, fun C T N h => by cases h; exact ⟨rfl, by decide +kernel⟩⟩
theorem fm_wr_ok : ∀ q ∈ fm_wr, fm_Cl fm_cl q.1 ∧ ∀ (C : String) (T : u_T) (N : Nat), fm_cl[q.1]? = some (C, T, N) → (T q.2.1).2.2.2 = false ∧ parseFieldDescriptor (T q.2.1).2.2.1 = some (if q.2.2 = 0 then .int else .boolean) := List.forall_mem_cons.mpr ⟨wr_0_9, List.forall_mem_cons.mpr ⟨wr_0_10, List.forall_mem_cons.mpr ⟨wr_0_11, List.forall_mem_cons.mpr ⟨wr_0_12, List.forall_mem_cons.mpr ⟨wr_0_13, List.forall_mem_cons.mpr ⟨wr_0_14, List.forall_mem_cons.mpr ⟨wr_0_15, List.forall_mem_cons.mpr ⟨wr_0_16, List.forall_mem_cons.mpr ⟨wr_1_2, List.forall_mem_cons.mpr ⟨wr_1_7, List.forall_mem_cons.mpr ⟨wr_1_8, List.forall_mem_cons.mpr ⟨wr_2_0, List.forall_mem_cons.mpr ⟨wr_3_2, List.forall_mem_cons.mpr ⟨wr_3_3, List.forall_mem_cons.mpr ⟨wr_3_4, List.forall_mem_cons.mpr ⟨wr_4_0, List.forall_mem_cons.mpr ⟨wr_4_1, List.forall_mem_cons.mpr ⟨wr_4_9, List.forall_mem_cons.mpr ⟨wr_4_10, List.forall_mem_cons.mpr ⟨wr_4_11, List.forall_mem_cons.mpr ⟨wr_5_3, List.forall_mem_cons.mpr ⟨wr_6_1, List.forall_mem_cons.mpr ⟨wr_7_11, List.forall_mem_cons.mpr ⟨wr_8_1, List.forall_mem_cons.mpr ⟨wr_8_2, List.forall_mem_cons.mpr ⟨wr_8_3, List.forall_mem_cons.mpr ⟨wr_8_4, List.forall_mem_cons.mpr ⟨wr_8_5, List.forall_mem_cons.mpr ⟨wr_8_6, List.forall_mem_cons.mpr ⟨wr_8_20, List.forall_mem_cons.mpr ⟨wr_8_33, List.forall_mem_cons.mpr ⟨wr_8_34, List.forall_mem_cons.mpr ⟨wr_8_35, List.forall_mem_cons.mpr ⟨wr_8_36, List.forall_mem_cons.mpr ⟨wr_8_37, List.forall_mem_cons.mpr ⟨wr_8_38, List.forall_mem_cons.mpr ⟨wr_8_39, List.forall_mem_cons.mpr ⟨wr_8_40, List.forall_mem_cons.mpr ⟨wr_8_41, List.forall_mem_cons.mpr ⟨wr_8_43, List.forall_mem_cons.mpr ⟨wr_8_44, List.forall_mem_cons.mpr ⟨wr_8_45, List.forall_mem_cons.mpr ⟨wr_8_46, List.forall_mem_cons.mpr ⟨wr_8_51, List.forall_mem_cons.mpr ⟨wr_8_66, List.forall_mem_cons.mpr ⟨wr_8_67, List.forall_mem_cons.mpr ⟨wr_8_73, fun _ h => absurd h List.not_mem_nil⟩⟩⟩⟩⟩⟩⟩⟩⟩⟩⟩⟩⟩⟩⟩⟩⟩⟩⟩⟩⟩⟩⟩⟩⟩⟩⟩⟩⟩⟩⟩⟩⟩⟩⟩⟩⟩⟩⟩⟩⟩⟩⟩⟩⟩⟩⟩
def kcX0 : List (Nat × Int) := [(102, 65535), (174, 99999)]
theorem kcX0_w : ∀ w ∈ ([.constant RX0 102 (Int32.ofInt (65535)), .constant RX0 174 (Int32.ofInt (99999))] : List Jvm.Cond), w ∈ fm_Ts := fm_ins [648, 695] (by decide +kernel) (by decide +kernel)
theorem kcX0_ok : ∀ q ∈ kcX0, (-2147483648 ≤ q.2 ∧ q.2 ≤ 2147483647) ∧ Jvm.Cond.constant RX0 q.1 (Int32.ofInt q.2) ∈ fm_Ts := List.forall_mem_cons.mpr ⟨⟨by decide, kcX0_w _ (List.mem_of_getElem? (i := 0) rfl)⟩, List.forall_mem_cons.mpr ⟨⟨by decide, kcX0_w _ (List.mem_of_getElem? (i := 1) rfl)⟩, fun _ h => absurd h List.not_mem_nil⟩⟩
def kcX1 : List (Nat × Int) := []
theorem kcX1_w : ∀ w ∈ ([] : List Jvm.Cond), w ∈ fm_Ts := fm_ins [] (by decide +kernel) (by decide +kernel)
theorem kcX1_ok : ∀ q ∈ kcX1, (-2147483648 ≤ q.2 ∧ q.2 ≤ 2147483647) ∧ Jvm.Cond.constant RX1 q.1 (Int32.ofInt q.2) ∈ fm_Ts := fun _ h => absurd h List.not_mem_nil
def kcX2 : List (Nat × Int) := []
theorem kcX2_w : ∀ w ∈ ([] : List Jvm.Cond), w ∈ fm_Ts := fm_ins [] (by decide +kernel) (by decide +kernel)
theorem kcX2_ok : ∀ q ∈ kcX2, (-2147483648 ≤ q.2 ∧ q.2 ≤ 2147483647) ∧ Jvm.Cond.constant RX2 q.1 (Int32.ofInt q.2) ∈ fm_Ts := fun _ h => absurd h List.not_mem_nil
def kcX3 : List (Nat × Int) := []
theorem kcX3_w : ∀ w ∈ ([] : List Jvm.Cond), w ∈ fm_Ts := fm_ins [] (by decide +kernel) (by decide +kernel)
theorem kcX3_ok : ∀ q ∈ kcX3, (-2147483648 ≤ q.2 ∧ q.2 ≤ 2147483647) ∧ Jvm.Cond.constant RX3 q.1 (Int32.ofInt q.2) ∈ fm_Ts := fun _ h => absurd h List.not_mem_nil
def kcX4 : List (Nat × Int) := [(60, -1000000000)]
theorem kcX4_w : ∀ w ∈ ([.constant RX4 60 (Int32.ofInt (-1000000000))] : List Jvm.Cond), w ∈ fm_Ts := fm_ins [774] (by decide +kernel) (by decide +kernel)
theorem kcX4_ok : ∀ q ∈ kcX4, (-2147483648 ≤ q.2 ∧ q.2 ≤ 2147483647) ∧ Jvm.Cond.constant RX4 q.1 (Int32.ofInt q.2) ∈ fm_Ts := List.forall_mem_cons.mpr ⟨⟨by decide, kcX4_w _ (List.mem_of_getElem? (i := 0) rfl)⟩, fun _ h => absurd h List.not_mem_nil⟩
def kcX5 : List (Nat × Int) := []
theorem kcX5_w : ∀ w ∈ ([] : List Jvm.Cond), w ∈ fm_Ts := fm_ins [] (by decide +kernel) (by decide +kernel)
theorem kcX5_ok : ∀ q ∈ kcX5, (-2147483648 ≤ q.2 ∧ q.2 ≤ 2147483647) ∧ Jvm.Cond.constant RX5 q.1 (Int32.ofInt q.2) ∈ fm_Ts := fun _ h => absurd h List.not_mem_nil
def kcX6 : List (Nat × Int) := []
theorem kcX6_w : ∀ w ∈ ([] : List Jvm.Cond), w ∈ fm_Ts := fm_ins [] (by decide +kernel) (by decide +kernel)
theorem kcX6_ok : ∀ q ∈ kcX6, (-2147483648 ≤ q.2 ∧ q.2 ≤ 2147483647) ∧ Jvm.Cond.constant RX6 q.1 (Int32.ofInt q.2) ∈ fm_Ts := fun _ h => absurd h List.not_mem_nil
def kcX7 : List (Nat × Int) := [(79, 99999), (228, 1000000000), (269, -1000000000), (289, 65535)]
theorem kcX7_w : ∀ w ∈ ([.constant RX7 79 (Int32.ofInt (99999)), .constant RX7 228 (Int32.ofInt (1000000000)), .constant RX7 269 (Int32.ofInt (-1000000000)), .constant RX7 289 (Int32.ofInt (65535))] : List Jvm.Cond), w ∈ fm_Ts := fm_ins [427, 827, 895, 933] (by decide +kernel) (by decide +kernel)
theorem kcX7_ok : ∀ q ∈ kcX7, (-2147483648 ≤ q.2 ∧ q.2 ≤ 2147483647) ∧ Jvm.Cond.constant RX7 q.1 (Int32.ofInt q.2) ∈ fm_Ts := List.forall_mem_cons.mpr ⟨⟨by decide, kcX7_w _ (List.mem_of_getElem? (i := 0) rfl)⟩, List.forall_mem_cons.mpr ⟨⟨by decide, kcX7_w _ (List.mem_of_getElem? (i := 1) rfl)⟩, List.forall_mem_cons.mpr ⟨⟨by decide, kcX7_w _ (List.mem_of_getElem? (i := 2) rfl)⟩, List.forall_mem_cons.mpr ⟨⟨by decide, kcX7_w _ (List.mem_of_getElem? (i := 3) rfl)⟩, fun _ h => absurd h List.not_mem_nil⟩⟩⟩⟩
def kcX8 : List (Nat × Int) := [(373, 99999), (407, 65536), (471, -1000000000), (482, 1000000000)]
theorem kcX8_w : ∀ w ∈ ([.constant RX8 373 (Int32.ofInt (99999)), .constant RX8 407 (Int32.ofInt (65536)), .constant RX8 471 (Int32.ofInt (-1000000000)), .constant RX8 482 (Int32.ofInt (1000000000))] : List Jvm.Cond), w ∈ fm_Ts := fm_ins [1416, 1353, 1485, 1506] (by decide +kernel) (by decide +kernel)
theorem kcX8_ok : ∀ q ∈ kcX8, (-2147483648 ≤ q.2 ∧ q.2 ≤ 2147483647) ∧ Jvm.Cond.constant RX8 q.1 (Int32.ofInt q.2) ∈ fm_Ts := List.forall_mem_cons.mpr ⟨⟨by decide, kcX8_w _ (List.mem_of_getElem? (i := 0) rfl)⟩, List.forall_mem_cons.mpr ⟨⟨by decide, kcX8_w _ (List.mem_of_getElem? (i := 1) rfl)⟩, List.forall_mem_cons.mpr ⟨⟨by decide, kcX8_w _ (List.mem_of_getElem? (i := 2) rfl)⟩, List.forall_mem_cons.mpr ⟨⟨by decide, kcX8_w _ (List.mem_of_getElem? (i := 3) rfl)⟩, fun _ h => absurd h List.not_mem_nil⟩⟩⟩⟩
def kcJ6 : List (Nat × Int) := [(265, 1431655765), (266, 858993459), (267, 252645135)]
theorem kcJ6_w : ∀ w ∈ ([.constant "java/lang/Integer" 265 (Int32.ofInt (1431655765)), .constant "java/lang/Integer" 266 (Int32.ofInt (858993459)), .constant "java/lang/Integer" 267 (Int32.ofInt (252645135))] : List Jvm.Cond), w ∈ fm_Ts := fm_ins [815, 816, 817] (by decide +kernel) (by decide +kernel)
theorem kcJ6_ok : ∀ q ∈ kcJ6, (-2147483648 ≤ q.2 ∧ q.2 ≤ 2147483647) ∧ Jvm.Cond.constant "java/lang/Integer" q.1 (Int32.ofInt q.2) ∈ fm_Ts := List.forall_mem_cons.mpr ⟨⟨by decide, kcJ6_w _ (List.mem_of_getElem? (i := 0) rfl)⟩, List.forall_mem_cons.mpr ⟨⟨by decide, kcJ6_w _ (List.mem_of_getElem? (i := 1) rfl)⟩, List.forall_mem_cons.mpr ⟨⟨by decide, kcJ6_w _ (List.mem_of_getElem? (i := 2) rfl)⟩, fun _ h => absurd h List.not_mem_nil⟩⟩⟩
def kcJ9 : List (Nat × Int) := []
theorem kcJ9_w : ∀ w ∈ ([] : List Jvm.Cond), w ∈ fm_Ts := fm_ins [] (by decide +kernel) (by decide +kernel)
theorem kcJ9_ok : ∀ q ∈ kcJ9, (-2147483648 ≤ q.2 ∧ q.2 ≤ 2147483647) ∧ Jvm.Cond.constant "java/lang/Math" q.1 (Int32.ofInt q.2) ∈ fm_Ts := fun _ h => absurd h List.not_mem_nil
def klX0 : List (Nat × Int) := []
theorem klX0_w : ∀ w ∈ ([] : List Jvm.Cond), w ∈ fm_Ts := fm_ins [] (by decide +kernel) (by decide +kernel)
theorem klX0_ok : ∀ q ∈ klX0, (-2147483648 ≤ q.2 ∧ q.2 ≤ 2147483647) ∧ Jvm.Cond.constantLong RX0 q.1 (Int64.ofInt q.2) ∈ fm_Ts := fun _ h => absurd h List.not_mem_nil
def klX1 : List (Nat × Int) := []
theorem klX1_w : ∀ w ∈ ([] : List Jvm.Cond), w ∈ fm_Ts := fm_ins [] (by decide +kernel) (by decide +kernel)
theorem klX1_ok : ∀ q ∈ klX1, (-2147483648 ≤ q.2 ∧ q.2 ≤ 2147483647) ∧ Jvm.Cond.constantLong RX1 q.1 (Int64.ofInt q.2) ∈ fm_Ts := fun _ h => absurd h List.not_mem_nil
def klX2 : List (Nat × Int) := []
theorem klX2_w : ∀ w ∈ ([] : List Jvm.Cond), w ∈ fm_Ts := fm_ins [] (by decide +kernel) (by decide +kernel)
theorem klX2_ok : ∀ q ∈ klX2, (-2147483648 ≤ q.2 ∧ q.2 ≤ 2147483647) ∧ Jvm.Cond.constantLong RX2 q.1 (Int64.ofInt q.2) ∈ fm_Ts := fun _ h => absurd h List.not_mem_nil
def klX3 : List (Nat × Int) := []
theorem klX3_w : ∀ w ∈ ([] : List Jvm.Cond), w ∈ fm_Ts := fm_ins [] (by decide +kernel) (by decide +kernel)
theorem klX3_ok : ∀ q ∈ klX3, (-2147483648 ≤ q.2 ∧ q.2 ≤ 2147483647) ∧ Jvm.Cond.constantLong RX3 q.1 (Int64.ofInt q.2) ∈ fm_Ts := fun _ h => absurd h List.not_mem_nil
def klX4 : List (Nat × Int) := []
theorem klX4_w : ∀ w ∈ ([] : List Jvm.Cond), w ∈ fm_Ts := fm_ins [] (by decide +kernel) (by decide +kernel)
theorem klX4_ok : ∀ q ∈ klX4, (-2147483648 ≤ q.2 ∧ q.2 ≤ 2147483647) ∧ Jvm.Cond.constantLong RX4 q.1 (Int64.ofInt q.2) ∈ fm_Ts := fun _ h => absurd h List.not_mem_nil
def klX5 : List (Nat × Int) := []
theorem klX5_w : ∀ w ∈ ([] : List Jvm.Cond), w ∈ fm_Ts := fm_ins [] (by decide +kernel) (by decide +kernel)
theorem klX5_ok : ∀ q ∈ klX5, (-2147483648 ≤ q.2 ∧ q.2 ≤ 2147483647) ∧ Jvm.Cond.constantLong RX5 q.1 (Int64.ofInt q.2) ∈ fm_Ts := fun _ h => absurd h List.not_mem_nil
def klX6 : List (Nat × Int) := []
theorem klX6_w : ∀ w ∈ ([] : List Jvm.Cond), w ∈ fm_Ts := fm_ins [] (by decide +kernel) (by decide +kernel)
theorem klX6_ok : ∀ q ∈ klX6, (-2147483648 ≤ q.2 ∧ q.2 ≤ 2147483647) ∧ Jvm.Cond.constantLong RX6 q.1 (Int64.ofInt q.2) ∈ fm_Ts := fun _ h => absurd h List.not_mem_nil
def klX7 : List (Nat × Int) := []
theorem klX7_w : ∀ w ∈ ([] : List Jvm.Cond), w ∈ fm_Ts := fm_ins [] (by decide +kernel) (by decide +kernel)
theorem klX7_ok : ∀ q ∈ klX7, (-2147483648 ≤ q.2 ∧ q.2 ≤ 2147483647) ∧ Jvm.Cond.constantLong RX7 q.1 (Int64.ofInt q.2) ∈ fm_Ts := fun _ h => absurd h List.not_mem_nil
def klX8 : List (Nat × Int) := [(166, 19), (172, 5), (174, 8), (180, 9), (185, 99999), (187, -3), (189, 3), (191, 99), (196, 9999), (241, 48), (243, 57), (313, 200), (411, 40), (413, 20), (424, 59), (426, 30), (428, 35), (430, 28), (432, 10), (434, 18), (467, 999), (469, -1), (476, 511), (478, 2), (480, 6), (504, 65535), (512, 100), (514, 199)]
theorem klX8_w : ∀ w ∈ ([.constantLong RX8 166 (Int64.ofInt (19)), .constantLong RX8 172 (Int64.ofInt (5)), .constantLong RX8 174 (Int64.ofInt (8)), .constantLong RX8 180 (Int64.ofInt (9)), .constantLong RX8 185 (Int64.ofInt (99999)), .constantLong RX8 187 (Int64.ofInt (-3)), .constantLong RX8 189 (Int64.ofInt (3)), .constantLong RX8 191 (Int64.ofInt (99)), .constantLong RX8 196 (Int64.ofInt (9999)), .constantLong RX8 241 (Int64.ofInt (48)), .constantLong RX8 243 (Int64.ofInt (57)), .constantLong RX8 313 (Int64.ofInt (200)), .constantLong RX8 411 (Int64.ofInt (40)), .constantLong RX8 413 (Int64.ofInt (20)), .constantLong RX8 424 (Int64.ofInt (59)), .constantLong RX8 426 (Int64.ofInt (30)), .constantLong RX8 428 (Int64.ofInt (35)), .constantLong RX8 430 (Int64.ofInt (28)), .constantLong RX8 432 (Int64.ofInt (10)), .constantLong RX8 434 (Int64.ofInt (18)), .constantLong RX8 467 (Int64.ofInt (999)), .constantLong RX8 469 (Int64.ofInt (-1)), .constantLong RX8 476 (Int64.ofInt (511)), .constantLong RX8 478 (Int64.ofInt (2)), .constantLong RX8 480 (Int64.ofInt (6)), .constantLong RX8 504 (Int64.ofInt (65535)), .constantLong RX8 512 (Int64.ofInt (100)), .constantLong RX8 514 (Int64.ofInt (199))] : List Jvm.Cond), w ∈ fm_Ts := fm_ins [1201, 1230, 1221, 1216, 1205, 1206, 1207, 1212, 1222, 1284, 1285, 1247, 1348, 1468, 1465, 1466, 1467, 1469, 1470, 1471, 1483, 1484, 1503, 1504, 1505, 1570, 1591, 1592] (by decide +kernel) (by decide +kernel)
theorem klX8_ok : ∀ q ∈ klX8, (-2147483648 ≤ q.2 ∧ q.2 ≤ 2147483647) ∧ Jvm.Cond.constantLong RX8 q.1 (Int64.ofInt q.2) ∈ fm_Ts := List.forall_mem_cons.mpr ⟨⟨by decide, klX8_w _ (List.mem_of_getElem? (i := 0) rfl)⟩, List.forall_mem_cons.mpr ⟨⟨by decide, klX8_w _ (List.mem_of_getElem? (i := 1) rfl)⟩, List.forall_mem_cons.mpr ⟨⟨by decide, klX8_w _ (List.mem_of_getElem? (i := 2) rfl)⟩, List.forall_mem_cons.mpr ⟨⟨by decide, klX8_w _ (List.mem_of_getElem? (i := 3) rfl)⟩, List.forall_mem_cons.mpr ⟨⟨by decide, klX8_w _ (List.mem_of_getElem? (i := 4) rfl)⟩, List.forall_mem_cons.mpr ⟨⟨by decide, klX8_w _ (List.mem_of_getElem? (i := 5) rfl)⟩, List.forall_mem_cons.mpr ⟨⟨by decide, klX8_w _ (List.mem_of_getElem? (i := 6) rfl)⟩, List.forall_mem_cons.mpr ⟨⟨by decide, klX8_w _ (List.mem_of_getElem? (i := 7) rfl)⟩, List.forall_mem_cons.mpr ⟨⟨by decide, klX8_w _ (List.mem_of_getElem? (i := 8) rfl)⟩, List.forall_mem_cons.mpr ⟨⟨by decide, klX8_w _ (List.mem_of_getElem? (i := 9) rfl)⟩, List.forall_mem_cons.mpr ⟨⟨by decide, klX8_w _ (List.mem_of_getElem? (i := 10) rfl)⟩, List.forall_mem_cons.mpr ⟨⟨by decide, klX8_w _ (List.mem_of_getElem? (i := 11) rfl)⟩, List.forall_mem_cons.mpr ⟨⟨by decide, klX8_w _ (List.mem_of_getElem? (i := 12) rfl)⟩, List.forall_mem_cons.mpr ⟨⟨by decide, klX8_w _ (List.mem_of_getElem? (i := 13) rfl)⟩, List.forall_mem_cons.mpr ⟨⟨by decide, klX8_w _ (List.mem_of_getElem? (i := 14) rfl)⟩, List.forall_mem_cons.mpr ⟨⟨by decide, klX8_w _ (List.mem_of_getElem? (i := 15) rfl)⟩, List.forall_mem_cons.mpr ⟨⟨by decide, klX8_w _ (List.mem_of_getElem? (i := 16) rfl)⟩, List.forall_mem_cons.mpr ⟨⟨by decide, klX8_w _ (List.mem_of_getElem? (i := 17) rfl)⟩, List.forall_mem_cons.mpr ⟨⟨by decide, klX8_w _ (List.mem_of_getElem? (i := 18) rfl)⟩, List.forall_mem_cons.mpr ⟨⟨by decide, klX8_w _ (List.mem_of_getElem? (i := 19) rfl)⟩, List.forall_mem_cons.mpr ⟨⟨by decide, klX8_w _ (List.mem_of_getElem? (i := 20) rfl)⟩, List.forall_mem_cons.mpr ⟨⟨by decide, klX8_w _ (List.mem_of_getElem? (i := 21) rfl)⟩, List.forall_mem_cons.mpr ⟨⟨by decide, klX8_w _ (List.mem_of_getElem? (i := 22) rfl)⟩, List.forall_mem_cons.mpr ⟨⟨by decide, klX8_w _ (List.mem_of_getElem? (i := 23) rfl)⟩, List.forall_mem_cons.mpr ⟨⟨by decide, klX8_w _ (List.mem_of_getElem? (i := 24) rfl)⟩, List.forall_mem_cons.mpr ⟨⟨by decide, klX8_w _ (List.mem_of_getElem? (i := 25) rfl)⟩, List.forall_mem_cons.mpr ⟨⟨by decide, klX8_w _ (List.mem_of_getElem? (i := 26) rfl)⟩, List.forall_mem_cons.mpr ⟨⟨by decide, klX8_w _ (List.mem_of_getElem? (i := 27) rfl)⟩, fun _ h => absurd h List.not_mem_nil⟩⟩⟩⟩⟩⟩⟩⟩⟩⟩⟩⟩⟩⟩⟩⟩⟩⟩⟩⟩⟩⟩⟩⟩⟩⟩⟩⟩
def klJ6 : List (Nat × Int) := []
theorem klJ6_w : ∀ w ∈ ([] : List Jvm.Cond), w ∈ fm_Ts := fm_ins [] (by decide +kernel) (by decide +kernel)
theorem klJ6_ok : ∀ q ∈ klJ6, (-2147483648 ≤ q.2 ∧ q.2 ≤ 2147483647) ∧ Jvm.Cond.constantLong "java/lang/Integer" q.1 (Int64.ofInt q.2) ∈ fm_Ts := fun _ h => absurd h List.not_mem_nil
def klJ9 : List (Nat × Int) := []
theorem klJ9_w : ∀ w ∈ ([] : List Jvm.Cond), w ∈ fm_Ts := fm_ins [] (by decide +kernel) (by decide +kernel)
theorem klJ9_ok : ∀ q ∈ klJ9, (-2147483648 ≤ q.2 ∧ q.2 ≤ 2147483647) ∧ Jvm.Cond.constantLong "java/lang/Math" q.1 (Int64.ofInt q.2) ∈ fm_Ts := fun _ h => absurd h List.not_mem_nil
theorem evX0 : rv_Ev fm_cl fm_Ts RX0 flX0 fm_wr kcX0 klX0 := ⟨flX0_ok, fm_wr_ok, kcX0_ok, klX0_ok⟩
theorem evX1 : rv_Ev fm_cl fm_Ts RX1 flX1 fm_wr kcX1 klX1 := ⟨flX1_ok, fm_wr_ok, kcX1_ok, klX1_ok⟩
theorem evX2 : rv_Ev fm_cl fm_Ts RX2 flX2 fm_wr kcX2 klX2 := ⟨flX2_ok, fm_wr_ok, kcX2_ok, klX2_ok⟩
theorem evX3 : rv_Ev fm_cl fm_Ts RX3 flX3 fm_wr kcX3 klX3 := ⟨flX3_ok, fm_wr_ok, kcX3_ok, klX3_ok⟩
theorem evX4 : rv_Ev fm_cl fm_Ts RX4 flX4 fm_wr kcX4 klX4 := ⟨flX4_ok, fm_wr_ok, kcX4_ok, klX4_ok⟩
theorem evX5 : rv_Ev fm_cl fm_Ts RX5 flX5 fm_wr kcX5 klX5 := ⟨flX5_ok, fm_wr_ok, kcX5_ok, klX5_ok⟩
theorem evX6 : rv_Ev fm_cl fm_Ts RX6 flX6 fm_wr kcX6 klX6 := ⟨flX6_ok, fm_wr_ok, kcX6_ok, klX6_ok⟩
theorem evX7 : rv_Ev fm_cl fm_Ts RX7 flX7 fm_wr kcX7 klX7 := ⟨flX7_ok, fm_wr_ok, kcX7_ok, klX7_ok⟩
theorem evX8 : rv_Ev fm_cl fm_Ts RX8 flX8 fm_wr kcX8 klX8 := ⟨flX8_ok, fm_wr_ok, kcX8_ok, klX8_ok⟩
theorem evJ6 : rv_Ev fm_cl fm_Ts "java/lang/Integer" [] fm_wr kcJ6 klJ6 := ⟨fun _ h => absurd h List.not_mem_nil, fm_wr_ok, kcJ6_ok, klJ6_ok⟩
theorem evJ9 : rv_Ev fm_cl fm_Ts "java/lang/Math" [] fm_wr kcJ9 klJ9 := ⟨fun _ h => absurd h List.not_mem_nil, fm_wr_ok, kcJ9_ok, klJ9_ok⟩
end
section
/-! THE WORLD: the cells of both objects -/
def rv_u : rv_A := (0, 0, 0, 0, [], [])
def rv_i (lo hi : Int) : rv_A := (1, 0, lo, hi, [], [])
def rv_r (j : Nat) : rv_A := (2, j, 0, 0, [], [])
def fm_tm : List fm_C := [
  .inr (7, [.inr 3, .inr 5, .inr 7, .inr 16, .inr 26, .inr 41, .inr 56, .inr 71, .inr 76, .inr 1, .inr 2, .inl (0, 1)]),
  .inl (0, 20, (-2147483648), 2147483647),
  .inl (0, 6, (-2147483648), 2147483647),
  .inr (6, [.inr 4, .inl ((-2147483648), 2147483647)]),
  .inl (0, 220, 0, 255),
  .inr (6, [.inr 6, .inl ((-2147483648), 2147483647)]),
  .inl (0, 220, 0, 255),
  .inr (1, [.inr 8, .inr 9, .inl (0, 200), .inr 10, .inr 11, .inr 12, .inr 13, .inl ((-2147483648), 2147483647), .inl (0, 1), .inr 14, .inr 15]),
  .inl (0, 200, (-2147483648), 2147483647),
  .inl (0, 200, (-10000000), 10000000),
  .inl (0, 14, (-2147483648), 2147483647),
  .inl (0, 14, (-2147483648), 2147483647),
  .inl (0, 14, (-2147483648), 2147483647),
  .inl (0, 14, (-2147483648), 2147483647),
  .inl (0, 13, (-2147483648), 2147483647),
  .inl (0, 40, (-2147483648), 2147483647),
  .inr (3, [.inr 17, .inr 3, .inl ((-2147483648), 2147483647), .inl ((-2147483648), 2147483647), .inl ((-2147483648), 2147483647)]),
  .inr (1, [.inr 18, .inr 19, .inl (0, 200), .inr 20, .inr 21, .inr 22, .inr 23, .inl ((-2147483648), 2147483647), .inl (0, 1), .inr 24, .inr 25]),
  .inl (0, 200, (-2147483648), 2147483647),
  .inl (0, 200, (-10000000), 10000000),
  .inl (0, 14, (-2147483648), 2147483647),
  .inl (0, 14, (-2147483648), 2147483647),
  .inl (0, 14, (-2147483648), 2147483647),
  .inl (0, 14, (-2147483648), 2147483647),
  .inl (0, 13, (-2147483648), 2147483647),
  .inl (0, 40, (-2147483648), 2147483647),
  .inr (0, [.inr 27, .inr 28, .inr 29, .inr 30, .inr 31, .inr 32, .inr 36, .inr 33, .inr 34, .inl ((-2147483648), 2147483647), .inl ((-2147483648), 2147483647), .inl ((-2147483648), 2147483647), .inl ((-2147483648), 2147483647), .inl ((-2147483648), 2147483647), .inl (0, 1), .inl ((-2147483648), 2147483647), .inl ((-2147483648), 2147483647), .inr 35]),
  .inl (0, 20, (-2147483648), 2147483647),
  .inl (0, 20, (-2147483648), 2147483647),
  .inl (0, 20, (-2147483648), 2147483647),
  .inl (0, 20, (-2147483648), 2147483647),
  .inl (0, 6, (-2147483648), 2147483647),
  .inl (0, 6, (-2147483648), 2147483647),
  .inl (0, 100, (-2147483648), 2147483647),
  .inl (0, 180, (-2147483648), 2147483647),
  .inl (0, 20, (-2147483648), 2147483647),
  .inr (2, [.inl ((-2147483648), 2147483647), .inr 37, .inr 38, .inr 39, .inr 40]),
  .inl (0, 9, (-2147483648), 2147483647),
  .inl (0, 9, (-2147483648), 2147483647),
  .inl (0, 9, (-2147483648), 2147483647),
  .inl (0, 9, (-2147483648), 2147483647),
  .inr (0, [.inr 42, .inr 43, .inr 44, .inr 45, .inr 46, .inr 47, .inr 51, .inr 48, .inr 49, .inl ((-2147483648), 2147483647), .inl ((-2147483648), 2147483647), .inl ((-2147483648), 2147483647), .inl ((-2147483648), 2147483647), .inl ((-2147483648), 2147483647), .inl (0, 1), .inl ((-2147483648), 2147483647), .inl ((-2147483648), 2147483647), .inr 50]),
  .inl (0, 20, (-2147483648), 2147483647),
  .inl (0, 20, (-2147483648), 2147483647),
  .inl (0, 20, (-2147483648), 2147483647),
  .inl (0, 20, (-2147483648), 2147483647),
  .inl (0, 6, (-2147483648), 2147483647),
  .inl (0, 6, (-2147483648), 2147483647),
  .inl (0, 100, (-2147483648), 2147483647),
  .inl (0, 180, (-2147483648), 2147483647),
  .inl (0, 20, (-2147483648), 2147483647),
  .inr (2, [.inl ((-2147483648), 2147483647), .inr 52, .inr 53, .inr 54, .inr 55]),
  .inl (0, 9, (-2147483648), 2147483647),
  .inl (0, 9, (-2147483648), 2147483647),
  .inl (0, 9, (-2147483648), 2147483647),
  .inl (0, 9, (-2147483648), 2147483647),
  .inr (0, [.inr 57, .inr 58, .inr 59, .inr 60, .inr 61, .inr 62, .inr 66, .inr 63, .inr 64, .inl ((-2147483648), 2147483647), .inl ((-2147483648), 2147483647), .inl ((-2147483648), 2147483647), .inl ((-2147483648), 2147483647), .inl ((-2147483648), 2147483647), .inl (0, 1), .inl ((-2147483648), 2147483647), .inl ((-2147483648), 2147483647), .inr 65]),
  .inl (0, 20, (-2147483648), 2147483647),
  .inl (0, 20, (-2147483648), 2147483647),
  .inl (0, 20, (-2147483648), 2147483647),
  .inl (0, 20, (-2147483648), 2147483647),
  .inl (0, 6, (-2147483648), 2147483647),
  .inl (0, 6, (-2147483648), 2147483647),
  .inl (0, 100, (-2147483648), 2147483647),
  .inl (0, 180, (-2147483648), 2147483647),
  .inl (0, 20, (-2147483648), 2147483647),
  .inr (2, [.inl ((-2147483648), 2147483647), .inr 67, .inr 68, .inr 69, .inr 70]),
  .inl (0, 9, (-2147483648), 2147483647),
  .inl (0, 9, (-2147483648), 2147483647),
  .inl (0, 9, (-2147483648), 2147483647),
  .inl (0, 9, (-2147483648), 2147483647),
  .inr (4, [.inl ((-2147483648), 2147483647), .inl ((-2147483648), 2147483647), .inr 72, .inr 73, .inr 74, .inr 75, .inr 26, .inr 56, .inr 7, .inl ((-2147483648), 2147483647), .inl ((-2147483648), 2147483647), .inl ((-2147483648), 2147483647)]),
  .inl (0, 3, (-2147483648), 2147483647),
  .inl (0, 3, (-2147483648), 2147483647),
  .inl (0, 20, (-2147483648), 2147483647),
  .inl (0, 400, (-2147483648), 2147483647),
  .inr (5, [.inr 77, .inr 78, .inr 79, .inl (0, 6)]),
  .inl (0, 6, (-2147483648), 2147483647),
  .inl (0, 6, (-2147483648), 2147483647),
  .inl (0, 6, (-2147483648), 2147483647),
  .inr (8, [.inr 81, .inl (0, 220), .inl ((-2147483648), 2147483647), .inl ((-2147483648), 2147483647), .inl ((-2147483648), 2147483647), .inl ((-2147483648), 2147483647), .inl ((-2147483648), 2147483647), .inr 82, .inr 83, .inr 84, .inr 85, .inr 86, .inr 87, .inr 88, .inr 89, .inr 90, .inr 91, .inr 92, .inr 93, .inr 94, .inl ((-2147483648), 2147483647), .inr 95, .inr 96, .inr 97, .inr 98, .inr 99, .inr 100, .inr 101, .inr 102, .inr 103, .inr 104, .inr 105, .inr 106, .inl ((-2147483648), 2147483647), .inl ((-2147483648), 2147483647), .inl ((-2147483648), 2147483647), .inl ((-2147483648), 2147483647), .inl ((-2147483648), 2147483647), .inl ((-2147483648), 2147483647), .inl ((-2147483648), 2147483647), .inl (0, 1), .inl (0, 1), .inr 107, .inl (0, 19), .inl ((-1), 8), .inl ((-1), 5), .inl ((-2147483648), 2147483647), .inr 108, .inr 109, .inr 110, .inr 111, .inl ((-2147483648), 2147483647), .inr 112, .inr 113, .inr 114, .inr 115, .inr 116, .inr 117, .inr 118, .inr 119, .inr 120, .inr 121, .inr 122, .inr 123, .inr 124, .inr 125, .inl ((-2147483648), 2147483647), .inl ((-2147483648), 2147483647), .inr 126, .inr 127, .inr 128, .inr 129, .inr 130, .inl (0, 1)]),
  .inl (1, 220, (-128), 127),
  .inl (0, 20, (-2147483648), 2147483647),
  .inl (0, 20, (-2147483648), 2147483647),
  .inl (2, 20, 0, 1),
  .inl (0, 20, 0, 6),
  .inl (0, 6, (-2147483648), 2147483647),
  .inl (0, 6, (-2147483648), 2147483647),
  .inl (2, 9, 0, 1),
  .inl (0, 9, 0, 20),
  .inl (0, 9, (-2147483648), 2147483647),
  .inl (0, 9, (-2147483648), 2147483647),
  .inl (0, 9, (-2147483648), 2147483647),
  .inl (0, 100, (-2147483648), 2147483647),
  .inl (0, 180, (-2147483648), 2147483647),
  .inl (0, 14, (-2147483648), 2147483647),
  .inl (0, 14, (-2147483648), 2147483647),
  .inl (0, 14, (-2147483648), 2147483647),
  .inl (0, 14, (-2147483648), 2147483647),
  .inl (0, 200, (-2147483648), 2147483647),
  .inl (0, 200, (-2147483648), 2147483647),
  .inl (0, 14, (-2147483648), 2147483647),
  .inl (0, 14, (-2147483648), 2147483647),
  .inl (0, 14, (-2147483648), 2147483647),
  .inl (0, 14, (-2147483648), 2147483647),
  .inl (0, 200, (-2147483648), 2147483647),
  .inl (0, 200, (-2147483648), 2147483647),
  .inl (0, 240, (-2147483648), 2147483647),
  .inl (0, 240, (-2147483648), 2147483647),
  .inl (2, 240, 0, 1),
  .inl (0, 9, (-2147483648), 2147483647),
  .inl (0, 20, (-2147483648), 2147483647),
  .inl (0, 40, (-2147483648), 2147483647),
  .inl (0, 40, (-2147483648), 2147483647),
  .inl (2, 40, 0, 1),
  .inl (0, 40, 0, 6),
  .inl (0, 12, (-2147483648), 2147483647),
  .inl (0, 12, (-2147483648), 2147483647),
  .inl (2, 18, 0, 1),
  .inl (0, 18, 0, 20),
  .inl (0, 18, (-2147483648), 2147483647),
  .inl (0, 18, (-2147483648), 2147483647),
  .inl (0, 18, (-2147483648), 2147483647),
  .inl (0, 200, (-2147483648), 2147483647),
  .inl (0, 360, (-2147483648), 2147483647),
  .inl (0, 10, (-2147483648), 2147483647),
  .inl (0, 6, 0, 8),
  .inl (0, 6, 0, 5),
  .inl (0, 6, 0, 5),
  .inl (0, 6, (-2147483648), 2147483647),
  .inl (0, 20, (-2147483648), 2147483647)]
def fm_nt : fm_Nt := [(RX7, 11, yX6_init, "DustMint"), (RX7, 21, yX1_init, "DustMint"), (RX3, 11, yX1_init, "DustMint"), (RX0, 32, yX2_init, "DustMint"), (RX7, 59, yX5_init, "DustMint"), (RX0, 142, yX7_isPorter, "DustMint"), (RX2, 34, yX7_isPorter, "DustMint"), (RX0, 131, yX7_isYard, "DustMint"), (RX0, 181, yX7_isBeggar, "DustMint"), (RX4, 100, yX7_isYard, "DustMint"), (RX4, 87, yX7_isBeggar, "DustMint"), (RX5, 39, yX7_isPorter, "DustMint")]
/-- the places that the law's tables are made of -/
def fm_gd (i f : Nat) : Bool := decide (i = 99) || decide (i = 96) || decide (i = 97) || decide (i = 98) || (decide (i = 80) && decide (f = 20))
/-- a predicate that hangs on those places alone -/
def fm_Gd (Gp : fm_V → Prop) : Prop := ∀ V V' : fm_V, (∀ i f, fm_gd i f = true → V' i f = V i f) → Gp V → Gp V'
def fm_gk (M : List (Nat × Nat)) : Bool := M.all (fun q => decide (q.1 ≠ 99 ∧ q.1 ≠ 96 ∧ q.1 ≠ 97 ∧ q.1 ≠ 98) && (decide (q.1 ≠ 80) || (decide (q.2 ≠ 20) && decide (q.2 ≠ 9999))))
theorem fm_gm {Gp : fm_V → Prop} (hG : fm_Gd Gp) {M : List (Nat × Nat)} (h : fm_gk M = true) : ∀ V V' : fm_V, (∀ i f, rv_in M i f = false → V' i f = V i f) → Gp V → Gp V' := by
  intro V V' hV
  refine hG V V' (fun i f hif => hV i f ?_)
  cases hb : rv_in M i f with
  | false => rfl
  | true =>
    simp only [rv_in, List.any_eq_true, Bool.and_eq_true, Bool.or_eq_true, decide_eq_true_eq] at hb
    obtain ⟨q, q1, q2, q3⟩ := hb
    have h1 := List.all_eq_true.mp h q q1
    simp only [fm_gd, Bool.and_eq_true, Bool.or_eq_true, decide_eq_true_eq] at hif h1
    omega
theorem fm_acw : Jvm.Cond.native arraycopyName ∈ fm_Ts ∧ Jvm.Cond.static arraycopyName ∈ fm_Ts ∧ Jvm.Cond.initialized "java/lang/System" ∈ fm_Ts := ⟨fm_mem 634 (by decide +kernel) rfl, fm_mem 633 (by decide +kernel) rfl, fm_mem 102 (by decide +kernel) rfl⟩
theorem wm_X7_isYard : Jvm.Cond.static yX7_isYard ∈ fm_Ts ∧ Jvm.Cond.initialized yX7_isYard.cls ∈ fm_Ts ∧ Jvm.Cond.code yX7_isYard prog_1_method_35_code 1 (some .boolean) ∈ fm_Ts := ⟨fm_mem 425 (by decide +kernel) rfl, fm_mem 86 (by decide +kernel) rfl, fm_mem 426 (by decide +kernel) rfl⟩
theorem wy_X7_isYard : yX7_isYard.cls ≠ "java/lang/invoke/MethodHandle" ∧ yX7_isYard.cls ≠ "java/lang/invoke/VarHandle" ∧ (parseMethodDescriptor yX7_isYard.desc).map (fun d => d.parameters.length) = some 1 := by decide +kernel
theorem wm_X7_isWithin : Jvm.Cond.static yX7_isWithin ∈ fm_Ts ∧ Jvm.Cond.initialized yX7_isWithin.cls ∈ fm_Ts ∧ Jvm.Cond.code yX7_isWithin prog_1_method_34_code 3 (some .boolean) ∈ fm_Ts := ⟨fm_mem 429 (by decide +kernel) rfl, fm_mem 86 (by decide +kernel) rfl, fm_mem 430 (by decide +kernel) rfl⟩
theorem wy_X7_isWithin : yX7_isWithin.cls ≠ "java/lang/invoke/MethodHandle" ∧ yX7_isWithin.cls ≠ "java/lang/invoke/VarHandle" ∧ (parseMethodDescriptor yX7_isWithin.desc).map (fun d => d.parameters.length) = some 3 := by decide +kernel
theorem wm_X7_yard : Jvm.Cond.instanceMethod yX7_yard ∈ fm_Ts ∧ Jvm.Cond.selects RX7 yX7_yard yX7_yard ∈ fm_Ts ∧ Jvm.Cond.initialized RX7 ∈ fm_Ts ∧ Jvm.Cond.code yX7_yard prog_1_method_2_code 5 (some .boolean) ∈ fm_Ts := ⟨fm_mem 421 (by decide +kernel) rfl, fm_mem 422 (by decide +kernel) rfl, fm_mem 86 (by decide +kernel) rfl, fm_mem 423 (by decide +kernel) rfl⟩
theorem wy_X7_yard : yX7_yard.cls = RX7 ∧ yX7_yard.cls ≠ "java/lang/invoke/MethodHandle" ∧ yX7_yard.cls ≠ "java/lang/invoke/VarHandle" ∧ (parseMethodDescriptor yX7_yard.desc).map (fun d => d.parameters.length) = some 4 := by decide +kernel
theorem wm_X7_rain : Jvm.Cond.instanceMethod yX7_rain ∈ fm_Ts ∧ Jvm.Cond.selects RX7 yX7_rain yX7_rain ∈ fm_Ts ∧ Jvm.Cond.initialized RX7 ∈ fm_Ts ∧ Jvm.Cond.code yX7_rain prog_1_method_3_code 3 (some .boolean) ∈ fm_Ts := ⟨fm_mem 432 (by decide +kernel) rfl, fm_mem 433 (by decide +kernel) rfl, fm_mem 86 (by decide +kernel) rfl, fm_mem 434 (by decide +kernel) rfl⟩
theorem wy_X7_rain : yX7_rain.cls = RX7 ∧ yX7_rain.cls ≠ "java/lang/invoke/MethodHandle" ∧ yX7_rain.cls ≠ "java/lang/invoke/VarHandle" ∧ (parseMethodDescriptor yX7_rain.desc).map (fun d => d.parameters.length) = some 2 := by decide +kernel
theorem wm_X7_isPorter : Jvm.Cond.static yX7_isPorter ∈ fm_Ts ∧ Jvm.Cond.initialized yX7_isPorter.cls ∈ fm_Ts ∧ Jvm.Cond.code yX7_isPorter prog_1_method_36_code 1 (some .boolean) ∈ fm_Ts := ⟨fm_mem 440 (by decide +kernel) rfl, fm_mem 86 (by decide +kernel) rfl, fm_mem 441 (by decide +kernel) rfl⟩
theorem wy_X7_isPorter : yX7_isPorter.cls ≠ "java/lang/invoke/MethodHandle" ∧ yX7_isPorter.cls ≠ "java/lang/invoke/VarHandle" ∧ (parseMethodDescriptor yX7_isPorter.desc).map (fun d => d.parameters.length) = some 1 := by decide +kernel
theorem wm_X7_porter : Jvm.Cond.instanceMethod yX7_porter ∈ fm_Ts ∧ Jvm.Cond.selects RX7 yX7_porter yX7_porter ∈ fm_Ts ∧ Jvm.Cond.initialized RX7 ∈ fm_Ts ∧ Jvm.Cond.code yX7_porter prog_1_method_4_code 6 (some .boolean) ∈ fm_Ts := ⟨fm_mem 436 (by decide +kernel) rfl, fm_mem 437 (by decide +kernel) rfl, fm_mem 86 (by decide +kernel) rfl, fm_mem 438 (by decide +kernel) rfl⟩
theorem wy_X7_porter : yX7_porter.cls = RX7 ∧ yX7_porter.cls ≠ "java/lang/invoke/MethodHandle" ∧ yX7_porter.cls ≠ "java/lang/invoke/VarHandle" ∧ (parseMethodDescriptor yX7_porter.desc).map (fun d => d.parameters.length) = some 5 := by decide +kernel
theorem wm_X7_licence : Jvm.Cond.instanceMethod yX7_licence ∈ fm_Ts ∧ Jvm.Cond.selects RX7 yX7_licence yX7_licence ∈ fm_Ts ∧ Jvm.Cond.initialized RX7 ∈ fm_Ts ∧ Jvm.Cond.code yX7_licence prog_1_method_5_code 3 (some .boolean) ∈ fm_Ts := ⟨fm_mem 443 (by decide +kernel) rfl, fm_mem 444 (by decide +kernel) rfl, fm_mem 86 (by decide +kernel) rfl, fm_mem 445 (by decide +kernel) rfl⟩
theorem wy_X7_licence : yX7_licence.cls = RX7 ∧ yX7_licence.cls ≠ "java/lang/invoke/MethodHandle" ∧ yX7_licence.cls ≠ "java/lang/invoke/VarHandle" ∧ (parseMethodDescriptor yX7_licence.desc).map (fun d => d.parameters.length) = some 2 := by decide +kernel
theorem wm_X7_isBeggar : Jvm.Cond.static yX7_isBeggar ∈ fm_Ts ∧ Jvm.Cond.initialized yX7_isBeggar.cls ∈ fm_Ts ∧ Jvm.Cond.code yX7_isBeggar prog_1_method_37_code 1 (some .boolean) ∈ fm_Ts := ⟨fm_mem 451 (by decide +kernel) rfl, fm_mem 86 (by decide +kernel) rfl, fm_mem 452 (by decide +kernel) rfl⟩
theorem wy_X7_isBeggar : yX7_isBeggar.cls ≠ "java/lang/invoke/MethodHandle" ∧ yX7_isBeggar.cls ≠ "java/lang/invoke/VarHandle" ∧ (parseMethodDescriptor yX7_isBeggar.desc).map (fun d => d.parameters.length) = some 1 := by decide +kernel
theorem wm_X7_skill : Jvm.Cond.instanceMethod yX7_skill ∈ fm_Ts ∧ Jvm.Cond.selects RX7 yX7_skill yX7_skill ∈ fm_Ts ∧ Jvm.Cond.initialized RX7 ∈ fm_Ts ∧ Jvm.Cond.code yX7_skill prog_1_method_6_code 3 (some .boolean) ∈ fm_Ts := ⟨fm_mem 447 (by decide +kernel) rfl, fm_mem 448 (by decide +kernel) rfl, fm_mem 86 (by decide +kernel) rfl, fm_mem 449 (by decide +kernel) rfl⟩
theorem wy_X7_skill : yX7_skill.cls = RX7 ∧ yX7_skill.cls ≠ "java/lang/invoke/MethodHandle" ∧ yX7_skill.cls ≠ "java/lang/invoke/VarHandle" ∧ (parseMethodDescriptor yX7_skill.desc).map (fun d => d.parameters.length) = some 2 := by decide +kernel
theorem wm_X6_hasRoom : Jvm.Cond.instanceMethod yX6_hasRoom ∈ fm_Ts ∧ Jvm.Cond.selects RX6 yX6_hasRoom yX6_hasRoom ∈ fm_Ts ∧ Jvm.Cond.initialized RX6 ∈ fm_Ts ∧ Jvm.Cond.code yX6_hasRoom prog_8_method_2_code 2 (some .boolean) ∈ fm_Ts := ⟨fm_mem 458 (by decide +kernel) rfl, fm_mem 459 (by decide +kernel) rfl, fm_mem 87 (by decide +kernel) rfl, fm_mem 460 (by decide +kernel) rfl⟩
theorem wy_X6_hasRoom : yX6_hasRoom.cls = RX6 ∧ yX6_hasRoom.cls ≠ "java/lang/invoke/MethodHandle" ∧ yX6_hasRoom.cls ≠ "java/lang/invoke/VarHandle" ∧ (parseMethodDescriptor yX6_hasRoom.desc).map (fun d => d.parameters.length) = some 1 := by decide +kernel
theorem wm_X6_putNumber : Jvm.Cond.instanceMethod yX6_putNumber ∈ fm_Ts ∧ Jvm.Cond.selects RX6 yX6_putNumber yX6_putNumber ∈ fm_Ts ∧ Jvm.Cond.initialized RX6 ∈ fm_Ts ∧ Jvm.Cond.code yX6_putNumber prog_8_method_3_code 3 none ∈ fm_Ts := ⟨fm_mem 462 (by decide +kernel) rfl, fm_mem 463 (by decide +kernel) rfl, fm_mem 87 (by decide +kernel) rfl, fm_mem 464 (by decide +kernel) rfl⟩
theorem wy_X6_putNumber : yX6_putNumber.cls = RX6 ∧ yX6_putNumber.cls ≠ "java/lang/invoke/MethodHandle" ∧ yX6_putNumber.cls ≠ "java/lang/invoke/VarHandle" ∧ (parseMethodDescriptor yX6_putNumber.desc).map (fun d => d.parameters.length) = some 1 := by decide +kernel
theorem wm_X7_feed : Jvm.Cond.instanceMethod yX7_feed ∈ fm_Ts ∧ Jvm.Cond.selects RX7 yX7_feed yX7_feed ∈ fm_Ts ∧ Jvm.Cond.initialized RX7 ∈ fm_Ts ∧ Jvm.Cond.code yX7_feed prog_1_method_7_code 6 (some .int) ∈ fm_Ts := ⟨fm_mem 454 (by decide +kernel) rfl, fm_mem 455 (by decide +kernel) rfl, fm_mem 86 (by decide +kernel) rfl, fm_mem 456 (by decide +kernel) rfl⟩
theorem wy_X7_feed : yX7_feed.cls = RX7 ∧ yX7_feed.cls ≠ "java/lang/invoke/MethodHandle" ∧ yX7_feed.cls ≠ "java/lang/invoke/VarHandle" ∧ (parseMethodDescriptor yX7_feed.desc).map (fun d => d.parameters.length) = some 5 := by decide +kernel
theorem wm_X1_clear : Jvm.Cond.instanceMethod yX1_clear ∈ fm_Ts ∧ Jvm.Cond.selects RX1 yX1_clear yX1_clear ∈ fm_Ts ∧ Jvm.Cond.initialized RX1 ∈ fm_Ts ∧ Jvm.Cond.code yX1_clear prog_3_method_3_code 1 none ∈ fm_Ts := ⟨fm_mem 474 (by decide +kernel) rfl, fm_mem 475 (by decide +kernel) rfl, fm_mem 88 (by decide +kernel) rfl, fm_mem 476 (by decide +kernel) rfl⟩
theorem wy_X1_clear : yX1_clear.cls = RX1 ∧ yX1_clear.cls ≠ "java/lang/invoke/MethodHandle" ∧ yX1_clear.cls ≠ "java/lang/invoke/VarHandle" ∧ (parseMethodDescriptor yX1_clear.desc).map (fun d => d.parameters.length) = some 0 := by decide +kernel
theorem wm_X3_next : Jvm.Cond.instanceMethod yX3_next ∈ fm_Ts ∧ Jvm.Cond.selects RX3 yX3_next yX3_next ∈ fm_Ts ∧ Jvm.Cond.initialized RX3 ∈ fm_Ts ∧ Jvm.Cond.code yX3_next prog_5_method_3_code 1 (some .int) ∈ fm_Ts := ⟨fm_mem 483 (by decide +kernel) rfl, fm_mem 1 (by decide +kernel) rfl, fm_mem 89 (by decide +kernel) rfl, fm_mem 484 (by decide +kernel) rfl⟩
theorem wy_X3_next : yX3_next.cls = RX3 ∧ yX3_next.cls ≠ "java/lang/invoke/MethodHandle" ∧ yX3_next.cls ≠ "java/lang/invoke/VarHandle" ∧ (parseMethodDescriptor yX3_next.desc).map (fun d => d.parameters.length) = some 0 := by decide +kernel
theorem wm_X3_fail : Jvm.Cond.instanceMethod yX3_fail ∈ fm_Ts ∧ Jvm.Cond.selects RX3 yX3_fail yX3_fail ∈ fm_Ts ∧ Jvm.Cond.initialized RX3 ∈ fm_Ts ∧ Jvm.Cond.code yX3_fail prog_5_method_4_code 2 (some .boolean) ∈ fm_Ts := ⟨fm_mem 574 (by decide +kernel) rfl, fm_mem 2 (by decide +kernel) rfl, fm_mem 89 (by decide +kernel) rfl, fm_mem 575 (by decide +kernel) rfl⟩
theorem wy_X3_fail : yX3_fail.cls = RX3 ∧ yX3_fail.cls ≠ "java/lang/invoke/MethodHandle" ∧ yX3_fail.cls ≠ "java/lang/invoke/VarHandle" ∧ (parseMethodDescriptor yX3_fail.desc).map (fun d => d.parameters.length) = some 1 := by decide +kernel
theorem wm_X3_open : Jvm.Cond.instanceMethod yX3_open ∈ fm_Ts ∧ Jvm.Cond.selects RX3 yX3_open yX3_open ∈ fm_Ts ∧ Jvm.Cond.initialized RX3 ∈ fm_Ts ∧ Jvm.Cond.code yX3_open prog_5_method_6_code 3 (some .boolean) ∈ fm_Ts := ⟨fm_mem 590 (by decide +kernel) rfl, fm_mem 6 (by decide +kernel) rfl, fm_mem 89 (by decide +kernel) rfl, fm_mem 591 (by decide +kernel) rfl⟩
theorem wy_X3_open : yX3_open.cls = RX3 ∧ yX3_open.cls ≠ "java/lang/invoke/MethodHandle" ∧ yX3_open.cls ≠ "java/lang/invoke/VarHandle" ∧ (parseMethodDescriptor yX3_open.desc).map (fun d => d.parameters.length) = some 2 := by decide +kernel
theorem wm_X3_isDigit : Jvm.Cond.static yX3_isDigit ∈ fm_Ts ∧ Jvm.Cond.initialized yX3_isDigit.cls ∈ fm_Ts ∧ Jvm.Cond.code yX3_isDigit prog_5_method_16_code 1 (some .boolean) ∈ fm_Ts := ⟨fm_mem 597 (by decide +kernel) rfl, fm_mem 89 (by decide +kernel) rfl, fm_mem 598 (by decide +kernel) rfl⟩
theorem wy_X3_isDigit : yX3_isDigit.cls ≠ "java/lang/invoke/MethodHandle" ∧ yX3_isDigit.cls ≠ "java/lang/invoke/VarHandle" ∧ (parseMethodDescriptor yX3_isDigit.desc).map (fun d => d.parameters.length) = some 1 := by decide +kernel
theorem wm_X1_putStep : Jvm.Cond.instanceMethod yX1_putStep ∈ fm_Ts ∧ Jvm.Cond.selects RX1 yX1_putStep yX1_putStep ∈ fm_Ts ∧ Jvm.Cond.initialized RX1 ∈ fm_Ts ∧ Jvm.Cond.code yX1_putStep prog_3_method_4_code 3 (some .int) ∈ fm_Ts := ⟨fm_mem 604 (by decide +kernel) rfl, fm_mem 605 (by decide +kernel) rfl, fm_mem 88 (by decide +kernel) rfl, fm_mem 606 (by decide +kernel) rfl⟩
theorem wy_X1_putStep : yX1_putStep.cls = RX1 ∧ yX1_putStep.cls ≠ "java/lang/invoke/MethodHandle" ∧ yX1_putStep.cls ≠ "java/lang/invoke/VarHandle" ∧ (parseMethodDescriptor yX1_putStep.desc).map (fun d => d.parameters.length) = some 2 := by decide +kernel
theorem wm_X3_readNumber : Jvm.Cond.instanceMethod yX3_readNumber ∈ fm_Ts ∧ Jvm.Cond.selects RX3 yX3_readNumber yX3_readNumber ∈ fm_Ts ∧ Jvm.Cond.initialized RX3 ∈ fm_Ts ∧ Jvm.Cond.code yX3_readNumber prog_5_method_15_code 3 (some .boolean) ∈ fm_Ts := ⟨fm_mem 601 (by decide +kernel) rfl, fm_mem 8 (by decide +kernel) rfl, fm_mem 89 (by decide +kernel) rfl, fm_mem 602 (by decide +kernel) rfl⟩
theorem wy_X3_readNumber : yX3_readNumber.cls = RX3 ∧ yX3_readNumber.cls ≠ "java/lang/invoke/MethodHandle" ∧ yX3_readNumber.cls ≠ "java/lang/invoke/VarHandle" ∧ (parseMethodDescriptor yX3_readNumber.desc).map (fun d => d.parameters.length) = some 0 := by decide +kernel
theorem wm_X3_readFactor : Jvm.Cond.instanceMethod yX3_readFactor ∈ fm_Ts ∧ Jvm.Cond.selects RX3 yX3_readFactor yX3_readFactor ∈ fm_Ts ∧ Jvm.Cond.initialized RX3 ∈ fm_Ts ∧ Jvm.Cond.code yX3_readFactor prog_5_method_14_code 4 (some .boolean) ∈ fm_Ts := ⟨fm_mem 586 (by decide +kernel) rfl, fm_mem 5 (by decide +kernel) rfl, fm_mem 89 (by decide +kernel) rfl, fm_mem 587 (by decide +kernel) rfl⟩
theorem wy_X3_readFactor : yX3_readFactor.cls = RX3 ∧ yX3_readFactor.cls ≠ "java/lang/invoke/MethodHandle" ∧ yX3_readFactor.cls ≠ "java/lang/invoke/VarHandle" ∧ (parseMethodDescriptor yX3_readFactor.desc).map (fun d => d.parameters.length) = some 1 := by decide +kernel
theorem wm_X3_readTerm : Jvm.Cond.instanceMethod yX3_readTerm ∈ fm_Ts ∧ Jvm.Cond.selects RX3 yX3_readTerm yX3_readTerm ∈ fm_Ts ∧ Jvm.Cond.initialized RX3 ∈ fm_Ts ∧ Jvm.Cond.code yX3_readTerm prog_5_method_13_code 4 (some .boolean) ∈ fm_Ts := ⟨fm_mem 582 (by decide +kernel) rfl, fm_mem 4 (by decide +kernel) rfl, fm_mem 89 (by decide +kernel) rfl, fm_mem 583 (by decide +kernel) rfl⟩
theorem wy_X3_readTerm : yX3_readTerm.cls = RX3 ∧ yX3_readTerm.cls ≠ "java/lang/invoke/MethodHandle" ∧ yX3_readTerm.cls ≠ "java/lang/invoke/VarHandle" ∧ (parseMethodDescriptor yX3_readTerm.desc).map (fun d => d.parameters.length) = some 1 := by decide +kernel
theorem wm_X3_readSum : Jvm.Cond.instanceMethod yX3_readSum ∈ fm_Ts ∧ Jvm.Cond.selects RX3 yX3_readSum yX3_readSum ∈ fm_Ts ∧ Jvm.Cond.initialized RX3 ∈ fm_Ts ∧ Jvm.Cond.code yX3_readSum prog_5_method_12_code 4 (some .boolean) ∈ fm_Ts := ⟨fm_mem 578 (by decide +kernel) rfl, fm_mem 3 (by decide +kernel) rfl, fm_mem 89 (by decide +kernel) rfl, fm_mem 579 (by decide +kernel) rfl⟩
theorem wy_X3_readSum : yX3_readSum.cls = RX3 ∧ yX3_readSum.cls ≠ "java/lang/invoke/MethodHandle" ∧ yX3_readSum.cls ≠ "java/lang/invoke/VarHandle" ∧ (parseMethodDescriptor yX3_readSum.desc).map (fun d => d.parameters.length) = some 1 := by decide +kernel
theorem wm_X3_close : Jvm.Cond.instanceMethod yX3_close ∈ fm_Ts ∧ Jvm.Cond.selects RX3 yX3_close yX3_close ∈ fm_Ts ∧ Jvm.Cond.initialized RX3 ∈ fm_Ts ∧ Jvm.Cond.code yX3_close prog_5_method_5_code 2 (some .boolean) ∈ fm_Ts := ⟨fm_mem 594 (by decide +kernel) rfl, fm_mem 7 (by decide +kernel) rfl, fm_mem 89 (by decide +kernel) rfl, fm_mem 595 (by decide +kernel) rfl⟩
theorem wy_X3_close : yX3_close.cls = RX3 ∧ yX3_close.cls ≠ "java/lang/invoke/MethodHandle" ∧ yX3_close.cls ≠ "java/lang/invoke/VarHandle" ∧ (parseMethodDescriptor yX3_close.desc).map (fun d => d.parameters.length) = some 1 := by decide +kernel
theorem wm_X3_readPiece : Jvm.Cond.instanceMethod yX3_readPiece ∈ fm_Ts ∧ Jvm.Cond.selects RX3 yX3_readPiece yX3_readPiece ∈ fm_Ts ∧ Jvm.Cond.initialized RX3 ∈ fm_Ts ∧ Jvm.Cond.code yX3_readPiece prog_5_method_11_code 4 (some .boolean) ∈ fm_Ts := ⟨fm_mem 618 (by decide +kernel) rfl, fm_mem 11 (by decide +kernel) rfl, fm_mem 89 (by decide +kernel) rfl, fm_mem 619 (by decide +kernel) rfl⟩
theorem wy_X3_readPiece : yX3_readPiece.cls = RX3 ∧ yX3_readPiece.cls ≠ "java/lang/invoke/MethodHandle" ∧ yX3_readPiece.cls ≠ "java/lang/invoke/VarHandle" ∧ (parseMethodDescriptor yX3_readPiece.desc).map (fun d => d.parameters.length) = some 1 := by decide +kernel
theorem wm_X1_leadToEnd : Jvm.Cond.instanceMethod yX1_leadToEnd ∈ fm_Ts ∧ Jvm.Cond.selects RX1 yX1_leadToEnd yX1_leadToEnd ∈ fm_Ts ∧ Jvm.Cond.initialized RX1 ∈ fm_Ts ∧ Jvm.Cond.code yX1_leadToEnd prog_3_method_5_code 2 none ∈ fm_Ts := ⟨fm_mem 621 (by decide +kernel) rfl, fm_mem 622 (by decide +kernel) rfl, fm_mem 88 (by decide +kernel) rfl, fm_mem 623 (by decide +kernel) rfl⟩
theorem wy_X1_leadToEnd : yX1_leadToEnd.cls = RX1 ∧ yX1_leadToEnd.cls ≠ "java/lang/invoke/MethodHandle" ∧ yX1_leadToEnd.cls ≠ "java/lang/invoke/VarHandle" ∧ (parseMethodDescriptor yX1_leadToEnd.desc).map (fun d => d.parameters.length) = some 1 := by decide +kernel
theorem wm_X3_readPieces : Jvm.Cond.instanceMethod yX3_readPieces ∈ fm_Ts ∧ Jvm.Cond.selects RX3 yX3_readPieces yX3_readPieces ∈ fm_Ts ∧ Jvm.Cond.initialized RX3 ∈ fm_Ts ∧ Jvm.Cond.code yX3_readPieces prog_5_method_10_code 4 (some .boolean) ∈ fm_Ts := ⟨fm_mem 614 (by decide +kernel) rfl, fm_mem 10 (by decide +kernel) rfl, fm_mem 89 (by decide +kernel) rfl, fm_mem 615 (by decide +kernel) rfl⟩
theorem wy_X3_readPieces : yX3_readPieces.cls = RX3 ∧ yX3_readPieces.cls ≠ "java/lang/invoke/MethodHandle" ∧ yX3_readPieces.cls ≠ "java/lang/invoke/VarHandle" ∧ (parseMethodDescriptor yX3_readPieces.desc).map (fun d => d.parameters.length) = some 1 := by decide +kernel
theorem wm_X3_readParts : Jvm.Cond.instanceMethod yX3_readParts ∈ fm_Ts ∧ Jvm.Cond.selects RX3 yX3_readParts yX3_readParts ∈ fm_Ts ∧ Jvm.Cond.initialized RX3 ∈ fm_Ts ∧ Jvm.Cond.code yX3_readParts prog_5_method_9_code 4 (some .boolean) ∈ fm_Ts := ⟨fm_mem 610 (by decide +kernel) rfl, fm_mem 9 (by decide +kernel) rfl, fm_mem 89 (by decide +kernel) rfl, fm_mem 611 (by decide +kernel) rfl⟩
theorem wy_X3_readParts : yX3_readParts.cls = RX3 ∧ yX3_readParts.cls ≠ "java/lang/invoke/MethodHandle" ∧ yX3_readParts.cls ≠ "java/lang/invoke/VarHandle" ∧ (parseMethodDescriptor yX3_readParts.desc).map (fun d => d.parameters.length) = some 1 := by decide +kernel
theorem wm_X3_seesDust : Jvm.Cond.instanceMethod yX3_seesDust ∈ fm_Ts ∧ Jvm.Cond.selects RX3 yX3_seesDust yX3_seesDust ∈ fm_Ts ∧ Jvm.Cond.initialized RX3 ∈ fm_Ts ∧ Jvm.Cond.code yX3_seesDust prog_5_method_8_code 3 (some .boolean) ∈ fm_Ts := ⟨fm_mem 626 (by decide +kernel) rfl, fm_mem 12 (by decide +kernel) rfl, fm_mem 89 (by decide +kernel) rfl, fm_mem 627 (by decide +kernel) rfl⟩
theorem wy_X3_seesDust : yX3_seesDust.cls = RX3 ∧ yX3_seesDust.cls ≠ "java/lang/invoke/MethodHandle" ∧ yX3_seesDust.cls ≠ "java/lang/invoke/VarHandle" ∧ (parseMethodDescriptor yX3_seesDust.desc).map (fun d => d.parameters.length) = some 1 := by decide +kernel
theorem wm_X3_readClause : Jvm.Cond.instanceMethod yX3_readClause ∈ fm_Ts ∧ Jvm.Cond.selects RX3 yX3_readClause yX3_readClause ∈ fm_Ts ∧ Jvm.Cond.initialized RX3 ∈ fm_Ts ∧ Jvm.Cond.code yX3_readClause prog_5_method_7_code 3 (some .boolean) ∈ fm_Ts := ⟨fm_mem 479 (by decide +kernel) rfl, fm_mem 0 (by decide +kernel) rfl, fm_mem 89 (by decide +kernel) rfl, fm_mem 480 (by decide +kernel) rfl⟩
theorem wy_X3_readClause : yX3_readClause.cls = RX3 ∧ yX3_readClause.cls ≠ "java/lang/invoke/MethodHandle" ∧ yX3_readClause.cls ≠ "java/lang/invoke/VarHandle" ∧ (parseMethodDescriptor yX3_readClause.desc).map (fun d => d.parameters.length) = some 0 := by decide +kernel
theorem wm_X3_readText : Jvm.Cond.instanceMethod yX3_readText ∈ fm_Ts ∧ Jvm.Cond.selects RX3 yX3_readText yX3_readText ∈ fm_Ts ∧ Jvm.Cond.initialized RX3 ∈ fm_Ts ∧ Jvm.Cond.code yX3_readText prog_5_method_2_code 4 (some .int) ∈ fm_Ts := ⟨fm_mem 470 (by decide +kernel) rfl, fm_mem 471 (by decide +kernel) rfl, fm_mem 89 (by decide +kernel) rfl, fm_mem 472 (by decide +kernel) rfl⟩
theorem wy_X3_readText : yX3_readText.cls = RX3 ∧ yX3_readText.cls ≠ "java/lang/invoke/MethodHandle" ∧ yX3_readText.cls ≠ "java/lang/invoke/VarHandle" ∧ (parseMethodDescriptor yX3_readText.desc).map (fun d => d.parameters.length) = some 1 := by decide +kernel
theorem wm_X1_take : Jvm.Cond.instanceMethod yX1_take ∈ fm_Ts ∧ Jvm.Cond.selects RX1 yX1_take yX1_take ∈ fm_Ts ∧ Jvm.Cond.initialized RX1 ∈ fm_Ts ∧ Jvm.Cond.code yX1_take prog_3_method_2_code 2 none ∈ fm_Ts := ⟨fm_mem 629 (by decide +kernel) rfl, fm_mem 630 (by decide +kernel) rfl, fm_mem 88 (by decide +kernel) rfl, fm_mem 631 (by decide +kernel) rfl⟩
theorem wy_X1_take : yX1_take.cls = RX1 ∧ yX1_take.cls ≠ "java/lang/invoke/MethodHandle" ∧ yX1_take.cls ≠ "java/lang/invoke/VarHandle" ∧ (parseMethodDescriptor yX1_take.desc).map (fun d => d.parameters.length) = some 1 := by decide +kernel
theorem wm_X7_law : Jvm.Cond.instanceMethod yX7_law ∈ fm_Ts ∧ Jvm.Cond.selects RX7 yX7_law yX7_law ∈ fm_Ts ∧ Jvm.Cond.initialized RX7 ∈ fm_Ts ∧ Jvm.Cond.code yX7_law prog_1_method_8_code 3 (some .int) ∈ fm_Ts := ⟨fm_mem 466 (by decide +kernel) rfl, fm_mem 467 (by decide +kernel) rfl, fm_mem 86 (by decide +kernel) rfl, fm_mem 468 (by decide +kernel) rfl⟩
theorem wy_X7_law : yX7_law.cls = RX7 ∧ yX7_law.cls ≠ "java/lang/invoke/MethodHandle" ∧ yX7_law.cls ≠ "java/lang/invoke/VarHandle" ∧ (parseMethodDescriptor yX7_law.desc).map (fun d => d.parameters.length) = some 1 := by decide +kernel
theorem wm_X0_nextDraw : Jvm.Cond.instanceMethod yX0_nextDraw ∈ fm_Ts ∧ Jvm.Cond.selects RX0 yX0_nextDraw yX0_nextDraw ∈ fm_Ts ∧ Jvm.Cond.initialized RX0 ∈ fm_Ts ∧ Jvm.Cond.code yX0_nextDraw prog_2_method_8_code 1 (some .int) ∈ fm_Ts := ⟨fm_mem 645 (by decide +kernel) rfl, fm_mem 646 (by decide +kernel) rfl, fm_mem 90 (by decide +kernel) rfl, fm_mem 647 (by decide +kernel) rfl⟩
theorem wy_X0_nextDraw : yX0_nextDraw.cls = RX0 ∧ yX0_nextDraw.cls ≠ "java/lang/invoke/MethodHandle" ∧ yX0_nextDraw.cls ≠ "java/lang/invoke/VarHandle" ∧ (parseMethodDescriptor yX0_nextDraw.desc).map (fun d => d.parameters.length) = some 0 := by decide +kernel
theorem wm_X2_climbs : Jvm.Cond.instanceMethod yX2_climbs ∈ fm_Ts ∧ Jvm.Cond.selects RX2 yX2_climbs yX2_climbs ∈ fm_Ts ∧ Jvm.Cond.initialized RX2 ∈ fm_Ts ∧ Jvm.Cond.code yX2_climbs prog_4_method_5_code 2 (some .boolean) ∈ fm_Ts := ⟨fm_mem 663 (by decide +kernel) rfl, fm_mem 664 (by decide +kernel) rfl, fm_mem 91 (by decide +kernel) rfl, fm_mem 665 (by decide +kernel) rfl⟩
theorem wy_X2_climbs : yX2_climbs.cls = RX2 ∧ yX2_climbs.cls ≠ "java/lang/invoke/MethodHandle" ∧ yX2_climbs.cls ≠ "java/lang/invoke/VarHandle" ∧ (parseMethodDescriptor yX2_climbs.desc).map (fun d => d.parameters.length) = some 1 := by decide +kernel
theorem wm_X1_forgetWho : Jvm.Cond.instanceMethod yX1_forgetWho ∈ fm_Ts ∧ Jvm.Cond.selects RX1 yX1_forgetWho yX1_forgetWho ∈ fm_Ts ∧ Jvm.Cond.initialized RX1 ∈ fm_Ts ∧ Jvm.Cond.code yX1_forgetWho prog_3_method_6_code 2 none ∈ fm_Ts := ⟨fm_mem 668 (by decide +kernel) rfl, fm_mem 669 (by decide +kernel) rfl, fm_mem 88 (by decide +kernel) rfl, fm_mem 670 (by decide +kernel) rfl⟩
theorem wy_X1_forgetWho : yX1_forgetWho.cls = RX1 ∧ yX1_forgetWho.cls ≠ "java/lang/invoke/MethodHandle" ∧ yX1_forgetWho.cls ≠ "java/lang/invoke/VarHandle" ∧ (parseMethodDescriptor yX1_forgetWho.desc).map (fun d => d.parameters.length) = some 0 := by decide +kernel
theorem wm_X0_show : Jvm.Cond.instanceMethod yX0_show ∈ fm_Ts ∧ Jvm.Cond.selects RX0 yX0_show yX0_show ∈ fm_Ts ∧ Jvm.Cond.initialized RX0 ∈ fm_Ts ∧ Jvm.Cond.code yX0_show prog_2_method_12_code 3 none ∈ fm_Ts := ⟨fm_mem 673 (by decide +kernel) rfl, fm_mem 14 (by decide +kernel) rfl, fm_mem 90 (by decide +kernel) rfl, fm_mem 674 (by decide +kernel) rfl⟩
theorem wy_X0_show : yX0_show.cls = RX0 ∧ yX0_show.cls ≠ "java/lang/invoke/MethodHandle" ∧ yX0_show.cls ≠ "java/lang/invoke/VarHandle" ∧ (parseMethodDescriptor yX0_show.desc).map (fun d => d.parameters.length) = some 2 := by decide +kernel
theorem wm_X2_countAt : Jvm.Cond.instanceMethod yX2_countAt ∈ fm_Ts ∧ Jvm.Cond.selects RX2 yX2_countAt yX2_countAt ∈ fm_Ts ∧ Jvm.Cond.initialized RX2 ∈ fm_Ts ∧ Jvm.Cond.code yX2_countAt prog_4_method_7_code 4 (some .int) ∈ fm_Ts := ⟨fm_mem 677 (by decide +kernel) rfl, fm_mem 678 (by decide +kernel) rfl, fm_mem 91 (by decide +kernel) rfl, fm_mem 679 (by decide +kernel) rfl⟩
theorem wy_X2_countAt : yX2_countAt.cls = RX2 ∧ yX2_countAt.cls ≠ "java/lang/invoke/MethodHandle" ∧ yX2_countAt.cls ≠ "java/lang/invoke/VarHandle" ∧ (parseMethodDescriptor yX2_countAt.desc).map (fun d => d.parameters.length) = some 1 := by decide +kernel
theorem wm_X1_reckon : Jvm.Cond.instanceMethod yX1_reckon ∈ fm_Ts ∧ Jvm.Cond.selects RX1 yX1_reckon yX1_reckon ∈ fm_Ts ∧ Jvm.Cond.initialized RX1 ∈ fm_Ts ∧ Jvm.Cond.code yX1_reckon prog_3_method_9_code 9 (some .int) ∈ fm_Ts := ⟨fm_mem 686 (by decide +kernel) rfl, fm_mem 15 (by decide +kernel) rfl, fm_mem 88 (by decide +kernel) rfl, fm_mem 687 (by decide +kernel) rfl⟩
theorem wy_X1_reckon : yX1_reckon.cls = RX1 ∧ yX1_reckon.cls ≠ "java/lang/invoke/MethodHandle" ∧ yX1_reckon.cls ≠ "java/lang/invoke/VarHandle" ∧ (parseMethodDescriptor yX1_reckon.desc).map (fun d => d.parameters.length) = some 2 := by decide +kernel
theorem wm_J9_min_7cf53 : Jvm.Cond.static yJ9_min_7cf53 ∈ fm_Ts ∧ Jvm.Cond.initialized yJ9_min_7cf53.cls ∈ fm_Ts ∧ Jvm.Cond.code yJ9_min_7cf53 prog_13_method_69_code 2 (some .int) ∈ fm_Ts := ⟨fm_mem 518 (by decide +kernel) rfl, fm_mem 98 (by decide +kernel) rfl, fm_mem 519 (by decide +kernel) rfl⟩
theorem wy_J9_min_7cf53 : yJ9_min_7cf53.cls ≠ "java/lang/invoke/MethodHandle" ∧ yJ9_min_7cf53.cls ≠ "java/lang/invoke/VarHandle" ∧ (parseMethodDescriptor yJ9_min_7cf53.desc).map (fun d => d.parameters.length) = some 2 := by decide +kernel
theorem wm_J9_max_7cf53 : Jvm.Cond.static yJ9_max_7cf53 ∈ fm_Ts ∧ Jvm.Cond.initialized yJ9_max_7cf53.cls ∈ fm_Ts ∧ Jvm.Cond.code yJ9_max_7cf53 prog_13_method_65_code 2 (some .int) ∈ fm_Ts := ⟨fm_mem 515 (by decide +kernel) rfl, fm_mem 98 (by decide +kernel) rfl, fm_mem 516 (by decide +kernel) rfl⟩
theorem wy_J9_max_7cf53 : yJ9_max_7cf53.cls ≠ "java/lang/invoke/MethodHandle" ∧ yJ9_max_7cf53.cls ≠ "java/lang/invoke/VarHandle" ∧ (parseMethodDescriptor yJ9_max_7cf53.desc).map (fun d => d.parameters.length) = some 2 := by decide +kernel
theorem wm_X1_amount : Jvm.Cond.instanceMethod yX1_amount ∈ fm_Ts ∧ Jvm.Cond.selects RX1 yX1_amount yX1_amount ∈ fm_Ts ∧ Jvm.Cond.initialized RX1 ∈ fm_Ts ∧ Jvm.Cond.code yX1_amount prog_3_method_8_code 3 (some .int) ∈ fm_Ts := ⟨fm_mem 681 (by decide +kernel) rfl, fm_mem 682 (by decide +kernel) rfl, fm_mem 88 (by decide +kernel) rfl, fm_mem 683 (by decide +kernel) rfl⟩
theorem wy_X1_amount : yX1_amount.cls = RX1 ∧ yX1_amount.cls ≠ "java/lang/invoke/MethodHandle" ∧ yX1_amount.cls ≠ "java/lang/invoke/VarHandle" ∧ (parseMethodDescriptor yX1_amount.desc).map (fun d => d.parameters.length) = some 1 := by decide +kernel
theorem wm_X0_loss : Jvm.Cond.instanceMethod yX0_loss ∈ fm_Ts ∧ Jvm.Cond.selects RX0 yX0_loss yX0_loss ∈ fm_Ts ∧ Jvm.Cond.initialized RX0 ∈ fm_Ts ∧ Jvm.Cond.code yX0_loss prog_2_method_11_code 5 (some .int) ∈ fm_Ts := ⟨fm_mem 658 (by decide +kernel) rfl, fm_mem 659 (by decide +kernel) rfl, fm_mem 90 (by decide +kernel) rfl, fm_mem 660 (by decide +kernel) rfl⟩
theorem wy_X0_loss : yX0_loss.cls = RX0 ∧ yX0_loss.cls ≠ "java/lang/invoke/MethodHandle" ∧ yX0_loss.cls ≠ "java/lang/invoke/VarHandle" ∧ (parseMethodDescriptor yX0_loss.desc).map (fun d => d.parameters.length) = some 3 := by decide +kernel
theorem wm_X0_heap : Jvm.Cond.instanceMethod yX0_heap ∈ fm_Ts ∧ Jvm.Cond.selects RX0 yX0_heap yX0_heap ∈ fm_Ts ∧ Jvm.Cond.initialized RX0 ∈ fm_Ts ∧ Jvm.Cond.code yX0_heap prog_2_method_13_code 5 none ∈ fm_Ts := ⟨fm_mem 693 (by decide +kernel) rfl, fm_mem 16 (by decide +kernel) rfl, fm_mem 90 (by decide +kernel) rfl, fm_mem 694 (by decide +kernel) rfl⟩
theorem wy_X0_heap : yX0_heap.cls = RX0 ∧ yX0_heap.cls ≠ "java/lang/invoke/MethodHandle" ∧ yX0_heap.cls ≠ "java/lang/invoke/VarHandle" ∧ (parseMethodDescriptor yX0_heap.desc).map (fun d => d.parameters.length) = some 2 := by decide +kernel
theorem wm_X0_spill : Jvm.Cond.instanceMethod yX0_spill ∈ fm_Ts ∧ Jvm.Cond.selects RX0 yX0_spill yX0_spill ∈ fm_Ts ∧ Jvm.Cond.initialized RX0 ∈ fm_Ts ∧ Jvm.Cond.code yX0_spill prog_2_method_10_code 7 (some .int) ∈ fm_Ts := ⟨fm_mem 655 (by decide +kernel) rfl, fm_mem 13 (by decide +kernel) rfl, fm_mem 90 (by decide +kernel) rfl, fm_mem 656 (by decide +kernel) rfl⟩
theorem wy_X0_spill : yX0_spill.cls = RX0 ∧ yX0_spill.cls ≠ "java/lang/invoke/MethodHandle" ∧ yX0_spill.cls ≠ "java/lang/invoke/VarHandle" ∧ (parseMethodDescriptor yX0_spill.desc).map (fun d => d.parameters.length) = some 2 := by decide +kernel
theorem wm_X0_climb : Jvm.Cond.instanceMethod yX0_climb ∈ fm_Ts ∧ Jvm.Cond.selects RX0 yX0_climb yX0_climb ∈ fm_Ts ∧ Jvm.Cond.initialized RX0 ∈ fm_Ts ∧ Jvm.Cond.code yX0_climb prog_2_method_14_code 2 none ∈ fm_Ts := ⟨fm_mem 698 (by decide +kernel) rfl, fm_mem 17 (by decide +kernel) rfl, fm_mem 90 (by decide +kernel) rfl, fm_mem 699 (by decide +kernel) rfl⟩
theorem wy_X0_climb : yX0_climb.cls = RX0 ∧ yX0_climb.cls ≠ "java/lang/invoke/MethodHandle" ∧ yX0_climb.cls ≠ "java/lang/invoke/VarHandle" ∧ (parseMethodDescriptor yX0_climb.desc).map (fun d => d.parameters.length) = some 0 := by decide +kernel
theorem wm_X1_has : Jvm.Cond.instanceMethod yX1_has ∈ fm_Ts ∧ Jvm.Cond.selects RX1 yX1_has yX1_has ∈ fm_Ts ∧ Jvm.Cond.initialized RX1 ∈ fm_Ts ∧ Jvm.Cond.code yX1_has prog_3_method_7_code 3 (some .boolean) ∈ fm_Ts := ⟨fm_mem 705 (by decide +kernel) rfl, fm_mem 706 (by decide +kernel) rfl, fm_mem 88 (by decide +kernel) rfl, fm_mem 707 (by decide +kernel) rfl⟩
theorem wy_X1_has : yX1_has.cls = RX1 ∧ yX1_has.cls ≠ "java/lang/invoke/MethodHandle" ∧ yX1_has.cls ≠ "java/lang/invoke/VarHandle" ∧ (parseMethodDescriptor yX1_has.desc).map (fun d => d.parameters.length) = some 1 := by decide +kernel
theorem wm_X0_taken : Jvm.Cond.instanceMethod yX0_taken ∈ fm_Ts ∧ Jvm.Cond.selects RX0 yX0_taken yX0_taken ∈ fm_Ts ∧ Jvm.Cond.initialized RX0 ∈ fm_Ts ∧ Jvm.Cond.code yX0_taken prog_2_method_18_code 4 (some .int) ∈ fm_Ts := ⟨fm_mem 710 (by decide +kernel) rfl, fm_mem 19 (by decide +kernel) rfl, fm_mem 90 (by decide +kernel) rfl, fm_mem 711 (by decide +kernel) rfl⟩
theorem wy_X0_taken : yX0_taken.cls = RX0 ∧ yX0_taken.cls ≠ "java/lang/invoke/MethodHandle" ∧ yX0_taken.cls ≠ "java/lang/invoke/VarHandle" ∧ (parseMethodDescriptor yX0_taken.desc).map (fun d => d.parameters.length) = some 3 := by decide +kernel
theorem wm_X0_blow : Jvm.Cond.instanceMethod yX0_blow ∈ fm_Ts ∧ Jvm.Cond.selects RX0 yX0_blow yX0_blow ∈ fm_Ts ∧ Jvm.Cond.initialized RX0 ∈ fm_Ts ∧ Jvm.Cond.code yX0_blow prog_2_method_15_code 3 none ∈ fm_Ts := ⟨fm_mem 702 (by decide +kernel) rfl, fm_mem 18 (by decide +kernel) rfl, fm_mem 90 (by decide +kernel) rfl, fm_mem 703 (by decide +kernel) rfl⟩
theorem wy_X0_blow : yX0_blow.cls = RX0 ∧ yX0_blow.cls ≠ "java/lang/invoke/MethodHandle" ∧ yX0_blow.cls ≠ "java/lang/invoke/VarHandle" ∧ (parseMethodDescriptor yX0_blow.desc).map (fun d => d.parameters.length) = some 1 := by decide +kernel
theorem wm_X0_wash : Jvm.Cond.instanceMethod yX0_wash ∈ fm_Ts ∧ Jvm.Cond.selects RX0 yX0_wash yX0_wash ∈ fm_Ts ∧ Jvm.Cond.initialized RX0 ∈ fm_Ts ∧ Jvm.Cond.code yX0_wash prog_2_method_16_code 4 none ∈ fm_Ts := ⟨fm_mem 714 (by decide +kernel) rfl, fm_mem 20 (by decide +kernel) rfl, fm_mem 90 (by decide +kernel) rfl, fm_mem 715 (by decide +kernel) rfl⟩
theorem wy_X0_wash : yX0_wash.cls = RX0 ∧ yX0_wash.cls ≠ "java/lang/invoke/MethodHandle" ∧ yX0_wash.cls ≠ "java/lang/invoke/VarHandle" ∧ (parseMethodDescriptor yX0_wash.desc).map (fun d => d.parameters.length) = some 1 := by decide +kernel
theorem wm_X0_sieve : Jvm.Cond.instanceMethod yX0_sieve ∈ fm_Ts ∧ Jvm.Cond.selects RX0 yX0_sieve yX0_sieve ∈ fm_Ts ∧ Jvm.Cond.initialized RX0 ∈ fm_Ts ∧ Jvm.Cond.code yX0_sieve prog_2_method_17_code 5 none ∈ fm_Ts := ⟨fm_mem 718 (by decide +kernel) rfl, fm_mem 21 (by decide +kernel) rfl, fm_mem 90 (by decide +kernel) rfl, fm_mem 719 (by decide +kernel) rfl⟩
theorem wy_X0_sieve : yX0_sieve.cls = RX0 ∧ yX0_sieve.cls ≠ "java/lang/invoke/MethodHandle" ∧ yX0_sieve.cls ≠ "java/lang/invoke/VarHandle" ∧ (parseMethodDescriptor yX0_sieve.desc).map (fun d => d.parameters.length) = some 1 := by decide +kernel
theorem wm_X0_pass : Jvm.Cond.instanceMethod yX0_pass ∈ fm_Ts ∧ Jvm.Cond.selects RX0 yX0_pass yX0_pass ∈ fm_Ts ∧ Jvm.Cond.initialized RX0 ∈ fm_Ts ∧ Jvm.Cond.code yX0_pass prog_2_method_9_code 4 (some .int) ∈ fm_Ts := ⟨fm_mem 650 (by decide +kernel) rfl, fm_mem 651 (by decide +kernel) rfl, fm_mem 90 (by decide +kernel) rfl, fm_mem 652 (by decide +kernel) rfl⟩
theorem wy_X0_pass : yX0_pass.cls = RX0 ∧ yX0_pass.cls ≠ "java/lang/invoke/MethodHandle" ∧ yX0_pass.cls ≠ "java/lang/invoke/VarHandle" ∧ (parseMethodDescriptor yX0_pass.desc).map (fun d => d.parameters.length) = some 2 := by decide +kernel
theorem wm_X0_passDrawn : Jvm.Cond.instanceMethod yX0_passDrawn ∈ fm_Ts ∧ Jvm.Cond.selects RX0 yX0_passDrawn yX0_passDrawn ∈ fm_Ts ∧ Jvm.Cond.initialized RX0 ∈ fm_Ts ∧ Jvm.Cond.code yX0_passDrawn prog_2_method_6_code 5 (some .int) ∈ fm_Ts := ⟨fm_mem 641 (by decide +kernel) rfl, fm_mem 642 (by decide +kernel) rfl, fm_mem 90 (by decide +kernel) rfl, fm_mem 643 (by decide +kernel) rfl⟩
theorem wy_X0_passDrawn : yX0_passDrawn.cls = RX0 ∧ yX0_passDrawn.cls ≠ "java/lang/invoke/MethodHandle" ∧ yX0_passDrawn.cls ≠ "java/lang/invoke/VarHandle" ∧ (parseMethodDescriptor yX0_passDrawn.desc).map (fun d => d.parameters.length) = some 2 := by decide +kernel
theorem wm_X7_hours : Jvm.Cond.instanceMethod yX7_hours ∈ fm_Ts ∧ Jvm.Cond.selects RX7 yX7_hours yX7_hours ∈ fm_Ts ∧ Jvm.Cond.initialized RX7 ∈ fm_Ts ∧ Jvm.Cond.code yX7_hours prog_1_method_9_code 2 (some .int) ∈ fm_Ts := ⟨fm_mem 637 (by decide +kernel) rfl, fm_mem 638 (by decide +kernel) rfl, fm_mem 86 (by decide +kernel) rfl, fm_mem 639 (by decide +kernel) rfl⟩
theorem wy_X7_hours : yX7_hours.cls = RX7 ∧ yX7_hours.cls ≠ "java/lang/invoke/MethodHandle" ∧ yX7_hours.cls ≠ "java/lang/invoke/VarHandle" ∧ (parseMethodDescriptor yX7_hours.desc).map (fun d => d.parameters.length) = some 1 := by decide +kernel
theorem wm_X7_hour : Jvm.Cond.instanceMethod yX7_hour ∈ fm_Ts ∧ Jvm.Cond.selects RX7 yX7_hour yX7_hour ∈ fm_Ts ∧ Jvm.Cond.initialized RX7 ∈ fm_Ts ∧ Jvm.Cond.code yX7_hour prog_1_method_10_code 2 (some .int) ∈ fm_Ts := ⟨fm_mem 722 (by decide +kernel) rfl, fm_mem 723 (by decide +kernel) rfl, fm_mem 86 (by decide +kernel) rfl, fm_mem 724 (by decide +kernel) rfl⟩
theorem wy_X7_hour : yX7_hour.cls = RX7 ∧ yX7_hour.cls ≠ "java/lang/invoke/MethodHandle" ∧ yX7_hour.cls ≠ "java/lang/invoke/VarHandle" ∧ (parseMethodDescriptor yX7_hour.desc).map (fun d => d.parameters.length) = some 1 := by decide +kernel
theorem wm_X7_yardIs : Jvm.Cond.instanceMethod yX7_yardIs ∈ fm_Ts ∧ Jvm.Cond.selects RX7 yX7_yardIs yX7_yardIs ∈ fm_Ts ∧ Jvm.Cond.initialized RX7 ∈ fm_Ts ∧ Jvm.Cond.code yX7_yardIs prog_1_method_11_code 3 (some .int) ∈ fm_Ts := ⟨fm_mem 727 (by decide +kernel) rfl, fm_mem 728 (by decide +kernel) rfl, fm_mem 86 (by decide +kernel) rfl, fm_mem 729 (by decide +kernel) rfl⟩
theorem wy_X7_yardIs : yX7_yardIs.cls = RX7 ∧ yX7_yardIs.cls ≠ "java/lang/invoke/MethodHandle" ∧ yX7_yardIs.cls ≠ "java/lang/invoke/VarHandle" ∧ (parseMethodDescriptor yX7_yardIs.desc).map (fun d => d.parameters.length) = some 2 := by decide +kernel
theorem wm_X2_isTold : Jvm.Cond.instanceMethod yX2_isTold ∈ fm_Ts ∧ Jvm.Cond.selects RX2 yX2_isTold yX2_isTold ∈ fm_Ts ∧ Jvm.Cond.initialized RX2 ∈ fm_Ts ∧ Jvm.Cond.code yX2_isTold prog_4_method_4_code 2 (some .boolean) ∈ fm_Ts := ⟨fm_mem 735 (by decide +kernel) rfl, fm_mem 736 (by decide +kernel) rfl, fm_mem 91 (by decide +kernel) rfl, fm_mem 737 (by decide +kernel) rfl⟩
theorem wy_X2_isTold : yX2_isTold.cls = RX2 ∧ yX2_isTold.cls ≠ "java/lang/invoke/MethodHandle" ∧ yX2_isTold.cls ≠ "java/lang/invoke/VarHandle" ∧ (parseMethodDescriptor yX2_isTold.desc).map (fun d => d.parameters.length) = some 1 := by decide +kernel
theorem wm_X7_porterIs : Jvm.Cond.instanceMethod yX7_porterIs ∈ fm_Ts ∧ Jvm.Cond.selects RX7 yX7_porterIs yX7_porterIs ∈ fm_Ts ∧ Jvm.Cond.initialized RX7 ∈ fm_Ts ∧ Jvm.Cond.code yX7_porterIs prog_1_method_12_code 3 (some .int) ∈ fm_Ts := ⟨fm_mem 731 (by decide +kernel) rfl, fm_mem 732 (by decide +kernel) rfl, fm_mem 86 (by decide +kernel) rfl, fm_mem 733 (by decide +kernel) rfl⟩
theorem wy_X7_porterIs : yX7_porterIs.cls = RX7 ∧ yX7_porterIs.cls ≠ "java/lang/invoke/MethodHandle" ∧ yX7_porterIs.cls ≠ "java/lang/invoke/VarHandle" ∧ (parseMethodDescriptor yX7_porterIs.desc).map (fun d => d.parameters.length) = some 2 := by decide +kernel
theorem wm_X7_isTriable : Jvm.Cond.instanceMethod yX7_isTriable ∈ fm_Ts ∧ Jvm.Cond.selects RX7 yX7_isTriable yX7_isTriable ∈ fm_Ts ∧ Jvm.Cond.initialized RX7 ∈ fm_Ts ∧ Jvm.Cond.code yX7_isTriable prog_1_method_14_code 2 (some .boolean) ∈ fm_Ts := ⟨fm_mem 745 (by decide +kernel) rfl, fm_mem 22 (by decide +kernel) rfl, fm_mem 86 (by decide +kernel) rfl, fm_mem 746 (by decide +kernel) rfl⟩
theorem wy_X7_isTriable : yX7_isTriable.cls = RX7 ∧ yX7_isTriable.cls ≠ "java/lang/invoke/MethodHandle" ∧ yX7_isTriable.cls ≠ "java/lang/invoke/VarHandle" ∧ (parseMethodDescriptor yX7_isTriable.desc).map (fun d => d.parameters.length) = some 1 := by decide +kernel
theorem wm_X2_takeMoving : Jvm.Cond.instanceMethod yX2_takeMoving ∈ fm_Ts ∧ Jvm.Cond.selects RX2 yX2_takeMoving yX2_takeMoving ∈ fm_Ts ∧ Jvm.Cond.initialized RX2 ∈ fm_Ts ∧ Jvm.Cond.code yX2_takeMoving prog_4_method_3_code 2 none ∈ fm_Ts := ⟨fm_mem 756 (by decide +kernel) rfl, fm_mem 757 (by decide +kernel) rfl, fm_mem 91 (by decide +kernel) rfl, fm_mem 758 (by decide +kernel) rfl⟩
theorem wy_X2_takeMoving : yX2_takeMoving.cls = RX2 ∧ yX2_takeMoving.cls ≠ "java/lang/invoke/MethodHandle" ∧ yX2_takeMoving.cls ≠ "java/lang/invoke/VarHandle" ∧ (parseMethodDescriptor yX2_takeMoving.desc).map (fun d => d.parameters.length) = some 1 := by decide +kernel
theorem wm_X0_takeMoving : Jvm.Cond.instanceMethod yX0_takeMoving ∈ fm_Ts ∧ Jvm.Cond.selects RX0 yX0_takeMoving yX0_takeMoving ∈ fm_Ts ∧ Jvm.Cond.initialized RX0 ∈ fm_Ts ∧ Jvm.Cond.code yX0_takeMoving prog_2_method_3_code 2 none ∈ fm_Ts := ⟨fm_mem 752 (by decide +kernel) rfl, fm_mem 753 (by decide +kernel) rfl, fm_mem 90 (by decide +kernel) rfl, fm_mem 754 (by decide +kernel) rfl⟩
theorem wy_X0_takeMoving : yX0_takeMoving.cls = RX0 ∧ yX0_takeMoving.cls ≠ "java/lang/invoke/MethodHandle" ∧ yX0_takeMoving.cls ≠ "java/lang/invoke/VarHandle" ∧ (parseMethodDescriptor yX0_takeMoving.desc).map (fun d => d.parameters.length) = some 1 := by decide +kernel
theorem wm_X2_takeAll : Jvm.Cond.instanceMethod yX2_takeAll ∈ fm_Ts ∧ Jvm.Cond.selects RX2 yX2_takeAll yX2_takeAll ∈ fm_Ts ∧ Jvm.Cond.initialized RX2 ∈ fm_Ts ∧ Jvm.Cond.code yX2_takeAll prog_4_method_2_code 2 none ∈ fm_Ts := ⟨fm_mem 762 (by decide +kernel) rfl, fm_mem 763 (by decide +kernel) rfl, fm_mem 91 (by decide +kernel) rfl, fm_mem 764 (by decide +kernel) rfl⟩
theorem wy_X2_takeAll : yX2_takeAll.cls = RX2 ∧ yX2_takeAll.cls ≠ "java/lang/invoke/MethodHandle" ∧ yX2_takeAll.cls ≠ "java/lang/invoke/VarHandle" ∧ (parseMethodDescriptor yX2_takeAll.desc).map (fun d => d.parameters.length) = some 1 := by decide +kernel
theorem wm_X0_takeAll : Jvm.Cond.instanceMethod yX0_takeAll ∈ fm_Ts ∧ Jvm.Cond.selects RX0 yX0_takeAll yX0_takeAll ∈ fm_Ts ∧ Jvm.Cond.initialized RX0 ∈ fm_Ts ∧ Jvm.Cond.code yX0_takeAll prog_2_method_2_code 2 none ∈ fm_Ts := ⟨fm_mem 748 (by decide +kernel) rfl, fm_mem 749 (by decide +kernel) rfl, fm_mem 90 (by decide +kernel) rfl, fm_mem 750 (by decide +kernel) rfl⟩
theorem wy_X0_takeAll : yX0_takeAll.cls = RX0 ∧ yX0_takeAll.cls ≠ "java/lang/invoke/MethodHandle" ∧ yX0_takeAll.cls ≠ "java/lang/invoke/VarHandle" ∧ (parseMethodDescriptor yX0_takeAll.desc).map (fun d => d.parameters.length) = some 1 := by decide +kernel
theorem wm_X7_tried : Jvm.Cond.instanceMethod yX7_tried ∈ fm_Ts ∧ Jvm.Cond.selects RX7 yX7_tried yX7_tried ∈ fm_Ts ∧ Jvm.Cond.initialized RX7 ∈ fm_Ts ∧ Jvm.Cond.code yX7_tried prog_1_method_13_code 4 (some .int) ∈ fm_Ts := ⟨fm_mem 740 (by decide +kernel) rfl, fm_mem 741 (by decide +kernel) rfl, fm_mem 86 (by decide +kernel) rfl, fm_mem 742 (by decide +kernel) rfl⟩
theorem wy_X7_tried : yX7_tried.cls = RX7 ∧ yX7_tried.cls ≠ "java/lang/invoke/MethodHandle" ∧ yX7_tried.cls ≠ "java/lang/invoke/VarHandle" ∧ (parseMethodDescriptor yX7_tried.desc).map (fun d => d.parameters.length) = some 2 := by decide +kernel
theorem wm_X4_begin : Jvm.Cond.instanceMethod yX4_begin ∈ fm_Ts ∧ Jvm.Cond.selects RX4 yX4_begin yX4_begin ∈ fm_Ts ∧ Jvm.Cond.initialized RX4 ∈ fm_Ts ∧ Jvm.Cond.code yX4_begin prog_6_method_2_code 4 none ∈ fm_Ts := ⟨fm_mem 770 (by decide +kernel) rfl, fm_mem 771 (by decide +kernel) rfl, fm_mem 93 (by decide +kernel) rfl, fm_mem 772 (by decide +kernel) rfl⟩
theorem wy_X4_begin : yX4_begin.cls = RX4 ∧ yX4_begin.cls ≠ "java/lang/invoke/MethodHandle" ∧ yX4_begin.cls ≠ "java/lang/invoke/VarHandle" ∧ (parseMethodDescriptor yX4_begin.desc).map (fun d => d.parameters.length) = some 3 := by decide +kernel
theorem wm_X4_grant : Jvm.Cond.instanceMethod yX4_grant ∈ fm_Ts ∧ Jvm.Cond.selects RX4 yX4_grant yX4_grant ∈ fm_Ts ∧ Jvm.Cond.initialized RX4 ∈ fm_Ts ∧ Jvm.Cond.code yX4_grant prog_6_method_9_code 4 none ∈ fm_Ts := ⟨fm_mem 786 (by decide +kernel) rfl, fm_mem 24 (by decide +kernel) rfl, fm_mem 93 (by decide +kernel) rfl, fm_mem 787 (by decide +kernel) rfl⟩
theorem wy_X4_grant : yX4_grant.cls = RX4 ∧ yX4_grant.cls ≠ "java/lang/invoke/MethodHandle" ∧ yX4_grant.cls ≠ "java/lang/invoke/VarHandle" ∧ (parseMethodDescriptor yX4_grant.desc).map (fun d => d.parameters.length) = some 2 := by decide +kernel
theorem wm_X4_weigh : Jvm.Cond.instanceMethod yX4_weigh ∈ fm_Ts ∧ Jvm.Cond.selects RX4 yX4_weigh yX4_weigh ∈ fm_Ts ∧ Jvm.Cond.initialized RX4 ∈ fm_Ts ∧ Jvm.Cond.code yX4_weigh prog_6_method_8_code 3 (some .int) ∈ fm_Ts := ⟨fm_mem 781 (by decide +kernel) rfl, fm_mem 23 (by decide +kernel) rfl, fm_mem 93 (by decide +kernel) rfl, fm_mem 782 (by decide +kernel) rfl⟩
theorem wy_X4_weigh : yX4_weigh.cls = RX4 ∧ yX4_weigh.cls ≠ "java/lang/invoke/MethodHandle" ∧ yX4_weigh.cls ≠ "java/lang/invoke/VarHandle" ∧ (parseMethodDescriptor yX4_weigh.desc).map (fun d => d.parameters.length) = some 1 := by decide +kernel
theorem wm_X4_hasBit : Jvm.Cond.static yX4_hasBit ∈ fm_Ts ∧ Jvm.Cond.initialized yX4_hasBit.cls ∈ fm_Ts ∧ Jvm.Cond.code yX4_hasBit prog_6_method_7_code 2 (some .boolean) ∈ fm_Ts := ⟨fm_mem 794 (by decide +kernel) rfl, fm_mem 93 (by decide +kernel) rfl, fm_mem 795 (by decide +kernel) rfl⟩
theorem wy_X4_hasBit : yX4_hasBit.cls ≠ "java/lang/invoke/MethodHandle" ∧ yX4_hasBit.cls ≠ "java/lang/invoke/VarHandle" ∧ (parseMethodDescriptor yX4_hasBit.desc).map (fun d => d.parameters.length) = some 2 := by decide +kernel
theorem wm_X4_weighOnes : Jvm.Cond.instanceMethod yX4_weighOnes ∈ fm_Ts ∧ Jvm.Cond.selects RX4 yX4_weighOnes yX4_weighOnes ∈ fm_Ts ∧ Jvm.Cond.initialized RX4 ∈ fm_Ts ∧ Jvm.Cond.code yX4_weighOnes prog_6_method_4_code 3 none ∈ fm_Ts := ⟨fm_mem 776 (by decide +kernel) rfl, fm_mem 777 (by decide +kernel) rfl, fm_mem 93 (by decide +kernel) rfl, fm_mem 778 (by decide +kernel) rfl⟩
theorem wy_X4_weighOnes : yX4_weighOnes.cls = RX4 ∧ yX4_weighOnes.cls ≠ "java/lang/invoke/MethodHandle" ∧ yX4_weighOnes.cls ≠ "java/lang/invoke/VarHandle" ∧ (parseMethodDescriptor yX4_weighOnes.desc).map (fun d => d.parameters.length) = some 0 := by decide +kernel
theorem wm_X4_weighPairs : Jvm.Cond.instanceMethod yX4_weighPairs ∈ fm_Ts ∧ Jvm.Cond.selects RX4 yX4_weighPairs yX4_weighPairs ∈ fm_Ts ∧ Jvm.Cond.initialized RX4 ∈ fm_Ts ∧ Jvm.Cond.code yX4_weighPairs prog_6_method_5_code 4 none ∈ fm_Ts := ⟨fm_mem 797 (by decide +kernel) rfl, fm_mem 798 (by decide +kernel) rfl, fm_mem 93 (by decide +kernel) rfl, fm_mem 799 (by decide +kernel) rfl⟩
theorem wy_X4_weighPairs : yX4_weighPairs.cls = RX4 ∧ yX4_weighPairs.cls ≠ "java/lang/invoke/MethodHandle" ∧ yX4_weighPairs.cls ≠ "java/lang/invoke/VarHandle" ∧ (parseMethodDescriptor yX4_weighPairs.desc).map (fun d => d.parameters.length) = some 0 := by decide +kernel
theorem wm_X4_weighTriples : Jvm.Cond.instanceMethod yX4_weighTriples ∈ fm_Ts ∧ Jvm.Cond.selects RX4 yX4_weighTriples yX4_weighTriples ∈ fm_Ts ∧ Jvm.Cond.initialized RX4 ∈ fm_Ts ∧ Jvm.Cond.code yX4_weighTriples prog_6_method_6_code 5 none ∈ fm_Ts := ⟨fm_mem 801 (by decide +kernel) rfl, fm_mem 802 (by decide +kernel) rfl, fm_mem 93 (by decide +kernel) rfl, fm_mem 803 (by decide +kernel) rfl⟩
theorem wy_X4_weighTriples : yX4_weighTriples.cls = RX4 ∧ yX4_weighTriples.cls ≠ "java/lang/invoke/MethodHandle" ∧ yX4_weighTriples.cls ≠ "java/lang/invoke/VarHandle" ∧ (parseMethodDescriptor yX4_weighTriples.desc).map (fun d => d.parameters.length) = some 0 := by decide +kernel
theorem wm_X4_bestAt : Jvm.Cond.instanceMethod yX4_bestAt ∈ fm_Ts ∧ Jvm.Cond.selects RX4 yX4_bestAt yX4_bestAt ∈ fm_Ts ∧ Jvm.Cond.initialized RX4 ∈ fm_Ts ∧ Jvm.Cond.code yX4_bestAt prog_6_method_3_code 2 (some .int) ∈ fm_Ts := ⟨fm_mem 805 (by decide +kernel) rfl, fm_mem 806 (by decide +kernel) rfl, fm_mem 93 (by decide +kernel) rfl, fm_mem 807 (by decide +kernel) rfl⟩
theorem wy_X4_bestAt : yX4_bestAt.cls = RX4 ∧ yX4_bestAt.cls ≠ "java/lang/invoke/MethodHandle" ∧ yX4_bestAt.cls ≠ "java/lang/invoke/VarHandle" ∧ (parseMethodDescriptor yX4_bestAt.desc).map (fun d => d.parameters.length) = some 1 := by decide +kernel
theorem wm_X7_sieved : Jvm.Cond.instanceMethod yX7_sieved ∈ fm_Ts ∧ Jvm.Cond.selects RX7 yX7_sieved yX7_sieved ∈ fm_Ts ∧ Jvm.Cond.initialized RX7 ∈ fm_Ts ∧ Jvm.Cond.code yX7_sieved prog_1_method_15_code 6 (some .int) ∈ fm_Ts := ⟨fm_mem 766 (by decide +kernel) rfl, fm_mem 767 (by decide +kernel) rfl, fm_mem 86 (by decide +kernel) rfl, fm_mem 768 (by decide +kernel) rfl⟩
theorem wy_X7_sieved : yX7_sieved.cls = RX7 ∧ yX7_sieved.cls ≠ "java/lang/invoke/MethodHandle" ∧ yX7_sieved.cls ≠ "java/lang/invoke/VarHandle" ∧ (parseMethodDescriptor yX7_sieved.desc).map (fun d => d.parameters.length) = some 5 := by decide +kernel
theorem wm_J6_bitCount_0f7a4 : Jvm.Cond.static yJ6_bitCount_0f7a4 ∈ fm_Ts ∧ Jvm.Cond.initialized yJ6_bitCount_0f7a4.cls ∈ fm_Ts ∧ Jvm.Cond.code yJ6_bitCount_0f7a4 prog_12_method_49_code 1 (some .int) ∈ fm_Ts := ⟨fm_mem 813 (by decide +kernel) rfl, fm_mem 103 (by decide +kernel) rfl, fm_mem 814 (by decide +kernel) rfl⟩
theorem wy_J6_bitCount_0f7a4 : yJ6_bitCount_0f7a4.cls ≠ "java/lang/invoke/MethodHandle" ∧ yJ6_bitCount_0f7a4.cls ≠ "java/lang/invoke/VarHandle" ∧ (parseMethodDescriptor yJ6_bitCount_0f7a4.desc).map (fun d => d.parameters.length) = some 1 := by decide +kernel
theorem wm_X2_allClimb : Jvm.Cond.instanceMethod yX2_allClimb ∈ fm_Ts ∧ Jvm.Cond.selects RX2 yX2_allClimb yX2_allClimb ∈ fm_Ts ∧ Jvm.Cond.initialized RX2 ∈ fm_Ts ∧ Jvm.Cond.code yX2_allClimb prog_4_method_6_code 3 (some .boolean) ∈ fm_Ts := ⟨fm_mem 819 (by decide +kernel) rfl, fm_mem 820 (by decide +kernel) rfl, fm_mem 91 (by decide +kernel) rfl, fm_mem 821 (by decide +kernel) rfl⟩
theorem wy_X2_allClimb : yX2_allClimb.cls = RX2 ∧ yX2_allClimb.cls ≠ "java/lang/invoke/MethodHandle" ∧ yX2_allClimb.cls ≠ "java/lang/invoke/VarHandle" ∧ (parseMethodDescriptor yX2_allClimb.desc).map (fun d => d.parameters.length) = some 1 := by decide +kernel
theorem wm_X5_begin : Jvm.Cond.instanceMethod yX5_begin ∈ fm_Ts ∧ Jvm.Cond.selects RX5 yX5_begin yX5_begin ∈ fm_Ts ∧ Jvm.Cond.initialized RX5 ∈ fm_Ts ∧ Jvm.Cond.code yX5_begin prog_7_method_2_code 3 none ∈ fm_Ts := ⟨fm_mem 829 (by decide +kernel) rfl, fm_mem 830 (by decide +kernel) rfl, fm_mem 94 (by decide +kernel) rfl, fm_mem 831 (by decide +kernel) rfl⟩
theorem wy_X5_begin : yX5_begin.cls = RX5 ∧ yX5_begin.cls ≠ "java/lang/invoke/MethodHandle" ∧ yX5_begin.cls ≠ "java/lang/invoke/VarHandle" ∧ (parseMethodDescriptor yX5_begin.desc).map (fun d => d.parameters.length) = some 1 := by decide +kernel
theorem wm_X5_handOutBy : Jvm.Cond.instanceMethod yX5_handOutBy ∈ fm_Ts ∧ Jvm.Cond.selects RX5 yX5_handOutBy yX5_handOutBy ∈ fm_Ts ∧ Jvm.Cond.initialized RX5 ∈ fm_Ts ∧ Jvm.Cond.code yX5_handOutBy prog_7_method_9_code 5 none ∈ fm_Ts := ⟨fm_mem 839 (by decide +kernel) rfl, fm_mem 26 (by decide +kernel) rfl, fm_mem 94 (by decide +kernel) rfl, fm_mem 840 (by decide +kernel) rfl⟩
theorem wy_X5_handOutBy : yX5_handOutBy.cls = RX5 ∧ yX5_handOutBy.cls ≠ "java/lang/invoke/MethodHandle" ∧ yX5_handOutBy.cls ≠ "java/lang/invoke/VarHandle" ∧ (parseMethodDescriptor yX5_handOutBy.desc).map (fun d => d.parameters.length) = some 3 := by decide +kernel
theorem wm_X5_handOut : Jvm.Cond.instanceMethod yX5_handOut ∈ fm_Ts ∧ Jvm.Cond.selects RX5 yX5_handOut yX5_handOut ∈ fm_Ts ∧ Jvm.Cond.initialized RX5 ∈ fm_Ts ∧ Jvm.Cond.code yX5_handOut prog_7_method_7_code 3 none ∈ fm_Ts := ⟨fm_mem 834 (by decide +kernel) rfl, fm_mem 835 (by decide +kernel) rfl, fm_mem 94 (by decide +kernel) rfl, fm_mem 836 (by decide +kernel) rfl⟩
theorem wy_X5_handOut : yX5_handOut.cls = RX5 ∧ yX5_handOut.cls ≠ "java/lang/invoke/MethodHandle" ∧ yX5_handOut.cls ≠ "java/lang/invoke/VarHandle" ∧ (parseMethodDescriptor yX5_handOut.desc).map (fun d => d.parameters.length) = some 2 := by decide +kernel
theorem wm_X0_passUnder : Jvm.Cond.instanceMethod yX0_passUnder ∈ fm_Ts ∧ Jvm.Cond.selects RX0 yX0_passUnder yX0_passUnder ∈ fm_Ts ∧ Jvm.Cond.initialized RX0 ∈ fm_Ts ∧ Jvm.Cond.code yX0_passUnder prog_2_method_7_code 6 (some .int) ∈ fm_Ts := ⟨fm_mem 843 (by decide +kernel) rfl, fm_mem 844 (by decide +kernel) rfl, fm_mem 90 (by decide +kernel) rfl, fm_mem 845 (by decide +kernel) rfl⟩
theorem wy_X0_passUnder : yX0_passUnder.cls = RX0 ∧ yX0_passUnder.cls ≠ "java/lang/invoke/MethodHandle" ∧ yX0_passUnder.cls ≠ "java/lang/invoke/VarHandle" ∧ (parseMethodDescriptor yX0_passUnder.desc).map (fun d => d.parameters.length) = some 3 := by decide +kernel
theorem wm_X5_holdBest : Jvm.Cond.instanceMethod yX5_holdBest ∈ fm_Ts ∧ Jvm.Cond.selects RX5 yX5_holdBest yX5_holdBest ∈ fm_Ts ∧ Jvm.Cond.initialized RX5 ∈ fm_Ts ∧ Jvm.Cond.code yX5_holdBest prog_7_method_5_code 1 none ∈ fm_Ts := ⟨fm_mem 847 (by decide +kernel) rfl, fm_mem 848 (by decide +kernel) rfl, fm_mem 94 (by decide +kernel) rfl, fm_mem 849 (by decide +kernel) rfl⟩
theorem wy_X5_holdBest : yX5_holdBest.cls = RX5 ∧ yX5_holdBest.cls ≠ "java/lang/invoke/MethodHandle" ∧ yX5_holdBest.cls ≠ "java/lang/invoke/VarHandle" ∧ (parseMethodDescriptor yX5_holdBest.desc).map (fun d => d.parameters.length) = some 0 := by decide +kernel
theorem wm_X5_exchange : Jvm.Cond.instanceMethod yX5_exchange ∈ fm_Ts ∧ Jvm.Cond.selects RX5 yX5_exchange yX5_exchange ∈ fm_Ts ∧ Jvm.Cond.initialized RX5 ∈ fm_Ts ∧ Jvm.Cond.code yX5_exchange prog_7_method_4_code 4 none ∈ fm_Ts := ⟨fm_mem 857 (by decide +kernel) rfl, fm_mem 27 (by decide +kernel) rfl, fm_mem 94 (by decide +kernel) rfl, fm_mem 858 (by decide +kernel) rfl⟩
theorem wy_X5_exchange : yX5_exchange.cls = RX5 ∧ yX5_exchange.cls ≠ "java/lang/invoke/MethodHandle" ∧ yX5_exchange.cls ≠ "java/lang/invoke/VarHandle" ∧ (parseMethodDescriptor yX5_exchange.desc).map (fun d => d.parameters.length) = some 2 := by decide +kernel
theorem wm_X5_goOn : Jvm.Cond.instanceMethod yX5_goOn ∈ fm_Ts ∧ Jvm.Cond.selects RX5 yX5_goOn yX5_goOn ∈ fm_Ts ∧ Jvm.Cond.initialized RX5 ∈ fm_Ts ∧ Jvm.Cond.code yX5_goOn prog_7_method_3_code 5 (some .boolean) ∈ fm_Ts := ⟨fm_mem 852 (by decide +kernel) rfl, fm_mem 853 (by decide +kernel) rfl, fm_mem 94 (by decide +kernel) rfl, fm_mem 854 (by decide +kernel) rfl⟩
theorem wy_X5_goOn : yX5_goOn.cls = RX5 ∧ yX5_goOn.cls ≠ "java/lang/invoke/MethodHandle" ∧ yX5_goOn.cls ≠ "java/lang/invoke/VarHandle" ∧ (parseMethodDescriptor yX5_goOn.desc).map (fun d => d.parameters.length) = some 0 := by decide +kernel
theorem wm_X7_searchSwap : Jvm.Cond.instanceMethod yX7_searchSwap ∈ fm_Ts ∧ Jvm.Cond.selects RX7 yX7_searchSwap yX7_searchSwap ∈ fm_Ts ∧ Jvm.Cond.initialized RX7 ∈ fm_Ts ∧ Jvm.Cond.code yX7_searchSwap prog_1_method_17_code 7 (some .int) ∈ fm_Ts := ⟨fm_mem 825 (by decide +kernel) rfl, fm_mem 25 (by decide +kernel) rfl, fm_mem 86 (by decide +kernel) rfl, fm_mem 826 (by decide +kernel) rfl⟩
theorem wy_X7_searchSwap : yX7_searchSwap.cls = RX7 ∧ yX7_searchSwap.cls ≠ "java/lang/invoke/MethodHandle" ∧ yX7_searchSwap.cls ≠ "java/lang/invoke/VarHandle" ∧ (parseMethodDescriptor yX7_searchSwap.desc).map (fun d => d.parameters.length) = some 2 := by decide +kernel
theorem wm_X5_whoseFor : Jvm.Cond.instanceMethod yX5_whoseFor ∈ fm_Ts ∧ Jvm.Cond.selects RX5 yX5_whoseFor yX5_whoseFor ∈ fm_Ts ∧ Jvm.Cond.initialized RX5 ∈ fm_Ts ∧ Jvm.Cond.code yX5_whoseFor prog_7_method_6_code 3 (some .int) ∈ fm_Ts := ⟨fm_mem 860 (by decide +kernel) rfl, fm_mem 861 (by decide +kernel) rfl, fm_mem 94 (by decide +kernel) rfl, fm_mem 862 (by decide +kernel) rfl⟩
theorem wy_X5_whoseFor : yX5_whoseFor.cls = RX5 ∧ yX5_whoseFor.cls ≠ "java/lang/invoke/MethodHandle" ∧ yX5_whoseFor.cls ≠ "java/lang/invoke/VarHandle" ∧ (parseMethodDescriptor yX5_whoseFor.desc).map (fun d => d.parameters.length) = some 1 := by decide +kernel
theorem wm_X5_handOutBest : Jvm.Cond.instanceMethod yX5_handOutBest ∈ fm_Ts ∧ Jvm.Cond.selects RX5 yX5_handOutBest yX5_handOutBest ∈ fm_Ts ∧ Jvm.Cond.initialized RX5 ∈ fm_Ts ∧ Jvm.Cond.code yX5_handOutBest prog_7_method_8_code 3 none ∈ fm_Ts := ⟨fm_mem 864 (by decide +kernel) rfl, fm_mem 865 (by decide +kernel) rfl, fm_mem 94 (by decide +kernel) rfl, fm_mem 866 (by decide +kernel) rfl⟩
theorem wy_X5_handOutBest : yX5_handOutBest.cls = RX5 ∧ yX5_handOutBest.cls ≠ "java/lang/invoke/MethodHandle" ∧ yX5_handOutBest.cls ≠ "java/lang/invoke/VarHandle" ∧ (parseMethodDescriptor yX5_handOutBest.desc).map (fun d => d.parameters.length) = some 2 := by decide +kernel
theorem wm_X7_bowls : Jvm.Cond.instanceMethod yX7_bowls ∈ fm_Ts ∧ Jvm.Cond.selects RX7 yX7_bowls yX7_bowls ∈ fm_Ts ∧ Jvm.Cond.initialized RX7 ∈ fm_Ts ∧ Jvm.Cond.code yX7_bowls prog_1_method_16_code 6 (some .int) ∈ fm_Ts := ⟨fm_mem 809 (by decide +kernel) rfl, fm_mem 810 (by decide +kernel) rfl, fm_mem 86 (by decide +kernel) rfl, fm_mem 811 (by decide +kernel) rfl⟩
theorem wy_X7_bowls : yX7_bowls.cls = RX7 ∧ yX7_bowls.cls ≠ "java/lang/invoke/MethodHandle" ∧ yX7_bowls.cls ≠ "java/lang/invoke/VarHandle" ∧ (parseMethodDescriptor yX7_bowls.desc).map (fun d => d.parameters.length) = some 3 := by decide +kernel
theorem wm_X7_carpet : Jvm.Cond.instanceMethod yX7_carpet ∈ fm_Ts ∧ Jvm.Cond.selects RX7 yX7_carpet yX7_carpet ∈ fm_Ts ∧ Jvm.Cond.initialized RX7 ∈ fm_Ts ∧ Jvm.Cond.code yX7_carpet prog_1_method_18_code 7 (some .int) ∈ fm_Ts := ⟨fm_mem 868 (by decide +kernel) rfl, fm_mem 869 (by decide +kernel) rfl, fm_mem 86 (by decide +kernel) rfl, fm_mem 870 (by decide +kernel) rfl⟩
theorem wy_X7_carpet : yX7_carpet.cls = RX7 ∧ yX7_carpet.cls ≠ "java/lang/invoke/MethodHandle" ∧ yX7_carpet.cls ≠ "java/lang/invoke/VarHandle" ∧ (parseMethodDescriptor yX7_carpet.desc).map (fun d => d.parameters.length) = some 2 := by decide +kernel
theorem wm_J9_abs_0f7a4 : Jvm.Cond.static yJ9_abs_0f7a4 ∈ fm_Ts ∧ Jvm.Cond.initialized yJ9_abs_0f7a4.cls ∈ fm_Ts ∧ Jvm.Cond.code yJ9_abs_0f7a4 prog_13_method_59_code 1 (some .int) ∈ fm_Ts := ⟨fm_mem 877 (by decide +kernel) rfl, fm_mem 98 (by decide +kernel) rfl, fm_mem 878 (by decide +kernel) rfl⟩
theorem wy_J9_abs_0f7a4 : yJ9_abs_0f7a4.cls ≠ "java/lang/invoke/MethodHandle" ∧ yJ9_abs_0f7a4.cls ≠ "java/lang/invoke/VarHandle" ∧ (parseMethodDescriptor yJ9_abs_0f7a4.desc).map (fun d => d.parameters.length) = some 1 := by decide +kernel
theorem wm_X7_gust : Jvm.Cond.instanceMethod yX7_gust ∈ fm_Ts ∧ Jvm.Cond.selects RX7 yX7_gust yX7_gust ∈ fm_Ts ∧ Jvm.Cond.initialized RX7 ∈ fm_Ts ∧ Jvm.Cond.code yX7_gust prog_1_method_19_code 10 (some .int) ∈ fm_Ts := ⟨fm_mem 872 (by decide +kernel) rfl, fm_mem 873 (by decide +kernel) rfl, fm_mem 86 (by decide +kernel) rfl, fm_mem 874 (by decide +kernel) rfl⟩
theorem wy_X7_gust : yX7_gust.cls = RX7 ∧ yX7_gust.cls ≠ "java/lang/invoke/MethodHandle" ∧ yX7_gust.cls ≠ "java/lang/invoke/VarHandle" ∧ (parseMethodDescriptor yX7_gust.desc).map (fun d => d.parameters.length) = some 4 := by decide +kernel
theorem wm_X7_tryUnlicensed : Jvm.Cond.instanceMethod yX7_tryUnlicensed ∈ fm_Ts ∧ Jvm.Cond.selects RX7 yX7_tryUnlicensed yX7_tryUnlicensed ∈ fm_Ts ∧ Jvm.Cond.initialized RX7 ∈ fm_Ts ∧ Jvm.Cond.code yX7_tryUnlicensed prog_1_method_22_code 3 none ∈ fm_Ts := ⟨fm_mem 885 (by decide +kernel) rfl, fm_mem 28 (by decide +kernel) rfl, fm_mem 86 (by decide +kernel) rfl, fm_mem 886 (by decide +kernel) rfl⟩
theorem wy_X7_tryUnlicensed : yX7_tryUnlicensed.cls = RX7 ∧ yX7_tryUnlicensed.cls ≠ "java/lang/invoke/MethodHandle" ∧ yX7_tryUnlicensed.cls ≠ "java/lang/invoke/VarHandle" ∧ (parseMethodDescriptor yX7_tryUnlicensed.desc).map (fun d => d.parameters.length) = some 2 := by decide +kernel
theorem wm_X7_worthTo : Jvm.Cond.instanceMethod yX7_worthTo ∈ fm_Ts ∧ Jvm.Cond.selects RX7 yX7_worthTo yX7_worthTo ∈ fm_Ts ∧ Jvm.Cond.initialized RX7 ∈ fm_Ts ∧ Jvm.Cond.code yX7_worthTo prog_1_method_23_code 4 (some .int) ∈ fm_Ts := ⟨fm_mem 889 (by decide +kernel) rfl, fm_mem 29 (by decide +kernel) rfl, fm_mem 86 (by decide +kernel) rfl, fm_mem 890 (by decide +kernel) rfl⟩
theorem wy_X7_worthTo : yX7_worthTo.cls = RX7 ∧ yX7_worthTo.cls ≠ "java/lang/invoke/MethodHandle" ∧ yX7_worthTo.cls ≠ "java/lang/invoke/VarHandle" ∧ (parseMethodDescriptor yX7_worthTo.desc).map (fun d => d.parameters.length) = some 3 := by decide +kernel
theorem wm_X7_worth : Jvm.Cond.instanceMethod yX7_worth ∈ fm_Ts ∧ Jvm.Cond.selects RX7 yX7_worth yX7_worth ∈ fm_Ts ∧ Jvm.Cond.initialized RX7 ∈ fm_Ts ∧ Jvm.Cond.code yX7_worth prog_1_method_20_code 4 (some .int) ∈ fm_Ts := ⟨fm_mem 880 (by decide +kernel) rfl, fm_mem 881 (by decide +kernel) rfl, fm_mem 86 (by decide +kernel) rfl, fm_mem 882 (by decide +kernel) rfl⟩
theorem wy_X7_worth : yX7_worth.cls = RX7 ∧ yX7_worth.cls ≠ "java/lang/invoke/MethodHandle" ∧ yX7_worth.cls ≠ "java/lang/invoke/VarHandle" ∧ (parseMethodDescriptor yX7_worth.desc).map (fun d => d.parameters.length) = some 3 := by decide +kernel
theorem wm_X7_sold : Jvm.Cond.instanceMethod yX7_sold ∈ fm_Ts ∧ Jvm.Cond.selects RX7 yX7_sold yX7_sold ∈ fm_Ts ∧ Jvm.Cond.initialized RX7 ∈ fm_Ts ∧ Jvm.Cond.code yX7_sold prog_1_method_21_code 7 (some .int) ∈ fm_Ts := ⟨fm_mem 892 (by decide +kernel) rfl, fm_mem 893 (by decide +kernel) rfl, fm_mem 86 (by decide +kernel) rfl, fm_mem 894 (by decide +kernel) rfl⟩
theorem wy_X7_sold : yX7_sold.cls = RX7 ∧ yX7_sold.cls ≠ "java/lang/invoke/MethodHandle" ∧ yX7_sold.cls ≠ "java/lang/invoke/VarHandle" ∧ (parseMethodDescriptor yX7_sold.desc).map (fun d => d.parameters.length) = some 3 := by decide +kernel
theorem wm_X0_sumLed : Jvm.Cond.instanceMethod yX0_sumLed ∈ fm_Ts ∧ Jvm.Cond.selects RX0 yX0_sumLed yX0_sumLed ∈ fm_Ts ∧ Jvm.Cond.initialized RX0 ∈ fm_Ts ∧ Jvm.Cond.code yX0_sumLed prog_2_method_5_code 6 (some .int) ∈ fm_Ts := ⟨fm_mem 907 (by decide +kernel) rfl, fm_mem 908 (by decide +kernel) rfl, fm_mem 90 (by decide +kernel) rfl, fm_mem 909 (by decide +kernel) rfl⟩
theorem wy_X0_sumLed : yX0_sumLed.cls = RX0 ∧ yX0_sumLed.cls ≠ "java/lang/invoke/MethodHandle" ∧ yX0_sumLed.cls ≠ "java/lang/invoke/VarHandle" ∧ (parseMethodDescriptor yX0_sumLed.desc).map (fun d => d.parameters.length) = some 2 := by decide +kernel
theorem wm_X6_byteAt : Jvm.Cond.instanceMethod yX6_byteAt ∈ fm_Ts ∧ Jvm.Cond.selects RX6 yX6_byteAt yX6_byteAt ∈ fm_Ts ∧ Jvm.Cond.initialized RX6 ∈ fm_Ts ∧ Jvm.Cond.code yX6_byteAt prog_8_method_4_code 2 (some .int) ∈ fm_Ts := ⟨fm_mem 911 (by decide +kernel) rfl, fm_mem 912 (by decide +kernel) rfl, fm_mem 87 (by decide +kernel) rfl, fm_mem 913 (by decide +kernel) rfl⟩
theorem wy_X6_byteAt : yX6_byteAt.cls = RX6 ∧ yX6_byteAt.cls ≠ "java/lang/invoke/MethodHandle" ∧ yX6_byteAt.cls ≠ "java/lang/invoke/VarHandle" ∧ (parseMethodDescriptor yX6_byteAt.desc).map (fun d => d.parameters.length) = some 1 := by decide +kernel
theorem wm_X7_wouldShake : Jvm.Cond.instanceMethod yX7_wouldShake ∈ fm_Ts ∧ Jvm.Cond.selects RX7 yX7_wouldShake yX7_wouldShake ∈ fm_Ts ∧ Jvm.Cond.initialized RX7 ∈ fm_Ts ∧ Jvm.Cond.code yX7_wouldShake prog_1_method_25_code 7 (some .boolean) ∈ fm_Ts := ⟨fm_mem 904 (by decide +kernel) rfl, fm_mem 30 (by decide +kernel) rfl, fm_mem 86 (by decide +kernel) rfl, fm_mem 905 (by decide +kernel) rfl⟩
theorem wy_X7_wouldShake : yX7_wouldShake.cls = RX7 ∧ yX7_wouldShake.cls ≠ "java/lang/invoke/MethodHandle" ∧ yX7_wouldShake.cls ≠ "java/lang/invoke/VarHandle" ∧ (parseMethodDescriptor yX7_wouldShake.desc).map (fun d => d.parameters.length) = some 4 := by decide +kernel
theorem wm_X7_shook : Jvm.Cond.instanceMethod yX7_shook ∈ fm_Ts ∧ Jvm.Cond.selects RX7 yX7_shook yX7_shook ∈ fm_Ts ∧ Jvm.Cond.initialized RX7 ∈ fm_Ts ∧ Jvm.Cond.code yX7_shook prog_1_method_24_code 7 (some .int) ∈ fm_Ts := ⟨fm_mem 898 (by decide +kernel) rfl, fm_mem 899 (by decide +kernel) rfl, fm_mem 86 (by decide +kernel) rfl, fm_mem 900 (by decide +kernel) rfl⟩
theorem wy_X7_shook : yX7_shook.cls = RX7 ∧ yX7_shook.cls ≠ "java/lang/invoke/MethodHandle" ∧ yX7_shook.cls ≠ "java/lang/invoke/VarHandle" ∧ (parseMethodDescriptor yX7_shook.desc).map (fun d => d.parameters.length) = some 3 := by decide +kernel
theorem wm_X7_led : Jvm.Cond.instanceMethod yX7_led ∈ fm_Ts ∧ Jvm.Cond.selects RX7 yX7_led yX7_led ∈ fm_Ts ∧ Jvm.Cond.initialized RX7 ∈ fm_Ts ∧ Jvm.Cond.code yX7_led prog_1_method_26_code 3 (some .int) ∈ fm_Ts := ⟨fm_mem 915 (by decide +kernel) rfl, fm_mem 916 (by decide +kernel) rfl, fm_mem 86 (by decide +kernel) rfl, fm_mem 917 (by decide +kernel) rfl⟩
theorem wy_X7_led : yX7_led.cls = RX7 ∧ yX7_led.cls ≠ "java/lang/invoke/MethodHandle" ∧ yX7_led.cls ≠ "java/lang/invoke/VarHandle" ∧ (parseMethodDescriptor yX7_led.desc).map (fun d => d.parameters.length) = some 2 := by decide +kernel
theorem wm_X7_reduced : Jvm.Cond.static yX7_reduced ∈ fm_Ts ∧ Jvm.Cond.initialized yX7_reduced.cls ∈ fm_Ts ∧ Jvm.Cond.code yX7_reduced prog_1_method_38_code 7 (some .int) ∈ fm_Ts := ⟨fm_mem 923 (by decide +kernel) rfl, fm_mem 86 (by decide +kernel) rfl, fm_mem 924 (by decide +kernel) rfl⟩
theorem wy_X7_reduced : yX7_reduced.cls ≠ "java/lang/invoke/MethodHandle" ∧ yX7_reduced.cls ≠ "java/lang/invoke/VarHandle" ∧ (parseMethodDescriptor yX7_reduced.desc).map (fun d => d.parameters.length) = some 3 := by decide +kernel
theorem wm_X7_share : Jvm.Cond.instanceMethod yX7_share ∈ fm_Ts ∧ Jvm.Cond.selects RX7 yX7_share yX7_share ∈ fm_Ts ∧ Jvm.Cond.initialized RX7 ∈ fm_Ts ∧ Jvm.Cond.code yX7_share prog_1_method_27_code 5 (some .int) ∈ fm_Ts := ⟨fm_mem 919 (by decide +kernel) rfl, fm_mem 920 (by decide +kernel) rfl, fm_mem 86 (by decide +kernel) rfl, fm_mem 921 (by decide +kernel) rfl⟩
theorem wy_X7_share : yX7_share.cls = RX7 ∧ yX7_share.cls ≠ "java/lang/invoke/MethodHandle" ∧ yX7_share.cls ≠ "java/lang/invoke/VarHandle" ∧ (parseMethodDescriptor yX7_share.desc).map (fun d => d.parameters.length) = some 3 := by decide +kernel
theorem wm_X7_odds : Jvm.Cond.instanceMethod yX7_odds ∈ fm_Ts ∧ Jvm.Cond.selects RX7 yX7_odds yX7_odds ∈ fm_Ts ∧ Jvm.Cond.initialized RX7 ∈ fm_Ts ∧ Jvm.Cond.code yX7_odds prog_1_method_28_code 9 (some .int) ∈ fm_Ts := ⟨fm_mem 926 (by decide +kernel) rfl, fm_mem 927 (by decide +kernel) rfl, fm_mem 86 (by decide +kernel) rfl, fm_mem 928 (by decide +kernel) rfl⟩
theorem wy_X7_odds : yX7_odds.cls = RX7 ∧ yX7_odds.cls ≠ "java/lang/invoke/MethodHandle" ∧ yX7_odds.cls ≠ "java/lang/invoke/VarHandle" ∧ (parseMethodDescriptor yX7_odds.desc).map (fun d => d.parameters.length) = some 3 := by decide +kernel
theorem wm_X7_seed : Jvm.Cond.instanceMethod yX7_seed ∈ fm_Ts ∧ Jvm.Cond.selects RX7 yX7_seed yX7_seed ∈ fm_Ts ∧ Jvm.Cond.initialized RX7 ∈ fm_Ts ∧ Jvm.Cond.code yX7_seed prog_1_method_29_code 2 (some .boolean) ∈ fm_Ts := ⟨fm_mem 930 (by decide +kernel) rfl, fm_mem 931 (by decide +kernel) rfl, fm_mem 86 (by decide +kernel) rfl, fm_mem 932 (by decide +kernel) rfl⟩
theorem wy_X7_seed : yX7_seed.cls = RX7 ∧ yX7_seed.cls ≠ "java/lang/invoke/MethodHandle" ∧ yX7_seed.cls ≠ "java/lang/invoke/VarHandle" ∧ (parseMethodDescriptor yX7_seed.desc).map (fun d => d.parameters.length) = some 1 := by decide +kernel
theorem wm_X6_take : Jvm.Cond.instanceMethod yX6_take ∈ fm_Ts ∧ Jvm.Cond.selects RX6 yX6_take yX6_take ∈ fm_Ts ∧ Jvm.Cond.initialized RX6 ∈ fm_Ts ∧ Jvm.Cond.code yX6_take prog_8_method_6_code 2 none ∈ fm_Ts := ⟨fm_mem 939 (by decide +kernel) rfl, fm_mem 940 (by decide +kernel) rfl, fm_mem 87 (by decide +kernel) rfl, fm_mem 941 (by decide +kernel) rfl⟩
theorem wy_X6_take : yX6_take.cls = RX6 ∧ yX6_take.cls ≠ "java/lang/invoke/MethodHandle" ∧ yX6_take.cls ≠ "java/lang/invoke/VarHandle" ∧ (parseMethodDescriptor yX6_take.desc).map (fun d => d.parameters.length) = some 1 := by decide +kernel
theorem wm_X7_keep : Jvm.Cond.instanceMethod yX7_keep ∈ fm_Ts ∧ Jvm.Cond.selects RX7 yX7_keep yX7_keep ∈ fm_Ts ∧ Jvm.Cond.initialized RX7 ∈ fm_Ts ∧ Jvm.Cond.code yX7_keep prog_1_method_30_code 1 (some .int) ∈ fm_Ts := ⟨fm_mem 935 (by decide +kernel) rfl, fm_mem 936 (by decide +kernel) rfl, fm_mem 86 (by decide +kernel) rfl, fm_mem 937 (by decide +kernel) rfl⟩
theorem wy_X7_keep : yX7_keep.cls = RX7 ∧ yX7_keep.cls ≠ "java/lang/invoke/MethodHandle" ∧ yX7_keep.cls ≠ "java/lang/invoke/VarHandle" ∧ (parseMethodDescriptor yX7_keep.desc).map (fun d => d.parameters.length) = some 0 := by decide +kernel
theorem wm_X7_undo : Jvm.Cond.instanceMethod yX7_undo ∈ fm_Ts ∧ Jvm.Cond.selects RX7 yX7_undo yX7_undo ∈ fm_Ts ∧ Jvm.Cond.initialized RX7 ∈ fm_Ts ∧ Jvm.Cond.code yX7_undo prog_1_method_31_code 1 (some .boolean) ∈ fm_Ts := ⟨fm_mem 944 (by decide +kernel) rfl, fm_mem 945 (by decide +kernel) rfl, fm_mem 86 (by decide +kernel) rfl, fm_mem 946 (by decide +kernel) rfl⟩
theorem wy_X7_undo : yX7_undo.cls = RX7 ∧ yX7_undo.cls ≠ "java/lang/invoke/MethodHandle" ∧ yX7_undo.cls ≠ "java/lang/invoke/VarHandle" ∧ (parseMethodDescriptor yX7_undo.desc).map (fun d => d.parameters.length) = some 0 := by decide +kernel
theorem wm_X6_numberAt : Jvm.Cond.instanceMethod yX6_numberAt ∈ fm_Ts ∧ Jvm.Cond.selects RX6 yX6_numberAt yX6_numberAt ∈ fm_Ts ∧ Jvm.Cond.initialized RX6 ∈ fm_Ts ∧ Jvm.Cond.code yX6_numberAt prog_8_method_5_code 4 (some .int) ∈ fm_Ts := ⟨fm_mem 952 (by decide +kernel) rfl, fm_mem 953 (by decide +kernel) rfl, fm_mem 87 (by decide +kernel) rfl, fm_mem 954 (by decide +kernel) rfl⟩
theorem wy_X6_numberAt : yX6_numberAt.cls = RX6 ∧ yX6_numberAt.cls ≠ "java/lang/invoke/MethodHandle" ∧ yX6_numberAt.cls ≠ "java/lang/invoke/VarHandle" ∧ (parseMethodDescriptor yX6_numberAt.desc).map (fun d => d.parameters.length) = some 1 := by decide +kernel
theorem wm_X7_check : Jvm.Cond.instanceMethod yX7_check ∈ fm_Ts ∧ Jvm.Cond.selects RX7 yX7_check yX7_check ∈ fm_Ts ∧ Jvm.Cond.initialized RX7 ∈ fm_Ts ∧ Jvm.Cond.code yX7_check prog_1_method_32_code 3 (some .int) ∈ fm_Ts := ⟨fm_mem 948 (by decide +kernel) rfl, fm_mem 949 (by decide +kernel) rfl, fm_mem 86 (by decide +kernel) rfl, fm_mem 950 (by decide +kernel) rfl⟩
theorem wy_X7_check : yX7_check.cls = RX7 ∧ yX7_check.cls ≠ "java/lang/invoke/MethodHandle" ∧ yX7_check.cls ≠ "java/lang/invoke/VarHandle" ∧ (parseMethodDescriptor yX7_check.desc).map (fun d => d.parameters.length) = some 1 := by decide +kernel
theorem wm_X0_sumDust : Jvm.Cond.instanceMethod yX0_sumDust ∈ fm_Ts ∧ Jvm.Cond.selects RX0 yX0_sumDust yX0_sumDust ∈ fm_Ts ∧ Jvm.Cond.initialized RX0 ∈ fm_Ts ∧ Jvm.Cond.code yX0_sumDust prog_2_method_4_code 3 (some .int) ∈ fm_Ts := ⟨fm_mem 961 (by decide +kernel) rfl, fm_mem 962 (by decide +kernel) rfl, fm_mem 90 (by decide +kernel) rfl, fm_mem 963 (by decide +kernel) rfl⟩
theorem wy_X0_sumDust : yX0_sumDust.cls = RX0 ∧ yX0_sumDust.cls ≠ "java/lang/invoke/MethodHandle" ∧ yX0_sumDust.cls ≠ "java/lang/invoke/VarHandle" ∧ (parseMethodDescriptor yX0_sumDust.desc).map (fun d => d.parameters.length) = some 0 := by decide +kernel
theorem wm_X7_count : Jvm.Cond.instanceMethod yX7_count ∈ fm_Ts ∧ Jvm.Cond.selects RX7 yX7_count yX7_count ∈ fm_Ts ∧ Jvm.Cond.initialized RX7 ∈ fm_Ts ∧ Jvm.Cond.code yX7_count prog_1_method_33_code 2 (some .int) ∈ fm_Ts := ⟨fm_mem 957 (by decide +kernel) rfl, fm_mem 958 (by decide +kernel) rfl, fm_mem 86 (by decide +kernel) rfl, fm_mem 959 (by decide +kernel) rfl⟩
theorem wy_X7_count : yX7_count.cls = RX7 ∧ yX7_count.cls ≠ "java/lang/invoke/MethodHandle" ∧ yX7_count.cls ≠ "java/lang/invoke/VarHandle" ∧ (parseMethodDescriptor yX7_count.desc).map (fun d => d.parameters.length) = some 1 := by decide +kernel
theorem wl_X7_75 : Jvm.Cond.methodLink RX7 75 yX7_isYard ∈ fm_Ts := fm_mem 424 (by decide +kernel) rfl
theorem wl_X7_80 : Jvm.Cond.methodLink RX7 80 yX7_isWithin ∈ fm_Ts := fm_mem 428 (by decide +kernel) rfl
theorem wl_X7_96 : Jvm.Cond.methodLink RX7 96 yX7_isPorter ∈ fm_Ts := fm_mem 439 (by decide +kernel) rfl
theorem wl_X7_124 : Jvm.Cond.methodLink RX7 124 yX7_isBeggar ∈ fm_Ts := fm_mem 450 (by decide +kernel) rfl
theorem wl_X7_130 : Jvm.Cond.methodLink RX7 130 yX6_hasRoom ∈ fm_Ts := fm_mem 457 (by decide +kernel) rfl
theorem wl_X7_133 : Jvm.Cond.methodLink RX7 133 yX6_putNumber ∈ fm_Ts := fm_mem 461 (by decide +kernel) rfl
theorem wl_X3_39 : Jvm.Cond.methodLink RX3 39 yX3_next ∈ fm_Ts := fm_mem 481 (by decide +kernel) rfl
theorem wl_X3_43 : Jvm.Cond.methodLink RX3 43 yX3_fail ∈ fm_Ts := fm_mem 572 (by decide +kernel) rfl
theorem wl_X3_125 : Jvm.Cond.methodLink RX3 125 yX3_isDigit ∈ fm_Ts := fm_mem 596 (by decide +kernel) rfl
theorem wl_X3_108 : Jvm.Cond.methodLink RX3 108 yX1_putStep ∈ fm_Ts := fm_mem 603 (by decide +kernel) rfl
theorem wl_X3_79 : Jvm.Cond.methodLink RX3 79 yX3_open ∈ fm_Ts := fm_mem 588 (by decide +kernel) rfl
theorem wl_X3_128 : Jvm.Cond.methodLink RX3 128 yX3_readNumber ∈ fm_Ts := fm_mem 599 (by decide +kernel) rfl
theorem wl_X3_122 : Jvm.Cond.methodLink RX3 122 yX3_readFactor ∈ fm_Ts := fm_mem 584 (by decide +kernel) rfl
theorem wl_X3_119 : Jvm.Cond.methodLink RX3 119 yX3_readTerm ∈ fm_Ts := fm_mem 580 (by decide +kernel) rfl
theorem wl_X3_73 : Jvm.Cond.methodLink RX3 73 yX3_readSum ∈ fm_Ts := fm_mem 576 (by decide +kernel) rfl
theorem wl_X3_86 : Jvm.Cond.methodLink RX3 86 yX3_close ∈ fm_Ts := fm_mem 592 (by decide +kernel) rfl
theorem wl_X3_116 : Jvm.Cond.methodLink RX3 116 yX3_readPiece ∈ fm_Ts := fm_mem 616 (by decide +kernel) rfl
theorem wl_X3_112 : Jvm.Cond.methodLink RX3 112 yX1_leadToEnd ∈ fm_Ts := fm_mem 620 (by decide +kernel) rfl
theorem wl_X3_105 : Jvm.Cond.methodLink RX3 105 yX3_readPieces ∈ fm_Ts := fm_mem 612 (by decide +kernel) rfl
theorem wl_X3_83 : Jvm.Cond.methodLink RX3 83 yX3_readParts ∈ fm_Ts := fm_mem 608 (by decide +kernel) rfl
theorem wl_X3_96 : Jvm.Cond.methodLink RX3 96 yX3_seesDust ∈ fm_Ts := fm_mem 624 (by decide +kernel) rfl
theorem wl_X3_32 : Jvm.Cond.methodLink RX3 32 yX1_clear ∈ fm_Ts := fm_mem 473 (by decide +kernel) rfl
theorem wl_X3_35 : Jvm.Cond.methodLink RX3 35 yX3_readClause ∈ fm_Ts := fm_mem 477 (by decide +kernel) rfl
theorem wl_X1_47 : Jvm.Cond.methodLink RX1 47 arraycopyName ∈ fm_Ts := fm_mem 632 (by decide +kernel) rfl
theorem wl_X7_140 : Jvm.Cond.methodLink RX7 140 yX3_readText ∈ fm_Ts := fm_mem 469 (by decide +kernel) rfl
theorem wl_X7_147 : Jvm.Cond.methodLink RX7 147 yX1_take ∈ fm_Ts := fm_mem 628 (by decide +kernel) rfl
theorem wl_X2_34 : (RX2, 34, yX7_isPorter, "DustMint") ∈ fm_nt := List.mem_of_getElem? (i := 6) rfl
theorem wl_X0_131 : (RX0, 131, yX7_isYard, "DustMint") ∈ fm_nt := List.mem_of_getElem? (i := 7) rfl
theorem wl_X1_53 : Jvm.Cond.methodLink RX1 53 yX1_reckon ∈ fm_Ts := fm_mem 684 (by decide +kernel) rfl
theorem wl_X1_57 : Jvm.Cond.methodLink RX1 57 yJ9_min_7cf53 ∈ fm_Ts := fm_mem 688 (by decide +kernel) rfl
theorem wl_X1_62 : Jvm.Cond.methodLink RX1 62 yJ9_max_7cf53 ∈ fm_Ts := fm_mem 689 (by decide +kernel) rfl
theorem wl_X0_142 : (RX0, 142, yX7_isPorter, "DustMint") ∈ fm_nt := List.mem_of_getElem? (i := 5) rfl
theorem wl_X0_145 : Jvm.Cond.methodLink RX0 145 yX2_climbs ∈ fm_Ts := fm_mem 662 (by decide +kernel) rfl
theorem wl_X0_109 : Jvm.Cond.methodLink RX0 109 yX1_forgetWho ∈ fm_Ts := fm_mem 667 (by decide +kernel) rfl
theorem wl_X0_148 : Jvm.Cond.methodLink RX0 148 yX0_show ∈ fm_Ts := fm_mem 671 (by decide +kernel) rfl
theorem wl_X0_161 : Jvm.Cond.methodLink RX0 161 yX2_countAt ∈ fm_Ts := fm_mem 676 (by decide +kernel) rfl
theorem wl_X0_165 : Jvm.Cond.methodLink RX0 165 yX1_amount ∈ fm_Ts := fm_mem 680 (by decide +kernel) rfl
theorem wl_X0_168 : Jvm.Cond.methodLink RX0 168 yJ9_min_7cf53 ∈ fm_Ts := fm_mem 690 (by decide +kernel) rfl
theorem wl_X0_124 : Jvm.Cond.methodLink RX0 124 yX0_loss ∈ fm_Ts := fm_mem 657 (by decide +kernel) rfl
theorem wl_X0_138 : Jvm.Cond.methodLink RX0 138 yX0_heap ∈ fm_Ts := fm_mem 691 (by decide +kernel) rfl
theorem wl_X0_175 : Jvm.Cond.methodLink RX0 175 yX1_has ∈ fm_Ts := fm_mem 704 (by decide +kernel) rfl
theorem wl_X0_178 : Jvm.Cond.methodLink RX0 178 yX0_taken ∈ fm_Ts := fm_mem 708 (by decide +kernel) rfl
theorem wl_X0_181 : (RX0, 181, yX7_isBeggar, "DustMint") ∈ fm_nt := List.mem_of_getElem? (i := 8) rfl
theorem wl_X0_103 : Jvm.Cond.methodLink RX0 103 yX0_spill ∈ fm_Ts := fm_mem 653 (by decide +kernel) rfl
theorem wl_X0_106 : Jvm.Cond.methodLink RX0 106 yX0_climb ∈ fm_Ts := fm_mem 696 (by decide +kernel) rfl
theorem wl_X0_114 : Jvm.Cond.methodLink RX0 114 yX0_blow ∈ fm_Ts := fm_mem 700 (by decide +kernel) rfl
theorem wl_X0_118 : Jvm.Cond.methodLink RX0 118 yX0_wash ∈ fm_Ts := fm_mem 712 (by decide +kernel) rfl
theorem wl_X0_121 : Jvm.Cond.methodLink RX0 121 yX0_sieve ∈ fm_Ts := fm_mem 716 (by decide +kernel) rfl
theorem wl_X0_94 : Jvm.Cond.methodLink RX0 94 yX0_nextDraw ∈ fm_Ts := fm_mem 644 (by decide +kernel) rfl
theorem wl_X0_98 : Jvm.Cond.methodLink RX0 98 yX0_pass ∈ fm_Ts := fm_mem 649 (by decide +kernel) rfl
theorem wl_X7_151 : Jvm.Cond.methodLink RX7 151 yX0_passDrawn ∈ fm_Ts := fm_mem 640 (by decide +kernel) rfl
theorem wl_X7_155 : Jvm.Cond.methodLink RX7 155 yX0_pass ∈ fm_Ts := fm_mem 725 (by decide +kernel) rfl
theorem wl_X7_158 : Jvm.Cond.methodLink RX7 158 yX2_isTold ∈ fm_Ts := fm_mem 734 (by decide +kernel) rfl
theorem wl_X7_161 : Jvm.Cond.methodLink RX7 161 yX0_loss ∈ fm_Ts := fm_mem 738 (by decide +kernel) rfl
theorem wl_X2_28 : Jvm.Cond.methodLink RX2 28 arraycopyName ∈ fm_Ts := fm_mem 759 (by decide +kernel) rfl
theorem wl_X0_92 : Jvm.Cond.methodLink RX0 92 yX2_takeMoving ∈ fm_Ts := fm_mem 755 (by decide +kernel) rfl
theorem wl_X0_86 : Jvm.Cond.methodLink RX0 86 arraycopyName ∈ fm_Ts := fm_mem 760 (by decide +kernel) rfl
theorem wl_X0_78 : Jvm.Cond.methodLink RX0 78 yX0_takeMoving ∈ fm_Ts := fm_mem 751 (by decide +kernel) rfl
theorem wl_X0_82 : Jvm.Cond.methodLink RX0 82 yX2_takeAll ∈ fm_Ts := fm_mem 761 (by decide +kernel) rfl
theorem wl_X7_165 : Jvm.Cond.methodLink RX7 165 yX7_isTriable ∈ fm_Ts := fm_mem 743 (by decide +kernel) rfl
theorem wl_X7_168 : Jvm.Cond.methodLink RX7 168 yX0_takeAll ∈ fm_Ts := fm_mem 747 (by decide +kernel) rfl
theorem wl_X4_51 : Jvm.Cond.methodLink RX4 51 yX0_takeAll ∈ fm_Ts := fm_mem 773 (by decide +kernel) rfl
theorem wl_X4_100 : (RX4, 100, yX7_isYard, "DustMint") ∈ fm_nt := List.mem_of_getElem? (i := 9) rfl
theorem wl_X4_69 : Jvm.Cond.methodLink RX4 69 yX0_takeMoving ∈ fm_Ts := fm_mem 783 (by decide +kernel) rfl
theorem wl_X4_75 : Jvm.Cond.methodLink RX4 75 yX4_grant ∈ fm_Ts := fm_mem 784 (by decide +kernel) rfl
theorem wl_X4_79 : Jvm.Cond.methodLink RX4 79 yX0_nextDraw ∈ fm_Ts := fm_mem 789 (by decide +kernel) rfl
theorem wl_X4_83 : Jvm.Cond.methodLink RX4 83 yX0_pass ∈ fm_Ts := fm_mem 790 (by decide +kernel) rfl
theorem wl_X4_87 : (RX4, 87, yX7_isBeggar, "DustMint") ∈ fm_nt := List.mem_of_getElem? (i := 10) rfl
theorem wl_X4_94 : Jvm.Cond.methodLink RX4 94 arraycopyName ∈ fm_Ts := fm_mem 792 (by decide +kernel) rfl
theorem wl_X4_61 : Jvm.Cond.methodLink RX4 61 yX4_weigh ∈ fm_Ts := fm_mem 779 (by decide +kernel) rfl
theorem wl_X4_65 : Jvm.Cond.methodLink RX4 65 yX4_hasBit ∈ fm_Ts := fm_mem 793 (by decide +kernel) rfl
theorem wl_X7_184 : Jvm.Cond.methodLink RX7 184 yX4_begin ∈ fm_Ts := fm_mem 769 (by decide +kernel) rfl
theorem wl_X7_188 : Jvm.Cond.methodLink RX7 188 yX4_weighOnes ∈ fm_Ts := fm_mem 775 (by decide +kernel) rfl
theorem wl_X7_191 : Jvm.Cond.methodLink RX7 191 yX4_weighPairs ∈ fm_Ts := fm_mem 796 (by decide +kernel) rfl
theorem wl_X7_194 : Jvm.Cond.methodLink RX7 194 yX4_weighTriples ∈ fm_Ts := fm_mem 800 (by decide +kernel) rfl
theorem wl_X7_203 : Jvm.Cond.methodLink RX7 203 yX4_bestAt ∈ fm_Ts := fm_mem 804 (by decide +kernel) rfl
theorem wl_X2_38 : Jvm.Cond.methodLink RX2 38 yX2_climbs ∈ fm_Ts := fm_mem 822 (by decide +kernel) rfl
theorem wl_X5_39 : (RX5, 39, yX7_isPorter, "DustMint") ∈ fm_nt := List.mem_of_getElem? (i := 11) rfl
theorem wl_X5_35 : Jvm.Cond.methodLink RX5 35 yX5_handOutBy ∈ fm_Ts := fm_mem 837 (by decide +kernel) rfl
theorem wl_X5_29 : Jvm.Cond.methodLink RX5 29 arraycopyName ∈ fm_Ts := fm_mem 850 (by decide +kernel) rfl
theorem wl_X5_25 : Jvm.Cond.methodLink RX5 25 yX5_exchange ∈ fm_Ts := fm_mem 855 (by decide +kernel) rfl
theorem wl_X7_229 : Jvm.Cond.methodLink RX7 229 yX5_begin ∈ fm_Ts := fm_mem 828 (by decide +kernel) rfl
theorem wl_X7_221 : Jvm.Cond.methodLink RX7 221 yX0_takeMoving ∈ fm_Ts := fm_mem 832 (by decide +kernel) rfl
theorem wl_X7_237 : Jvm.Cond.methodLink RX7 237 yX5_handOut ∈ fm_Ts := fm_mem 833 (by decide +kernel) rfl
theorem wl_X7_240 : Jvm.Cond.methodLink RX7 240 yX0_passUnder ∈ fm_Ts := fm_mem 842 (by decide +kernel) rfl
theorem wl_X7_243 : Jvm.Cond.methodLink RX7 243 yX5_holdBest ∈ fm_Ts := fm_mem 846 (by decide +kernel) rfl
theorem wl_X7_246 : Jvm.Cond.methodLink RX7 246 yX5_goOn ∈ fm_Ts := fm_mem 851 (by decide +kernel) rfl
theorem wl_X7_206 : Jvm.Cond.methodLink RX7 206 yJ6_bitCount_0f7a4 ∈ fm_Ts := fm_mem 812 (by decide +kernel) rfl
theorem wl_X7_211 : Jvm.Cond.methodLink RX7 211 yX2_allClimb ∈ fm_Ts := fm_mem 818 (by decide +kernel) rfl
theorem wl_X7_214 : Jvm.Cond.methodLink RX7 214 yX7_searchSwap ∈ fm_Ts := fm_mem 823 (by decide +kernel) rfl
theorem wl_X7_218 : Jvm.Cond.methodLink RX7 218 yX5_whoseFor ∈ fm_Ts := fm_mem 859 (by decide +kernel) rfl
theorem wl_X7_224 : Jvm.Cond.methodLink RX7 224 yX5_handOutBest ∈ fm_Ts := fm_mem 863 (by decide +kernel) rfl
theorem wl_X7_250 : Jvm.Cond.methodLink RX7 250 arraycopyName ∈ fm_Ts := fm_mem 875 (by decide +kernel) rfl
theorem wl_X7_256 : Jvm.Cond.methodLink RX7 256 yJ9_abs_0f7a4 ∈ fm_Ts := fm_mem 876 (by decide +kernel) rfl
theorem wl_X7_261 : Jvm.Cond.methodLink RX7 261 yX7_tryUnlicensed ∈ fm_Ts := fm_mem 883 (by decide +kernel) rfl
theorem wl_X7_265 : Jvm.Cond.methodLink RX7 265 yX7_worthTo ∈ fm_Ts := fm_mem 887 (by decide +kernel) rfl
theorem wl_X7_270 : Jvm.Cond.methodLink RX7 270 yJ9_max_7cf53 ∈ fm_Ts := fm_mem 896 (by decide +kernel) rfl
theorem wl_X7_280 : Jvm.Cond.methodLink RX7 280 yX0_sumLed ∈ fm_Ts := fm_mem 906 (by decide +kernel) rfl
theorem wl_X7_283 : Jvm.Cond.methodLink RX7 283 yX6_byteAt ∈ fm_Ts := fm_mem 910 (by decide +kernel) rfl
theorem wl_X7_273 : Jvm.Cond.methodLink RX7 273 yX2_climbs ∈ fm_Ts := fm_mem 901 (by decide +kernel) rfl
theorem wl_X7_276 : Jvm.Cond.methodLink RX7 276 yX7_wouldShake ∈ fm_Ts := fm_mem 902 (by decide +kernel) rfl
theorem wl_X7_286 : Jvm.Cond.methodLink RX7 286 yX7_reduced ∈ fm_Ts := fm_mem 922 (by decide +kernel) rfl
theorem wl_X6_23 : Jvm.Cond.methodLink RX6 23 arraycopyName ∈ fm_Ts := fm_mem 942 (by decide +kernel) rfl
theorem wl_X7_293 : Jvm.Cond.methodLink RX7 293 yX6_take ∈ fm_Ts := fm_mem 938 (by decide +kernel) rfl
theorem wl_X6_19 : Jvm.Cond.methodLink RX6 19 yX6_byteAt ∈ fm_Ts := fm_mem 955 (by decide +kernel) rfl
theorem wl_X7_298 : Jvm.Cond.methodLink RX7 298 yX6_numberAt ∈ fm_Ts := fm_mem 951 (by decide +kernel) rfl
theorem wl_X7_304 : Jvm.Cond.methodLink RX7 304 yX0_sumDust ∈ fm_Ts := fm_mem 960 (by decide +kernel) rfl
end
section
def cd_X7_isYard : List (Nat × Instr × Nat) := [(0, .iload_n 0, 1), (1, .ifCond .lt 13, 3), (4, .iload_n 0, 1), (5, .bipush 20, 2), (7, .if_icmp .ge 7, 3), (10, .iconst 1, 1), (11, .goto 4, 3), (14, .iconst 0, 1), (15, .ireturn, 1)]
theorem dc_X7_isYard : ∀ q ∈ cd_X7_isYard, decode prog_1_method_35_code q.1 = .ok (q.2.1, q.2.2) := by decide +kernel
def K_X7_isYard_0 : rv_K := ([rv_full], [], [], [(0, 0, 1)], [(.inl 0, 0, 19)], [])
def ct_X7_isYard_0 : List (Nat × rv_K) := []
def n_X7_isYard_0 : List rv_N := [
  (0, ([rv_full], [], []), [1], 7, [], []),
  (1, ([rv_full], [(1, 0, (-2147483648), 2147483647, [(.inl 0, 0)], [])], []), [2, 7], 6, [], []),
  (2, ([rv_i 0 2147483647], [], []), [3], 5, [], []),
  (3, ([rv_i 0 2147483647], [(1, 0, 0, 2147483647, [(.inl 0, 0)], [])], []), [4], 4, [], []),
  (4, ([rv_i 0 2147483647], [rv_i 20 20, (1, 0, 0, 2147483647, [(.inl 0, 0)], [])], []), [5, 7], 3, [], []),
  (5, ([rv_i 0 19], [], []), [6], 2, [], []),
  (6, ([rv_i 0 19], [rv_i 1 1], []), [9], 1, [], []),
  (7, ([rv_full], [], []), [8], 1, [], []),
  (8, ([rv_full], [rv_i 0 0], []), [], 0, [], []),
  (8, ([rv_i 0 19], [rv_i 1 1], []), [], 0, [], [])]
set_option maxRecDepth 100000 in
theorem a_X7_isYard_0 : rv_all (fm_tm, flX7, fm_wr, kcX7, klX7, K_X7_isYard_0.2.2.1, [0], 1) ct_X7_isYard_0 cd_X7_isYard n_X7_isYard_0 K_X7_isYard_0 [] 0 n_X7_isYard_0 = true := by decide +kernel
theorem m_X7_isYard_0 {l : Launch} {D : va_G} {ad : Nat → Nat} {cy : Nat → ClassId} {Z : State → Heap → Prop} {Gp : fm_V → Prop} (hAd : fm_Ad fm_tm ad) (hZ : fm_Zk (fm_A fm_tm ad) Z) (hGd : fm_Gd Gp) : rv_Met l D fm_cl fm_tm ad cy fm_nt Z Gp yX7_isYard (.code yX7_isYard prog_1_method_35_code 1 (some .boolean) :: fm_Ts) { frames := 0, cells := 0, slots := 0, locals := 0 } K_X7_isYard_0 := rv_met hAd hZ (by decide +kernel) evX7 dc_X7_isYard a_X7_isYard_0 ⟨rfl, rfl, rfl⟩ (by decide +kernel) (by decide +kernel) (by decide) (fm_gm hGd (by decide +kernel)) (Or.inr ⟨rfl, by decide, by decide⟩) (fun p e s m args below meth c Q X Y => fun _ h => absurd h List.not_mem_nil) (fun _ _ _ _ _ _ _ _ _ _ _ _ _ _ _ _ h => absurd h List.not_mem_nil)
def cd_X7_isWithin : List (Nat × Instr × Nat) := [(0, .iload_n 0, 1), (1, .iload_n 1, 1), (2, .if_icmp .lt 12, 3), (5, .iload_n 0, 1), (6, .iload_n 2, 1), (7, .if_icmp .gt 7, 3), (10, .iconst 1, 1), (11, .goto 4, 3), (14, .iconst 0, 1), (15, .ireturn, 1)]
theorem dc_X7_isWithin : ∀ q ∈ cd_X7_isWithin, decode prog_1_method_34_code q.1 = .ok (q.2.1, q.2.2) := by decide +kernel
def K_X7_isWithin_0 : rv_K := ([rv_full, rv_i 0 0, rv_i 99999 99999], [], [], [(0, 0, 1)], [(.inl 0, 0, 99999)], [])
def ct_X7_isWithin_0 : List (Nat × rv_K) := []
def n_X7_isWithin_0 : List rv_N := [
  (0, ([rv_full, rv_i 0 0, rv_i 99999 99999], [], []), [1], 8, [], []),
  (1, ([rv_full, rv_i 0 0, rv_i 99999 99999], [(1, 0, (-2147483648), 2147483647, [(.inl 0, 0)], [])], []), [2], 7, [], []),
  (2, ([rv_full, rv_i 0 0, rv_i 99999 99999], [(1, 0, 0, 0, [(.inl 1, 0)], []), (1, 0, (-2147483648), 2147483647, [(.inl 0, 0)], [])], []), [3, 8], 6, [], []),
  (3, ([rv_i 0 2147483647, rv_i 0 0, rv_i 99999 99999], [], []), [4], 5, [], []),
  (4, ([rv_i 0 2147483647, rv_i 0 0, rv_i 99999 99999], [(1, 0, 0, 2147483647, [(.inl 0, 0)], [])], []), [5], 4, [], []),
  (5, ([rv_i 0 2147483647, rv_i 0 0, rv_i 99999 99999], [(1, 0, 99999, 99999, [(.inl 2, 0)], []), (1, 0, 0, 2147483647, [(.inl 0, 0)], [])], []), [6, 8], 3, [], []),
  (6, ([rv_i 0 99999, rv_i 0 0, rv_i 99999 99999], [], []), [7], 2, [], []),
  (7, ([rv_i 0 99999, rv_i 0 0, rv_i 99999 99999], [rv_i 1 1], []), [10], 1, [], []),
  (8, ([rv_full, rv_i 0 0, rv_i 99999 99999], [], []), [9], 1, [], []),
  (9, ([rv_full, rv_i 0 0, rv_i 99999 99999], [rv_i 0 0], []), [], 0, [], []),
  (9, ([rv_i 0 99999, rv_i 0 0, rv_i 99999 99999], [rv_i 1 1], []), [], 0, [], [])]
set_option maxRecDepth 100000 in
theorem a_X7_isWithin_0 : rv_all (fm_tm, flX7, fm_wr, kcX7, klX7, K_X7_isWithin_0.2.2.1, [0, 1, 2], 3) ct_X7_isWithin_0 cd_X7_isWithin n_X7_isWithin_0 K_X7_isWithin_0 [] 0 n_X7_isWithin_0 = true := by decide +kernel
theorem m_X7_isWithin_0 {l : Launch} {D : va_G} {ad : Nat → Nat} {cy : Nat → ClassId} {Z : State → Heap → Prop} {Gp : fm_V → Prop} (hAd : fm_Ad fm_tm ad) (hZ : fm_Zk (fm_A fm_tm ad) Z) (hGd : fm_Gd Gp) : rv_Met l D fm_cl fm_tm ad cy fm_nt Z Gp yX7_isWithin (.code yX7_isWithin prog_1_method_34_code 3 (some .boolean) :: fm_Ts) { frames := 0, cells := 0, slots := 0, locals := 0 } K_X7_isWithin_0 := rv_met hAd hZ (by decide +kernel) evX7 dc_X7_isWithin a_X7_isWithin_0 ⟨rfl, rfl, rfl⟩ (by decide +kernel) (by decide +kernel) (by decide) (fm_gm hGd (by decide +kernel)) (Or.inr ⟨rfl, by decide, by decide⟩) (fun p e s m args below meth c Q X Y => fun _ h => absurd h List.not_mem_nil) (fun _ _ _ _ _ _ _ _ _ _ _ _ _ _ _ _ h => absurd h List.not_mem_nil)
def K_X7_isWithin_1 : rv_K := ([rv_full, rv_i (-3) (-3), rv_i 3 3], [], [], [(0, 0, 1)], [(.inl 0, (-3), 3)], [])
def ct_X7_isWithin_1 : List (Nat × rv_K) := []
def n_X7_isWithin_1 : List rv_N := [
  (0, ([rv_full, rv_i (-3) (-3), rv_i 3 3], [], []), [1], 8, [], []),
  (1, ([rv_full, rv_i (-3) (-3), rv_i 3 3], [(1, 0, (-2147483648), 2147483647, [(.inl 0, 0)], [])], []), [2], 7, [], []),
  (2, ([rv_full, rv_i (-3) (-3), rv_i 3 3], [(1, 0, (-3), (-3), [(.inl 1, 0)], []), (1, 0, (-2147483648), 2147483647, [(.inl 0, 0)], [])], []), [3, 8], 6, [], []),
  (3, ([rv_i (-3) 2147483647, rv_i (-3) (-3), rv_i 3 3], [], []), [4], 5, [], []),
  (4, ([rv_i (-3) 2147483647, rv_i (-3) (-3), rv_i 3 3], [(1, 0, (-3), 2147483647, [(.inl 0, 0)], [])], []), [5], 4, [], []),
  (5, ([rv_i (-3) 2147483647, rv_i (-3) (-3), rv_i 3 3], [(1, 0, 3, 3, [(.inl 2, 0)], []), (1, 0, (-3), 2147483647, [(.inl 0, 0)], [])], []), [6, 8], 3, [], []),
  (6, ([rv_i (-3) 3, rv_i (-3) (-3), rv_i 3 3], [], []), [7], 2, [], []),
  (7, ([rv_i (-3) 3, rv_i (-3) (-3), rv_i 3 3], [rv_i 1 1], []), [10], 1, [], []),
  (8, ([rv_full, rv_i (-3) (-3), rv_i 3 3], [], []), [9], 1, [], []),
  (9, ([rv_full, rv_i (-3) (-3), rv_i 3 3], [rv_i 0 0], []), [], 0, [], []),
  (9, ([rv_i (-3) 3, rv_i (-3) (-3), rv_i 3 3], [rv_i 1 1], []), [], 0, [], [])]
set_option maxRecDepth 100000 in
theorem a_X7_isWithin_1 : rv_all (fm_tm, flX7, fm_wr, kcX7, klX7, K_X7_isWithin_1.2.2.1, [0, 1, 2], 3) ct_X7_isWithin_1 cd_X7_isWithin n_X7_isWithin_1 K_X7_isWithin_1 [] 0 n_X7_isWithin_1 = true := by decide +kernel
theorem m_X7_isWithin_1 {l : Launch} {D : va_G} {ad : Nat → Nat} {cy : Nat → ClassId} {Z : State → Heap → Prop} {Gp : fm_V → Prop} (hAd : fm_Ad fm_tm ad) (hZ : fm_Zk (fm_A fm_tm ad) Z) (hGd : fm_Gd Gp) : rv_Met l D fm_cl fm_tm ad cy fm_nt Z Gp yX7_isWithin (.code yX7_isWithin prog_1_method_34_code 3 (some .boolean) :: fm_Ts) { frames := 0, cells := 0, slots := 0, locals := 0 } K_X7_isWithin_1 := rv_met hAd hZ (by decide +kernel) evX7 dc_X7_isWithin a_X7_isWithin_1 ⟨rfl, rfl, rfl⟩ (by decide +kernel) (by decide +kernel) (by decide) (fm_gm hGd (by decide +kernel)) (Or.inr ⟨rfl, by decide, by decide⟩) (fun p e s m args below meth c Q X Y => fun _ h => absurd h List.not_mem_nil) (fun _ _ _ _ _ _ _ _ _ _ _ _ _ _ _ _ h => absurd h List.not_mem_nil)
def cd_X7_yard : List (Nat × Instr × Nat) := [(0, .iload_n 1, 1), (1, .invokestatic 75, 3), (4, .ifCond .eq 23, 3), (7, .iload_n 2, 1), (8, .iconst 0, 1), (9, .ldc 79, 2), (11, .invokestatic 80, 3), (14, .ifCond .eq 13, 3), (17, .iload_n 3, 1), (18, .bipush (-3), 2), (20, .iconst 3, 1), (21, .invokestatic 80, 3), (24, .ifCond .ne 5, 3), (27, .iconst 0, 1), (28, .ireturn, 1), (29, .aload_n 0, 1), (30, .getfield 38, 3), (33, .getfield 84, 3), (36, .iload_n 1, 1), (37, .iload_n 2, 1), (38, .iastore, 1), (39, .aload_n 0, 1), (40, .getfield 38, 3), (43, .getfield 87, 3), (46, .iload_n 1, 1), (47, .iload_n 3, 1), (48, .iastore, 1), (49, .aload_n 0, 1), (50, .getfield 38, 3), (53, .getfield 90, 3), (56, .iload_n 1, 1), (57, .iload 4, 2), (59, .ifCond .eq 7, 3), (62, .iconst 1, 1), (63, .goto 4, 3), (66, .iconst 0, 1), (67, .iastore, 1), (68, .iconst 1, 1), (69, .ireturn, 1)]
theorem dc_X7_yard : ∀ q ∈ cd_X7_yard, decode prog_1_method_2_code q.1 = .ok (q.2.1, q.2.2) := by decide +kernel
def K_X7_yard_0 : rv_K := ([rv_r 0, rv_full, rv_full, rv_full, rv_i 0 1], [], [(27, 9999), (28, 9999), (29, 9999)], [(0, 0, 1)], [(.inl 1, 0, 19), (.inl 2, 0, 99999), (.inl 3, (-3), 3)], [])
def ct_X7_yard_0 : List (Nat × rv_K) := [(1, K_X7_isYard_0), (6, K_X7_isWithin_0), (11, K_X7_isWithin_1)]
def n_X7_yard_0 : List rv_N := [
  (0, ([rv_r 0, rv_full, rv_full, rv_full, rv_i 0 1], [], []), [1], 35, [], []),
  (1, ([rv_r 0, rv_full, rv_full, rv_full, rv_i 0 1], [(1, 0, (-2147483648), 2147483647, [(.inl 1, 0)], [])], []), [2], 34, [], [0]),
  (2, ([rv_r 0, rv_full, rv_full, rv_full, rv_i 0 1], [(1, 0, 0, 1, [], [(.inl 1, 0, 19)])], []), [3, 13], 33, [], []),
  (3, ([rv_r 0, rv_i 0 19, rv_full, rv_full, rv_i 0 1], [], []), [4], 32, [], []),
  (4, ([rv_r 0, rv_i 0 19, rv_full, rv_full, rv_i 0 1], [(1, 0, (-2147483648), 2147483647, [(.inl 2, 0)], [])], []), [5], 31, [], []),
  (5, ([rv_r 0, rv_i 0 19, rv_full, rv_full, rv_i 0 1], [rv_i 0 0, (1, 0, (-2147483648), 2147483647, [(.inl 2, 0)], [])], []), [6], 30, [], []),
  (6, ([rv_r 0, rv_i 0 19, rv_full, rv_full, rv_i 0 1], [rv_i 99999 99999, rv_i 0 0, (1, 0, (-2147483648), 2147483647, [(.inl 2, 0)], [])], []), [7], 29, [], [1]),
  (7, ([rv_r 0, rv_i 0 19, rv_full, rv_full, rv_i 0 1], [(1, 0, 0, 1, [], [(.inl 2, 0, 99999)])], []), [8, 13], 28, [], []),
  (8, ([rv_r 0, rv_i 0 19, rv_i 0 99999, rv_full, rv_i 0 1], [], []), [9], 27, [], []),
  (9, ([rv_r 0, rv_i 0 19, rv_i 0 99999, rv_full, rv_i 0 1], [(1, 0, (-2147483648), 2147483647, [(.inl 3, 0)], [])], []), [10], 26, [], []),
  (10, ([rv_r 0, rv_i 0 19, rv_i 0 99999, rv_full, rv_i 0 1], [rv_i (-3) (-3), (1, 0, (-2147483648), 2147483647, [(.inl 3, 0)], [])], []), [11], 25, [], []),
  (11, ([rv_r 0, rv_i 0 19, rv_i 0 99999, rv_full, rv_i 0 1], [rv_i 3 3, rv_i (-3) (-3), (1, 0, (-2147483648), 2147483647, [(.inl 3, 0)], [])], []), [12], 24, [], [2]),
  (12, ([rv_r 0, rv_i 0 19, rv_i 0 99999, rv_full, rv_i 0 1], [(1, 0, 0, 1, [], [(.inl 3, (-3), 3)])], []), [13, 15], 23, [], []),
  (13, ([rv_r 0, rv_full, rv_full, rv_full, rv_i 0 1], [], []), [14], 1, [], []),
  (14, ([rv_r 0, rv_full, rv_full, rv_full, rv_i 0 1], [rv_i 0 0], []), [], 0, [], []),
  (15, ([rv_r 0, rv_i 0 19, rv_i 0 99999, rv_i (-3) 3, rv_i 0 1], [], []), [16], 22, [], []),
  (16, ([rv_r 0, rv_i 0 19, rv_i 0 99999, rv_i (-3) 3, rv_i 0 1], [rv_r 0], []), [17], 21, [], []),
  (17, ([rv_r 0, rv_i 0 19, rv_i 0 99999, rv_i (-3) 3, rv_i 0 1], [rv_r 26], []), [18], 20, [], []),
  (18, ([rv_r 0, rv_i 0 19, rv_i 0 99999, rv_i (-3) 3, rv_i 0 1], [rv_r 27], []), [19], 19, [], []),
  (19, ([rv_r 0, rv_i 0 19, rv_i 0 99999, rv_i (-3) 3, rv_i 0 1], [(1, 0, 0, 19, [(.inl 1, 0)], []), rv_r 27], []), [20], 18, [], []),
  (20, ([rv_r 0, rv_i 0 19, rv_i 0 99999, rv_i (-3) 3, rv_i 0 1], [(1, 0, 0, 99999, [(.inl 2, 0)], []), (1, 0, 0, 19, [(.inl 1, 0)], []), rv_r 27], []), [21], 17, [], []),
  (21, ([rv_r 0, rv_i 0 19, rv_i 0 99999, rv_i (-3) 3, rv_i 0 1], [], []), [22], 16, [], []),
  (22, ([rv_r 0, rv_i 0 19, rv_i 0 99999, rv_i (-3) 3, rv_i 0 1], [rv_r 0], []), [23], 15, [], []),
  (23, ([rv_r 0, rv_i 0 19, rv_i 0 99999, rv_i (-3) 3, rv_i 0 1], [rv_r 26], []), [24], 14, [], []),
  (24, ([rv_r 0, rv_i 0 19, rv_i 0 99999, rv_i (-3) 3, rv_i 0 1], [rv_r 28], []), [25], 13, [], []),
  (25, ([rv_r 0, rv_i 0 19, rv_i 0 99999, rv_i (-3) 3, rv_i 0 1], [(1, 0, 0, 19, [(.inl 1, 0)], []), rv_r 28], []), [26], 12, [], []),
  (26, ([rv_r 0, rv_i 0 19, rv_i 0 99999, rv_i (-3) 3, rv_i 0 1], [(1, 0, (-3), 3, [(.inl 3, 0)], []), (1, 0, 0, 19, [(.inl 1, 0)], []), rv_r 28], []), [27], 11, [], []),
  (27, ([rv_r 0, rv_i 0 19, rv_i 0 99999, rv_i (-3) 3, rv_i 0 1], [], []), [28], 10, [], []),
  (28, ([rv_r 0, rv_i 0 19, rv_i 0 99999, rv_i (-3) 3, rv_i 0 1], [rv_r 0], []), [29], 9, [], []),
  (29, ([rv_r 0, rv_i 0 19, rv_i 0 99999, rv_i (-3) 3, rv_i 0 1], [rv_r 26], []), [30], 8, [], []),
  (30, ([rv_r 0, rv_i 0 19, rv_i 0 99999, rv_i (-3) 3, rv_i 0 1], [rv_r 29], []), [31], 7, [], []),
  (31, ([rv_r 0, rv_i 0 19, rv_i 0 99999, rv_i (-3) 3, rv_i 0 1], [(1, 0, 0, 19, [(.inl 1, 0)], []), rv_r 29], []), [32], 6, [], []),
  (32, ([rv_r 0, rv_i 0 19, rv_i 0 99999, rv_i (-3) 3, rv_i 0 1], [(1, 0, 0, 1, [(.inl 4, 0)], []), (1, 0, 0, 19, [(.inl 1, 0)], []), rv_r 29], []), [33, 35], 5, [], []),
  (33, ([rv_r 0, rv_i 0 19, rv_i 0 99999, rv_i (-3) 3, (1, 1, 1, 1, [], [])], [(1, 0, 0, 19, [(.inl 1, 0)], []), rv_r 29], []), [34], 4, [], []),
  (34, ([rv_r 0, rv_i 0 19, rv_i 0 99999, rv_i (-3) 3, (1, 1, 1, 1, [], [])], [rv_i 1 1, (1, 0, 0, 19, [(.inl 1, 0)], []), rv_r 29], []), [37], 3, [], []),
  (35, ([rv_r 0, rv_i 0 19, rv_i 0 99999, rv_i (-3) 3, rv_i 0 0], [(1, 0, 0, 19, [(.inl 1, 0)], []), rv_r 29], []), [36], 3, [], []),
  (36, ([rv_r 0, rv_i 0 19, rv_i 0 99999, rv_i (-3) 3, rv_i 0 0], [rv_i 0 0, (1, 0, 0, 19, [(.inl 1, 0)], []), rv_r 29], []), [38], 2, [], []),
  (36, ([rv_r 0, rv_i 0 19, rv_i 0 99999, rv_i (-3) 3, (1, 1, 1, 1, [], [])], [rv_i 1 1, (1, 0, 0, 19, [(.inl 1, 0)], []), rv_r 29], []), [38], 2, [], []),
  (37, ([rv_r 0, rv_i 0 19, rv_i 0 99999, rv_i (-3) 3, rv_i 0 1], [], []), [39], 1, [], []),
  (38, ([rv_r 0, rv_i 0 19, rv_i 0 99999, rv_i (-3) 3, rv_i 0 1], [rv_i 1 1], []), [], 0, [], [])]
set_option maxRecDepth 100000 in
theorem a_X7_yard_0 : rv_all (fm_tm, flX7, fm_wr, kcX7, klX7, K_X7_yard_0.2.2.1, [1, 2, 3, 4], 5) ct_X7_yard_0 cd_X7_yard n_X7_yard_0 K_X7_yard_0 [] 0 n_X7_yard_0 = true := by decide +kernel
theorem m_X7_yard_0 {l : Launch} {D : va_G} {ad : Nat → Nat} {cy : Nat → ClassId} {Z : State → Heap → Prop} {Gp : fm_V → Prop} (hAd : fm_Ad fm_tm ad) (hZ : fm_Zk (fm_A fm_tm ad) Z) (hGd : fm_Gd Gp) : rv_Met l D fm_cl fm_tm ad cy fm_nt Z Gp yX7_yard (.code yX7_yard prog_1_method_2_code 5 (some .boolean) :: fm_Ts) { frames := 1, cells := 0, slots := 0, locals := 100 } K_X7_yard_0 := rv_met hAd hZ (by decide +kernel) evX7 dc_X7_yard a_X7_yard_0 ⟨rfl, rfl, rfl⟩ (by decide +kernel) (by decide +kernel) (by decide) (fm_gm hGd (by decide +kernel)) (Or.inr ⟨rfl, by decide, by decide⟩) (fun p e s m args below meth c Q X Y => List.forall_mem_cons.mpr ⟨rv_ctS X Y fm_Ts_good dc_X7_yard (pc := 1) (i := 1) (idx := 75) rfl (m_X7_isYard_0 hAd hZ hGd) wl_X7_75 wm_X7_isYard wy_X7_isYard (by decide) rfl, List.forall_mem_cons.mpr ⟨rv_ctS X Y fm_Ts_good dc_X7_yard (pc := 11) (i := 6) (idx := 80) rfl (m_X7_isWithin_0 hAd hZ hGd) wl_X7_80 wm_X7_isWithin wy_X7_isWithin (by decide) rfl, List.forall_mem_cons.mpr ⟨rv_ctS X Y fm_Ts_good dc_X7_yard (pc := 21) (i := 11) (idx := 80) rfl (m_X7_isWithin_1 hAd hZ hGd) wl_X7_80 wm_X7_isWithin wy_X7_isWithin (by decide) rfl, fun _ h => absurd h List.not_mem_nil⟩⟩⟩) (fun _ _ _ _ _ _ _ _ _ _ _ _ _ _ _ _ h => absurd h List.not_mem_nil)
def K_X7_isWithin_2 : rv_K := ([rv_full, rv_i 0 0, rv_i 99 99], [], [], [(0, 0, 1)], [(.inl 0, 0, 99)], [])
def ct_X7_isWithin_2 : List (Nat × rv_K) := []
def n_X7_isWithin_2 : List rv_N := [
  (0, ([rv_full, rv_i 0 0, rv_i 99 99], [], []), [1], 8, [], []),
  (1, ([rv_full, rv_i 0 0, rv_i 99 99], [(1, 0, (-2147483648), 2147483647, [(.inl 0, 0)], [])], []), [2], 7, [], []),
  (2, ([rv_full, rv_i 0 0, rv_i 99 99], [(1, 0, 0, 0, [(.inl 1, 0)], []), (1, 0, (-2147483648), 2147483647, [(.inl 0, 0)], [])], []), [3, 8], 6, [], []),
  (3, ([rv_i 0 2147483647, rv_i 0 0, rv_i 99 99], [], []), [4], 5, [], []),
  (4, ([rv_i 0 2147483647, rv_i 0 0, rv_i 99 99], [(1, 0, 0, 2147483647, [(.inl 0, 0)], [])], []), [5], 4, [], []),
  (5, ([rv_i 0 2147483647, rv_i 0 0, rv_i 99 99], [(1, 0, 99, 99, [(.inl 2, 0)], []), (1, 0, 0, 2147483647, [(.inl 0, 0)], [])], []), [6, 8], 3, [], []),
  (6, ([rv_i 0 99, rv_i 0 0, rv_i 99 99], [], []), [7], 2, [], []),
  (7, ([rv_i 0 99, rv_i 0 0, rv_i 99 99], [rv_i 1 1], []), [10], 1, [], []),
  (8, ([rv_full, rv_i 0 0, rv_i 99 99], [], []), [9], 1, [], []),
  (9, ([rv_full, rv_i 0 0, rv_i 99 99], [rv_i 0 0], []), [], 0, [], []),
  (9, ([rv_i 0 99, rv_i 0 0, rv_i 99 99], [rv_i 1 1], []), [], 0, [], [])]
set_option maxRecDepth 100000 in
theorem a_X7_isWithin_2 : rv_all (fm_tm, flX7, fm_wr, kcX7, klX7, K_X7_isWithin_2.2.2.1, [0, 1, 2], 3) ct_X7_isWithin_2 cd_X7_isWithin n_X7_isWithin_2 K_X7_isWithin_2 [] 0 n_X7_isWithin_2 = true := by decide +kernel
theorem m_X7_isWithin_2 {l : Launch} {D : va_G} {ad : Nat → Nat} {cy : Nat → ClassId} {Z : State → Heap → Prop} {Gp : fm_V → Prop} (hAd : fm_Ad fm_tm ad) (hZ : fm_Zk (fm_A fm_tm ad) Z) (hGd : fm_Gd Gp) : rv_Met l D fm_cl fm_tm ad cy fm_nt Z Gp yX7_isWithin (.code yX7_isWithin prog_1_method_34_code 3 (some .boolean) :: fm_Ts) { frames := 0, cells := 0, slots := 0, locals := 0 } K_X7_isWithin_2 := rv_met hAd hZ (by decide +kernel) evX7 dc_X7_isWithin a_X7_isWithin_2 ⟨rfl, rfl, rfl⟩ (by decide +kernel) (by decide +kernel) (by decide) (fm_gm hGd (by decide +kernel)) (Or.inr ⟨rfl, by decide, by decide⟩) (fun p e s m args below meth c Q X Y => fun _ h => absurd h List.not_mem_nil) (fun _ _ _ _ _ _ _ _ _ _ _ _ _ _ _ _ h => absurd h List.not_mem_nil)
def K_X7_isWithin_3 : rv_K := ([rv_full, rv_i 0 0, rv_i 9 9], [], [], [(0, 0, 1)], [(.inl 0, 0, 9)], [])
def ct_X7_isWithin_3 : List (Nat × rv_K) := []
def n_X7_isWithin_3 : List rv_N := [
  (0, ([rv_full, rv_i 0 0, rv_i 9 9], [], []), [1], 8, [], []),
  (1, ([rv_full, rv_i 0 0, rv_i 9 9], [(1, 0, (-2147483648), 2147483647, [(.inl 0, 0)], [])], []), [2], 7, [], []),
  (2, ([rv_full, rv_i 0 0, rv_i 9 9], [(1, 0, 0, 0, [(.inl 1, 0)], []), (1, 0, (-2147483648), 2147483647, [(.inl 0, 0)], [])], []), [3, 8], 6, [], []),
  (3, ([rv_i 0 2147483647, rv_i 0 0, rv_i 9 9], [], []), [4], 5, [], []),
  (4, ([rv_i 0 2147483647, rv_i 0 0, rv_i 9 9], [(1, 0, 0, 2147483647, [(.inl 0, 0)], [])], []), [5], 4, [], []),
  (5, ([rv_i 0 2147483647, rv_i 0 0, rv_i 9 9], [(1, 0, 9, 9, [(.inl 2, 0)], []), (1, 0, 0, 2147483647, [(.inl 0, 0)], [])], []), [6, 8], 3, [], []),
  (6, ([rv_i 0 9, rv_i 0 0, rv_i 9 9], [], []), [7], 2, [], []),
  (7, ([rv_i 0 9, rv_i 0 0, rv_i 9 9], [rv_i 1 1], []), [10], 1, [], []),
  (8, ([rv_full, rv_i 0 0, rv_i 9 9], [], []), [9], 1, [], []),
  (9, ([rv_full, rv_i 0 0, rv_i 9 9], [rv_i 0 0], []), [], 0, [], []),
  (9, ([rv_i 0 9, rv_i 0 0, rv_i 9 9], [rv_i 1 1], []), [], 0, [], [])]
set_option maxRecDepth 100000 in
theorem a_X7_isWithin_3 : rv_all (fm_tm, flX7, fm_wr, kcX7, klX7, K_X7_isWithin_3.2.2.1, [0, 1, 2], 3) ct_X7_isWithin_3 cd_X7_isWithin n_X7_isWithin_3 K_X7_isWithin_3 [] 0 n_X7_isWithin_3 = true := by decide +kernel
theorem m_X7_isWithin_3 {l : Launch} {D : va_G} {ad : Nat → Nat} {cy : Nat → ClassId} {Z : State → Heap → Prop} {Gp : fm_V → Prop} (hAd : fm_Ad fm_tm ad) (hZ : fm_Zk (fm_A fm_tm ad) Z) (hGd : fm_Gd Gp) : rv_Met l D fm_cl fm_tm ad cy fm_nt Z Gp yX7_isWithin (.code yX7_isWithin prog_1_method_34_code 3 (some .boolean) :: fm_Ts) { frames := 0, cells := 0, slots := 0, locals := 0 } K_X7_isWithin_3 := rv_met hAd hZ (by decide +kernel) evX7 dc_X7_isWithin a_X7_isWithin_3 ⟨rfl, rfl, rfl⟩ (by decide +kernel) (by decide +kernel) (by decide) (fm_gm hGd (by decide +kernel)) (Or.inr ⟨rfl, by decide, by decide⟩) (fun p e s m args below meth c Q X Y => fun _ h => absurd h List.not_mem_nil) (fun _ _ _ _ _ _ _ _ _ _ _ _ _ _ _ _ h => absurd h List.not_mem_nil)
def cd_X7_rain : List (Nat × Instr × Nat) := [(0, .iload_n 1, 1), (1, .iconst 0, 1), (2, .bipush 99, 2), (4, .invokestatic 80, 3), (7, .ifCond .eq 13, 3), (10, .iload_n 2, 1), (11, .iconst 0, 1), (12, .bipush 9, 2), (14, .invokestatic 80, 3), (17, .ifCond .ne 5, 3), (20, .iconst 0, 1), (21, .ireturn, 1), (22, .aload_n 0, 1), (23, .getfield 38, 3), (26, .getfield 93, 3), (29, .iload_n 1, 1), (30, .iload_n 2, 1), (31, .iastore, 1), (32, .iconst 1, 1), (33, .ireturn, 1)]
theorem dc_X7_rain : ∀ q ∈ cd_X7_rain, decode prog_1_method_3_code q.1 = .ok (q.2.1, q.2.2) := by decide +kernel
def K_X7_rain_0 : rv_K := ([rv_r 0, rv_full, rv_full], [], [(33, 9999)], [(0, 0, 1)], [(.inl 1, 0, 99), (.inl 2, 0, 9)], [])
def ct_X7_rain_0 : List (Nat × rv_K) := [(3, K_X7_isWithin_2), (8, K_X7_isWithin_3)]
def n_X7_rain_0 : List rv_N := [
  (0, ([rv_r 0, rv_full, rv_full], [], []), [1], 17, [], []),
  (1, ([rv_r 0, rv_full, rv_full], [(1, 0, (-2147483648), 2147483647, [(.inl 1, 0)], [])], []), [2], 16, [], []),
  (2, ([rv_r 0, rv_full, rv_full], [rv_i 0 0, (1, 0, (-2147483648), 2147483647, [(.inl 1, 0)], [])], []), [3], 15, [], []),
  (3, ([rv_r 0, rv_full, rv_full], [rv_i 99 99, rv_i 0 0, (1, 0, (-2147483648), 2147483647, [(.inl 1, 0)], [])], []), [4], 14, [], [0]),
  (4, ([rv_r 0, rv_full, rv_full], [(1, 0, 0, 1, [], [(.inl 1, 0, 99)])], []), [5, 10], 13, [], []),
  (5, ([rv_r 0, rv_i 0 99, rv_full], [], []), [6], 12, [], []),
  (6, ([rv_r 0, rv_i 0 99, rv_full], [(1, 0, (-2147483648), 2147483647, [(.inl 2, 0)], [])], []), [7], 11, [], []),
  (7, ([rv_r 0, rv_i 0 99, rv_full], [rv_i 0 0, (1, 0, (-2147483648), 2147483647, [(.inl 2, 0)], [])], []), [8], 10, [], []),
  (8, ([rv_r 0, rv_i 0 99, rv_full], [rv_i 9 9, rv_i 0 0, (1, 0, (-2147483648), 2147483647, [(.inl 2, 0)], [])], []), [9], 9, [], [1]),
  (9, ([rv_r 0, rv_i 0 99, rv_full], [(1, 0, 0, 1, [], [(.inl 2, 0, 9)])], []), [10, 12], 8, [], []),
  (10, ([rv_r 0, rv_full, rv_full], [], []), [11], 1, [], []),
  (11, ([rv_r 0, rv_full, rv_full], [rv_i 0 0], []), [], 0, [], []),
  (12, ([rv_r 0, rv_i 0 99, rv_i 0 9], [], []), [13], 7, [], []),
  (13, ([rv_r 0, rv_i 0 99, rv_i 0 9], [rv_r 0], []), [14], 6, [], []),
  (14, ([rv_r 0, rv_i 0 99, rv_i 0 9], [rv_r 26], []), [15], 5, [], []),
  (15, ([rv_r 0, rv_i 0 99, rv_i 0 9], [rv_r 33], []), [16], 4, [], []),
  (16, ([rv_r 0, rv_i 0 99, rv_i 0 9], [(1, 0, 0, 99, [(.inl 1, 0)], []), rv_r 33], []), [17], 3, [], []),
  (17, ([rv_r 0, rv_i 0 99, rv_i 0 9], [(1, 0, 0, 9, [(.inl 2, 0)], []), (1, 0, 0, 99, [(.inl 1, 0)], []), rv_r 33], []), [18], 2, [], []),
  (18, ([rv_r 0, rv_i 0 99, rv_i 0 9], [], []), [19], 1, [], []),
  (19, ([rv_r 0, rv_i 0 99, rv_i 0 9], [rv_i 1 1], []), [], 0, [], [])]
set_option maxRecDepth 100000 in
theorem a_X7_rain_0 : rv_all (fm_tm, flX7, fm_wr, kcX7, klX7, K_X7_rain_0.2.2.1, [1, 2], 3) ct_X7_rain_0 cd_X7_rain n_X7_rain_0 K_X7_rain_0 [] 0 n_X7_rain_0 = true := by decide +kernel
theorem m_X7_rain_0 {l : Launch} {D : va_G} {ad : Nat → Nat} {cy : Nat → ClassId} {Z : State → Heap → Prop} {Gp : fm_V → Prop} (hAd : fm_Ad fm_tm ad) (hZ : fm_Zk (fm_A fm_tm ad) Z) (hGd : fm_Gd Gp) : rv_Met l D fm_cl fm_tm ad cy fm_nt Z Gp yX7_rain (.code yX7_rain prog_1_method_3_code 3 (some .boolean) :: fm_Ts) { frames := 1, cells := 0, slots := 0, locals := 100 } K_X7_rain_0 := rv_met hAd hZ (by decide +kernel) evX7 dc_X7_rain a_X7_rain_0 ⟨rfl, rfl, rfl⟩ (by decide +kernel) (by decide +kernel) (by decide) (fm_gm hGd (by decide +kernel)) (Or.inr ⟨rfl, by decide, by decide⟩) (fun p e s m args below meth c Q X Y => List.forall_mem_cons.mpr ⟨rv_ctS X Y fm_Ts_good dc_X7_rain (pc := 4) (i := 3) (idx := 80) rfl (m_X7_isWithin_2 hAd hZ hGd) wl_X7_80 wm_X7_isWithin wy_X7_isWithin (by decide) rfl, List.forall_mem_cons.mpr ⟨rv_ctS X Y fm_Ts_good dc_X7_rain (pc := 14) (i := 8) (idx := 80) rfl (m_X7_isWithin_3 hAd hZ hGd) wl_X7_80 wm_X7_isWithin wy_X7_isWithin (by decide) rfl, fun _ h => absurd h List.not_mem_nil⟩⟩) (fun _ _ _ _ _ _ _ _ _ _ _ _ _ _ _ _ h => absurd h List.not_mem_nil)
def cd_X7_isPorter : List (Nat × Instr × Nat) := [(0, .iload_n 0, 1), (1, .ifCond .lt 13, 3), (4, .iload_n 0, 1), (5, .bipush 9, 2), (7, .if_icmp .ge 7, 3), (10, .iconst 1, 1), (11, .goto 4, 3), (14, .iconst 0, 1), (15, .ireturn, 1)]
theorem dc_X7_isPorter : ∀ q ∈ cd_X7_isPorter, decode prog_1_method_36_code q.1 = .ok (q.2.1, q.2.2) := by decide +kernel
def K_X7_isPorter_0 : rv_K := ([rv_full], [], [], [(0, 0, 1)], [(.inl 0, 0, 8)], [])
def ct_X7_isPorter_0 : List (Nat × rv_K) := []
def n_X7_isPorter_0 : List rv_N := [
  (0, ([rv_full], [], []), [1], 7, [], []),
  (1, ([rv_full], [(1, 0, (-2147483648), 2147483647, [(.inl 0, 0)], [])], []), [2, 7], 6, [], []),
  (2, ([rv_i 0 2147483647], [], []), [3], 5, [], []),
  (3, ([rv_i 0 2147483647], [(1, 0, 0, 2147483647, [(.inl 0, 0)], [])], []), [4], 4, [], []),
  (4, ([rv_i 0 2147483647], [rv_i 9 9, (1, 0, 0, 2147483647, [(.inl 0, 0)], [])], []), [5, 7], 3, [], []),
  (5, ([rv_i 0 8], [], []), [6], 2, [], []),
  (6, ([rv_i 0 8], [rv_i 1 1], []), [9], 1, [], []),
  (7, ([rv_full], [], []), [8], 1, [], []),
  (8, ([rv_full], [rv_i 0 0], []), [], 0, [], []),
  (8, ([rv_i 0 8], [rv_i 1 1], []), [], 0, [], [])]
set_option maxRecDepth 100000 in
theorem a_X7_isPorter_0 : rv_all (fm_tm, flX7, fm_wr, kcX7, klX7, K_X7_isPorter_0.2.2.1, [0], 1) ct_X7_isPorter_0 cd_X7_isPorter n_X7_isPorter_0 K_X7_isPorter_0 [] 0 n_X7_isPorter_0 = true := by decide +kernel
theorem m_X7_isPorter_0 {l : Launch} {D : va_G} {ad : Nat → Nat} {cy : Nat → ClassId} {Z : State → Heap → Prop} {Gp : fm_V → Prop} (hAd : fm_Ad fm_tm ad) (hZ : fm_Zk (fm_A fm_tm ad) Z) (hGd : fm_Gd Gp) : rv_Met l D fm_cl fm_tm ad cy fm_nt Z Gp yX7_isPorter (.code yX7_isPorter prog_1_method_36_code 1 (some .boolean) :: fm_Ts) { frames := 0, cells := 0, slots := 0, locals := 0 } K_X7_isPorter_0 := rv_met hAd hZ (by decide +kernel) evX7 dc_X7_isPorter a_X7_isPorter_0 ⟨rfl, rfl, rfl⟩ (by decide +kernel) (by decide +kernel) (by decide) (fm_gm hGd (by decide +kernel)) (Or.inr ⟨rfl, by decide, by decide⟩) (fun p e s m args below meth c Q X Y => fun _ h => absurd h List.not_mem_nil) (fun _ _ _ _ _ _ _ _ _ _ _ _ _ _ _ _ h => absurd h List.not_mem_nil)
def K_X7_isWithin_4 : rv_K := ([rv_full, rv_i 0 0, rv_i 9999 9999], [], [], [(0, 0, 1)], [(.inl 0, 0, 9999)], [])
def ct_X7_isWithin_4 : List (Nat × rv_K) := []
def n_X7_isWithin_4 : List rv_N := [
  (0, ([rv_full, rv_i 0 0, rv_i 9999 9999], [], []), [1], 8, [], []),
  (1, ([rv_full, rv_i 0 0, rv_i 9999 9999], [(1, 0, (-2147483648), 2147483647, [(.inl 0, 0)], [])], []), [2], 7, [], []),
  (2, ([rv_full, rv_i 0 0, rv_i 9999 9999], [(1, 0, 0, 0, [(.inl 1, 0)], []), (1, 0, (-2147483648), 2147483647, [(.inl 0, 0)], [])], []), [3, 8], 6, [], []),
  (3, ([rv_i 0 2147483647, rv_i 0 0, rv_i 9999 9999], [], []), [4], 5, [], []),
  (4, ([rv_i 0 2147483647, rv_i 0 0, rv_i 9999 9999], [(1, 0, 0, 2147483647, [(.inl 0, 0)], [])], []), [5], 4, [], []),
  (5, ([rv_i 0 2147483647, rv_i 0 0, rv_i 9999 9999], [(1, 0, 9999, 9999, [(.inl 2, 0)], []), (1, 0, 0, 2147483647, [(.inl 0, 0)], [])], []), [6, 8], 3, [], []),
  (6, ([rv_i 0 9999, rv_i 0 0, rv_i 9999 9999], [], []), [7], 2, [], []),
  (7, ([rv_i 0 9999, rv_i 0 0, rv_i 9999 9999], [rv_i 1 1], []), [10], 1, [], []),
  (8, ([rv_full, rv_i 0 0, rv_i 9999 9999], [], []), [9], 1, [], []),
  (9, ([rv_full, rv_i 0 0, rv_i 9999 9999], [rv_i 0 0], []), [], 0, [], []),
  (9, ([rv_i 0 9999, rv_i 0 0, rv_i 9999 9999], [rv_i 1 1], []), [], 0, [], [])]
set_option maxRecDepth 100000 in
theorem a_X7_isWithin_4 : rv_all (fm_tm, flX7, fm_wr, kcX7, klX7, K_X7_isWithin_4.2.2.1, [0, 1, 2], 3) ct_X7_isWithin_4 cd_X7_isWithin n_X7_isWithin_4 K_X7_isWithin_4 [] 0 n_X7_isWithin_4 = true := by decide +kernel
theorem m_X7_isWithin_4 {l : Launch} {D : va_G} {ad : Nat → Nat} {cy : Nat → ClassId} {Z : State → Heap → Prop} {Gp : fm_V → Prop} (hAd : fm_Ad fm_tm ad) (hZ : fm_Zk (fm_A fm_tm ad) Z) (hGd : fm_Gd Gp) : rv_Met l D fm_cl fm_tm ad cy fm_nt Z Gp yX7_isWithin (.code yX7_isWithin prog_1_method_34_code 3 (some .boolean) :: fm_Ts) { frames := 0, cells := 0, slots := 0, locals := 0 } K_X7_isWithin_4 := rv_met hAd hZ (by decide +kernel) evX7 dc_X7_isWithin a_X7_isWithin_4 ⟨rfl, rfl, rfl⟩ (by decide +kernel) (by decide +kernel) (by decide) (fm_gm hGd (by decide +kernel)) (Or.inr ⟨rfl, by decide, by decide⟩) (fun p e s m args below meth c Q X Y => fun _ h => absurd h List.not_mem_nil) (fun _ _ _ _ _ _ _ _ _ _ _ _ _ _ _ _ h => absurd h List.not_mem_nil)
def cd_X7_porter : List (Nat × Instr × Nat) := [(0, .iload_n 1, 1), (1, .invokestatic 96, 3), (4, .ifCond .eq 21, 3), (7, .iload_n 2, 1), (8, .invokestatic 75, 3), (11, .ifCond .eq 14, 3), (14, .iload_n 3, 1), (15, .iconst 0, 1), (16, .sipush 9999, 3), (19, .invokestatic 80, 3), (22, .ifCond .ne 5, 3), (25, .iconst 0, 1), (26, .ireturn, 1), (27, .iload 4, 2), (29, .iconst 0, 1), (30, .bipush 9, 2), (32, .invokestatic 80, 3), (35, .ifCond .eq 14, 3), (38, .iload 5, 2), (40, .iconst 0, 1), (41, .bipush 9, 2), (43, .invokestatic 80, 3), (46, .ifCond .ne 5, 3), (49, .iconst 0, 1), (50, .ireturn, 1), (51, .aload_n 0, 1), (52, .getfield 38, 3), (55, .getfield 99, 3), (58, .dup, 1), (59, .getfield 103, 3), (62, .iconst 1, 1), (63, .iload_n 1, 1), (64, .ishl, 1), (65, .ior, 1), (66, .putfield 103, 3), (69, .aload_n 0, 1), (70, .getfield 38, 3), (73, .getfield 99, 3), (76, .getfield 109, 3), (79, .iload_n 1, 1), (80, .iload_n 2, 1), (81, .iastore, 1), (82, .aload_n 0, 1), (83, .getfield 38, 3), (86, .getfield 99, 3), (89, .getfield 112, 3), (92, .iload_n 1, 1), (93, .iload_n 3, 1), (94, .iastore, 1), (95, .aload_n 0, 1), (96, .getfield 38, 3), (99, .getfield 99, 3), (102, .getfield 115, 3), (105, .iload_n 1, 1), (106, .iload 4, 2), (108, .iastore, 1), (109, .aload_n 0, 1), (110, .getfield 38, 3), (113, .getfield 99, 3), (116, .getfield 118, 3), (119, .iload_n 1, 1), (120, .iload 5, 2), (122, .iastore, 1), (123, .iconst 1, 1), (124, .ireturn, 1)]
theorem dc_X7_porter : ∀ q ∈ cd_X7_porter, decode prog_1_method_4_code q.1 = .ok (q.2.1, q.2.2) := by decide +kernel
def K_X7_porter_0 : rv_K := ([rv_r 0, rv_full, rv_full, rv_full, rv_full, rv_full], [], [(36, 0), (37, 9999), (38, 9999), (39, 9999), (40, 9999)], [(0, 0, 1)], [(.inl 1, 0, 8), (.inl 2, 0, 19), (.inl 3, 0, 9999), (.inl 4, 0, 9), (.inl 5, 0, 9)], [])
def ct_X7_porter_0 : List (Nat × rv_K) := [(1, K_X7_isPorter_0), (4, K_X7_isYard_0), (9, K_X7_isWithin_4), (16, K_X7_isWithin_3), (21, K_X7_isWithin_3)]
def n_X7_porter_0 : List rv_N := [
  (0, ([rv_r 0, rv_full, rv_full, rv_full, rv_full, rv_full], [], []), [1], 60, [], []),
  (1, ([rv_r 0, rv_full, rv_full, rv_full, rv_full, rv_full], [(1, 0, (-2147483648), 2147483647, [(.inl 1, 0)], [])], []), [2], 59, [], [0]),
  (2, ([rv_r 0, rv_full, rv_full, rv_full, rv_full, rv_full], [(1, 0, 0, 1, [], [(.inl 1, 0, 8)])], []), [3, 11], 58, [], []),
  (3, ([rv_r 0, rv_i 0 8, rv_full, rv_full, rv_full, rv_full], [], []), [4], 57, [], []),
  (4, ([rv_r 0, rv_i 0 8, rv_full, rv_full, rv_full, rv_full], [(1, 0, (-2147483648), 2147483647, [(.inl 2, 0)], [])], []), [5], 56, [], [1]),
  (5, ([rv_r 0, rv_i 0 8, rv_full, rv_full, rv_full, rv_full], [(1, 0, 0, 1, [], [(.inl 2, 0, 19)])], []), [6, 11], 55, [], []),
  (6, ([rv_r 0, rv_i 0 8, rv_i 0 19, rv_full, rv_full, rv_full], [], []), [7], 54, [], []),
  (7, ([rv_r 0, rv_i 0 8, rv_i 0 19, rv_full, rv_full, rv_full], [(1, 0, (-2147483648), 2147483647, [(.inl 3, 0)], [])], []), [8], 53, [], []),
  (8, ([rv_r 0, rv_i 0 8, rv_i 0 19, rv_full, rv_full, rv_full], [rv_i 0 0, (1, 0, (-2147483648), 2147483647, [(.inl 3, 0)], [])], []), [9], 52, [], []),
  (9, ([rv_r 0, rv_i 0 8, rv_i 0 19, rv_full, rv_full, rv_full], [rv_i 9999 9999, rv_i 0 0, (1, 0, (-2147483648), 2147483647, [(.inl 3, 0)], [])], []), [10], 51, [], [2]),
  (10, ([rv_r 0, rv_i 0 8, rv_i 0 19, rv_full, rv_full, rv_full], [(1, 0, 0, 1, [], [(.inl 3, 0, 9999)])], []), [11, 13], 50, [], []),
  (11, ([rv_r 0, rv_full, rv_full, rv_full, rv_full, rv_full], [], []), [12], 1, [], []),
  (12, ([rv_r 0, rv_full, rv_full, rv_full, rv_full, rv_full], [rv_i 0 0], []), [], 0, [], []),
  (13, ([rv_r 0, rv_i 0 8, rv_i 0 19, rv_i 0 9999, rv_full, rv_full], [], []), [14], 49, [], []),
  (14, ([rv_r 0, rv_i 0 8, rv_i 0 19, rv_i 0 9999, rv_full, rv_full], [(1, 0, (-2147483648), 2147483647, [(.inl 4, 0)], [])], []), [15], 48, [], []),
  (15, ([rv_r 0, rv_i 0 8, rv_i 0 19, rv_i 0 9999, rv_full, rv_full], [rv_i 0 0, (1, 0, (-2147483648), 2147483647, [(.inl 4, 0)], [])], []), [16], 47, [], []),
  (16, ([rv_r 0, rv_i 0 8, rv_i 0 19, rv_i 0 9999, rv_full, rv_full], [rv_i 9 9, rv_i 0 0, (1, 0, (-2147483648), 2147483647, [(.inl 4, 0)], [])], []), [17], 46, [], [3]),
  (17, ([rv_r 0, rv_i 0 8, rv_i 0 19, rv_i 0 9999, rv_full, rv_full], [(1, 0, 0, 1, [], [(.inl 4, 0, 9)])], []), [18, 23], 45, [], []),
  (18, ([rv_r 0, rv_i 0 8, rv_i 0 19, rv_i 0 9999, rv_i 0 9, rv_full], [], []), [19], 44, [], []),
  (19, ([rv_r 0, rv_i 0 8, rv_i 0 19, rv_i 0 9999, rv_i 0 9, rv_full], [(1, 0, (-2147483648), 2147483647, [(.inl 5, 0)], [])], []), [20], 43, [], []),
  (20, ([rv_r 0, rv_i 0 8, rv_i 0 19, rv_i 0 9999, rv_i 0 9, rv_full], [rv_i 0 0, (1, 0, (-2147483648), 2147483647, [(.inl 5, 0)], [])], []), [21], 42, [], []),
  (21, ([rv_r 0, rv_i 0 8, rv_i 0 19, rv_i 0 9999, rv_i 0 9, rv_full], [rv_i 9 9, rv_i 0 0, (1, 0, (-2147483648), 2147483647, [(.inl 5, 0)], [])], []), [22], 41, [], [4]),
  (22, ([rv_r 0, rv_i 0 8, rv_i 0 19, rv_i 0 9999, rv_i 0 9, rv_full], [(1, 0, 0, 1, [], [(.inl 5, 0, 9)])], []), [23, 25], 40, [], []),
  (23, ([rv_r 0, rv_i 0 8, rv_i 0 19, rv_i 0 9999, rv_full, rv_full], [], []), [24], 1, [], []),
  (24, ([rv_r 0, rv_i 0 8, rv_i 0 19, rv_i 0 9999, rv_full, rv_full], [rv_i 0 0], []), [], 0, [], []),
  (25, ([rv_r 0, rv_i 0 8, rv_i 0 19, rv_i 0 9999, rv_i 0 9, rv_i 0 9], [], []), [26], 39, [], []),
  (26, ([rv_r 0, rv_i 0 8, rv_i 0 19, rv_i 0 9999, rv_i 0 9, rv_i 0 9], [rv_r 0], []), [27], 38, [], []),
  (27, ([rv_r 0, rv_i 0 8, rv_i 0 19, rv_i 0 9999, rv_i 0 9, rv_i 0 9], [rv_r 26], []), [28], 37, [], []),
  (28, ([rv_r 0, rv_i 0 8, rv_i 0 19, rv_i 0 9999, rv_i 0 9, rv_i 0 9], [rv_r 36], []), [29], 36, [], []),
  (29, ([rv_r 0, rv_i 0 8, rv_i 0 19, rv_i 0 9999, rv_i 0 9, rv_i 0 9], [rv_r 36, rv_r 36], []), [30], 35, [], []),
  (30, ([rv_r 0, rv_i 0 8, rv_i 0 19, rv_i 0 9999, rv_i 0 9, rv_i 0 9], [(1, 0, (-2147483648), 2147483647, [(.inr (36, 0), 0)], []), rv_r 36], []), [31], 34, [], []),
  (31, ([rv_r 0, rv_i 0 8, rv_i 0 19, rv_i 0 9999, rv_i 0 9, rv_i 0 9], [rv_i 1 1, (1, 0, (-2147483648), 2147483647, [(.inr (36, 0), 0)], []), rv_r 36], []), [32], 33, [], []),
  (32, ([rv_r 0, rv_i 0 8, rv_i 0 19, rv_i 0 9999, rv_i 0 9, rv_i 0 9], [(1, 0, 0, 8, [(.inl 1, 0)], []), rv_i 1 1, (1, 0, (-2147483648), 2147483647, [(.inr (36, 0), 0)], []), rv_r 36], []), [33], 32, [], []),
  (33, ([rv_r 0, rv_i 0 8, rv_i 0 19, rv_i 0 9999, rv_i 0 9, rv_i 0 9], [rv_full, (1, 0, (-2147483648), 2147483647, [(.inr (36, 0), 0)], []), rv_r 36], []), [34], 31, [], []),
  (34, ([rv_r 0, rv_i 0 8, rv_i 0 19, rv_i 0 9999, rv_i 0 9, rv_i 0 9], [rv_full, rv_r 36], []), [35], 30, [], []),
  (35, ([rv_r 0, rv_i 0 8, rv_i 0 19, rv_i 0 9999, rv_i 0 9, rv_i 0 9], [], []), [36], 29, [], []),
  (36, ([rv_r 0, rv_i 0 8, rv_i 0 19, rv_i 0 9999, rv_i 0 9, rv_i 0 9], [rv_r 0], []), [37], 28, [], []),
  (37, ([rv_r 0, rv_i 0 8, rv_i 0 19, rv_i 0 9999, rv_i 0 9, rv_i 0 9], [rv_r 26], []), [38], 27, [], []),
  (38, ([rv_r 0, rv_i 0 8, rv_i 0 19, rv_i 0 9999, rv_i 0 9, rv_i 0 9], [rv_r 36], []), [39], 26, [], []),
  (39, ([rv_r 0, rv_i 0 8, rv_i 0 19, rv_i 0 9999, rv_i 0 9, rv_i 0 9], [rv_r 37], []), [40], 25, [], []),
  (40, ([rv_r 0, rv_i 0 8, rv_i 0 19, rv_i 0 9999, rv_i 0 9, rv_i 0 9], [(1, 0, 0, 8, [(.inl 1, 0)], []), rv_r 37], []), [41], 24, [], []),
  (41, ([rv_r 0, rv_i 0 8, rv_i 0 19, rv_i 0 9999, rv_i 0 9, rv_i 0 9], [(1, 0, 0, 19, [(.inl 2, 0)], []), (1, 0, 0, 8, [(.inl 1, 0)], []), rv_r 37], []), [42], 23, [], []),
  (42, ([rv_r 0, rv_i 0 8, rv_i 0 19, rv_i 0 9999, rv_i 0 9, rv_i 0 9], [], []), [43], 22, [], []),
  (43, ([rv_r 0, rv_i 0 8, rv_i 0 19, rv_i 0 9999, rv_i 0 9, rv_i 0 9], [rv_r 0], []), [44], 21, [], []),
  (44, ([rv_r 0, rv_i 0 8, rv_i 0 19, rv_i 0 9999, rv_i 0 9, rv_i 0 9], [rv_r 26], []), [45], 20, [], []),
  (45, ([rv_r 0, rv_i 0 8, rv_i 0 19, rv_i 0 9999, rv_i 0 9, rv_i 0 9], [rv_r 36], []), [46], 19, [], []),
  (46, ([rv_r 0, rv_i 0 8, rv_i 0 19, rv_i 0 9999, rv_i 0 9, rv_i 0 9], [rv_r 38], []), [47], 18, [], []),
  (47, ([rv_r 0, rv_i 0 8, rv_i 0 19, rv_i 0 9999, rv_i 0 9, rv_i 0 9], [(1, 0, 0, 8, [(.inl 1, 0)], []), rv_r 38], []), [48], 17, [], []),
  (48, ([rv_r 0, rv_i 0 8, rv_i 0 19, rv_i 0 9999, rv_i 0 9, rv_i 0 9], [(1, 0, 0, 9999, [(.inl 3, 0)], []), (1, 0, 0, 8, [(.inl 1, 0)], []), rv_r 38], []), [49], 16, [], []),
  (49, ([rv_r 0, rv_i 0 8, rv_i 0 19, rv_i 0 9999, rv_i 0 9, rv_i 0 9], [], []), [50], 15, [], []),
  (50, ([rv_r 0, rv_i 0 8, rv_i 0 19, rv_i 0 9999, rv_i 0 9, rv_i 0 9], [rv_r 0], []), [51], 14, [], []),
  (51, ([rv_r 0, rv_i 0 8, rv_i 0 19, rv_i 0 9999, rv_i 0 9, rv_i 0 9], [rv_r 26], []), [52], 13, [], []),
  (52, ([rv_r 0, rv_i 0 8, rv_i 0 19, rv_i 0 9999, rv_i 0 9, rv_i 0 9], [rv_r 36], []), [53], 12, [], []),
  (53, ([rv_r 0, rv_i 0 8, rv_i 0 19, rv_i 0 9999, rv_i 0 9, rv_i 0 9], [rv_r 39], []), [54], 11, [], []),
  (54, ([rv_r 0, rv_i 0 8, rv_i 0 19, rv_i 0 9999, rv_i 0 9, rv_i 0 9], [(1, 0, 0, 8, [(.inl 1, 0)], []), rv_r 39], []), [55], 10, [], []),
  (55, ([rv_r 0, rv_i 0 8, rv_i 0 19, rv_i 0 9999, rv_i 0 9, rv_i 0 9], [(1, 0, 0, 9, [(.inl 4, 0)], []), (1, 0, 0, 8, [(.inl 1, 0)], []), rv_r 39], []), [56], 9, [], []),
  (56, ([rv_r 0, rv_i 0 8, rv_i 0 19, rv_i 0 9999, rv_i 0 9, rv_i 0 9], [], []), [57], 8, [], []),
  (57, ([rv_r 0, rv_i 0 8, rv_i 0 19, rv_i 0 9999, rv_i 0 9, rv_i 0 9], [rv_r 0], []), [58], 7, [], []),
  (58, ([rv_r 0, rv_i 0 8, rv_i 0 19, rv_i 0 9999, rv_i 0 9, rv_i 0 9], [rv_r 26], []), [59], 6, [], []),
  (59, ([rv_r 0, rv_i 0 8, rv_i 0 19, rv_i 0 9999, rv_i 0 9, rv_i 0 9], [rv_r 36], []), [60], 5, [], []),
  (60, ([rv_r 0, rv_i 0 8, rv_i 0 19, rv_i 0 9999, rv_i 0 9, rv_i 0 9], [rv_r 40], []), [61], 4, [], []),
  (61, ([rv_r 0, rv_i 0 8, rv_i 0 19, rv_i 0 9999, rv_i 0 9, rv_i 0 9], [(1, 0, 0, 8, [(.inl 1, 0)], []), rv_r 40], []), [62], 3, [], []),
  (62, ([rv_r 0, rv_i 0 8, rv_i 0 19, rv_i 0 9999, rv_i 0 9, rv_i 0 9], [(1, 0, 0, 9, [(.inl 5, 0)], []), (1, 0, 0, 8, [(.inl 1, 0)], []), rv_r 40], []), [63], 2, [], []),
  (63, ([rv_r 0, rv_i 0 8, rv_i 0 19, rv_i 0 9999, rv_i 0 9, rv_i 0 9], [], []), [64], 1, [], []),
  (64, ([rv_r 0, rv_i 0 8, rv_i 0 19, rv_i 0 9999, rv_i 0 9, rv_i 0 9], [rv_i 1 1], []), [], 0, [], [])]
set_option maxRecDepth 100000 in
theorem a_X7_porter_0 : rv_all (fm_tm, flX7, fm_wr, kcX7, klX7, K_X7_porter_0.2.2.1, [1, 2, 3, 4, 5], 6) ct_X7_porter_0 cd_X7_porter n_X7_porter_0 K_X7_porter_0 [] 0 n_X7_porter_0 = true := by decide +kernel
theorem m_X7_porter_0 {l : Launch} {D : va_G} {ad : Nat → Nat} {cy : Nat → ClassId} {Z : State → Heap → Prop} {Gp : fm_V → Prop} (hAd : fm_Ad fm_tm ad) (hZ : fm_Zk (fm_A fm_tm ad) Z) (hGd : fm_Gd Gp) : rv_Met l D fm_cl fm_tm ad cy fm_nt Z Gp yX7_porter (.code yX7_porter prog_1_method_4_code 6 (some .boolean) :: fm_Ts) { frames := 1, cells := 0, slots := 0, locals := 100 } K_X7_porter_0 := rv_met hAd hZ (by decide +kernel) evX7 dc_X7_porter a_X7_porter_0 ⟨rfl, rfl, rfl⟩ (by decide +kernel) (by decide +kernel) (by decide) (fm_gm hGd (by decide +kernel)) (Or.inr ⟨rfl, by decide, by decide⟩) (fun p e s m args below meth c Q X Y => List.forall_mem_cons.mpr ⟨rv_ctS X Y fm_Ts_good dc_X7_porter (pc := 1) (i := 1) (idx := 96) rfl (m_X7_isPorter_0 hAd hZ hGd) wl_X7_96 wm_X7_isPorter wy_X7_isPorter (by decide) rfl, List.forall_mem_cons.mpr ⟨rv_ctS X Y fm_Ts_good dc_X7_porter (pc := 8) (i := 4) (idx := 75) rfl (m_X7_isYard_0 hAd hZ hGd) wl_X7_75 wm_X7_isYard wy_X7_isYard (by decide) rfl, List.forall_mem_cons.mpr ⟨rv_ctS X Y fm_Ts_good dc_X7_porter (pc := 19) (i := 9) (idx := 80) rfl (m_X7_isWithin_4 hAd hZ hGd) wl_X7_80 wm_X7_isWithin wy_X7_isWithin (by decide) rfl, List.forall_mem_cons.mpr ⟨rv_ctS X Y fm_Ts_good dc_X7_porter (pc := 32) (i := 16) (idx := 80) rfl (m_X7_isWithin_3 hAd hZ hGd) wl_X7_80 wm_X7_isWithin wy_X7_isWithin (by decide) rfl, List.forall_mem_cons.mpr ⟨rv_ctS X Y fm_Ts_good dc_X7_porter (pc := 43) (i := 21) (idx := 80) rfl (m_X7_isWithin_3 hAd hZ hGd) wl_X7_80 wm_X7_isWithin wy_X7_isWithin (by decide) rfl, fun _ h => absurd h List.not_mem_nil⟩⟩⟩⟩⟩) (fun _ _ _ _ _ _ _ _ _ _ _ _ _ _ _ _ h => absurd h List.not_mem_nil)
def K_X7_isWithin_5 : rv_K := ([rv_full, rv_i (-1) (-1), rv_i 5 5], [], [], [(0, 0, 1)], [(.inl 0, (-1), 5)], [])
def ct_X7_isWithin_5 : List (Nat × rv_K) := []
def n_X7_isWithin_5 : List rv_N := [
  (0, ([rv_full, rv_i (-1) (-1), rv_i 5 5], [], []), [1], 8, [], []),
  (1, ([rv_full, rv_i (-1) (-1), rv_i 5 5], [(1, 0, (-2147483648), 2147483647, [(.inl 0, 0)], [])], []), [2], 7, [], []),
  (2, ([rv_full, rv_i (-1) (-1), rv_i 5 5], [(1, 0, (-1), (-1), [(.inl 1, 0)], []), (1, 0, (-2147483648), 2147483647, [(.inl 0, 0)], [])], []), [3, 8], 6, [], []),
  (3, ([rv_i (-1) 2147483647, rv_i (-1) (-1), rv_i 5 5], [], []), [4], 5, [], []),
  (4, ([rv_i (-1) 2147483647, rv_i (-1) (-1), rv_i 5 5], [(1, 0, (-1), 2147483647, [(.inl 0, 0)], [])], []), [5], 4, [], []),
  (5, ([rv_i (-1) 2147483647, rv_i (-1) (-1), rv_i 5 5], [(1, 0, 5, 5, [(.inl 2, 0)], []), (1, 0, (-1), 2147483647, [(.inl 0, 0)], [])], []), [6, 8], 3, [], []),
  (6, ([rv_i (-1) 5, rv_i (-1) (-1), rv_i 5 5], [], []), [7], 2, [], []),
  (7, ([rv_i (-1) 5, rv_i (-1) (-1), rv_i 5 5], [rv_i 1 1], []), [10], 1, [], []),
  (8, ([rv_full, rv_i (-1) (-1), rv_i 5 5], [], []), [9], 1, [], []),
  (9, ([rv_full, rv_i (-1) (-1), rv_i 5 5], [rv_i 0 0], []), [], 0, [], []),
  (9, ([rv_i (-1) 5, rv_i (-1) (-1), rv_i 5 5], [rv_i 1 1], []), [], 0, [], [])]
set_option maxRecDepth 100000 in
theorem a_X7_isWithin_5 : rv_all (fm_tm, flX7, fm_wr, kcX7, klX7, K_X7_isWithin_5.2.2.1, [0, 1, 2], 3) ct_X7_isWithin_5 cd_X7_isWithin n_X7_isWithin_5 K_X7_isWithin_5 [] 0 n_X7_isWithin_5 = true := by decide +kernel
theorem m_X7_isWithin_5 {l : Launch} {D : va_G} {ad : Nat → Nat} {cy : Nat → ClassId} {Z : State → Heap → Prop} {Gp : fm_V → Prop} (hAd : fm_Ad fm_tm ad) (hZ : fm_Zk (fm_A fm_tm ad) Z) (hGd : fm_Gd Gp) : rv_Met l D fm_cl fm_tm ad cy fm_nt Z Gp yX7_isWithin (.code yX7_isWithin prog_1_method_34_code 3 (some .boolean) :: fm_Ts) { frames := 0, cells := 0, slots := 0, locals := 0 } K_X7_isWithin_5 := rv_met hAd hZ (by decide +kernel) evX7 dc_X7_isWithin a_X7_isWithin_5 ⟨rfl, rfl, rfl⟩ (by decide +kernel) (by decide +kernel) (by decide) (fm_gm hGd (by decide +kernel)) (Or.inr ⟨rfl, by decide, by decide⟩) (fun p e s m args below meth c Q X Y => fun _ h => absurd h List.not_mem_nil) (fun _ _ _ _ _ _ _ _ _ _ _ _ _ _ _ _ h => absurd h List.not_mem_nil)
def cd_X7_licence : List (Nat × Instr × Nat) := [(0, .iload_n 1, 1), (1, .invokestatic 75, 3), (4, .ifCond .eq 12, 3), (7, .iload_n 2, 1), (8, .iconst (-1), 1), (9, .iconst 5, 1), (10, .invokestatic 80, 3), (13, .ifCond .ne 5, 3), (16, .iconst 0, 1), (17, .ireturn, 1), (18, .aload_n 0, 1), (19, .getfield 38, 3), (22, .getfield 121, 3), (25, .iload_n 1, 1), (26, .iload_n 2, 1), (27, .iconst (-1), 1), (28, .if_icmp .ne 8, 3), (31, .bipush 6, 2), (33, .goto 4, 3), (36, .iload_n 2, 1), (37, .iastore, 1), (38, .iconst 1, 1), (39, .ireturn, 1)]
theorem dc_X7_licence : ∀ q ∈ cd_X7_licence, decode prog_1_method_5_code q.1 = .ok (q.2.1, q.2.2) := by decide +kernel
def K_X7_licence_0 : rv_K := ([rv_r 0, rv_full, rv_full], [], [(30, 9999)], [(0, 0, 1)], [(.inl 1, 0, 19), (.inl 2, (-1), 5)], [])
def ct_X7_licence_0 : List (Nat × rv_K) := [(1, K_X7_isYard_0), (6, K_X7_isWithin_5)]
def n_X7_licence_0 : List rv_N := [
  (0, ([rv_r 0, rv_full, rv_full], [], []), [1], 19, [], []),
  (1, ([rv_r 0, rv_full, rv_full], [(1, 0, (-2147483648), 2147483647, [(.inl 1, 0)], [])], []), [2], 18, [], [0]),
  (2, ([rv_r 0, rv_full, rv_full], [(1, 0, 0, 1, [], [(.inl 1, 0, 19)])], []), [3, 8], 17, [], []),
  (3, ([rv_r 0, rv_i 0 19, rv_full], [], []), [4], 16, [], []),
  (4, ([rv_r 0, rv_i 0 19, rv_full], [(1, 0, (-2147483648), 2147483647, [(.inl 2, 0)], [])], []), [5], 15, [], []),
  (5, ([rv_r 0, rv_i 0 19, rv_full], [rv_i (-1) (-1), (1, 0, (-2147483648), 2147483647, [(.inl 2, 0)], [])], []), [6], 14, [], []),
  (6, ([rv_r 0, rv_i 0 19, rv_full], [rv_i 5 5, rv_i (-1) (-1), (1, 0, (-2147483648), 2147483647, [(.inl 2, 0)], [])], []), [7], 13, [], [1]),
  (7, ([rv_r 0, rv_i 0 19, rv_full], [(1, 0, 0, 1, [], [(.inl 2, (-1), 5)])], []), [8, 10], 12, [], []),
  (8, ([rv_r 0, rv_full, rv_full], [], []), [9], 1, [], []),
  (9, ([rv_r 0, rv_full, rv_full], [rv_i 0 0], []), [], 0, [], []),
  (10, ([rv_r 0, rv_i 0 19, rv_i (-1) 5], [], []), [11], 11, [], []),
  (11, ([rv_r 0, rv_i 0 19, rv_i (-1) 5], [rv_r 0], []), [12], 10, [], []),
  (12, ([rv_r 0, rv_i 0 19, rv_i (-1) 5], [rv_r 26], []), [13], 9, [], []),
  (13, ([rv_r 0, rv_i 0 19, rv_i (-1) 5], [rv_r 30], []), [14], 8, [], []),
  (14, ([rv_r 0, rv_i 0 19, rv_i (-1) 5], [(1, 0, 0, 19, [(.inl 1, 0)], []), rv_r 30], []), [15], 7, [], []),
  (15, ([rv_r 0, rv_i 0 19, rv_i (-1) 5], [(1, 0, (-1), 5, [(.inl 2, 0)], []), (1, 0, 0, 19, [(.inl 1, 0)], []), rv_r 30], []), [16], 6, [], []),
  (16, ([rv_r 0, rv_i 0 19, rv_i (-1) 5], [rv_i (-1) (-1), (1, 0, (-1), 5, [(.inl 2, 0)], []), (1, 0, 0, 19, [(.inl 1, 0)], []), rv_r 30], []), [17, 19], 5, [], []),
  (17, ([rv_r 0, rv_i 0 19, rv_i (-1) (-1)], [(1, 0, 0, 19, [(.inl 1, 0)], []), rv_r 30], []), [18], 4, [], []),
  (18, ([rv_r 0, rv_i 0 19, rv_i (-1) (-1)], [rv_i 6 6, (1, 0, 0, 19, [(.inl 1, 0)], []), rv_r 30], []), [20], 3, [], []),
  (19, ([rv_r 0, rv_i 0 19, rv_i 0 5], [(1, 0, 0, 19, [(.inl 1, 0)], []), rv_r 30], []), [21], 3, [], []),
  (20, ([rv_r 0, rv_i 0 19, rv_i (-1) (-1)], [rv_i 6 6, (1, 0, 0, 19, [(.inl 1, 0)], []), rv_r 30], []), [22], 2, [], []),
  (20, ([rv_r 0, rv_i 0 19, rv_i 0 5], [(1, 0, 0, 5, [(.inl 2, 0)], []), (1, 0, 0, 19, [(.inl 1, 0)], []), rv_r 30], []), [22], 2, [], []),
  (21, ([rv_r 0, rv_i 0 19, rv_i (-1) 5], [], []), [23], 1, [], []),
  (22, ([rv_r 0, rv_i 0 19, rv_i (-1) 5], [rv_i 1 1], []), [], 0, [], [])]
set_option maxRecDepth 100000 in
theorem a_X7_licence_0 : rv_all (fm_tm, flX7, fm_wr, kcX7, klX7, K_X7_licence_0.2.2.1, [1, 2], 3) ct_X7_licence_0 cd_X7_licence n_X7_licence_0 K_X7_licence_0 [] 0 n_X7_licence_0 = true := by decide +kernel
theorem m_X7_licence_0 {l : Launch} {D : va_G} {ad : Nat → Nat} {cy : Nat → ClassId} {Z : State → Heap → Prop} {Gp : fm_V → Prop} (hAd : fm_Ad fm_tm ad) (hZ : fm_Zk (fm_A fm_tm ad) Z) (hGd : fm_Gd Gp) : rv_Met l D fm_cl fm_tm ad cy fm_nt Z Gp yX7_licence (.code yX7_licence prog_1_method_5_code 3 (some .boolean) :: fm_Ts) { frames := 1, cells := 0, slots := 0, locals := 100 } K_X7_licence_0 := rv_met hAd hZ (by decide +kernel) evX7 dc_X7_licence a_X7_licence_0 ⟨rfl, rfl, rfl⟩ (by decide +kernel) (by decide +kernel) (by decide) (fm_gm hGd (by decide +kernel)) (Or.inr ⟨rfl, by decide, by decide⟩) (fun p e s m args below meth c Q X Y => List.forall_mem_cons.mpr ⟨rv_ctS X Y fm_Ts_good dc_X7_licence (pc := 1) (i := 1) (idx := 75) rfl (m_X7_isYard_0 hAd hZ hGd) wl_X7_75 wm_X7_isYard wy_X7_isYard (by decide) rfl, List.forall_mem_cons.mpr ⟨rv_ctS X Y fm_Ts_good dc_X7_licence (pc := 10) (i := 6) (idx := 80) rfl (m_X7_isWithin_5 hAd hZ hGd) wl_X7_80 wm_X7_isWithin wy_X7_isWithin (by decide) rfl, fun _ h => absurd h List.not_mem_nil⟩⟩) (fun _ _ _ _ _ _ _ _ _ _ _ _ _ _ _ _ h => absurd h List.not_mem_nil)
def cd_X7_isBeggar : List (Nat × Instr × Nat) := [(0, .iload_n 0, 1), (1, .ifCond .lt 13, 3), (4, .iload_n 0, 1), (5, .bipush 6, 2), (7, .if_icmp .ge 7, 3), (10, .iconst 1, 1), (11, .goto 4, 3), (14, .iconst 0, 1), (15, .ireturn, 1)]
theorem dc_X7_isBeggar : ∀ q ∈ cd_X7_isBeggar, decode prog_1_method_37_code q.1 = .ok (q.2.1, q.2.2) := by decide +kernel
def K_X7_isBeggar_0 : rv_K := ([rv_full], [], [], [(0, 0, 1)], [(.inl 0, 0, 5)], [])
def ct_X7_isBeggar_0 : List (Nat × rv_K) := []
def n_X7_isBeggar_0 : List rv_N := [
  (0, ([rv_full], [], []), [1], 7, [], []),
  (1, ([rv_full], [(1, 0, (-2147483648), 2147483647, [(.inl 0, 0)], [])], []), [2, 7], 6, [], []),
  (2, ([rv_i 0 2147483647], [], []), [3], 5, [], []),
  (3, ([rv_i 0 2147483647], [(1, 0, 0, 2147483647, [(.inl 0, 0)], [])], []), [4], 4, [], []),
  (4, ([rv_i 0 2147483647], [rv_i 6 6, (1, 0, 0, 2147483647, [(.inl 0, 0)], [])], []), [5, 7], 3, [], []),
  (5, ([rv_i 0 5], [], []), [6], 2, [], []),
  (6, ([rv_i 0 5], [rv_i 1 1], []), [9], 1, [], []),
  (7, ([rv_full], [], []), [8], 1, [], []),
  (8, ([rv_full], [rv_i 0 0], []), [], 0, [], []),
  (8, ([rv_i 0 5], [rv_i 1 1], []), [], 0, [], [])]
set_option maxRecDepth 100000 in
theorem a_X7_isBeggar_0 : rv_all (fm_tm, flX7, fm_wr, kcX7, klX7, K_X7_isBeggar_0.2.2.1, [0], 1) ct_X7_isBeggar_0 cd_X7_isBeggar n_X7_isBeggar_0 K_X7_isBeggar_0 [] 0 n_X7_isBeggar_0 = true := by decide +kernel
theorem m_X7_isBeggar_0 {l : Launch} {D : va_G} {ad : Nat → Nat} {cy : Nat → ClassId} {Z : State → Heap → Prop} {Gp : fm_V → Prop} (hAd : fm_Ad fm_tm ad) (hZ : fm_Zk (fm_A fm_tm ad) Z) (hGd : fm_Gd Gp) : rv_Met l D fm_cl fm_tm ad cy fm_nt Z Gp yX7_isBeggar (.code yX7_isBeggar prog_1_method_37_code 1 (some .boolean) :: fm_Ts) { frames := 0, cells := 0, slots := 0, locals := 0 } K_X7_isBeggar_0 := rv_met hAd hZ (by decide +kernel) evX7 dc_X7_isBeggar a_X7_isBeggar_0 ⟨rfl, rfl, rfl⟩ (by decide +kernel) (by decide +kernel) (by decide) (fm_gm hGd (by decide +kernel)) (Or.inr ⟨rfl, by decide, by decide⟩) (fun p e s m args below meth c Q X Y => fun _ h => absurd h List.not_mem_nil) (fun _ _ _ _ _ _ _ _ _ _ _ _ _ _ _ _ h => absurd h List.not_mem_nil)
def cd_X7_skill : List (Nat × Instr × Nat) := [(0, .iload_n 1, 1), (1, .invokestatic 124, 3), (4, .ifCond .eq 13, 3), (7, .iload_n 2, 1), (8, .iconst 0, 1), (9, .bipush 9, 2), (11, .invokestatic 80, 3), (14, .ifCond .ne 5, 3), (17, .iconst 0, 1), (18, .ireturn, 1), (19, .aload_n 0, 1), (20, .getfield 38, 3), (23, .getfield 127, 3), (26, .iload_n 1, 1), (27, .iload_n 2, 1), (28, .iastore, 1), (29, .iconst 1, 1), (30, .ireturn, 1)]
theorem dc_X7_skill : ∀ q ∈ cd_X7_skill, decode prog_1_method_6_code q.1 = .ok (q.2.1, q.2.2) := by decide +kernel
def K_X7_skill_0 : rv_K := ([rv_r 0, rv_full, rv_full], [], [(31, 9999)], [(0, 0, 1)], [(.inl 1, 0, 5), (.inl 2, 0, 9)], [])
def ct_X7_skill_0 : List (Nat × rv_K) := [(1, K_X7_isBeggar_0), (6, K_X7_isWithin_3)]
def n_X7_skill_0 : List rv_N := [
  (0, ([rv_r 0, rv_full, rv_full], [], []), [1], 15, [], []),
  (1, ([rv_r 0, rv_full, rv_full], [(1, 0, (-2147483648), 2147483647, [(.inl 1, 0)], [])], []), [2], 14, [], [0]),
  (2, ([rv_r 0, rv_full, rv_full], [(1, 0, 0, 1, [], [(.inl 1, 0, 5)])], []), [3, 8], 13, [], []),
  (3, ([rv_r 0, rv_i 0 5, rv_full], [], []), [4], 12, [], []),
  (4, ([rv_r 0, rv_i 0 5, rv_full], [(1, 0, (-2147483648), 2147483647, [(.inl 2, 0)], [])], []), [5], 11, [], []),
  (5, ([rv_r 0, rv_i 0 5, rv_full], [rv_i 0 0, (1, 0, (-2147483648), 2147483647, [(.inl 2, 0)], [])], []), [6], 10, [], []),
  (6, ([rv_r 0, rv_i 0 5, rv_full], [rv_i 9 9, rv_i 0 0, (1, 0, (-2147483648), 2147483647, [(.inl 2, 0)], [])], []), [7], 9, [], [1]),
  (7, ([rv_r 0, rv_i 0 5, rv_full], [(1, 0, 0, 1, [], [(.inl 2, 0, 9)])], []), [8, 10], 8, [], []),
  (8, ([rv_r 0, rv_full, rv_full], [], []), [9], 1, [], []),
  (9, ([rv_r 0, rv_full, rv_full], [rv_i 0 0], []), [], 0, [], []),
  (10, ([rv_r 0, rv_i 0 5, rv_i 0 9], [], []), [11], 7, [], []),
  (11, ([rv_r 0, rv_i 0 5, rv_i 0 9], [rv_r 0], []), [12], 6, [], []),
  (12, ([rv_r 0, rv_i 0 5, rv_i 0 9], [rv_r 26], []), [13], 5, [], []),
  (13, ([rv_r 0, rv_i 0 5, rv_i 0 9], [rv_r 31], []), [14], 4, [], []),
  (14, ([rv_r 0, rv_i 0 5, rv_i 0 9], [(1, 0, 0, 5, [(.inl 1, 0)], []), rv_r 31], []), [15], 3, [], []),
  (15, ([rv_r 0, rv_i 0 5, rv_i 0 9], [(1, 0, 0, 9, [(.inl 2, 0)], []), (1, 0, 0, 5, [(.inl 1, 0)], []), rv_r 31], []), [16], 2, [], []),
  (16, ([rv_r 0, rv_i 0 5, rv_i 0 9], [], []), [17], 1, [], []),
  (17, ([rv_r 0, rv_i 0 5, rv_i 0 9], [rv_i 1 1], []), [], 0, [], [])]
set_option maxRecDepth 100000 in
theorem a_X7_skill_0 : rv_all (fm_tm, flX7, fm_wr, kcX7, klX7, K_X7_skill_0.2.2.1, [1, 2], 3) ct_X7_skill_0 cd_X7_skill n_X7_skill_0 K_X7_skill_0 [] 0 n_X7_skill_0 = true := by decide +kernel
theorem m_X7_skill_0 {l : Launch} {D : va_G} {ad : Nat → Nat} {cy : Nat → ClassId} {Z : State → Heap → Prop} {Gp : fm_V → Prop} (hAd : fm_Ad fm_tm ad) (hZ : fm_Zk (fm_A fm_tm ad) Z) (hGd : fm_Gd Gp) : rv_Met l D fm_cl fm_tm ad cy fm_nt Z Gp yX7_skill (.code yX7_skill prog_1_method_6_code 3 (some .boolean) :: fm_Ts) { frames := 1, cells := 0, slots := 0, locals := 100 } K_X7_skill_0 := rv_met hAd hZ (by decide +kernel) evX7 dc_X7_skill a_X7_skill_0 ⟨rfl, rfl, rfl⟩ (by decide +kernel) (by decide +kernel) (by decide) (fm_gm hGd (by decide +kernel)) (Or.inr ⟨rfl, by decide, by decide⟩) (fun p e s m args below meth c Q X Y => List.forall_mem_cons.mpr ⟨rv_ctS X Y fm_Ts_good dc_X7_skill (pc := 1) (i := 1) (idx := 124) rfl (m_X7_isBeggar_0 hAd hZ hGd) wl_X7_124 wm_X7_isBeggar wy_X7_isBeggar (by decide) rfl, List.forall_mem_cons.mpr ⟨rv_ctS X Y fm_Ts_good dc_X7_skill (pc := 11) (i := 6) (idx := 80) rfl (m_X7_isWithin_3 hAd hZ hGd) wl_X7_80 wm_X7_isWithin wy_X7_isWithin (by decide) rfl, fun _ h => absurd h List.not_mem_nil⟩⟩) (fun _ _ _ _ _ _ _ _ _ _ _ _ _ _ _ _ h => absurd h List.not_mem_nil)
def cd_X6_hasRoom : List (Nat × Instr × Nat) := [(0, .aload_n 0, 1), (1, .getfield 15, 3), (4, .iload_n 1, 1), (5, .iadd, 1), (6, .sipush 220, 3), (9, .if_icmp .gt 7, 3), (12, .iconst 1, 1), (13, .goto 4, 3), (16, .iconst 0, 1), (17, .ireturn, 1)]
theorem dc_X6_hasRoom : ∀ q ∈ cd_X6_hasRoom, decode prog_8_method_2_code q.1 = .ok (q.2.1, q.2.2) := by decide +kernel
def K_X6_hasRoom_0 : rv_K := ([rv_r 3, rv_full], [], [], [(0, 0, 1)], [], [])
def ct_X6_hasRoom_0 : List (Nat × rv_K) := []
def n_X6_hasRoom_0 : List rv_N := [
  (0, ([rv_r 3, rv_full], [], []), [1], 8, [], []),
  (1, ([rv_r 3, rv_full], [rv_r 3], []), [2], 7, [], []),
  (2, ([rv_r 3, rv_full], [(1, 0, (-2147483648), 2147483647, [(.inr (3, 1), 0)], [])], []), [3], 6, [], []),
  (3, ([rv_r 3, rv_full], [(1, 0, (-2147483648), 2147483647, [(.inl 1, 0)], []), (1, 0, (-2147483648), 2147483647, [(.inr (3, 1), 0)], [])], []), [4], 5, [], []),
  (4, ([rv_r 3, rv_full], [rv_full], []), [5], 4, [], []),
  (5, ([rv_r 3, rv_full], [rv_i 220 220, rv_full], []), [6, 8], 3, [], []),
  (6, ([rv_r 3, rv_full], [], []), [7], 2, [], []),
  (7, ([rv_r 3, rv_full], [rv_i 1 1], []), [10], 1, [], []),
  (8, ([rv_r 3, rv_full], [], []), [9], 1, [], []),
  (9, ([rv_r 3, rv_full], [rv_i 0 0], []), [], 0, [], []),
  (9, ([rv_r 3, rv_full], [rv_i 1 1], []), [], 0, [], [])]
set_option maxRecDepth 100000 in
theorem a_X6_hasRoom_0 : rv_all (fm_tm, flX6, fm_wr, kcX6, klX6, K_X6_hasRoom_0.2.2.1, [], 2) ct_X6_hasRoom_0 cd_X6_hasRoom n_X6_hasRoom_0 K_X6_hasRoom_0 [] 0 n_X6_hasRoom_0 = true := by decide +kernel
theorem m_X6_hasRoom_0 {l : Launch} {D : va_G} {ad : Nat → Nat} {cy : Nat → ClassId} {Z : State → Heap → Prop} {Gp : fm_V → Prop} (hAd : fm_Ad fm_tm ad) (hZ : fm_Zk (fm_A fm_tm ad) Z) (hGd : fm_Gd Gp) : rv_Met l D fm_cl fm_tm ad cy fm_nt Z Gp yX6_hasRoom (.code yX6_hasRoom prog_8_method_2_code 2 (some .boolean) :: fm_Ts) { frames := 0, cells := 0, slots := 0, locals := 0 } K_X6_hasRoom_0 := rv_met hAd hZ (by decide +kernel) evX6 dc_X6_hasRoom a_X6_hasRoom_0 ⟨rfl, rfl, rfl⟩ (by decide +kernel) (by decide +kernel) (by decide) (fm_gm hGd (by decide +kernel)) (Or.inr ⟨rfl, by decide, by decide⟩) (fun p e s m args below meth c Q X Y => fun _ h => absurd h List.not_mem_nil) (fun _ _ _ _ _ _ _ _ _ _ _ _ _ _ _ _ h => absurd h List.not_mem_nil)
def cd_X6_putNumber : List (Nat × Instr × Nat) := [(0, .bipush 24, 2), (2, .istore_n 2, 1), (3, .iload_n 2, 1), (4, .ifCond .lt 52, 3), (7, .aload_n 0, 1), (8, .getfield 15, 3), (11, .ifCond .lt 39, 3), (14, .aload_n 0, 1), (15, .getfield 15, 3), (18, .sipush 220, 3), (21, .if_icmp .ge 29, 3), (24, .aload_n 0, 1), (25, .getfield 9, 3), (28, .aload_n 0, 1), (29, .getfield 15, 3), (32, .iload_n 1, 1), (33, .iload_n 2, 1), (34, .ishr, 1), (35, .sipush 255, 3), (38, .iand, 1), (39, .iastore, 1), (40, .aload_n 0, 1), (41, .dup, 1), (42, .getfield 15, 3), (45, .iconst 1, 1), (46, .iadd, 1), (47, .putfield 15, 3), (50, .iinc 2 (-8), 3), (53, .goto (-50), 3), (56, .return_, 1)]
theorem dc_X6_putNumber : ∀ q ∈ cd_X6_putNumber, decode prog_8_method_3_code q.1 = .ok (q.2.1, q.2.2) := by decide +kernel
def K_X6_putNumber_0 : rv_K := ([rv_r 3, rv_full], [], [(3, 1), (4, 9999)], [], [], [])
def ct_X6_putNumber_0 : List (Nat × rv_K) := []
def n_X6_putNumber_0 : List rv_N := [
  (0, ([rv_r 3, rv_full, rv_u], [], []), [1], 44804, [], []),
  (1, ([rv_r 3, rv_full, rv_u], [rv_i 24 24], []), [2], 44803, [], []),
  (2, ([rv_r 3, rv_full, rv_i (-8) 24], [], []), [3], 11202, [(2, 1400)], []),
  (3, ([rv_r 3, rv_full, rv_i (-8) 24], [(1, 0, (-8), 24, [(.inl 2, 0)], [])], []), [4, 29], 11201, [(2, 1400)], []),
  (4, ([rv_r 3, rv_full, rv_i 0 24], [], []), [5], 27, [(2, 1400)], []),
  (5, ([rv_r 3, rv_full, rv_i 0 24], [rv_r 3], []), [6], 26, [(2, 1400)], []),
  (6, ([rv_r 3, rv_full, rv_i 0 24], [(1, 0, (-2147483648), 2147483647, [(.inr (3, 1), 0)], [])], []), [7, 27], 25, [(2, 1400)], []),
  (7, ([rv_r 3, rv_full, rv_i 0 24], [], [((3, 1), 0, 2147483647, [])]), [8], 24, [(2, 1400)], []),
  (8, ([rv_r 3, rv_full, rv_i 0 24], [rv_r 3], [((3, 1), 0, 2147483647, [])]), [9], 23, [(2, 1400)], []),
  (9, ([rv_r 3, rv_full, rv_i 0 24], [(1, 0, 0, 2147483647, [(.inr (3, 1), 0)], [])], [((3, 1), 0, 2147483647, [])]), [10], 22, [(2, 1400)], []),
  (10, ([rv_r 3, rv_full, rv_i 0 24], [rv_i 220 220, (1, 0, 0, 2147483647, [(.inr (3, 1), 0)], [])], [((3, 1), 0, 2147483647, [])]), [11, 27], 21, [(2, 1400)], []),
  (11, ([rv_r 3, rv_full, rv_i 0 24], [], [((3, 1), 0, 219, [])]), [12], 20, [(2, 1400)], []),
  (12, ([rv_r 3, rv_full, rv_i 0 24], [rv_r 3], [((3, 1), 0, 219, [])]), [13], 19, [(2, 1400)], []),
  (13, ([rv_r 3, rv_full, rv_i 0 24], [rv_r 4], [((3, 1), 0, 219, [])]), [14], 18, [(2, 1400)], []),
  (14, ([rv_r 3, rv_full, rv_i 0 24], [rv_r 3, rv_r 4], [((3, 1), 0, 219, [])]), [15], 17, [(2, 1400)], []),
  (15, ([rv_r 3, rv_full, rv_i 0 24], [(1, 0, 0, 219, [(.inr (3, 1), 0)], []), rv_r 4], [((3, 1), 0, 219, [])]), [16], 16, [(2, 1400)], []),
  (16, ([rv_r 3, rv_full, rv_i 0 24], [(1, 0, (-2147483648), 2147483647, [(.inl 1, 0)], []), (1, 0, 0, 219, [(.inr (3, 1), 0)], []), rv_r 4], [((3, 1), 0, 219, [])]), [17], 15, [(2, 1400)], []),
  (17, ([rv_r 3, rv_full, rv_i 0 24], [(1, 0, 0, 24, [(.inl 2, 0)], []), (1, 0, (-2147483648), 2147483647, [(.inl 1, 0)], []), (1, 0, 0, 219, [(.inr (3, 1), 0)], []), rv_r 4], [((3, 1), 0, 219, [])]), [18], 14, [(2, 1400)], []),
  (18, ([rv_r 3, rv_full, rv_i 0 24], [rv_full, (1, 0, 0, 219, [(.inr (3, 1), 0)], []), rv_r 4], [((3, 1), 0, 219, [])]), [19], 13, [(2, 1400)], []),
  (19, ([rv_r 3, rv_full, rv_i 0 24], [rv_i 255 255, rv_full, (1, 0, 0, 219, [(.inr (3, 1), 0)], []), rv_r 4], [((3, 1), 0, 219, [])]), [20], 12, [(2, 1400)], []),
  (20, ([rv_r 3, rv_full, rv_i 0 24], [rv_i 0 255, (1, 0, 0, 219, [(.inr (3, 1), 0)], []), rv_r 4], [((3, 1), 0, 219, [])]), [21], 11, [(2, 1400)], []),
  (21, ([rv_r 3, rv_full, rv_i 0 24], [], [((3, 1), 0, 219, [])]), [22], 10, [(2, 1400)], []),
  (22, ([rv_r 3, rv_full, rv_i 0 24], [rv_r 3], [((3, 1), 0, 219, [])]), [23], 9, [(2, 1400)], []),
  (23, ([rv_r 3, rv_full, rv_i 0 24], [rv_r 3, rv_r 3], [((3, 1), 0, 219, [])]), [24], 8, [(2, 1400)], []),
  (24, ([rv_r 3, rv_full, rv_i 0 24], [(1, 0, 0, 219, [(.inr (3, 1), 0)], []), rv_r 3], [((3, 1), 0, 219, [])]), [25], 7, [(2, 1400)], []),
  (25, ([rv_r 3, rv_full, rv_i 0 24], [rv_i 1 1, (1, 0, 0, 219, [(.inr (3, 1), 0)], []), rv_r 3], [((3, 1), 0, 219, [])]), [26], 6, [(2, 1400)], []),
  (26, ([rv_r 3, rv_full, rv_i 0 24], [(1, 0, 1, 220, [(.inr (3, 1), 1)], []), rv_r 3], [((3, 1), 0, 219, [])]), [27], 5, [(2, 1400)], []),
  (27, ([rv_r 3, rv_full, rv_i 0 24], [], []), [28], 4, [(2, 1400)], []),
  (28, ([rv_r 3, rv_full, rv_i (-8) 16], [], []), [2], 11203, [(2, 1400)], []),
  (29, ([rv_r 3, rv_full, rv_i (-8) (-1)], [], []), [], 0, [], [])]
set_option maxRecDepth 100000 in
theorem a_X6_putNumber_0 : rv_all (fm_tm, flX6, fm_wr, kcX6, klX6, K_X6_putNumber_0.2.2.1, [], 3) ct_X6_putNumber_0 cd_X6_putNumber n_X6_putNumber_0 K_X6_putNumber_0 [] 0 n_X6_putNumber_0 = true := by decide +kernel
theorem m_X6_putNumber_0 {l : Launch} {D : va_G} {ad : Nat → Nat} {cy : Nat → ClassId} {Z : State → Heap → Prop} {Gp : fm_V → Prop} (hAd : fm_Ad fm_tm ad) (hZ : fm_Zk (fm_A fm_tm ad) Z) (hGd : fm_Gd Gp) : rv_Met l D fm_cl fm_tm ad cy fm_nt Z Gp yX6_putNumber (.code yX6_putNumber prog_8_method_3_code 3 none :: fm_Ts) { frames := 0, cells := 0, slots := 0, locals := 0 } K_X6_putNumber_0 := rv_met hAd hZ (by decide +kernel) evX6 dc_X6_putNumber a_X6_putNumber_0 ⟨rfl, rfl, rfl⟩ (by decide +kernel) (by decide +kernel) (by decide) (fm_gm hGd (by decide +kernel)) (rfl) (fun p e s m args below meth c Q X Y => fun _ h => absurd h List.not_mem_nil) (fun _ _ _ _ _ _ _ _ _ _ _ _ _ _ _ _ h => absurd h List.not_mem_nil)
def cd_X7_feed : List (Nat × Instr × Nat) := [(0, .aload_n 0, 1), (1, .getfield 12, 3), (4, .bipush 20, 2), (6, .invokevirtual 130, 3), (9, .ifCond .ne 5, 3), (12, .iconst (-1), 1), (13, .ireturn, 1), (14, .aload_n 0, 1), (15, .getfield 12, 3), (18, .iload_n 1, 1), (19, .invokevirtual 133, 3), (22, .aload_n 0, 1), (23, .getfield 12, 3), (26, .iload_n 2, 1), (27, .invokevirtual 133, 3), (30, .aload_n 0, 1), (31, .getfield 12, 3), (34, .iload_n 3, 1), (35, .invokevirtual 133, 3), (38, .aload_n 0, 1), (39, .getfield 12, 3), (42, .iload 4, 2), (44, .invokevirtual 133, 3), (47, .aload_n 0, 1), (48, .getfield 12, 3), (51, .iload 5, 2), (53, .invokevirtual 133, 3), (56, .aload_n 0, 1), (57, .getfield 12, 3), (60, .getfield 137, 3), (63, .ireturn, 1)]
theorem dc_X7_feed : ∀ q ∈ cd_X7_feed, decode prog_1_method_7_code q.1 = .ok (q.2.1, q.2.2) := by decide +kernel
def K_X7_feed_0 : rv_K := ([rv_r 0, rv_full, rv_full, rv_full, rv_full, rv_full], [], [(3, 1), (4, 9999)], [(0, (-2147483648), 2147483647)], [], [])
def ct_X7_feed_0 : List (Nat × rv_K) := [(3, K_X6_hasRoom_0), (10, K_X6_putNumber_0), (14, K_X6_putNumber_0), (18, K_X6_putNumber_0), (22, K_X6_putNumber_0), (26, K_X6_putNumber_0)]
def n_X7_feed_0 : List rv_N := [
  (0, ([rv_r 0, rv_full, rv_full, rv_full, rv_full, rv_full], [], []), [1], 28, [], []),
  (1, ([rv_r 0, rv_full, rv_full, rv_full, rv_full, rv_full], [rv_r 0], []), [2], 27, [], []),
  (2, ([rv_r 0, rv_full, rv_full, rv_full, rv_full, rv_full], [rv_r 3], []), [3], 26, [], []),
  (3, ([rv_r 0, rv_full, rv_full, rv_full, rv_full, rv_full], [rv_i 20 20, rv_r 3], []), [4], 25, [], [0]),
  (4, ([rv_r 0, rv_full, rv_full, rv_full, rv_full, rv_full], [rv_i 0 1], []), [5, 7], 24, [], []),
  (5, ([rv_r 0, rv_full, rv_full, rv_full, rv_full, rv_full], [], []), [6], 1, [], []),
  (6, ([rv_r 0, rv_full, rv_full, rv_full, rv_full, rv_full], [rv_i (-1) (-1)], []), [], 0, [], []),
  (7, ([rv_r 0, rv_full, rv_full, rv_full, rv_full, rv_full], [], []), [8], 23, [], []),
  (8, ([rv_r 0, rv_full, rv_full, rv_full, rv_full, rv_full], [rv_r 0], []), [9], 22, [], []),
  (9, ([rv_r 0, rv_full, rv_full, rv_full, rv_full, rv_full], [rv_r 3], []), [10], 21, [], []),
  (10, ([rv_r 0, rv_full, rv_full, rv_full, rv_full, rv_full], [(1, 0, (-2147483648), 2147483647, [(.inl 1, 0)], []), rv_r 3], []), [11], 20, [], [1]),
  (11, ([rv_r 0, rv_full, rv_full, rv_full, rv_full, rv_full], [], []), [12], 19, [], []),
  (12, ([rv_r 0, rv_full, rv_full, rv_full, rv_full, rv_full], [rv_r 0], []), [13], 18, [], []),
  (13, ([rv_r 0, rv_full, rv_full, rv_full, rv_full, rv_full], [rv_r 3], []), [14], 17, [], []),
  (14, ([rv_r 0, rv_full, rv_full, rv_full, rv_full, rv_full], [(1, 0, (-2147483648), 2147483647, [(.inl 2, 0)], []), rv_r 3], []), [15], 16, [], [2]),
  (15, ([rv_r 0, rv_full, rv_full, rv_full, rv_full, rv_full], [], []), [16], 15, [], []),
  (16, ([rv_r 0, rv_full, rv_full, rv_full, rv_full, rv_full], [rv_r 0], []), [17], 14, [], []),
  (17, ([rv_r 0, rv_full, rv_full, rv_full, rv_full, rv_full], [rv_r 3], []), [18], 13, [], []),
  (18, ([rv_r 0, rv_full, rv_full, rv_full, rv_full, rv_full], [(1, 0, (-2147483648), 2147483647, [(.inl 3, 0)], []), rv_r 3], []), [19], 12, [], [3]),
  (19, ([rv_r 0, rv_full, rv_full, rv_full, rv_full, rv_full], [], []), [20], 11, [], []),
  (20, ([rv_r 0, rv_full, rv_full, rv_full, rv_full, rv_full], [rv_r 0], []), [21], 10, [], []),
  (21, ([rv_r 0, rv_full, rv_full, rv_full, rv_full, rv_full], [rv_r 3], []), [22], 9, [], []),
  (22, ([rv_r 0, rv_full, rv_full, rv_full, rv_full, rv_full], [(1, 0, (-2147483648), 2147483647, [(.inl 4, 0)], []), rv_r 3], []), [23], 8, [], [4]),
  (23, ([rv_r 0, rv_full, rv_full, rv_full, rv_full, rv_full], [], []), [24], 7, [], []),
  (24, ([rv_r 0, rv_full, rv_full, rv_full, rv_full, rv_full], [rv_r 0], []), [25], 6, [], []),
  (25, ([rv_r 0, rv_full, rv_full, rv_full, rv_full, rv_full], [rv_r 3], []), [26], 5, [], []),
  (26, ([rv_r 0, rv_full, rv_full, rv_full, rv_full, rv_full], [(1, 0, (-2147483648), 2147483647, [(.inl 5, 0)], []), rv_r 3], []), [27], 4, [], [5]),
  (27, ([rv_r 0, rv_full, rv_full, rv_full, rv_full, rv_full], [], []), [28], 3, [], []),
  (28, ([rv_r 0, rv_full, rv_full, rv_full, rv_full, rv_full], [rv_r 0], []), [29], 2, [], []),
  (29, ([rv_r 0, rv_full, rv_full, rv_full, rv_full, rv_full], [rv_r 3], []), [30], 1, [], []),
  (30, ([rv_r 0, rv_full, rv_full, rv_full, rv_full, rv_full], [(1, 0, (-2147483648), 2147483647, [(.inr (3, 1), 0)], [])], []), [], 0, [], [])]
set_option maxRecDepth 100000 in
theorem a_X7_feed_0 : rv_all (fm_tm, flX7, fm_wr, kcX7, klX7, K_X7_feed_0.2.2.1, [], 6) ct_X7_feed_0 cd_X7_feed n_X7_feed_0 K_X7_feed_0 [] 0 n_X7_feed_0 = true := by decide +kernel
theorem m_X7_feed_0 {l : Launch} {D : va_G} {ad : Nat → Nat} {cy : Nat → ClassId} {Z : State → Heap → Prop} {Gp : fm_V → Prop} (hAd : fm_Ad fm_tm ad) (hZ : fm_Zk (fm_A fm_tm ad) Z) (hGd : fm_Gd Gp) : rv_Met l D fm_cl fm_tm ad cy fm_nt Z Gp yX7_feed (.code yX7_feed prog_1_method_7_code 6 (some .int) :: fm_Ts) { frames := 1, cells := 0, slots := 0, locals := 100 } K_X7_feed_0 := rv_met hAd hZ (by decide +kernel) evX7 dc_X7_feed a_X7_feed_0 ⟨rfl, rfl, rfl⟩ (by decide +kernel) (by decide +kernel) (by decide) (fm_gm hGd (by decide +kernel)) (Or.inl rfl) (fun p e s m args below meth c Q X Y => List.forall_mem_cons.mpr ⟨rv_ctV X Y fm_Ts_good dc_X7_feed (pc := 6) (i := 3) (idx := 130) rfl (m_X6_hasRoom_0 hAd hZ hGd) wl_X7_130 wm_X6_hasRoom wy_X6_hasRoom (by decide) ⟨rfl, rfl, rfl⟩ ⟨rfl, rfl⟩, List.forall_mem_cons.mpr ⟨rv_ctV X Y fm_Ts_good dc_X7_feed (pc := 19) (i := 10) (idx := 133) rfl (m_X6_putNumber_0 hAd hZ hGd) wl_X7_133 wm_X6_putNumber wy_X6_putNumber (by decide) ⟨rfl, rfl, rfl⟩ ⟨rfl, rfl⟩, List.forall_mem_cons.mpr ⟨rv_ctV X Y fm_Ts_good dc_X7_feed (pc := 27) (i := 14) (idx := 133) rfl (m_X6_putNumber_0 hAd hZ hGd) wl_X7_133 wm_X6_putNumber wy_X6_putNumber (by decide) ⟨rfl, rfl, rfl⟩ ⟨rfl, rfl⟩, List.forall_mem_cons.mpr ⟨rv_ctV X Y fm_Ts_good dc_X7_feed (pc := 35) (i := 18) (idx := 133) rfl (m_X6_putNumber_0 hAd hZ hGd) wl_X7_133 wm_X6_putNumber wy_X6_putNumber (by decide) ⟨rfl, rfl, rfl⟩ ⟨rfl, rfl⟩, List.forall_mem_cons.mpr ⟨rv_ctV X Y fm_Ts_good dc_X7_feed (pc := 44) (i := 22) (idx := 133) rfl (m_X6_putNumber_0 hAd hZ hGd) wl_X7_133 wm_X6_putNumber wy_X6_putNumber (by decide) ⟨rfl, rfl, rfl⟩ ⟨rfl, rfl⟩, List.forall_mem_cons.mpr ⟨rv_ctV X Y fm_Ts_good dc_X7_feed (pc := 53) (i := 26) (idx := 133) rfl (m_X6_putNumber_0 hAd hZ hGd) wl_X7_133 wm_X6_putNumber wy_X6_putNumber (by decide) ⟨rfl, rfl, rfl⟩ ⟨rfl, rfl⟩, fun _ h => absurd h List.not_mem_nil⟩⟩⟩⟩⟩⟩) (fun _ _ _ _ _ _ _ _ _ _ _ _ _ _ _ _ h => absurd h List.not_mem_nil)
def K_X7_isWithin_6 : rv_K := ([rv_full, rv_i 1 1, rv_i 200 200], [], [], [(0, 0, 1)], [(.inl 0, 1, 200)], [])
def ct_X7_isWithin_6 : List (Nat × rv_K) := []
def n_X7_isWithin_6 : List rv_N := [
  (0, ([rv_full, rv_i 1 1, rv_i 200 200], [], []), [1], 8, [], []),
  (1, ([rv_full, rv_i 1 1, rv_i 200 200], [(1, 0, (-2147483648), 2147483647, [(.inl 0, 0)], [])], []), [2], 7, [], []),
  (2, ([rv_full, rv_i 1 1, rv_i 200 200], [(1, 0, 1, 1, [(.inl 1, 0)], []), (1, 0, (-2147483648), 2147483647, [(.inl 0, 0)], [])], []), [3, 8], 6, [], []),
  (3, ([rv_i 1 2147483647, rv_i 1 1, rv_i 200 200], [], []), [4], 5, [], []),
  (4, ([rv_i 1 2147483647, rv_i 1 1, rv_i 200 200], [(1, 0, 1, 2147483647, [(.inl 0, 0)], [])], []), [5], 4, [], []),
  (5, ([rv_i 1 2147483647, rv_i 1 1, rv_i 200 200], [(1, 0, 200, 200, [(.inl 2, 0)], []), (1, 0, 1, 2147483647, [(.inl 0, 0)], [])], []), [6, 8], 3, [], []),
  (6, ([rv_i 1 200, rv_i 1 1, rv_i 200 200], [], []), [7], 2, [], []),
  (7, ([rv_i 1 200, rv_i 1 1, rv_i 200 200], [rv_i 1 1], []), [10], 1, [], []),
  (8, ([rv_full, rv_i 1 1, rv_i 200 200], [], []), [9], 1, [], []),
  (9, ([rv_full, rv_i 1 1, rv_i 200 200], [rv_i 0 0], []), [], 0, [], []),
  (9, ([rv_i 1 200, rv_i 1 1, rv_i 200 200], [rv_i 1 1], []), [], 0, [], [])]
set_option maxRecDepth 100000 in
theorem a_X7_isWithin_6 : rv_all (fm_tm, flX7, fm_wr, kcX7, klX7, K_X7_isWithin_6.2.2.1, [0, 1, 2], 3) ct_X7_isWithin_6 cd_X7_isWithin n_X7_isWithin_6 K_X7_isWithin_6 [] 0 n_X7_isWithin_6 = true := by decide +kernel
theorem m_X7_isWithin_6 {l : Launch} {D : va_G} {ad : Nat → Nat} {cy : Nat → ClassId} {Z : State → Heap → Prop} {Gp : fm_V → Prop} (hAd : fm_Ad fm_tm ad) (hZ : fm_Zk (fm_A fm_tm ad) Z) (hGd : fm_Gd Gp) : rv_Met l D fm_cl fm_tm ad cy fm_nt Z Gp yX7_isWithin (.code yX7_isWithin prog_1_method_34_code 3 (some .boolean) :: fm_Ts) { frames := 0, cells := 0, slots := 0, locals := 0 } K_X7_isWithin_6 := rv_met hAd hZ (by decide +kernel) evX7 dc_X7_isWithin a_X7_isWithin_6 ⟨rfl, rfl, rfl⟩ (by decide +kernel) (by decide +kernel) (by decide) (fm_gm hGd (by decide +kernel)) (Or.inr ⟨rfl, by decide, by decide⟩) (fun p e s m args below meth c Q X Y => fun _ h => absurd h List.not_mem_nil) (fun _ _ _ _ _ _ _ _ _ _ _ _ _ _ _ _ h => absurd h List.not_mem_nil)
def cd_X1_clear : List (Nat × Instr × Nat) := [(0, .aload_n 0, 1), (1, .iconst 0, 1), (2, .putfield 18, 3), (5, .aload_n 0, 1), (6, .iconst 0, 1), (7, .putfield 34, 3), (10, .aload_n 0, 1), (11, .iconst 0, 1), (12, .putfield 37, 3), (15, .return_, 1)]
theorem dc_X1_clear : ∀ q ∈ cd_X1_clear, decode prog_3_method_3_code q.1 = .ok (q.2.1, q.2.2) := by decide +kernel
def K_X1_clear_0 : rv_K := ([rv_r 17], [], [(17, 2), (17, 7), (17, 8)], [], [], [])
def ct_X1_clear_0 : List (Nat × rv_K) := []
def n_X1_clear_0 : List rv_N := [
  (0, ([rv_r 17], [], []), [1], 9, [], []),
  (1, ([rv_r 17], [rv_r 17], []), [2], 8, [], []),
  (2, ([rv_r 17], [rv_i 0 0, rv_r 17], []), [3], 7, [], []),
  (3, ([rv_r 17], [], [((17, 2), 0, 0, [])]), [4], 6, [], []),
  (4, ([rv_r 17], [rv_r 17], [((17, 2), 0, 0, [])]), [5], 5, [], []),
  (5, ([rv_r 17], [rv_i 0 0, rv_r 17], [((17, 2), 0, 0, [])]), [6], 4, [], []),
  (6, ([rv_r 17], [], [((17, 2), 0, 0, []), ((17, 7), 0, 0, [])]), [7], 3, [], []),
  (7, ([rv_r 17], [rv_r 17], [((17, 2), 0, 0, []), ((17, 7), 0, 0, [])]), [8], 2, [], []),
  (8, ([rv_r 17], [rv_i 0 0, rv_r 17], [((17, 2), 0, 0, []), ((17, 7), 0, 0, [])]), [9], 1, [], []),
  (9, ([rv_r 17], [], [((17, 2), 0, 0, []), ((17, 7), 0, 0, []), ((17, 8), 0, 0, [])]), [], 0, [], [])]
set_option maxRecDepth 100000 in
theorem a_X1_clear_0 : rv_all (fm_tm, flX1, fm_wr, kcX1, klX1, K_X1_clear_0.2.2.1, [], 1) ct_X1_clear_0 cd_X1_clear n_X1_clear_0 K_X1_clear_0 [] 0 n_X1_clear_0 = true := by decide +kernel
theorem m_X1_clear_0 {l : Launch} {D : va_G} {ad : Nat → Nat} {cy : Nat → ClassId} {Z : State → Heap → Prop} {Gp : fm_V → Prop} (hAd : fm_Ad fm_tm ad) (hZ : fm_Zk (fm_A fm_tm ad) Z) (hGd : fm_Gd Gp) : rv_Met l D fm_cl fm_tm ad cy fm_nt Z Gp yX1_clear (.code yX1_clear prog_3_method_3_code 1 none :: fm_Ts) { frames := 0, cells := 0, slots := 0, locals := 0 } K_X1_clear_0 := rv_met hAd hZ (by decide +kernel) evX1 dc_X1_clear a_X1_clear_0 ⟨rfl, rfl, rfl⟩ (by decide +kernel) (by decide +kernel) (by decide) (fm_gm hGd (by decide +kernel)) (rfl) (fun p e s m args below meth c Q X Y => fun _ h => absurd h List.not_mem_nil) (fun _ _ _ _ _ _ _ _ _ _ _ _ _ _ _ _ h => absurd h List.not_mem_nil)
def cd_X3_next : List (Nat × Instr × Nat) := [(0, .aload_n 0, 1), (1, .getfield 22, 3), (4, .ifCond .lt 39, 3), (7, .aload_n 0, 1), (8, .getfield 22, 3), (11, .aload_n 0, 1), (12, .getfield 18, 3), (15, .if_icmp .ge 28, 3), (18, .aload_n 0, 1), (19, .getfield 22, 3), (22, .sipush 220, 3), (25, .if_icmp .ge 18, 3), (28, .aload_n 0, 1), (29, .getfield 28, 3), (32, .getfield 50, 3), (35, .aload_n 0, 1), (36, .getfield 22, 3), (39, .iaload, 1), (40, .goto 4, 3), (43, .iconst (-1), 1), (44, .ireturn, 1)]
theorem dc_X3_next : ∀ q ∈ cd_X3_next, decode prog_5_method_3_code q.1 = .ok (q.2.1, q.2.2) := by decide +kernel
def K_X3_next_0 : rv_K := ([rv_r 16], [], [], [(0, (-1), 255)], [], [])
def ct_X3_next_0 : List (Nat × rv_K) := []
def n_X3_next_0 : List rv_N := [
  (0, ([rv_r 16], [], []), [1], 19, [], []),
  (1, ([rv_r 16], [rv_r 16], []), [2], 18, [], []),
  (2, ([rv_r 16], [(1, 0, (-2147483648), 2147483647, [(.inr (16, 3), 0)], [])], []), [3, 19], 17, [], []),
  (3, ([rv_r 16], [], [((16, 3), 0, 2147483647, [])]), [4], 16, [], []),
  (4, ([rv_r 16], [rv_r 16], [((16, 3), 0, 2147483647, [])]), [5], 15, [], []),
  (5, ([rv_r 16], [(1, 0, 0, 2147483647, [(.inr (16, 3), 0)], [])], [((16, 3), 0, 2147483647, [])]), [6], 14, [], []),
  (6, ([rv_r 16], [rv_r 16, (1, 0, 0, 2147483647, [(.inr (16, 3), 0)], [])], [((16, 3), 0, 2147483647, [])]), [7], 13, [], []),
  (7, ([rv_r 16], [(1, 0, (-2147483648), 2147483647, [(.inr (16, 2), 0)], []), (1, 0, 0, 2147483647, [(.inr (16, 3), 0)], [])], [((16, 3), 0, 2147483647, [])]), [8, 19], 12, [], []),
  (8, ([rv_r 16], [], [((16, 2), 1, 2147483647, []), ((16, 3), 0, 2147483646, [])]), [9], 11, [], []),
  (9, ([rv_r 16], [rv_r 16], [((16, 2), 1, 2147483647, []), ((16, 3), 0, 2147483646, [])]), [10], 10, [], []),
  (10, ([rv_r 16], [(1, 0, 0, 2147483646, [(.inr (16, 3), 0)], [])], [((16, 2), 1, 2147483647, []), ((16, 3), 0, 2147483646, [])]), [11], 9, [], []),
  (11, ([rv_r 16], [rv_i 220 220, (1, 0, 0, 2147483646, [(.inr (16, 3), 0)], [])], [((16, 2), 1, 2147483647, []), ((16, 3), 0, 2147483646, [])]), [12, 19], 8, [], []),
  (12, ([rv_r 16], [], [((16, 2), 1, 2147483647, []), ((16, 3), 0, 219, [])]), [13], 7, [], []),
  (13, ([rv_r 16], [rv_r 16], [((16, 2), 1, 2147483647, []), ((16, 3), 0, 219, [])]), [14], 6, [], []),
  (14, ([rv_r 16], [rv_r 3], [((16, 2), 1, 2147483647, []), ((16, 3), 0, 219, [])]), [15], 5, [], []),
  (15, ([rv_r 16], [rv_r 4], [((16, 2), 1, 2147483647, []), ((16, 3), 0, 219, [])]), [16], 4, [], []),
  (16, ([rv_r 16], [rv_r 16, rv_r 4], [((16, 2), 1, 2147483647, []), ((16, 3), 0, 219, [])]), [17], 3, [], []),
  (17, ([rv_r 16], [(1, 0, 0, 219, [(.inr (16, 3), 0)], []), rv_r 4], [((16, 2), 1, 2147483647, []), ((16, 3), 0, 219, [])]), [18], 2, [], []),
  (18, ([rv_r 16], [rv_i 0 255], [((16, 2), 1, 2147483647, []), ((16, 3), 0, 219, [])]), [21], 1, [], []),
  (19, ([rv_r 16], [], []), [20], 1, [], []),
  (20, ([rv_r 16], [rv_i (-1) (-1)], []), [], 0, [], []),
  (20, ([rv_r 16], [rv_i 0 255], [((16, 2), 1, 2147483647, []), ((16, 3), 0, 219, [])]), [], 0, [], [])]
set_option maxRecDepth 100000 in
theorem a_X3_next_0 : rv_all (fm_tm, flX3, fm_wr, kcX3, klX3, K_X3_next_0.2.2.1, [], 1) ct_X3_next_0 cd_X3_next n_X3_next_0 K_X3_next_0 [] 0 n_X3_next_0 = true := by decide +kernel
theorem m_X3_next_0 {l : Launch} {D : va_G} {ad : Nat → Nat} {cy : Nat → ClassId} {Z : State → Heap → Prop} {Gp : fm_V → Prop} (hAd : fm_Ad fm_tm ad) (hZ : fm_Zk (fm_A fm_tm ad) Z) (hGd : fm_Gd Gp) : rv_Met l D fm_cl fm_tm ad cy fm_nt Z Gp yX3_next (.code yX3_next prog_5_method_3_code 1 (some .int) :: fm_Ts) { frames := 0, cells := 0, slots := 0, locals := 0 } K_X3_next_0 := rv_met hAd hZ (by decide +kernel) evX3 dc_X3_next a_X3_next_0 ⟨rfl, rfl, rfl⟩ (by decide +kernel) (by decide +kernel) (by decide) (fm_gm hGd (by decide +kernel)) (Or.inl rfl) (fun p e s m args below meth c Q X Y => fun _ h => absurd h List.not_mem_nil) (fun _ _ _ _ _ _ _ _ _ _ _ _ _ _ _ _ h => absurd h List.not_mem_nil)
def cd_X3_fail : List (Nat × Instr × Nat) := [(0, .aload_n 0, 1), (1, .sipush (-1000), 3), (4, .iload_n 1, 1), (5, .imul, 1), (6, .aload_n 0, 1), (7, .getfield 22, 3), (10, .isub, 1), (11, .putfield 25, 3), (14, .iconst 0, 1), (15, .ireturn, 1)]
theorem dc_X3_fail : ∀ q ∈ cd_X3_fail, decode prog_5_method_4_code q.1 = .ok (q.2.1, q.2.2) := by decide +kernel
def K_X3_fail_0 : rv_K := ([rv_r 16, rv_full], [], [(16, 4)], [(0, 0, 0)], [], [])
def ct_X3_fail_0 : List (Nat × rv_K) := []
def n_X3_fail_0 : List rv_N := [
  (0, ([rv_r 16, rv_full], [], []), [1], 9, [], []),
  (1, ([rv_r 16, rv_full], [rv_r 16], []), [2], 8, [], []),
  (2, ([rv_r 16, rv_full], [rv_i (-1000) (-1000), rv_r 16], []), [3], 7, [], []),
  (3, ([rv_r 16, rv_full], [(1, 0, (-2147483648), 2147483647, [(.inl 1, 0)], []), rv_i (-1000) (-1000), rv_r 16], []), [4], 6, [], []),
  (4, ([rv_r 16, rv_full], [rv_full, rv_r 16], []), [5], 5, [], []),
  (5, ([rv_r 16, rv_full], [rv_r 16, rv_full, rv_r 16], []), [6], 4, [], []),
  (6, ([rv_r 16, rv_full], [(1, 0, (-2147483648), 2147483647, [(.inr (16, 3), 0)], []), rv_full, rv_r 16], []), [7], 3, [], []),
  (7, ([rv_r 16, rv_full], [rv_full, rv_r 16], []), [8], 2, [], []),
  (8, ([rv_r 16, rv_full], [], []), [9], 1, [], []),
  (9, ([rv_r 16, rv_full], [rv_i 0 0], []), [], 0, [], [])]
set_option maxRecDepth 100000 in
theorem a_X3_fail_0 : rv_all (fm_tm, flX3, fm_wr, kcX3, klX3, K_X3_fail_0.2.2.1, [], 2) ct_X3_fail_0 cd_X3_fail n_X3_fail_0 K_X3_fail_0 [] 0 n_X3_fail_0 = true := by decide +kernel
theorem m_X3_fail_0 {l : Launch} {D : va_G} {ad : Nat → Nat} {cy : Nat → ClassId} {Z : State → Heap → Prop} {Gp : fm_V → Prop} (hAd : fm_Ad fm_tm ad) (hZ : fm_Zk (fm_A fm_tm ad) Z) (hGd : fm_Gd Gp) : rv_Met l D fm_cl fm_tm ad cy fm_nt Z Gp yX3_fail (.code yX3_fail prog_5_method_4_code 2 (some .boolean) :: fm_Ts) { frames := 0, cells := 0, slots := 0, locals := 0 } K_X3_fail_0 := rv_met hAd hZ (by decide +kernel) evX3 dc_X3_fail a_X3_fail_0 ⟨rfl, rfl, rfl⟩ (by decide +kernel) (by decide +kernel) (by decide) (fm_gm hGd (by decide +kernel)) (Or.inr ⟨rfl, by decide, by decide⟩) (fun p e s m args below meth c Q X Y => fun _ h => absurd h List.not_mem_nil) (fun _ _ _ _ _ _ _ _ _ _ _ _ _ _ _ _ h => absurd h List.not_mem_nil)
def cd_X3_open : List (Nat × Instr × Nat) := [(0, .aload_n 0, 1), (1, .invokevirtual 39, 3), (4, .iload_n 1, 1), (5, .if_icmp .eq 9, 3), (8, .aload_n 0, 1), (9, .iconst 1, 1), (10, .invokevirtual 43, 3), (13, .ireturn, 1), (14, .iload_n 2, 1), (15, .bipush 6, 2), (17, .if_icmp .lt 9, 3), (20, .aload_n 0, 1), (21, .iconst 5, 1), (22, .invokevirtual 43, 3), (25, .ireturn, 1), (26, .aload_n 0, 1), (27, .dup, 1), (28, .getfield 22, 3), (31, .iconst 1, 1), (32, .iadd, 1), (33, .putfield 22, 3), (36, .iconst 1, 1), (37, .ireturn, 1)]
theorem dc_X3_open : ∀ q ∈ cd_X3_open, decode prog_5_method_6_code q.1 = .ok (q.2.1, q.2.2) := by decide +kernel
def K_X3_open_0 : rv_K := ([rv_r 16, rv_full, rv_full], [], [(16, 3), (16, 4)], [(0, 0, 1)], [(.inl 1, (-1), 255), (.inl 2, (-2147483648), 5)], [])
def ct_X3_open_0 : List (Nat × rv_K) := [(1, K_X3_next_0), (6, K_X3_fail_0), (13, K_X3_fail_0)]
def n_X3_open_0 : List rv_N := [
  (0, ([rv_r 16, rv_full, rv_full], [], []), [1], 14, [], []),
  (1, ([rv_r 16, rv_full, rv_full], [rv_r 16], []), [2], 13, [], [0]),
  (2, ([rv_r 16, rv_full, rv_full], [rv_i (-1) 255], []), [3], 12, [], []),
  (3, ([rv_r 16, rv_full, rv_full], [(1, 0, (-2147483648), 2147483647, [(.inl 1, 0)], []), rv_i (-1) 255], []), [4, 8], 11, [], []),
  (4, ([rv_r 16, rv_full, rv_full], [], []), [5], 3, [], []),
  (5, ([rv_r 16, rv_full, rv_full], [rv_r 16], []), [6], 2, [], []),
  (6, ([rv_r 16, rv_full, rv_full], [rv_i 1 1, rv_r 16], []), [7], 1, [], [1]),
  (7, ([rv_r 16, rv_full, rv_full], [rv_i 0 0], []), [], 0, [], []),
  (8, ([rv_r 16, rv_i (-1) 255, rv_full], [], []), [9], 10, [], []),
  (9, ([rv_r 16, rv_i (-1) 255, rv_full], [(1, 0, (-2147483648), 2147483647, [(.inl 2, 0)], [])], []), [10], 9, [], []),
  (10, ([rv_r 16, rv_i (-1) 255, rv_full], [rv_i 6 6, (1, 0, (-2147483648), 2147483647, [(.inl 2, 0)], [])], []), [11, 15], 8, [], []),
  (11, ([rv_r 16, rv_i (-1) 255, rv_i 6 2147483647], [], []), [12], 3, [], []),
  (12, ([rv_r 16, rv_i (-1) 255, rv_i 6 2147483647], [rv_r 16], []), [13], 2, [], []),
  (13, ([rv_r 16, rv_i (-1) 255, rv_i 6 2147483647], [rv_i 5 5, rv_r 16], []), [14], 1, [], [2]),
  (14, ([rv_r 16, rv_i (-1) 255, rv_i 6 2147483647], [rv_i 0 0], []), [], 0, [], []),
  (15, ([rv_r 16, rv_i (-1) 255, rv_i (-2147483648) 5], [], []), [16], 7, [], []),
  (16, ([rv_r 16, rv_i (-1) 255, rv_i (-2147483648) 5], [rv_r 16], []), [17], 6, [], []),
  (17, ([rv_r 16, rv_i (-1) 255, rv_i (-2147483648) 5], [rv_r 16, rv_r 16], []), [18], 5, [], []),
  (18, ([rv_r 16, rv_i (-1) 255, rv_i (-2147483648) 5], [(1, 0, (-2147483648), 2147483647, [(.inr (16, 3), 0)], []), rv_r 16], []), [19], 4, [], []),
  (19, ([rv_r 16, rv_i (-1) 255, rv_i (-2147483648) 5], [rv_i 1 1, (1, 0, (-2147483648), 2147483647, [(.inr (16, 3), 0)], []), rv_r 16], []), [20], 3, [], []),
  (20, ([rv_r 16, rv_i (-1) 255, rv_i (-2147483648) 5], [(1, 0, (-2147483648), 2147483647, [(.inr (16, 3), 1)], []), rv_r 16], []), [21], 2, [], []),
  (21, ([rv_r 16, rv_i (-1) 255, rv_i (-2147483648) 5], [], []), [22], 1, [], []),
  (22, ([rv_r 16, rv_i (-1) 255, rv_i (-2147483648) 5], [rv_i 1 1], []), [], 0, [], [])]
set_option maxRecDepth 100000 in
theorem a_X3_open_0 : rv_all (fm_tm, flX3, fm_wr, kcX3, klX3, K_X3_open_0.2.2.1, [1, 2], 3) ct_X3_open_0 cd_X3_open n_X3_open_0 K_X3_open_0 [] 0 n_X3_open_0 = true := by decide +kernel
theorem m_X3_open_0 {l : Launch} {D : va_G} {ad : Nat → Nat} {cy : Nat → ClassId} {Z : State → Heap → Prop} {Gp : fm_V → Prop} (hAd : fm_Ad fm_tm ad) (hZ : fm_Zk (fm_A fm_tm ad) Z) (hGd : fm_Gd Gp) : rv_Met l D fm_cl fm_tm ad cy fm_nt Z Gp yX3_open (.code yX3_open prog_5_method_6_code 3 (some .boolean) :: fm_Ts) { frames := 1, cells := 0, slots := 0, locals := 100 } K_X3_open_0 := rv_met hAd hZ (by decide +kernel) evX3 dc_X3_open a_X3_open_0 ⟨rfl, rfl, rfl⟩ (by decide +kernel) (by decide +kernel) (by decide) (fm_gm hGd (by decide +kernel)) (Or.inr ⟨rfl, by decide, by decide⟩) (fun p e s m args below meth c Q X Y => List.forall_mem_cons.mpr ⟨rv_ctV X Y fm_Ts_good dc_X3_open (pc := 1) (i := 1) (idx := 39) rfl (m_X3_next_0 hAd hZ hGd) wl_X3_39 wm_X3_next wy_X3_next (by decide) ⟨rfl, rfl, rfl⟩ ⟨rfl, rfl⟩, List.forall_mem_cons.mpr ⟨rv_ctV X Y fm_Ts_good dc_X3_open (pc := 10) (i := 6) (idx := 43) rfl (m_X3_fail_0 hAd hZ hGd) wl_X3_43 wm_X3_fail wy_X3_fail (by decide) ⟨rfl, rfl, rfl⟩ ⟨rfl, rfl⟩, List.forall_mem_cons.mpr ⟨rv_ctV X Y fm_Ts_good dc_X3_open (pc := 22) (i := 13) (idx := 43) rfl (m_X3_fail_0 hAd hZ hGd) wl_X3_43 wm_X3_fail wy_X3_fail (by decide) ⟨rfl, rfl, rfl⟩ ⟨rfl, rfl⟩, fun _ h => absurd h List.not_mem_nil⟩⟩⟩) (fun _ _ _ _ _ _ _ _ _ _ _ _ _ _ _ _ h => absurd h List.not_mem_nil)
def cd_X3_isDigit : List (Nat × Instr × Nat) := [(0, .iload_n 0, 1), (1, .bipush 48, 2), (3, .if_icmp .lt 13, 3), (6, .iload_n 0, 1), (7, .bipush 57, 2), (9, .if_icmp .gt 7, 3), (12, .iconst 1, 1), (13, .goto 4, 3), (16, .iconst 0, 1), (17, .ireturn, 1)]
theorem dc_X3_isDigit : ∀ q ∈ cd_X3_isDigit, decode prog_5_method_16_code q.1 = .ok (q.2.1, q.2.2) := by decide +kernel
def K_X3_isDigit_0 : rv_K := ([rv_full], [], [], [(0, 0, 1)], [(.inl 0, 48, 57)], [])
def ct_X3_isDigit_0 : List (Nat × rv_K) := []
def n_X3_isDigit_0 : List rv_N := [
  (0, ([rv_full], [], []), [1], 8, [], []),
  (1, ([rv_full], [(1, 0, (-2147483648), 2147483647, [(.inl 0, 0)], [])], []), [2], 7, [], []),
  (2, ([rv_full], [rv_i 48 48, (1, 0, (-2147483648), 2147483647, [(.inl 0, 0)], [])], []), [3, 8], 6, [], []),
  (3, ([rv_i 48 2147483647], [], []), [4], 5, [], []),
  (4, ([rv_i 48 2147483647], [(1, 0, 48, 2147483647, [(.inl 0, 0)], [])], []), [5], 4, [], []),
  (5, ([rv_i 48 2147483647], [rv_i 57 57, (1, 0, 48, 2147483647, [(.inl 0, 0)], [])], []), [6, 8], 3, [], []),
  (6, ([rv_i 48 57], [], []), [7], 2, [], []),
  (7, ([rv_i 48 57], [rv_i 1 1], []), [10], 1, [], []),
  (8, ([rv_full], [], []), [9], 1, [], []),
  (9, ([rv_full], [rv_i 0 0], []), [], 0, [], []),
  (9, ([rv_i 48 57], [rv_i 1 1], []), [], 0, [], [])]
set_option maxRecDepth 100000 in
theorem a_X3_isDigit_0 : rv_all (fm_tm, flX3, fm_wr, kcX3, klX3, K_X3_isDigit_0.2.2.1, [0], 1) ct_X3_isDigit_0 cd_X3_isDigit n_X3_isDigit_0 K_X3_isDigit_0 [] 0 n_X3_isDigit_0 = true := by decide +kernel
theorem m_X3_isDigit_0 {l : Launch} {D : va_G} {ad : Nat → Nat} {cy : Nat → ClassId} {Z : State → Heap → Prop} {Gp : fm_V → Prop} (hAd : fm_Ad fm_tm ad) (hZ : fm_Zk (fm_A fm_tm ad) Z) (hGd : fm_Gd Gp) : rv_Met l D fm_cl fm_tm ad cy fm_nt Z Gp yX3_isDigit (.code yX3_isDigit prog_5_method_16_code 1 (some .boolean) :: fm_Ts) { frames := 0, cells := 0, slots := 0, locals := 0 } K_X3_isDigit_0 := rv_met hAd hZ (by decide +kernel) evX3 dc_X3_isDigit a_X3_isDigit_0 ⟨rfl, rfl, rfl⟩ (by decide +kernel) (by decide +kernel) (by decide) (fm_gm hGd (by decide +kernel)) (Or.inr ⟨rfl, by decide, by decide⟩) (fun p e s m args below meth c Q X Y => fun _ h => absurd h List.not_mem_nil) (fun _ _ _ _ _ _ _ _ _ _ _ _ _ _ _ _ h => absurd h List.not_mem_nil)
def cd_X1_putStep : List (Nat × Instr × Nat) := [(0, .aload_n 0, 1), (1, .getfield 18, 3), (4, .ifCond .lt 13, 3), (7, .aload_n 0, 1), (8, .getfield 18, 3), (11, .sipush 200, 3), (14, .if_icmp .lt 5, 3), (17, .iconst (-1), 1), (18, .ireturn, 1), (19, .aload_n 0, 1), (20, .getfield 9, 3), (23, .aload_n 0, 1), (24, .getfield 18, 3), (27, .iload_n 1, 1), (28, .iastore, 1), (29, .aload_n 0, 1), (30, .getfield 15, 3), (33, .aload_n 0, 1), (34, .getfield 18, 3), (37, .iload_n 2, 1), (38, .iastore, 1), (39, .aload_n 0, 1), (40, .dup, 1), (41, .getfield 18, 3), (44, .iconst 1, 1), (45, .iadd, 1), (46, .putfield 18, 3), (49, .aload_n 0, 1), (50, .getfield 18, 3), (53, .iconst 1, 1), (54, .isub, 1), (55, .ireturn, 1)]
theorem dc_X1_putStep : ∀ q ∈ cd_X1_putStep, decode prog_3_method_4_code q.1 = .ok (q.2.1, q.2.2) := by decide +kernel
def K_X1_putStep_0 : rv_K := ([rv_r 17, rv_full, rv_i (-10000000) 10000000], [], [(17, 2), (18, 9999), (19, 9999)], [(0, (-1), 199)], [], [])
def ct_X1_putStep_0 : List (Nat × rv_K) := []
def n_X1_putStep_0 : List rv_N := [
  (0, ([rv_r 17, rv_full, rv_i (-10000000) 10000000], [], []), [1], 29, [], []),
  (1, ([rv_r 17, rv_full, rv_i (-10000000) 10000000], [rv_r 17], []), [2], 28, [], []),
  (2, ([rv_r 17, rv_full, rv_i (-10000000) 10000000], [(1, 0, 0, 200, [(.inr (17, 2), 0)], [])], []), [3], 27, [], []),
  (3, ([rv_r 17, rv_full, rv_i (-10000000) 10000000], [], []), [4], 26, [], []),
  (4, ([rv_r 17, rv_full, rv_i (-10000000) 10000000], [rv_r 17], []), [5], 25, [], []),
  (5, ([rv_r 17, rv_full, rv_i (-10000000) 10000000], [(1, 0, 0, 200, [(.inr (17, 2), 0)], [])], []), [6], 24, [], []),
  (6, ([rv_r 17, rv_full, rv_i (-10000000) 10000000], [rv_i 200 200, (1, 0, 0, 200, [(.inr (17, 2), 0)], [])], []), [7, 9], 23, [], []),
  (7, ([rv_r 17, rv_full, rv_i (-10000000) 10000000], [], [((17, 2), 200, 200, [])]), [8], 1, [], []),
  (8, ([rv_r 17, rv_full, rv_i (-10000000) 10000000], [rv_i (-1) (-1)], [((17, 2), 200, 200, [])]), [], 0, [], []),
  (9, ([rv_r 17, rv_full, rv_i (-10000000) 10000000], [], [((17, 2), 0, 199, [])]), [10], 22, [], []),
  (10, ([rv_r 17, rv_full, rv_i (-10000000) 10000000], [rv_r 17], [((17, 2), 0, 199, [])]), [11], 21, [], []),
  (11, ([rv_r 17, rv_full, rv_i (-10000000) 10000000], [rv_r 18], [((17, 2), 0, 199, [])]), [12], 20, [], []),
  (12, ([rv_r 17, rv_full, rv_i (-10000000) 10000000], [rv_r 17, rv_r 18], [((17, 2), 0, 199, [])]), [13], 19, [], []),
  (13, ([rv_r 17, rv_full, rv_i (-10000000) 10000000], [(1, 0, 0, 199, [(.inr (17, 2), 0)], []), rv_r 18], [((17, 2), 0, 199, [])]), [14], 18, [], []),
  (14, ([rv_r 17, rv_full, rv_i (-10000000) 10000000], [(1, 0, (-2147483648), 2147483647, [(.inl 1, 0)], []), (1, 0, 0, 199, [(.inr (17, 2), 0)], []), rv_r 18], [((17, 2), 0, 199, [])]), [15], 17, [], []),
  (15, ([rv_r 17, rv_full, rv_i (-10000000) 10000000], [], [((17, 2), 0, 199, [])]), [16], 16, [], []),
  (16, ([rv_r 17, rv_full, rv_i (-10000000) 10000000], [rv_r 17], [((17, 2), 0, 199, [])]), [17], 15, [], []),
  (17, ([rv_r 17, rv_full, rv_i (-10000000) 10000000], [rv_r 19], [((17, 2), 0, 199, [])]), [18], 14, [], []),
  (18, ([rv_r 17, rv_full, rv_i (-10000000) 10000000], [rv_r 17, rv_r 19], [((17, 2), 0, 199, [])]), [19], 13, [], []),
  (19, ([rv_r 17, rv_full, rv_i (-10000000) 10000000], [(1, 0, 0, 199, [(.inr (17, 2), 0)], []), rv_r 19], [((17, 2), 0, 199, [])]), [20], 12, [], []),
  (20, ([rv_r 17, rv_full, rv_i (-10000000) 10000000], [(1, 0, (-10000000), 10000000, [(.inl 2, 0)], []), (1, 0, 0, 199, [(.inr (17, 2), 0)], []), rv_r 19], [((17, 2), 0, 199, [])]), [21], 11, [], []),
  (21, ([rv_r 17, rv_full, rv_i (-10000000) 10000000], [], [((17, 2), 0, 199, [])]), [22], 10, [], []),
  (22, ([rv_r 17, rv_full, rv_i (-10000000) 10000000], [rv_r 17], [((17, 2), 0, 199, [])]), [23], 9, [], []),
  (23, ([rv_r 17, rv_full, rv_i (-10000000) 10000000], [rv_r 17, rv_r 17], [((17, 2), 0, 199, [])]), [24], 8, [], []),
  (24, ([rv_r 17, rv_full, rv_i (-10000000) 10000000], [(1, 0, 0, 199, [(.inr (17, 2), 0)], []), rv_r 17], [((17, 2), 0, 199, [])]), [25], 7, [], []),
  (25, ([rv_r 17, rv_full, rv_i (-10000000) 10000000], [rv_i 1 1, (1, 0, 0, 199, [(.inr (17, 2), 0)], []), rv_r 17], [((17, 2), 0, 199, [])]), [26], 6, [], []),
  (26, ([rv_r 17, rv_full, rv_i (-10000000) 10000000], [(1, 0, 1, 200, [(.inr (17, 2), 1)], []), rv_r 17], [((17, 2), 0, 199, [])]), [27], 5, [], []),
  (27, ([rv_r 17, rv_full, rv_i (-10000000) 10000000], [], [((17, 2), 1, 200, [])]), [28], 4, [], []),
  (28, ([rv_r 17, rv_full, rv_i (-10000000) 10000000], [rv_r 17], [((17, 2), 1, 200, [])]), [29], 3, [], []),
  (29, ([rv_r 17, rv_full, rv_i (-10000000) 10000000], [(1, 0, 1, 200, [(.inr (17, 2), 0)], [])], [((17, 2), 1, 200, [])]), [30], 2, [], []),
  (30, ([rv_r 17, rv_full, rv_i (-10000000) 10000000], [rv_i 1 1, (1, 0, 1, 200, [(.inr (17, 2), 0)], [])], [((17, 2), 1, 200, [])]), [31], 1, [], []),
  (31, ([rv_r 17, rv_full, rv_i (-10000000) 10000000], [(1, 0, 0, 199, [(.inr (17, 2), (-1))], [])], [((17, 2), 1, 200, [])]), [], 0, [], [])]
set_option maxRecDepth 100000 in
theorem a_X1_putStep_0 : rv_all (fm_tm, flX1, fm_wr, kcX1, klX1, K_X1_putStep_0.2.2.1, [], 3) ct_X1_putStep_0 cd_X1_putStep n_X1_putStep_0 K_X1_putStep_0 [] 0 n_X1_putStep_0 = true := by decide +kernel
theorem m_X1_putStep_0 {l : Launch} {D : va_G} {ad : Nat → Nat} {cy : Nat → ClassId} {Z : State → Heap → Prop} {Gp : fm_V → Prop} (hAd : fm_Ad fm_tm ad) (hZ : fm_Zk (fm_A fm_tm ad) Z) (hGd : fm_Gd Gp) : rv_Met l D fm_cl fm_tm ad cy fm_nt Z Gp yX1_putStep (.code yX1_putStep prog_3_method_4_code 3 (some .int) :: fm_Ts) { frames := 0, cells := 0, slots := 0, locals := 0 } K_X1_putStep_0 := rv_met hAd hZ (by decide +kernel) evX1 dc_X1_putStep a_X1_putStep_0 ⟨rfl, rfl, rfl⟩ (by decide +kernel) (by decide +kernel) (by decide) (fm_gm hGd (by decide +kernel)) (Or.inl rfl) (fun p e s m args below meth c Q X Y => fun _ h => absurd h List.not_mem_nil) (fun _ _ _ _ _ _ _ _ _ _ _ _ _ _ _ _ h => absurd h List.not_mem_nil)
def cd_X3_readNumber : List (Nat × Instr × Nat) := [(0, .iconst 0, 1), (1, .istore_n 1, 1), (2, .iconst 0, 1), (3, .istore_n 2, 1), (4, .iload_n 2, 1), (5, .iconst 5, 1), (6, .if_icmp .ge 42, 3), (9, .aload_n 0, 1), (10, .invokevirtual 39, 3), (13, .invokestatic 125, 3), (16, .ifCond .eq 32, 3), (19, .bipush 10, 2), (21, .iload_n 1, 1), (22, .imul, 1), (23, .aload_n 0, 1), (24, .invokevirtual 39, 3), (27, .iadd, 1), (28, .bipush 48, 2), (30, .isub, 1), (31, .istore_n 1, 1), (32, .aload_n 0, 1), (33, .dup, 1), (34, .getfield 22, 3), (37, .iconst 1, 1), (38, .iadd, 1), (39, .putfield 22, 3), (42, .iinc 2 1, 3), (45, .goto (-41), 3), (48, .aload_n 0, 1), (49, .invokevirtual 39, 3), (52, .invokestatic 125, 3), (55, .ifCond .eq 9, 3), (58, .aload_n 0, 1), (59, .iconst 2, 1), (60, .invokevirtual 43, 3), (63, .ireturn, 1), (64, .aload_n 0, 1), (65, .getfield 12, 3), (68, .iconst 0, 1), (69, .iload_n 1, 1), (70, .invokevirtual 108, 3), (73, .pop, 1), (74, .iconst 1, 1), (75, .ireturn, 1)]
theorem dc_X3_readNumber : ∀ q ∈ cd_X3_readNumber, decode prog_5_method_15_code q.1 = .ok (q.2.1, q.2.2) := by decide +kernel
def K_X3_readNumber_0 : rv_K := ([rv_r 16], [], [(16, 3), (16, 4), (17, 2), (18, 9999), (19, 9999)], [(0, 0, 1)], [], [])
def ct_X3_readNumber_0 : List (Nat × rv_K) := [(8, K_X3_next_0), (9, K_X3_isDigit_0), (15, K_X3_next_0), (29, K_X3_next_0), (30, K_X3_isDigit_0), (34, K_X3_fail_0), (40, K_X1_putStep_0)]
def n_X3_readNumber_0 : List rv_N := [
  (0, ([rv_r 16, rv_u, rv_u], [], []), [1], 138, [], []),
  (1, ([rv_r 16, rv_u, rv_u], [rv_i 0 0], []), [2], 137, [], []),
  (2, ([rv_r 16, rv_i 0 0, rv_u], [], []), [3], 136, [], []),
  (3, ([rv_r 16, rv_i 0 0, rv_u], [rv_i 0 0], []), [4], 135, [], []),
  (4, ([rv_r 16, rv_i 0 0, rv_i 0 0], [], []), [10], 134, [], []),
  (4, ([rv_r 16, rv_i (-49) 207, rv_i 1 1], [], []), [11], 110, [], []),
  (4, ([rv_r 16, rv_i (-539) 2277, rv_i 2 2], [], []), [12], 86, [], []),
  (4, ([rv_r 16, rv_i (-5439) 22977, rv_i 3 3], [], []), [13], 62, [], []),
  (4, ([rv_r 16, rv_i (-54439) 229977, rv_i 4 4], [], []), [14], 38, [], []),
  (4, ([rv_r 16, rv_i (-544439) 2299977, rv_i 5 5], [], []), [15], 14, [], []),
  (5, ([rv_r 16, rv_i 0 0, rv_i 0 0], [(1, 0, 0, 0, [(.inl 2, 0)], [])], []), [16], 133, [], []),
  (5, ([rv_r 16, rv_i (-49) 207, rv_i 1 1], [(1, 0, 1, 1, [(.inl 2, 0)], [])], []), [17], 109, [], []),
  (5, ([rv_r 16, rv_i (-539) 2277, rv_i 2 2], [(1, 0, 2, 2, [(.inl 2, 0)], [])], []), [18], 85, [], []),
  (5, ([rv_r 16, rv_i (-5439) 22977, rv_i 3 3], [(1, 0, 3, 3, [(.inl 2, 0)], [])], []), [19], 61, [], []),
  (5, ([rv_r 16, rv_i (-54439) 229977, rv_i 4 4], [(1, 0, 4, 4, [(.inl 2, 0)], [])], []), [20], 37, [], []),
  (5, ([rv_r 16, rv_i (-544439) 2299977, rv_i 5 5], [(1, 0, 5, 5, [(.inl 2, 0)], [])], []), [21], 13, [], []),
  (6, ([rv_r 16, rv_i 0 0, rv_i 0 0], [rv_i 5 5, (1, 0, 0, 0, [(.inl 2, 0)], [])], []), [22], 132, [], []),
  (6, ([rv_r 16, rv_i (-49) 207, rv_i 1 1], [rv_i 5 5, (1, 0, 1, 1, [(.inl 2, 0)], [])], []), [23], 108, [], []),
  (6, ([rv_r 16, rv_i (-539) 2277, rv_i 2 2], [rv_i 5 5, (1, 0, 2, 2, [(.inl 2, 0)], [])], []), [24], 84, [], []),
  (6, ([rv_r 16, rv_i (-5439) 22977, rv_i 3 3], [rv_i 5 5, (1, 0, 3, 3, [(.inl 2, 0)], [])], []), [25], 60, [], []),
  (6, ([rv_r 16, rv_i (-54439) 229977, rv_i 4 4], [rv_i 5 5, (1, 0, 4, 4, [(.inl 2, 0)], [])], []), [26], 36, [], []),
  (6, ([rv_r 16, rv_i (-544439) 2299977, rv_i 5 5], [rv_i 5 5, (1, 0, 5, 5, [(.inl 2, 0)], [])], []), [132], 12, [], []),
  (7, ([rv_r 16, rv_i 0 0, rv_i 0 0], [], []), [27], 131, [], []),
  (7, ([rv_r 16, rv_i (-49) 207, rv_i 1 1], [], []), [28], 107, [], []),
  (7, ([rv_r 16, rv_i (-539) 2277, rv_i 2 2], [], []), [29], 83, [], []),
  (7, ([rv_r 16, rv_i (-5439) 22977, rv_i 3 3], [], []), [30], 59, [], []),
  (7, ([rv_r 16, rv_i (-54439) 229977, rv_i 4 4], [], []), [31], 35, [], []),
  (8, ([rv_r 16, rv_i 0 0, rv_i 0 0], [rv_r 16], []), [32], 130, [], [0]),
  (8, ([rv_r 16, rv_i (-49) 207, rv_i 1 1], [rv_r 16], []), [33], 106, [], [0]),
  (8, ([rv_r 16, rv_i (-539) 2277, rv_i 2 2], [rv_r 16], []), [34], 82, [], [0]),
  (8, ([rv_r 16, rv_i (-5439) 22977, rv_i 3 3], [rv_r 16], []), [35], 58, [], [0]),
  (8, ([rv_r 16, rv_i (-54439) 229977, rv_i 4 4], [rv_r 16], []), [36], 34, [], [0]),
  (9, ([rv_r 16, rv_i 0 0, rv_i 0 0], [rv_i (-1) 255], []), [37], 129, [], [1]),
  (9, ([rv_r 16, rv_i (-49) 207, rv_i 1 1], [rv_i (-1) 255], []), [38], 105, [], [1]),
  (9, ([rv_r 16, rv_i (-539) 2277, rv_i 2 2], [rv_i (-1) 255], []), [39], 81, [], [1]),
  (9, ([rv_r 16, rv_i (-5439) 22977, rv_i 3 3], [rv_i (-1) 255], []), [40], 57, [], [1]),
  (9, ([rv_r 16, rv_i (-54439) 229977, rv_i 4 4], [rv_i (-1) 255], []), [41], 33, [], [1]),
  (10, ([rv_r 16, rv_i 0 0, rv_i 0 0], [rv_i 0 1], []), [42, 127], 128, [], []),
  (10, ([rv_r 16, rv_i (-49) 207, rv_i 1 1], [rv_i 0 1], []), [43, 128], 104, [], []),
  (10, ([rv_r 16, rv_i (-539) 2277, rv_i 2 2], [rv_i 0 1], []), [44, 129], 80, [], []),
  (10, ([rv_r 16, rv_i (-5439) 22977, rv_i 3 3], [rv_i 0 1], []), [45, 130], 56, [], []),
  (10, ([rv_r 16, rv_i (-54439) 229977, rv_i 4 4], [rv_i 0 1], []), [46, 131], 32, [], []),
  (11, ([rv_r 16, rv_i 0 0, rv_i 0 0], [], []), [47], 127, [], []),
  (11, ([rv_r 16, rv_i (-49) 207, rv_i 1 1], [], []), [48], 103, [], []),
  (11, ([rv_r 16, rv_i (-539) 2277, rv_i 2 2], [], []), [49], 79, [], []),
  (11, ([rv_r 16, rv_i (-5439) 22977, rv_i 3 3], [], []), [50], 55, [], []),
  (11, ([rv_r 16, rv_i (-54439) 229977, rv_i 4 4], [], []), [51], 31, [], []),
  (12, ([rv_r 16, rv_i 0 0, rv_i 0 0], [rv_i 10 10], []), [52], 126, [], []),
  (12, ([rv_r 16, rv_i (-49) 207, rv_i 1 1], [rv_i 10 10], []), [53], 102, [], []),
  (12, ([rv_r 16, rv_i (-539) 2277, rv_i 2 2], [rv_i 10 10], []), [54], 78, [], []),
  (12, ([rv_r 16, rv_i (-5439) 22977, rv_i 3 3], [rv_i 10 10], []), [55], 54, [], []),
  (12, ([rv_r 16, rv_i (-54439) 229977, rv_i 4 4], [rv_i 10 10], []), [56], 30, [], []),
  (13, ([rv_r 16, rv_i 0 0, rv_i 0 0], [(1, 0, 0, 0, [(.inl 1, 0)], []), rv_i 10 10], []), [57], 125, [], []),
  (13, ([rv_r 16, rv_i (-49) 207, rv_i 1 1], [(1, 0, (-49), 207, [(.inl 1, 0)], []), rv_i 10 10], []), [58], 101, [], []),
  (13, ([rv_r 16, rv_i (-539) 2277, rv_i 2 2], [(1, 0, (-539), 2277, [(.inl 1, 0)], []), rv_i 10 10], []), [59], 77, [], []),
  (13, ([rv_r 16, rv_i (-5439) 22977, rv_i 3 3], [(1, 0, (-5439), 22977, [(.inl 1, 0)], []), rv_i 10 10], []), [60], 53, [], []),
  (13, ([rv_r 16, rv_i (-54439) 229977, rv_i 4 4], [(1, 0, (-54439), 229977, [(.inl 1, 0)], []), rv_i 10 10], []), [61], 29, [], []),
  (14, ([rv_r 16, rv_i 0 0, rv_i 0 0], [rv_i 0 0], []), [62], 124, [], []),
  (14, ([rv_r 16, rv_i (-49) 207, rv_i 1 1], [rv_i (-490) 2070], []), [63], 100, [], []),
  (14, ([rv_r 16, rv_i (-539) 2277, rv_i 2 2], [rv_i (-5390) 22770], []), [64], 76, [], []),
  (14, ([rv_r 16, rv_i (-5439) 22977, rv_i 3 3], [rv_i (-54390) 229770], []), [65], 52, [], []),
  (14, ([rv_r 16, rv_i (-54439) 229977, rv_i 4 4], [rv_i (-544390) 2299770], []), [66], 28, [], []),
  (15, ([rv_r 16, rv_i 0 0, rv_i 0 0], [rv_r 16, rv_i 0 0], []), [67], 123, [], [2]),
  (15, ([rv_r 16, rv_i (-49) 207, rv_i 1 1], [rv_r 16, rv_i (-490) 2070], []), [68], 99, [], [2]),
  (15, ([rv_r 16, rv_i (-539) 2277, rv_i 2 2], [rv_r 16, rv_i (-5390) 22770], []), [69], 75, [], [2]),
  (15, ([rv_r 16, rv_i (-5439) 22977, rv_i 3 3], [rv_r 16, rv_i (-54390) 229770], []), [70], 51, [], [2]),
  (15, ([rv_r 16, rv_i (-54439) 229977, rv_i 4 4], [rv_r 16, rv_i (-544390) 2299770], []), [71], 27, [], [2]),
  (16, ([rv_r 16, rv_i 0 0, rv_i 0 0], [rv_i (-1) 255, rv_i 0 0], []), [72], 122, [], []),
  (16, ([rv_r 16, rv_i (-49) 207, rv_i 1 1], [rv_i (-1) 255, rv_i (-490) 2070], []), [73], 98, [], []),
  (16, ([rv_r 16, rv_i (-539) 2277, rv_i 2 2], [rv_i (-1) 255, rv_i (-5390) 22770], []), [74], 74, [], []),
  (16, ([rv_r 16, rv_i (-5439) 22977, rv_i 3 3], [rv_i (-1) 255, rv_i (-54390) 229770], []), [75], 50, [], []),
  (16, ([rv_r 16, rv_i (-54439) 229977, rv_i 4 4], [rv_i (-1) 255, rv_i (-544390) 2299770], []), [76], 26, [], []),
  (17, ([rv_r 16, rv_i 0 0, rv_i 0 0], [rv_i (-1) 255], []), [77], 121, [], []),
  (17, ([rv_r 16, rv_i (-49) 207, rv_i 1 1], [rv_i (-491) 2325], []), [78], 97, [], []),
  (17, ([rv_r 16, rv_i (-539) 2277, rv_i 2 2], [rv_i (-5391) 23025], []), [79], 73, [], []),
  (17, ([rv_r 16, rv_i (-5439) 22977, rv_i 3 3], [rv_i (-54391) 230025], []), [80], 49, [], []),
  (17, ([rv_r 16, rv_i (-54439) 229977, rv_i 4 4], [rv_i (-544391) 2300025], []), [81], 25, [], []),
  (18, ([rv_r 16, rv_i 0 0, rv_i 0 0], [rv_i 48 48, rv_i (-1) 255], []), [82], 120, [], []),
  (18, ([rv_r 16, rv_i (-49) 207, rv_i 1 1], [rv_i 48 48, rv_i (-491) 2325], []), [83], 96, [], []),
  (18, ([rv_r 16, rv_i (-539) 2277, rv_i 2 2], [rv_i 48 48, rv_i (-5391) 23025], []), [84], 72, [], []),
  (18, ([rv_r 16, rv_i (-5439) 22977, rv_i 3 3], [rv_i 48 48, rv_i (-54391) 230025], []), [85], 48, [], []),
  (18, ([rv_r 16, rv_i (-54439) 229977, rv_i 4 4], [rv_i 48 48, rv_i (-544391) 2300025], []), [86], 24, [], []),
  (19, ([rv_r 16, rv_i 0 0, rv_i 0 0], [rv_i (-49) 207], []), [87], 119, [], []),
  (19, ([rv_r 16, rv_i (-49) 207, rv_i 1 1], [rv_i (-539) 2277], []), [88], 95, [], []),
  (19, ([rv_r 16, rv_i (-539) 2277, rv_i 2 2], [rv_i (-5439) 22977], []), [89], 71, [], []),
  (19, ([rv_r 16, rv_i (-5439) 22977, rv_i 3 3], [rv_i (-54439) 229977], []), [90], 47, [], []),
  (19, ([rv_r 16, rv_i (-54439) 229977, rv_i 4 4], [rv_i (-544439) 2299977], []), [91], 23, [], []),
  (20, ([rv_r 16, rv_i (-49) 207, rv_i 0 0], [], []), [92], 118, [], []),
  (20, ([rv_r 16, rv_i (-539) 2277, rv_i 1 1], [], []), [93], 94, [], []),
  (20, ([rv_r 16, rv_i (-5439) 22977, rv_i 2 2], [], []), [94], 70, [], []),
  (20, ([rv_r 16, rv_i (-54439) 229977, rv_i 3 3], [], []), [95], 46, [], []),
  (20, ([rv_r 16, rv_i (-544439) 2299977, rv_i 4 4], [], []), [96], 22, [], []),
  (21, ([rv_r 16, rv_i (-49) 207, rv_i 0 0], [rv_r 16], []), [97], 117, [], []),
  (21, ([rv_r 16, rv_i (-539) 2277, rv_i 1 1], [rv_r 16], []), [98], 93, [], []),
  (21, ([rv_r 16, rv_i (-5439) 22977, rv_i 2 2], [rv_r 16], []), [99], 69, [], []),
  (21, ([rv_r 16, rv_i (-54439) 229977, rv_i 3 3], [rv_r 16], []), [100], 45, [], []),
  (21, ([rv_r 16, rv_i (-544439) 2299977, rv_i 4 4], [rv_r 16], []), [101], 21, [], []),
  (22, ([rv_r 16, rv_i (-49) 207, rv_i 0 0], [rv_r 16, rv_r 16], []), [102], 116, [], []),
  (22, ([rv_r 16, rv_i (-539) 2277, rv_i 1 1], [rv_r 16, rv_r 16], []), [103], 92, [], []),
  (22, ([rv_r 16, rv_i (-5439) 22977, rv_i 2 2], [rv_r 16, rv_r 16], []), [104], 68, [], []),
  (22, ([rv_r 16, rv_i (-54439) 229977, rv_i 3 3], [rv_r 16, rv_r 16], []), [105], 44, [], []),
  (22, ([rv_r 16, rv_i (-544439) 2299977, rv_i 4 4], [rv_r 16, rv_r 16], []), [106], 20, [], []),
  (23, ([rv_r 16, rv_i (-49) 207, rv_i 0 0], [(1, 0, (-2147483648), 2147483647, [(.inr (16, 3), 0)], []), rv_r 16], []), [107], 115, [], []),
  (23, ([rv_r 16, rv_i (-539) 2277, rv_i 1 1], [(1, 0, (-2147483648), 2147483647, [(.inr (16, 3), 0)], []), rv_r 16], []), [108], 91, [], []),
  (23, ([rv_r 16, rv_i (-5439) 22977, rv_i 2 2], [(1, 0, (-2147483648), 2147483647, [(.inr (16, 3), 0)], []), rv_r 16], []), [109], 67, [], []),
  (23, ([rv_r 16, rv_i (-54439) 229977, rv_i 3 3], [(1, 0, (-2147483648), 2147483647, [(.inr (16, 3), 0)], []), rv_r 16], []), [110], 43, [], []),
  (23, ([rv_r 16, rv_i (-544439) 2299977, rv_i 4 4], [(1, 0, (-2147483648), 2147483647, [(.inr (16, 3), 0)], []), rv_r 16], []), [111], 19, [], []),
  (24, ([rv_r 16, rv_i (-49) 207, rv_i 0 0], [rv_i 1 1, (1, 0, (-2147483648), 2147483647, [(.inr (16, 3), 0)], []), rv_r 16], []), [112], 114, [], []),
  (24, ([rv_r 16, rv_i (-539) 2277, rv_i 1 1], [rv_i 1 1, (1, 0, (-2147483648), 2147483647, [(.inr (16, 3), 0)], []), rv_r 16], []), [113], 90, [], []),
  (24, ([rv_r 16, rv_i (-5439) 22977, rv_i 2 2], [rv_i 1 1, (1, 0, (-2147483648), 2147483647, [(.inr (16, 3), 0)], []), rv_r 16], []), [114], 66, [], []),
  (24, ([rv_r 16, rv_i (-54439) 229977, rv_i 3 3], [rv_i 1 1, (1, 0, (-2147483648), 2147483647, [(.inr (16, 3), 0)], []), rv_r 16], []), [115], 42, [], []),
  (24, ([rv_r 16, rv_i (-544439) 2299977, rv_i 4 4], [rv_i 1 1, (1, 0, (-2147483648), 2147483647, [(.inr (16, 3), 0)], []), rv_r 16], []), [116], 18, [], []),
  (25, ([rv_r 16, rv_i (-49) 207, rv_i 0 0], [(1, 0, (-2147483648), 2147483647, [(.inr (16, 3), 1)], []), rv_r 16], []), [117], 113, [], []),
  (25, ([rv_r 16, rv_i (-539) 2277, rv_i 1 1], [(1, 0, (-2147483648), 2147483647, [(.inr (16, 3), 1)], []), rv_r 16], []), [118], 89, [], []),
  (25, ([rv_r 16, rv_i (-5439) 22977, rv_i 2 2], [(1, 0, (-2147483648), 2147483647, [(.inr (16, 3), 1)], []), rv_r 16], []), [119], 65, [], []),
  (25, ([rv_r 16, rv_i (-54439) 229977, rv_i 3 3], [(1, 0, (-2147483648), 2147483647, [(.inr (16, 3), 1)], []), rv_r 16], []), [120], 41, [], []),
  (25, ([rv_r 16, rv_i (-544439) 2299977, rv_i 4 4], [(1, 0, (-2147483648), 2147483647, [(.inr (16, 3), 1)], []), rv_r 16], []), [121], 17, [], []),
  (26, ([rv_r 16, rv_i (-49) 207, rv_i 0 0], [], []), [122], 112, [], []),
  (26, ([rv_r 16, rv_i (-539) 2277, rv_i 1 1], [], []), [123], 88, [], []),
  (26, ([rv_r 16, rv_i (-5439) 22977, rv_i 2 2], [], []), [124], 64, [], []),
  (26, ([rv_r 16, rv_i (-54439) 229977, rv_i 3 3], [], []), [125], 40, [], []),
  (26, ([rv_r 16, rv_i (-544439) 2299977, rv_i 4 4], [], []), [126], 16, [], []),
  (27, ([rv_r 16, rv_i (-49) 207, rv_i 1 1], [], []), [5], 111, [], []),
  (27, ([rv_r 16, rv_i (-539) 2277, rv_i 2 2], [], []), [6], 87, [], []),
  (27, ([rv_r 16, rv_i (-5439) 22977, rv_i 3 3], [], []), [7], 63, [], []),
  (27, ([rv_r 16, rv_i (-54439) 229977, rv_i 4 4], [], []), [8], 39, [], []),
  (27, ([rv_r 16, rv_i (-544439) 2299977, rv_i 5 5], [], []), [9], 15, [], []),
  (28, ([rv_r 16, rv_i 0 0, rv_i 0 0], [], []), [133], 11, [], []),
  (28, ([rv_r 16, rv_i (-49) 207, rv_i 1 1], [], []), [134], 11, [], []),
  (28, ([rv_r 16, rv_i (-539) 2277, rv_i 2 2], [], []), [135], 11, [], []),
  (28, ([rv_r 16, rv_i (-5439) 22977, rv_i 3 3], [], []), [136], 11, [], []),
  (28, ([rv_r 16, rv_i (-54439) 229977, rv_i 4 4], [], []), [137], 11, [], []),
  (28, ([rv_r 16, rv_i (-544439) 2299977, rv_i 5 5], [], []), [138], 11, [], []),
  (29, ([rv_r 16, rv_i 0 0, rv_i 0 0], [rv_r 16], []), [139], 10, [], [3]),
  (29, ([rv_r 16, rv_i (-49) 207, rv_i 1 1], [rv_r 16], []), [140], 10, [], [3]),
  (29, ([rv_r 16, rv_i (-539) 2277, rv_i 2 2], [rv_r 16], []), [141], 10, [], [3]),
  (29, ([rv_r 16, rv_i (-5439) 22977, rv_i 3 3], [rv_r 16], []), [142], 10, [], [3]),
  (29, ([rv_r 16, rv_i (-54439) 229977, rv_i 4 4], [rv_r 16], []), [143], 10, [], [3]),
  (29, ([rv_r 16, rv_i (-544439) 2299977, rv_i 5 5], [rv_r 16], []), [144], 10, [], [3]),
  (30, ([rv_r 16, rv_i 0 0, rv_i 0 0], [rv_i (-1) 255], []), [145], 9, [], [4]),
  (30, ([rv_r 16, rv_i (-49) 207, rv_i 1 1], [rv_i (-1) 255], []), [146], 9, [], [4]),
  (30, ([rv_r 16, rv_i (-539) 2277, rv_i 2 2], [rv_i (-1) 255], []), [147], 9, [], [4]),
  (30, ([rv_r 16, rv_i (-5439) 22977, rv_i 3 3], [rv_i (-1) 255], []), [148], 9, [], [4]),
  (30, ([rv_r 16, rv_i (-54439) 229977, rv_i 4 4], [rv_i (-1) 255], []), [149], 9, [], [4]),
  (30, ([rv_r 16, rv_i (-544439) 2299977, rv_i 5 5], [rv_i (-1) 255], []), [150], 9, [], [4]),
  (31, ([rv_r 16, rv_i 0 0, rv_i 0 0], [rv_i 0 1], []), [151, 175], 8, [], []),
  (31, ([rv_r 16, rv_i (-49) 207, rv_i 1 1], [rv_i 0 1], []), [152, 176], 8, [], []),
  (31, ([rv_r 16, rv_i (-539) 2277, rv_i 2 2], [rv_i 0 1], []), [153, 177], 8, [], []),
  (31, ([rv_r 16, rv_i (-5439) 22977, rv_i 3 3], [rv_i 0 1], []), [154, 178], 8, [], []),
  (31, ([rv_r 16, rv_i (-54439) 229977, rv_i 4 4], [rv_i 0 1], []), [155, 179], 8, [], []),
  (31, ([rv_r 16, rv_i (-544439) 2299977, rv_i 5 5], [rv_i 0 1], []), [156, 180], 8, [], []),
  (32, ([rv_r 16, rv_i 0 0, rv_i 0 0], [], []), [157], 3, [], []),
  (32, ([rv_r 16, rv_i (-49) 207, rv_i 1 1], [], []), [158], 3, [], []),
  (32, ([rv_r 16, rv_i (-539) 2277, rv_i 2 2], [], []), [159], 3, [], []),
  (32, ([rv_r 16, rv_i (-5439) 22977, rv_i 3 3], [], []), [160], 3, [], []),
  (32, ([rv_r 16, rv_i (-54439) 229977, rv_i 4 4], [], []), [161], 3, [], []),
  (32, ([rv_r 16, rv_i (-544439) 2299977, rv_i 5 5], [], []), [162], 3, [], []),
  (33, ([rv_r 16, rv_i 0 0, rv_i 0 0], [rv_r 16], []), [163], 2, [], []),
  (33, ([rv_r 16, rv_i (-49) 207, rv_i 1 1], [rv_r 16], []), [164], 2, [], []),
  (33, ([rv_r 16, rv_i (-539) 2277, rv_i 2 2], [rv_r 16], []), [165], 2, [], []),
  (33, ([rv_r 16, rv_i (-5439) 22977, rv_i 3 3], [rv_r 16], []), [166], 2, [], []),
  (33, ([rv_r 16, rv_i (-54439) 229977, rv_i 4 4], [rv_r 16], []), [167], 2, [], []),
  (33, ([rv_r 16, rv_i (-544439) 2299977, rv_i 5 5], [rv_r 16], []), [168], 2, [], []),
  (34, ([rv_r 16, rv_i 0 0, rv_i 0 0], [rv_i 2 2, rv_r 16], []), [169], 1, [], [5]),
  (34, ([rv_r 16, rv_i (-49) 207, rv_i 1 1], [rv_i 2 2, rv_r 16], []), [170], 1, [], [5]),
  (34, ([rv_r 16, rv_i (-539) 2277, rv_i 2 2], [rv_i 2 2, rv_r 16], []), [171], 1, [], [5]),
  (34, ([rv_r 16, rv_i (-5439) 22977, rv_i 3 3], [rv_i 2 2, rv_r 16], []), [172], 1, [], [5]),
  (34, ([rv_r 16, rv_i (-54439) 229977, rv_i 4 4], [rv_i 2 2, rv_r 16], []), [173], 1, [], [5]),
  (34, ([rv_r 16, rv_i (-544439) 2299977, rv_i 5 5], [rv_i 2 2, rv_r 16], []), [174], 1, [], [5]),
  (35, ([rv_r 16, rv_i 0 0, rv_i 0 0], [rv_i 0 0], []), [], 0, [], []),
  (35, ([rv_r 16, rv_i (-49) 207, rv_i 1 1], [rv_i 0 0], []), [], 0, [], []),
  (35, ([rv_r 16, rv_i (-539) 2277, rv_i 2 2], [rv_i 0 0], []), [], 0, [], []),
  (35, ([rv_r 16, rv_i (-5439) 22977, rv_i 3 3], [rv_i 0 0], []), [], 0, [], []),
  (35, ([rv_r 16, rv_i (-54439) 229977, rv_i 4 4], [rv_i 0 0], []), [], 0, [], []),
  (35, ([rv_r 16, rv_i (-544439) 2299977, rv_i 5 5], [rv_i 0 0], []), [], 0, [], []),
  (36, ([rv_r 16, rv_i 0 0, rv_i 0 0], [], []), [181], 7, [], []),
  (36, ([rv_r 16, rv_i (-49) 207, rv_i 1 1], [], []), [182], 7, [], []),
  (36, ([rv_r 16, rv_i (-539) 2277, rv_i 2 2], [], []), [183], 7, [], []),
  (36, ([rv_r 16, rv_i (-5439) 22977, rv_i 3 3], [], []), [184], 7, [], []),
  (36, ([rv_r 16, rv_i (-54439) 229977, rv_i 4 4], [], []), [185], 7, [], []),
  (36, ([rv_r 16, rv_i (-544439) 2299977, rv_i 5 5], [], []), [186], 7, [], []),
  (37, ([rv_r 16, rv_i 0 0, rv_i 0 0], [rv_r 16], []), [187], 6, [], []),
  (37, ([rv_r 16, rv_i (-49) 207, rv_i 1 1], [rv_r 16], []), [188], 6, [], []),
  (37, ([rv_r 16, rv_i (-539) 2277, rv_i 2 2], [rv_r 16], []), [189], 6, [], []),
  (37, ([rv_r 16, rv_i (-5439) 22977, rv_i 3 3], [rv_r 16], []), [190], 6, [], []),
  (37, ([rv_r 16, rv_i (-54439) 229977, rv_i 4 4], [rv_r 16], []), [191], 6, [], []),
  (37, ([rv_r 16, rv_i (-544439) 2299977, rv_i 5 5], [rv_r 16], []), [192], 6, [], []),
  (38, ([rv_r 16, rv_i 0 0, rv_i 0 0], [rv_r 17], []), [193], 5, [], []),
  (38, ([rv_r 16, rv_i (-49) 207, rv_i 1 1], [rv_r 17], []), [194], 5, [], []),
  (38, ([rv_r 16, rv_i (-539) 2277, rv_i 2 2], [rv_r 17], []), [195], 5, [], []),
  (38, ([rv_r 16, rv_i (-5439) 22977, rv_i 3 3], [rv_r 17], []), [196], 5, [], []),
  (38, ([rv_r 16, rv_i (-54439) 229977, rv_i 4 4], [rv_r 17], []), [197], 5, [], []),
  (38, ([rv_r 16, rv_i (-544439) 2299977, rv_i 5 5], [rv_r 17], []), [198], 5, [], []),
  (39, ([rv_r 16, rv_i 0 0, rv_i 0 0], [rv_i 0 0, rv_r 17], []), [199], 4, [], []),
  (39, ([rv_r 16, rv_i (-49) 207, rv_i 1 1], [rv_i 0 0, rv_r 17], []), [200], 4, [], []),
  (39, ([rv_r 16, rv_i (-539) 2277, rv_i 2 2], [rv_i 0 0, rv_r 17], []), [201], 4, [], []),
  (39, ([rv_r 16, rv_i (-5439) 22977, rv_i 3 3], [rv_i 0 0, rv_r 17], []), [202], 4, [], []),
  (39, ([rv_r 16, rv_i (-54439) 229977, rv_i 4 4], [rv_i 0 0, rv_r 17], []), [203], 4, [], []),
  (39, ([rv_r 16, rv_i (-544439) 2299977, rv_i 5 5], [rv_i 0 0, rv_r 17], []), [204], 4, [], []),
  (40, ([rv_r 16, rv_i 0 0, rv_i 0 0], [(1, 0, 0, 0, [(.inl 1, 0)], []), rv_i 0 0, rv_r 17], []), [205], 3, [], [6]),
  (40, ([rv_r 16, rv_i (-49) 207, rv_i 1 1], [(1, 0, (-49), 207, [(.inl 1, 0)], []), rv_i 0 0, rv_r 17], []), [206], 3, [], [6]),
  (40, ([rv_r 16, rv_i (-539) 2277, rv_i 2 2], [(1, 0, (-539), 2277, [(.inl 1, 0)], []), rv_i 0 0, rv_r 17], []), [207], 3, [], [6]),
  (40, ([rv_r 16, rv_i (-5439) 22977, rv_i 3 3], [(1, 0, (-5439), 22977, [(.inl 1, 0)], []), rv_i 0 0, rv_r 17], []), [208], 3, [], [6]),
  (40, ([rv_r 16, rv_i (-54439) 229977, rv_i 4 4], [(1, 0, (-54439), 229977, [(.inl 1, 0)], []), rv_i 0 0, rv_r 17], []), [209], 3, [], [6]),
  (40, ([rv_r 16, rv_i (-544439) 2299977, rv_i 5 5], [(1, 0, (-544439), 2299977, [(.inl 1, 0)], []), rv_i 0 0, rv_r 17], []), [210], 3, [], [6]),
  (41, ([rv_r 16, rv_i 0 0, rv_i 0 0], [rv_i (-1) 199], []), [211], 2, [], []),
  (41, ([rv_r 16, rv_i (-49) 207, rv_i 1 1], [rv_i (-1) 199], []), [212], 2, [], []),
  (41, ([rv_r 16, rv_i (-539) 2277, rv_i 2 2], [rv_i (-1) 199], []), [213], 2, [], []),
  (41, ([rv_r 16, rv_i (-5439) 22977, rv_i 3 3], [rv_i (-1) 199], []), [214], 2, [], []),
  (41, ([rv_r 16, rv_i (-54439) 229977, rv_i 4 4], [rv_i (-1) 199], []), [215], 2, [], []),
  (41, ([rv_r 16, rv_i (-544439) 2299977, rv_i 5 5], [rv_i (-1) 199], []), [216], 2, [], []),
  (42, ([rv_r 16, rv_i 0 0, rv_i 0 0], [], []), [217], 1, [], []),
  (42, ([rv_r 16, rv_i (-49) 207, rv_i 1 1], [], []), [218], 1, [], []),
  (42, ([rv_r 16, rv_i (-539) 2277, rv_i 2 2], [], []), [219], 1, [], []),
  (42, ([rv_r 16, rv_i (-5439) 22977, rv_i 3 3], [], []), [220], 1, [], []),
  (42, ([rv_r 16, rv_i (-54439) 229977, rv_i 4 4], [], []), [221], 1, [], []),
  (42, ([rv_r 16, rv_i (-544439) 2299977, rv_i 5 5], [], []), [222], 1, [], []),
  (43, ([rv_r 16, rv_i 0 0, rv_i 0 0], [rv_i 1 1], []), [], 0, [], []),
  (43, ([rv_r 16, rv_i (-49) 207, rv_i 1 1], [rv_i 1 1], []), [], 0, [], []),
  (43, ([rv_r 16, rv_i (-539) 2277, rv_i 2 2], [rv_i 1 1], []), [], 0, [], []),
  (43, ([rv_r 16, rv_i (-5439) 22977, rv_i 3 3], [rv_i 1 1], []), [], 0, [], []),
  (43, ([rv_r 16, rv_i (-54439) 229977, rv_i 4 4], [rv_i 1 1], []), [], 0, [], []),
  (43, ([rv_r 16, rv_i (-544439) 2299977, rv_i 5 5], [rv_i 1 1], []), [], 0, [], [])]
set_option maxRecDepth 100000 in
theorem a_X3_readNumber_0 : rv_all (fm_tm, flX3, fm_wr, kcX3, klX3, K_X3_readNumber_0.2.2.1, [], 3) ct_X3_readNumber_0 cd_X3_readNumber n_X3_readNumber_0 K_X3_readNumber_0 [] 0 n_X3_readNumber_0 = true := by decide +kernel
theorem m_X3_readNumber_0 {l : Launch} {D : va_G} {ad : Nat → Nat} {cy : Nat → ClassId} {Z : State → Heap → Prop} {Gp : fm_V → Prop} (hAd : fm_Ad fm_tm ad) (hZ : fm_Zk (fm_A fm_tm ad) Z) (hGd : fm_Gd Gp) : rv_Met l D fm_cl fm_tm ad cy fm_nt Z Gp yX3_readNumber (.code yX3_readNumber prog_5_method_15_code 3 (some .boolean) :: fm_Ts) { frames := 1, cells := 0, slots := 0, locals := 100 } K_X3_readNumber_0 := rv_met hAd hZ (by decide +kernel) evX3 dc_X3_readNumber a_X3_readNumber_0 ⟨rfl, rfl, rfl⟩ (by decide +kernel) (by decide +kernel) (by decide) (fm_gm hGd (by decide +kernel)) (Or.inr ⟨rfl, by decide, by decide⟩) (fun p e s m args below meth c Q X Y => List.forall_mem_cons.mpr ⟨rv_ctV X Y fm_Ts_good dc_X3_readNumber (pc := 10) (i := 8) (idx := 39) rfl (m_X3_next_0 hAd hZ hGd) wl_X3_39 wm_X3_next wy_X3_next (by decide) ⟨rfl, rfl, rfl⟩ ⟨rfl, rfl⟩, List.forall_mem_cons.mpr ⟨rv_ctS X Y fm_Ts_good dc_X3_readNumber (pc := 13) (i := 9) (idx := 125) rfl (m_X3_isDigit_0 hAd hZ hGd) wl_X3_125 wm_X3_isDigit wy_X3_isDigit (by decide) rfl, List.forall_mem_cons.mpr ⟨rv_ctV X Y fm_Ts_good dc_X3_readNumber (pc := 24) (i := 15) (idx := 39) rfl (m_X3_next_0 hAd hZ hGd) wl_X3_39 wm_X3_next wy_X3_next (by decide) ⟨rfl, rfl, rfl⟩ ⟨rfl, rfl⟩, List.forall_mem_cons.mpr ⟨rv_ctV X Y fm_Ts_good dc_X3_readNumber (pc := 49) (i := 29) (idx := 39) rfl (m_X3_next_0 hAd hZ hGd) wl_X3_39 wm_X3_next wy_X3_next (by decide) ⟨rfl, rfl, rfl⟩ ⟨rfl, rfl⟩, List.forall_mem_cons.mpr ⟨rv_ctS X Y fm_Ts_good dc_X3_readNumber (pc := 52) (i := 30) (idx := 125) rfl (m_X3_isDigit_0 hAd hZ hGd) wl_X3_125 wm_X3_isDigit wy_X3_isDigit (by decide) rfl, List.forall_mem_cons.mpr ⟨rv_ctV X Y fm_Ts_good dc_X3_readNumber (pc := 60) (i := 34) (idx := 43) rfl (m_X3_fail_0 hAd hZ hGd) wl_X3_43 wm_X3_fail wy_X3_fail (by decide) ⟨rfl, rfl, rfl⟩ ⟨rfl, rfl⟩, List.forall_mem_cons.mpr ⟨rv_ctV X Y fm_Ts_good dc_X3_readNumber (pc := 70) (i := 40) (idx := 108) rfl (m_X1_putStep_0 hAd hZ hGd) wl_X3_108 wm_X1_putStep wy_X1_putStep (by decide) ⟨rfl, rfl, rfl⟩ ⟨rfl, rfl⟩, fun _ h => absurd h List.not_mem_nil⟩⟩⟩⟩⟩⟩⟩) (fun _ _ _ _ _ _ _ _ _ _ _ _ _ _ _ _ h => absurd h List.not_mem_nil)
def cd_X3_readFactor : List (Nat × Instr × Nat) := [(0, .aload_n 0, 1), (1, .invokevirtual 39, 3), (4, .istore_n 2, 1), (5, .iload_n 2, 1), (6, .bipush 91, 2), (8, .if_icmp .ne 38, 3), (11, .aload_n 0, 1), (12, .bipush 91, 2), (14, .iload_n 1, 1), (15, .invokevirtual 79, 3), (18, .ifCond .eq 26, 3), (21, .aload_n 0, 1), (22, .iload_n 1, 1), (23, .iconst 1, 1), (24, .iadd, 1), (25, .invokevirtual 73, 3), (28, .ifCond .eq 16, 3), (31, .aload_n 0, 1), (32, .bipush 93, 2), (34, .invokevirtual 86, 3), (37, .ifCond .eq 7, 3), (40, .iconst 1, 1), (41, .goto 4, 3), (44, .iconst 0, 1), (45, .ireturn, 1), (46, .iload_n 2, 1), (47, .invokestatic 125, 3), (50, .ifCond .eq 8, 3), (53, .aload_n 0, 1), (54, .invokevirtual 128, 3), (57, .ireturn, 1), (58, .iload_n 2, 1), (59, .ifCond .ge 7, 3), (62, .iconst (-1), 1), (63, .goto 10, 3), (66, .ldc 131, 2), (68, .iload_n 2, 1), (69, .i2c, 1), (70, .invokevirtual 58, 3), (73, .istore_n 3, 1), (74, .iload_n 3, 1), (75, .ifCond .ge 9, 3), (78, .aload_n 0, 1), (79, .iconst 1, 1), (80, .invokevirtual 43, 3), (83, .ireturn, 1), (84, .aload_n 0, 1), (85, .dup, 1), (86, .getfield 22, 3), (89, .iconst 1, 1), (90, .iadd, 1), (91, .putfield 22, 3), (94, .aload_n 0, 1), (95, .getfield 12, 3), (98, .iconst 1, 1), (99, .iload_n 3, 1), (100, .invokevirtual 108, 3), (103, .pop, 1), (104, .iconst 1, 1), (105, .ireturn, 1)]
theorem dc_X3_readFactor : ∀ q ∈ cd_X3_readFactor, decode prog_5_method_14_code q.1 = .ok (q.2.1, q.2.2) := by decide +kernel
def K_X3_readFactor_6 : rv_K := ([rv_r 16, rv_i 6 6], [], [(16, 3), (16, 4), (17, 2), (18, 9999), (19, 9999)], [(0, 0, 1)], [], [])
def ct_X3_readFactor_6 : List (Nat × rv_K) := [(1, K_X3_next_0), (9, K_X3_open_0), (26, K_X3_isDigit_0), (29, K_X3_readNumber_0), (44, K_X3_fail_0), (56, K_X1_putStep_0)]
def n_X3_readFactor_6 : List rv_N := [
  (0, ([rv_r 16, rv_i 6 6, rv_u, rv_u], [], []), [1], 29, [], []),
  (1, ([rv_r 16, rv_i 6 6, rv_u, rv_u], [rv_r 16], []), [2], 28, [], [0]),
  (2, ([rv_r 16, rv_i 6 6, rv_u, rv_u], [rv_i (-1) 255], []), [3], 27, [], []),
  (3, ([rv_r 16, rv_i 6 6, rv_i (-1) 255, rv_u], [], []), [4], 26, [], []),
  (4, ([rv_r 16, rv_i 6 6, rv_i (-1) 255, rv_u], [(1, 0, (-1), 255, [(.inl 2, 0)], [])], []), [5], 25, [], []),
  (5, ([rv_r 16, rv_i 6 6, rv_i (-1) 255, rv_u], [rv_i 91 91, (1, 0, (-1), 255, [(.inl 2, 0)], [])], []), [6, 13], 24, [], []),
  (6, ([rv_r 16, rv_i 6 6, rv_i 91 91, rv_u], [], []), [7], 6, [], []),
  (7, ([rv_r 16, rv_i 6 6, rv_i 91 91, rv_u], [rv_r 16], []), [8], 5, [], []),
  (8, ([rv_r 16, rv_i 6 6, rv_i 91 91, rv_u], [rv_i 91 91, rv_r 16], []), [9], 4, [], []),
  (9, ([rv_r 16, rv_i 6 6, rv_i 91 91, rv_u], [(1, 0, 6, 6, [(.inl 1, 0)], []), rv_i 91 91, rv_r 16], []), [10], 3, [], [1]),
  (10, ([rv_r 16, rv_i 6 6, rv_i 91 91, rv_u], [(1, 0, 0, 1, [], [(.inl 1, (-2147483648), 5)])], []), [11], 2, [], []),
  (23, ([rv_r 16, rv_i 6 6, rv_i 91 91, rv_u], [], []), [12], 1, [], []),
  (24, ([rv_r 16, rv_i 6 6, rv_i 91 91, rv_u], [rv_i 0 0], []), [], 0, [], []),
  (25, ([rv_r 16, rv_i 6 6, rv_i (-1) 255, rv_u], [], []), [14], 23, [], []),
  (26, ([rv_r 16, rv_i 6 6, rv_i (-1) 255, rv_u], [(1, 0, (-1), 255, [(.inl 2, 0)], [])], []), [15], 22, [], [2]),
  (27, ([rv_r 16, rv_i 6 6, rv_i (-1) 255, rv_u], [(1, 0, 0, 1, [], [(.inl 2, 48, 57)])], []), [16, 19], 21, [], []),
  (28, ([rv_r 16, rv_i 6 6, rv_i 48 57, rv_u], [], []), [17], 2, [], []),
  (29, ([rv_r 16, rv_i 6 6, rv_i 48 57, rv_u], [rv_r 16], []), [18], 1, [], [3]),
  (30, ([rv_r 16, rv_i 6 6, rv_i 48 57, rv_u], [rv_i 0 1], []), [], 0, [], []),
  (31, ([rv_r 16, rv_i 6 6, rv_i (-1) 255, rv_u], [], []), [20], 20, [], []),
  (32, ([rv_r 16, rv_i 6 6, rv_i (-1) 255, rv_u], [(1, 0, (-1), 255, [(.inl 2, 0)], [])], []), [21, 23], 19, [], []),
  (33, ([rv_r 16, rv_i 6 6, rv_i (-1) (-1), rv_u], [], []), [22], 18, [], []),
  (34, ([rv_r 16, rv_i 6 6, rv_i (-1) (-1), rv_u], [rv_i (-1) (-1)], []), [24], 17, [], []),
  (35, ([rv_r 16, rv_i 6 6, rv_i 0 255, rv_u], [], []), [25], 17, [], []),
  (39, ([rv_r 16, rv_i 6 6, rv_i (-1) (-1), rv_u], [rv_i (-1) (-1)], []), [26], 16, [], []),
  (39, ([rv_r 16, rv_i 6 6, rv_i 0 255, rv_u], [rv_i (-1) 12], []), [26], 16, [], []),
  (40, ([rv_r 16, rv_i 6 6, rv_i (-1) 255, rv_i (-1) 12], [], []), [27], 15, [], []),
  (41, ([rv_r 16, rv_i 6 6, rv_i (-1) 255, rv_i (-1) 12], [(1, 0, (-1), 12, [(.inl 3, 0)], [])], []), [28, 32], 14, [], []),
  (42, ([rv_r 16, rv_i 6 6, rv_i (-1) 255, rv_i (-1) (-1)], [], []), [29], 3, [], []),
  (43, ([rv_r 16, rv_i 6 6, rv_i (-1) 255, rv_i (-1) (-1)], [rv_r 16], []), [30], 2, [], []),
  (44, ([rv_r 16, rv_i 6 6, rv_i (-1) 255, rv_i (-1) (-1)], [rv_i 1 1, rv_r 16], []), [31], 1, [], [4]),
  (45, ([rv_r 16, rv_i 6 6, rv_i (-1) 255, rv_i (-1) (-1)], [rv_i 0 0], []), [], 0, [], []),
  (46, ([rv_r 16, rv_i 6 6, rv_i (-1) 255, rv_i 0 12], [], []), [33], 13, [], []),
  (47, ([rv_r 16, rv_i 6 6, rv_i (-1) 255, rv_i 0 12], [rv_r 16], []), [34], 12, [], []),
  (48, ([rv_r 16, rv_i 6 6, rv_i (-1) 255, rv_i 0 12], [rv_r 16, rv_r 16], []), [35], 11, [], []),
  (49, ([rv_r 16, rv_i 6 6, rv_i (-1) 255, rv_i 0 12], [(1, 0, (-2147483648), 2147483647, [(.inr (16, 3), 0)], []), rv_r 16], []), [36], 10, [], []),
  (50, ([rv_r 16, rv_i 6 6, rv_i (-1) 255, rv_i 0 12], [rv_i 1 1, (1, 0, (-2147483648), 2147483647, [(.inr (16, 3), 0)], []), rv_r 16], []), [37], 9, [], []),
  (51, ([rv_r 16, rv_i 6 6, rv_i (-1) 255, rv_i 0 12], [(1, 0, (-2147483648), 2147483647, [(.inr (16, 3), 1)], []), rv_r 16], []), [38], 8, [], []),
  (52, ([rv_r 16, rv_i 6 6, rv_i (-1) 255, rv_i 0 12], [], []), [39], 7, [], []),
  (53, ([rv_r 16, rv_i 6 6, rv_i (-1) 255, rv_i 0 12], [rv_r 16], []), [40], 6, [], []),
  (54, ([rv_r 16, rv_i 6 6, rv_i (-1) 255, rv_i 0 12], [rv_r 17], []), [41], 5, [], []),
  (55, ([rv_r 16, rv_i 6 6, rv_i (-1) 255, rv_i 0 12], [rv_i 1 1, rv_r 17], []), [42], 4, [], []),
  (56, ([rv_r 16, rv_i 6 6, rv_i (-1) 255, rv_i 0 12], [(1, 0, 0, 12, [(.inl 3, 0)], []), rv_i 1 1, rv_r 17], []), [43], 3, [], [5]),
  (57, ([rv_r 16, rv_i 6 6, rv_i (-1) 255, rv_i 0 12], [rv_i (-1) 199], []), [44], 2, [], []),
  (58, ([rv_r 16, rv_i 6 6, rv_i (-1) 255, rv_i 0 12], [], []), [45], 1, [], []),
  (59, ([rv_r 16, rv_i 6 6, rv_i (-1) 255, rv_i 0 12], [rv_i 1 1], []), [], 0, [], [])]
set_option maxRecDepth 100000 in
theorem a_X3_readFactor_6 : rv_all (fm_tm, flX3, fm_wr, kcX3, klX3, K_X3_readFactor_6.2.2.1, [], 4) ct_X3_readFactor_6 cd_X3_readFactor n_X3_readFactor_6 K_X3_readFactor_6 [23] 0 n_X3_readFactor_6 = true := by decide +kernel
theorem m_X3_readFactor_6 {l : Launch} {D : va_G} {ad : Nat → Nat} {cy : Nat → ClassId} {Z : State → Heap → Prop} {Gp : fm_V → Prop} (hAd : fm_Ad fm_tm ad) (hZ : fm_Zk (fm_A fm_tm ad) Z) (hGd : fm_Gd Gp) : rv_Met l D fm_cl fm_tm ad cy fm_nt Z Gp yX3_readFactor (.code yX3_readFactor prog_5_method_14_code 4 (some .boolean) :: fm_Ts) { frames := 2, cells := 0, slots := 0, locals := 200 } K_X3_readFactor_6 := rv_met hAd hZ (by decide +kernel) evX3 dc_X3_readFactor a_X3_readFactor_6 ⟨rfl, rfl, rfl⟩ (by decide +kernel) (by decide +kernel) (by decide) (fm_gm hGd (by decide +kernel)) (Or.inr ⟨rfl, by decide, by decide⟩) (fun p e s m args below meth c Q X Y => List.forall_mem_cons.mpr ⟨rv_ctV X Y fm_Ts_good dc_X3_readFactor (pc := 1) (i := 1) (idx := 39) rfl (m_X3_next_0 hAd hZ hGd) wl_X3_39 wm_X3_next wy_X3_next (by decide) ⟨rfl, rfl, rfl⟩ ⟨rfl, rfl⟩, List.forall_mem_cons.mpr ⟨rv_ctV X Y fm_Ts_good dc_X3_readFactor (pc := 15) (i := 9) (idx := 79) rfl (m_X3_open_0 hAd hZ hGd) wl_X3_79 wm_X3_open wy_X3_open (by decide) ⟨rfl, rfl, rfl⟩ ⟨rfl, rfl⟩, List.forall_mem_cons.mpr ⟨rv_ctS X Y fm_Ts_good dc_X3_readFactor (pc := 47) (i := 26) (idx := 125) rfl (m_X3_isDigit_0 hAd hZ hGd) wl_X3_125 wm_X3_isDigit wy_X3_isDigit (by decide) rfl, List.forall_mem_cons.mpr ⟨rv_ctV X Y fm_Ts_good dc_X3_readFactor (pc := 54) (i := 29) (idx := 128) rfl (m_X3_readNumber_0 hAd hZ hGd) wl_X3_128 wm_X3_readNumber wy_X3_readNumber (by decide) ⟨rfl, rfl, rfl⟩ ⟨rfl, rfl⟩, List.forall_mem_cons.mpr ⟨rv_ctV X Y fm_Ts_good dc_X3_readFactor (pc := 80) (i := 44) (idx := 43) rfl (m_X3_fail_0 hAd hZ hGd) wl_X3_43 wm_X3_fail wy_X3_fail (by decide) ⟨rfl, rfl, rfl⟩ ⟨rfl, rfl⟩, List.forall_mem_cons.mpr ⟨rv_ctV X Y fm_Ts_good dc_X3_readFactor (pc := 100) (i := 56) (idx := 108) rfl (m_X1_putStep_0 hAd hZ hGd) wl_X3_108 wm_X1_putStep wy_X1_putStep (by decide) ⟨rfl, rfl, rfl⟩ ⟨rfl, rfl⟩, fun _ h => absurd h List.not_mem_nil⟩⟩⟩⟩⟩⟩) (by sorry)
def cd_X3_readTerm : List (Nat × Instr × Nat) := [(0, .aload_n 0, 1), (1, .iload_n 1, 1), (2, .invokevirtual 122, 3), (5, .ifCond .ne 5, 3), (8, .iconst 0, 1), (9, .ireturn, 1), (10, .iconst 0, 1), (11, .istore_n 2, 1), (12, .iload_n 2, 1), (13, .sipush 200, 3), (16, .if_icmp .ge 71, 3), (19, .aload_n 0, 1), (20, .invokevirtual 39, 3), (23, .bipush 42, 2), (25, .if_icmp .eq 21, 3), (28, .aload_n 0, 1), (29, .invokevirtual 39, 3), (32, .bipush 47, 2), (34, .if_icmp .eq 12, 3), (37, .aload_n 0, 1), (38, .invokevirtual 39, 3), (41, .bipush 37, 2), (43, .if_icmp .ne 44, 3), (46, .aload_n 0, 1), (47, .invokevirtual 39, 3), (50, .istore_n 3, 1), (51, .aload_n 0, 1), (52, .dup, 1), (53, .getfield 22, 3), (56, .iconst 1, 1), (57, .iadd, 1), (58, .putfield 22, 3), (61, .aload_n 0, 1), (62, .iload_n 1, 1), (63, .invokevirtual 122, 3), (66, .ifCond .ne 5, 3), (69, .iconst 0, 1), (70, .ireturn, 1), (71, .aload_n 0, 1), (72, .getfield 12, 3), (75, .iload_n 3, 1), (76, .iconst 0, 1), (77, .invokevirtual 108, 3), (80, .pop, 1), (81, .iinc 2 1, 3), (84, .goto (-72), 3), (87, .iconst 1, 1), (88, .ireturn, 1)]
theorem dc_X3_readTerm : ∀ q ∈ cd_X3_readTerm, decode prog_5_method_13_code q.1 = .ok (q.2.1, q.2.2) := by decide +kernel
def K_X3_readTerm_6 : rv_K := ([rv_r 16, rv_i 6 6], [], [(16, 3), (16, 4), (17, 2), (18, 9999), (19, 9999)], [(0, 0, 1)], [], [])
def ct_X3_readTerm_6 : List (Nat × rv_K) := [(2, K_X3_readFactor_6), (12, K_X3_next_0), (16, K_X3_next_0), (20, K_X3_next_0), (24, K_X3_next_0), (34, K_X3_readFactor_6), (42, K_X1_putStep_0)]
def n_X3_readTerm_6 : List rv_N := [
  (0, ([rv_r 16, rv_i 6 6, rv_u, rv_u], [], []), [1], 2354810, [], []),
  (1, ([rv_r 16, rv_i 6 6, rv_u, rv_u], [rv_r 16], []), [2], 2354809, [], []),
  (2, ([rv_r 16, rv_i 6 6, rv_u, rv_u], [(1, 0, 6, 6, [(.inl 1, 0)], []), rv_r 16], []), [3], 2354808, [], [0]),
  (3, ([rv_r 16, rv_i 6 6, rv_u, rv_u], [rv_i 0 1], []), [4, 6], 2354807, [], []),
  (4, ([rv_r 16, rv_i 6 6, rv_u, rv_u], [], []), [5], 1, [], []),
  (5, ([rv_r 16, rv_i 6 6, rv_u, rv_u], [rv_i 0 0], []), [], 0, [], []),
  (6, ([rv_r 16, rv_i 6 6, rv_u, rv_u], [], []), [7], 2354806, [], []),
  (7, ([rv_r 16, rv_i 6 6, rv_u, rv_u], [rv_i 0 0], []), [8], 2354805, [], []),
  (8, ([rv_r 16, rv_i 6 6, rv_i 0 200, rv_u], [], []), [9], 2354804, [(2, (-11774))], []),
  (9, ([rv_r 16, rv_i 6 6, rv_i 0 200, rv_u], [(1, 0, 0, 200, [(.inl 2, 0)], [])], []), [10], 2354803, [(2, (-11774))], []),
  (10, ([rv_r 16, rv_i 6 6, rv_i 0 200, rv_u], [rv_i 200 200, (1, 0, 0, 200, [(.inl 2, 0)], [])], []), [11, 46], 2354802, [(2, (-11774))], []),
  (11, ([rv_r 16, rv_i 6 6, rv_i 0 199, rv_u], [], []), [12], 2343063, [(2, (-11774))], []),
  (12, ([rv_r 16, rv_i 6 6, rv_i 0 199, rv_u], [rv_r 16], []), [13], 2343062, [(2, (-11774))], [1]),
  (13, ([rv_r 16, rv_i 6 6, rv_i 0 199, rv_u], [rv_i (-1) 255], []), [14], 2343061, [(2, (-11774))], []),
  (14, ([rv_r 16, rv_i 6 6, rv_i 0 199, rv_u], [rv_i 42 42, rv_i (-1) 255], []), [15, 23], 2343060, [(2, (-11774))], []),
  (15, ([rv_r 16, rv_i 6 6, rv_i 0 199, rv_u], [], []), [16], 2343059, [(2, (-11774))], []),
  (16, ([rv_r 16, rv_i 6 6, rv_i 0 199, rv_u], [rv_r 16], []), [17], 2343058, [(2, (-11774))], [2]),
  (17, ([rv_r 16, rv_i 6 6, rv_i 0 199, rv_u], [rv_i (-1) 255], []), [18], 2343057, [(2, (-11774))], []),
  (18, ([rv_r 16, rv_i 6 6, rv_i 0 199, rv_u], [rv_i 47 47, rv_i (-1) 255], []), [19, 23], 2343056, [(2, (-11774))], []),
  (19, ([rv_r 16, rv_i 6 6, rv_i 0 199, rv_u], [], []), [20], 2343055, [(2, (-11774))], []),
  (20, ([rv_r 16, rv_i 6 6, rv_i 0 199, rv_u], [rv_r 16], []), [21], 2343054, [(2, (-11774))], [3]),
  (21, ([rv_r 16, rv_i 6 6, rv_i 0 199, rv_u], [rv_i (-1) 255], []), [22], 2343053, [(2, (-11774))], []),
  (22, ([rv_r 16, rv_i 6 6, rv_i 0 199, rv_u], [rv_i 37 37, rv_i (-1) 255], []), [23, 46], 2343052, [(2, (-11774))], []),
  (23, ([rv_r 16, rv_i 6 6, rv_i 0 199, rv_u], [], []), [24], 2343051, [(2, (-11774))], []),
  (24, ([rv_r 16, rv_i 6 6, rv_i 0 199, rv_u], [rv_r 16], []), [25], 2343050, [(2, (-11774))], [4]),
  (25, ([rv_r 16, rv_i 6 6, rv_i 0 199, rv_u], [rv_i (-1) 255], []), [26], 2343049, [(2, (-11774))], []),
  (26, ([rv_r 16, rv_i 6 6, rv_i 0 199, rv_i (-1) 255], [], []), [27], 2343048, [(2, (-11774))], []),
  (27, ([rv_r 16, rv_i 6 6, rv_i 0 199, rv_i (-1) 255], [rv_r 16], []), [28], 2343047, [(2, (-11774))], []),
  (28, ([rv_r 16, rv_i 6 6, rv_i 0 199, rv_i (-1) 255], [rv_r 16, rv_r 16], []), [29], 2343046, [(2, (-11774))], []),
  (29, ([rv_r 16, rv_i 6 6, rv_i 0 199, rv_i (-1) 255], [(1, 0, (-2147483648), 2147483647, [(.inr (16, 3), 0)], []), rv_r 16], []), [30], 2343045, [(2, (-11774))], []),
  (30, ([rv_r 16, rv_i 6 6, rv_i 0 199, rv_i (-1) 255], [rv_i 1 1, (1, 0, (-2147483648), 2147483647, [(.inr (16, 3), 0)], []), rv_r 16], []), [31], 2343044, [(2, (-11774))], []),
  (31, ([rv_r 16, rv_i 6 6, rv_i 0 199, rv_i (-1) 255], [(1, 0, (-2147483648), 2147483647, [(.inr (16, 3), 1)], []), rv_r 16], []), [32], 2343043, [(2, (-11774))], []),
  (32, ([rv_r 16, rv_i 6 6, rv_i 0 199, rv_i (-1) 255], [], []), [33], 2343042, [(2, (-11774))], []),
  (33, ([rv_r 16, rv_i 6 6, rv_i 0 199, rv_i (-1) 255], [rv_r 16], []), [34], 2343041, [(2, (-11774))], []),
  (34, ([rv_r 16, rv_i 6 6, rv_i 0 199, rv_i (-1) 255], [(1, 0, 6, 6, [(.inl 1, 0)], []), rv_r 16], []), [35], 2343040, [(2, (-11774))], [5]),
  (35, ([rv_r 16, rv_i 6 6, rv_i 0 199, rv_i (-1) 255], [rv_i 0 1], []), [36, 38], 2343039, [(2, (-11774))], []),
  (36, ([rv_r 16, rv_i 6 6, rv_i 0 199, rv_i (-1) 255], [], []), [37], 1, [], []),
  (37, ([rv_r 16, rv_i 6 6, rv_i 0 199, rv_i (-1) 255], [rv_i 0 0], []), [], 0, [], []),
  (38, ([rv_r 16, rv_i 6 6, rv_i 0 199, rv_i (-1) 255], [], []), [39], 2343038, [(2, (-11774))], []),
  (39, ([rv_r 16, rv_i 6 6, rv_i 0 199, rv_i (-1) 255], [rv_r 16], []), [40], 2343037, [(2, (-11774))], []),
  (40, ([rv_r 16, rv_i 6 6, rv_i 0 199, rv_i (-1) 255], [rv_r 17], []), [41], 2343036, [(2, (-11774))], []),
  (41, ([rv_r 16, rv_i 6 6, rv_i 0 199, rv_i (-1) 255], [(1, 0, (-1), 255, [(.inl 3, 0)], []), rv_r 17], []), [42], 2343035, [(2, (-11774))], []),
  (42, ([rv_r 16, rv_i 6 6, rv_i 0 199, rv_i (-1) 255], [rv_i 0 0, (1, 0, (-1), 255, [(.inl 3, 0)], []), rv_r 17], []), [43], 2343034, [(2, (-11774))], [6]),
  (43, ([rv_r 16, rv_i 6 6, rv_i 0 199, rv_i (-1) 255], [rv_i (-1) 199], []), [44], 2343033, [(2, (-11774))], []),
  (44, ([rv_r 16, rv_i 6 6, rv_i 0 199, rv_i (-1) 255], [], []), [45], 2343032, [(2, (-11774))], []),
  (45, ([rv_r 16, rv_i 6 6, rv_i 1 200, rv_i (-1) 255], [], []), [8], 2354805, [(2, (-11774))], []),
  (46, ([rv_r 16, rv_i 6 6, rv_i 0 200, rv_u], [], []), [47], 1, [], []),
  (47, ([rv_r 16, rv_i 6 6, rv_i 0 200, rv_u], [rv_i 1 1], []), [], 0, [], [])]
set_option maxRecDepth 100000 in
theorem a_X3_readTerm_6 : rv_all (fm_tm, flX3, fm_wr, kcX3, klX3, K_X3_readTerm_6.2.2.1, [], 4) ct_X3_readTerm_6 cd_X3_readTerm n_X3_readTerm_6 K_X3_readTerm_6 [] 0 n_X3_readTerm_6 = true := by decide +kernel
theorem m_X3_readTerm_6 {l : Launch} {D : va_G} {ad : Nat → Nat} {cy : Nat → ClassId} {Z : State → Heap → Prop} {Gp : fm_V → Prop} (hAd : fm_Ad fm_tm ad) (hZ : fm_Zk (fm_A fm_tm ad) Z) (hGd : fm_Gd Gp) : rv_Met l D fm_cl fm_tm ad cy fm_nt Z Gp yX3_readTerm (.code yX3_readTerm prog_5_method_13_code 4 (some .boolean) :: fm_Ts) { frames := 3, cells := 0, slots := 0, locals := 300 } K_X3_readTerm_6 := rv_met hAd hZ (by decide +kernel) evX3 dc_X3_readTerm a_X3_readTerm_6 ⟨rfl, rfl, rfl⟩ (by decide +kernel) (by decide +kernel) (by decide) (fm_gm hGd (by decide +kernel)) (Or.inr ⟨rfl, by decide, by decide⟩) (fun p e s m args below meth c Q X Y => List.forall_mem_cons.mpr ⟨rv_ctV X Y fm_Ts_good dc_X3_readTerm (pc := 2) (i := 2) (idx := 122) rfl (m_X3_readFactor_6 hAd hZ hGd) wl_X3_122 wm_X3_readFactor wy_X3_readFactor (by decide) ⟨rfl, rfl, rfl⟩ ⟨rfl, rfl⟩, List.forall_mem_cons.mpr ⟨rv_ctV X Y fm_Ts_good dc_X3_readTerm (pc := 20) (i := 12) (idx := 39) rfl (m_X3_next_0 hAd hZ hGd) wl_X3_39 wm_X3_next wy_X3_next (by decide) ⟨rfl, rfl, rfl⟩ ⟨rfl, rfl⟩, List.forall_mem_cons.mpr ⟨rv_ctV X Y fm_Ts_good dc_X3_readTerm (pc := 29) (i := 16) (idx := 39) rfl (m_X3_next_0 hAd hZ hGd) wl_X3_39 wm_X3_next wy_X3_next (by decide) ⟨rfl, rfl, rfl⟩ ⟨rfl, rfl⟩, List.forall_mem_cons.mpr ⟨rv_ctV X Y fm_Ts_good dc_X3_readTerm (pc := 38) (i := 20) (idx := 39) rfl (m_X3_next_0 hAd hZ hGd) wl_X3_39 wm_X3_next wy_X3_next (by decide) ⟨rfl, rfl, rfl⟩ ⟨rfl, rfl⟩, List.forall_mem_cons.mpr ⟨rv_ctV X Y fm_Ts_good dc_X3_readTerm (pc := 47) (i := 24) (idx := 39) rfl (m_X3_next_0 hAd hZ hGd) wl_X3_39 wm_X3_next wy_X3_next (by decide) ⟨rfl, rfl, rfl⟩ ⟨rfl, rfl⟩, List.forall_mem_cons.mpr ⟨rv_ctV X Y fm_Ts_good dc_X3_readTerm (pc := 63) (i := 34) (idx := 122) rfl (m_X3_readFactor_6 hAd hZ hGd) wl_X3_122 wm_X3_readFactor wy_X3_readFactor (by decide) ⟨rfl, rfl, rfl⟩ ⟨rfl, rfl⟩, List.forall_mem_cons.mpr ⟨rv_ctV X Y fm_Ts_good dc_X3_readTerm (pc := 77) (i := 42) (idx := 108) rfl (m_X1_putStep_0 hAd hZ hGd) wl_X3_108 wm_X1_putStep wy_X1_putStep (by decide) ⟨rfl, rfl, rfl⟩ ⟨rfl, rfl⟩, fun _ h => absurd h List.not_mem_nil⟩⟩⟩⟩⟩⟩⟩) (fun _ _ _ _ _ _ _ _ _ _ _ _ _ _ _ _ h => absurd h List.not_mem_nil)
def cd_X3_readSum : List (Nat × Instr × Nat) := [(0, .aload_n 0, 1), (1, .iload_n 1, 1), (2, .invokevirtual 119, 3), (5, .ifCond .ne 5, 3), (8, .iconst 0, 1), (9, .ireturn, 1), (10, .iconst 0, 1), (11, .istore_n 2, 1), (12, .iload_n 2, 1), (13, .sipush 200, 3), (16, .if_icmp .ge 62, 3), (19, .aload_n 0, 1), (20, .invokevirtual 39, 3), (23, .bipush 43, 2), (25, .if_icmp .eq 12, 3), (28, .aload_n 0, 1), (29, .invokevirtual 39, 3), (32, .bipush 45, 2), (34, .if_icmp .ne 44, 3), (37, .aload_n 0, 1), (38, .invokevirtual 39, 3), (41, .istore_n 3, 1), (42, .aload_n 0, 1), (43, .dup, 1), (44, .getfield 22, 3), (47, .iconst 1, 1), (48, .iadd, 1), (49, .putfield 22, 3), (52, .aload_n 0, 1), (53, .iload_n 1, 1), (54, .invokevirtual 119, 3), (57, .ifCond .ne 5, 3), (60, .iconst 0, 1), (61, .ireturn, 1), (62, .aload_n 0, 1), (63, .getfield 12, 3), (66, .iload_n 3, 1), (67, .iconst 0, 1), (68, .invokevirtual 108, 3), (71, .pop, 1), (72, .iinc 2 1, 3), (75, .goto (-63), 3), (78, .iconst 1, 1), (79, .ireturn, 1)]
theorem dc_X3_readSum : ∀ q ∈ cd_X3_readSum, decode prog_5_method_12_code q.1 = .ok (q.2.1, q.2.2) := by decide +kernel
def K_X3_readSum_6 : rv_K := ([rv_r 16, rv_i 6 6], [], [(16, 3), (16, 4), (17, 2), (18, 9999), (19, 9999)], [(0, 0, 1)], [], [])
def ct_X3_readSum_6 : List (Nat × rv_K) := [(2, K_X3_readTerm_6), (12, K_X3_next_0), (16, K_X3_next_0), (20, K_X3_next_0), (30, K_X3_readTerm_6), (38, K_X1_putStep_0)]
def n_X3_readSum_6 : List rv_N := [
  (0, ([rv_r 16, rv_i 6 6, rv_u, rv_u], [], []), [1], 2192410, [], []),
  (1, ([rv_r 16, rv_i 6 6, rv_u, rv_u], [rv_r 16], []), [2], 2192409, [], []),
  (2, ([rv_r 16, rv_i 6 6, rv_u, rv_u], [(1, 0, 6, 6, [(.inl 1, 0)], []), rv_r 16], []), [3], 2192408, [], [0]),
  (3, ([rv_r 16, rv_i 6 6, rv_u, rv_u], [rv_i 0 1], []), [4, 6], 2192407, [], []),
  (4, ([rv_r 16, rv_i 6 6, rv_u, rv_u], [], []), [5], 1, [], []),
  (5, ([rv_r 16, rv_i 6 6, rv_u, rv_u], [rv_i 0 0], []), [], 0, [], []),
  (6, ([rv_r 16, rv_i 6 6, rv_u, rv_u], [], []), [7], 2192406, [], []),
  (7, ([rv_r 16, rv_i 6 6, rv_u, rv_u], [rv_i 0 0], []), [8], 2192405, [], []),
  (8, ([rv_r 16, rv_i 6 6, rv_i 0 200, rv_u], [], []), [9], 2192404, [(2, (-10962))], []),
  (9, ([rv_r 16, rv_i 6 6, rv_i 0 200, rv_u], [(1, 0, 0, 200, [(.inl 2, 0)], [])], []), [10], 2192403, [(2, (-10962))], []),
  (10, ([rv_r 16, rv_i 6 6, rv_i 0 200, rv_u], [rv_i 200 200, (1, 0, 0, 200, [(.inl 2, 0)], [])], []), [11, 42], 2192402, [(2, (-10962))], []),
  (11, ([rv_r 16, rv_i 6 6, rv_i 0 199, rv_u], [], []), [12], 2181471, [(2, (-10962))], []),
  (12, ([rv_r 16, rv_i 6 6, rv_i 0 199, rv_u], [rv_r 16], []), [13], 2181470, [(2, (-10962))], [1]),
  (13, ([rv_r 16, rv_i 6 6, rv_i 0 199, rv_u], [rv_i (-1) 255], []), [14], 2181469, [(2, (-10962))], []),
  (14, ([rv_r 16, rv_i 6 6, rv_i 0 199, rv_u], [rv_i 43 43, rv_i (-1) 255], []), [15, 19], 2181468, [(2, (-10962))], []),
  (15, ([rv_r 16, rv_i 6 6, rv_i 0 199, rv_u], [], []), [16], 2181467, [(2, (-10962))], []),
  (16, ([rv_r 16, rv_i 6 6, rv_i 0 199, rv_u], [rv_r 16], []), [17], 2181466, [(2, (-10962))], [2]),
  (17, ([rv_r 16, rv_i 6 6, rv_i 0 199, rv_u], [rv_i (-1) 255], []), [18], 2181465, [(2, (-10962))], []),
  (18, ([rv_r 16, rv_i 6 6, rv_i 0 199, rv_u], [rv_i 45 45, rv_i (-1) 255], []), [19, 42], 2181464, [(2, (-10962))], []),
  (19, ([rv_r 16, rv_i 6 6, rv_i 0 199, rv_u], [], []), [20], 2181463, [(2, (-10962))], []),
  (20, ([rv_r 16, rv_i 6 6, rv_i 0 199, rv_u], [rv_r 16], []), [21], 2181462, [(2, (-10962))], [3]),
  (21, ([rv_r 16, rv_i 6 6, rv_i 0 199, rv_u], [rv_i (-1) 255], []), [22], 2181461, [(2, (-10962))], []),
  (22, ([rv_r 16, rv_i 6 6, rv_i 0 199, rv_i (-1) 255], [], []), [23], 2181460, [(2, (-10962))], []),
  (23, ([rv_r 16, rv_i 6 6, rv_i 0 199, rv_i (-1) 255], [rv_r 16], []), [24], 2181459, [(2, (-10962))], []),
  (24, ([rv_r 16, rv_i 6 6, rv_i 0 199, rv_i (-1) 255], [rv_r 16, rv_r 16], []), [25], 2181458, [(2, (-10962))], []),
  (25, ([rv_r 16, rv_i 6 6, rv_i 0 199, rv_i (-1) 255], [(1, 0, (-2147483648), 2147483647, [(.inr (16, 3), 0)], []), rv_r 16], []), [26], 2181457, [(2, (-10962))], []),
  (26, ([rv_r 16, rv_i 6 6, rv_i 0 199, rv_i (-1) 255], [rv_i 1 1, (1, 0, (-2147483648), 2147483647, [(.inr (16, 3), 0)], []), rv_r 16], []), [27], 2181456, [(2, (-10962))], []),
  (27, ([rv_r 16, rv_i 6 6, rv_i 0 199, rv_i (-1) 255], [(1, 0, (-2147483648), 2147483647, [(.inr (16, 3), 1)], []), rv_r 16], []), [28], 2181455, [(2, (-10962))], []),
  (28, ([rv_r 16, rv_i 6 6, rv_i 0 199, rv_i (-1) 255], [], []), [29], 2181454, [(2, (-10962))], []),
  (29, ([rv_r 16, rv_i 6 6, rv_i 0 199, rv_i (-1) 255], [rv_r 16], []), [30], 2181453, [(2, (-10962))], []),
  (30, ([rv_r 16, rv_i 6 6, rv_i 0 199, rv_i (-1) 255], [(1, 0, 6, 6, [(.inl 1, 0)], []), rv_r 16], []), [31], 2181452, [(2, (-10962))], [4]),
  (31, ([rv_r 16, rv_i 6 6, rv_i 0 199, rv_i (-1) 255], [rv_i 0 1], []), [32, 34], 2181451, [(2, (-10962))], []),
  (32, ([rv_r 16, rv_i 6 6, rv_i 0 199, rv_i (-1) 255], [], []), [33], 1, [], []),
  (33, ([rv_r 16, rv_i 6 6, rv_i 0 199, rv_i (-1) 255], [rv_i 0 0], []), [], 0, [], []),
  (34, ([rv_r 16, rv_i 6 6, rv_i 0 199, rv_i (-1) 255], [], []), [35], 2181450, [(2, (-10962))], []),
  (35, ([rv_r 16, rv_i 6 6, rv_i 0 199, rv_i (-1) 255], [rv_r 16], []), [36], 2181449, [(2, (-10962))], []),
  (36, ([rv_r 16, rv_i 6 6, rv_i 0 199, rv_i (-1) 255], [rv_r 17], []), [37], 2181448, [(2, (-10962))], []),
  (37, ([rv_r 16, rv_i 6 6, rv_i 0 199, rv_i (-1) 255], [(1, 0, (-1), 255, [(.inl 3, 0)], []), rv_r 17], []), [38], 2181447, [(2, (-10962))], []),
  (38, ([rv_r 16, rv_i 6 6, rv_i 0 199, rv_i (-1) 255], [rv_i 0 0, (1, 0, (-1), 255, [(.inl 3, 0)], []), rv_r 17], []), [39], 2181446, [(2, (-10962))], [5]),
  (39, ([rv_r 16, rv_i 6 6, rv_i 0 199, rv_i (-1) 255], [rv_i (-1) 199], []), [40], 2181445, [(2, (-10962))], []),
  (40, ([rv_r 16, rv_i 6 6, rv_i 0 199, rv_i (-1) 255], [], []), [41], 2181444, [(2, (-10962))], []),
  (41, ([rv_r 16, rv_i 6 6, rv_i 1 200, rv_i (-1) 255], [], []), [8], 2192405, [(2, (-10962))], []),
  (42, ([rv_r 16, rv_i 6 6, rv_i 0 200, rv_u], [], []), [43], 1, [], []),
  (43, ([rv_r 16, rv_i 6 6, rv_i 0 200, rv_u], [rv_i 1 1], []), [], 0, [], [])]
set_option maxRecDepth 100000 in
theorem a_X3_readSum_6 : rv_all (fm_tm, flX3, fm_wr, kcX3, klX3, K_X3_readSum_6.2.2.1, [], 4) ct_X3_readSum_6 cd_X3_readSum n_X3_readSum_6 K_X3_readSum_6 [] 0 n_X3_readSum_6 = true := by decide +kernel
theorem m_X3_readSum_6 {l : Launch} {D : va_G} {ad : Nat → Nat} {cy : Nat → ClassId} {Z : State → Heap → Prop} {Gp : fm_V → Prop} (hAd : fm_Ad fm_tm ad) (hZ : fm_Zk (fm_A fm_tm ad) Z) (hGd : fm_Gd Gp) : rv_Met l D fm_cl fm_tm ad cy fm_nt Z Gp yX3_readSum (.code yX3_readSum prog_5_method_12_code 4 (some .boolean) :: fm_Ts) { frames := 4, cells := 0, slots := 0, locals := 400 } K_X3_readSum_6 := rv_met hAd hZ (by decide +kernel) evX3 dc_X3_readSum a_X3_readSum_6 ⟨rfl, rfl, rfl⟩ (by decide +kernel) (by decide +kernel) (by decide) (fm_gm hGd (by decide +kernel)) (Or.inr ⟨rfl, by decide, by decide⟩) (fun p e s m args below meth c Q X Y => List.forall_mem_cons.mpr ⟨rv_ctV X Y fm_Ts_good dc_X3_readSum (pc := 2) (i := 2) (idx := 119) rfl (m_X3_readTerm_6 hAd hZ hGd) wl_X3_119 wm_X3_readTerm wy_X3_readTerm (by decide) ⟨rfl, rfl, rfl⟩ ⟨rfl, rfl⟩, List.forall_mem_cons.mpr ⟨rv_ctV X Y fm_Ts_good dc_X3_readSum (pc := 20) (i := 12) (idx := 39) rfl (m_X3_next_0 hAd hZ hGd) wl_X3_39 wm_X3_next wy_X3_next (by decide) ⟨rfl, rfl, rfl⟩ ⟨rfl, rfl⟩, List.forall_mem_cons.mpr ⟨rv_ctV X Y fm_Ts_good dc_X3_readSum (pc := 29) (i := 16) (idx := 39) rfl (m_X3_next_0 hAd hZ hGd) wl_X3_39 wm_X3_next wy_X3_next (by decide) ⟨rfl, rfl, rfl⟩ ⟨rfl, rfl⟩, List.forall_mem_cons.mpr ⟨rv_ctV X Y fm_Ts_good dc_X3_readSum (pc := 38) (i := 20) (idx := 39) rfl (m_X3_next_0 hAd hZ hGd) wl_X3_39 wm_X3_next wy_X3_next (by decide) ⟨rfl, rfl, rfl⟩ ⟨rfl, rfl⟩, List.forall_mem_cons.mpr ⟨rv_ctV X Y fm_Ts_good dc_X3_readSum (pc := 54) (i := 30) (idx := 119) rfl (m_X3_readTerm_6 hAd hZ hGd) wl_X3_119 wm_X3_readTerm wy_X3_readTerm (by decide) ⟨rfl, rfl, rfl⟩ ⟨rfl, rfl⟩, List.forall_mem_cons.mpr ⟨rv_ctV X Y fm_Ts_good dc_X3_readSum (pc := 68) (i := 38) (idx := 108) rfl (m_X1_putStep_0 hAd hZ hGd) wl_X3_108 wm_X1_putStep wy_X1_putStep (by decide) ⟨rfl, rfl, rfl⟩ ⟨rfl, rfl⟩, fun _ h => absurd h List.not_mem_nil⟩⟩⟩⟩⟩⟩) (fun _ _ _ _ _ _ _ _ _ _ _ _ _ _ _ _ h => absurd h List.not_mem_nil)
def cd_X3_close : List (Nat × Instr × Nat) := [(0, .aload_n 0, 1), (1, .invokevirtual 39, 3), (4, .iload_n 1, 1), (5, .if_icmp .eq 9, 3), (8, .aload_n 0, 1), (9, .iconst 1, 1), (10, .invokevirtual 43, 3), (13, .ireturn, 1), (14, .aload_n 0, 1), (15, .dup, 1), (16, .getfield 22, 3), (19, .iconst 1, 1), (20, .iadd, 1), (21, .putfield 22, 3), (24, .iconst 1, 1), (25, .ireturn, 1)]
theorem dc_X3_close : ∀ q ∈ cd_X3_close, decode prog_5_method_5_code q.1 = .ok (q.2.1, q.2.2) := by decide +kernel
def K_X3_close_0 : rv_K := ([rv_r 16, rv_full], [], [(16, 3), (16, 4)], [(0, 0, 1)], [(.inl 1, (-1), 255)], [])
def ct_X3_close_0 : List (Nat × rv_K) := [(1, K_X3_next_0), (6, K_X3_fail_0)]
def n_X3_close_0 : List rv_N := [
  (0, ([rv_r 16, rv_full], [], []), [1], 11, [], []),
  (1, ([rv_r 16, rv_full], [rv_r 16], []), [2], 10, [], [0]),
  (2, ([rv_r 16, rv_full], [rv_i (-1) 255], []), [3], 9, [], []),
  (3, ([rv_r 16, rv_full], [(1, 0, (-2147483648), 2147483647, [(.inl 1, 0)], []), rv_i (-1) 255], []), [4, 8], 8, [], []),
  (4, ([rv_r 16, rv_full], [], []), [5], 3, [], []),
  (5, ([rv_r 16, rv_full], [rv_r 16], []), [6], 2, [], []),
  (6, ([rv_r 16, rv_full], [rv_i 1 1, rv_r 16], []), [7], 1, [], [1]),
  (7, ([rv_r 16, rv_full], [rv_i 0 0], []), [], 0, [], []),
  (8, ([rv_r 16, rv_i (-1) 255], [], []), [9], 7, [], []),
  (9, ([rv_r 16, rv_i (-1) 255], [rv_r 16], []), [10], 6, [], []),
  (10, ([rv_r 16, rv_i (-1) 255], [rv_r 16, rv_r 16], []), [11], 5, [], []),
  (11, ([rv_r 16, rv_i (-1) 255], [(1, 0, (-2147483648), 2147483647, [(.inr (16, 3), 0)], []), rv_r 16], []), [12], 4, [], []),
  (12, ([rv_r 16, rv_i (-1) 255], [rv_i 1 1, (1, 0, (-2147483648), 2147483647, [(.inr (16, 3), 0)], []), rv_r 16], []), [13], 3, [], []),
  (13, ([rv_r 16, rv_i (-1) 255], [(1, 0, (-2147483648), 2147483647, [(.inr (16, 3), 1)], []), rv_r 16], []), [14], 2, [], []),
  (14, ([rv_r 16, rv_i (-1) 255], [], []), [15], 1, [], []),
  (15, ([rv_r 16, rv_i (-1) 255], [rv_i 1 1], []), [], 0, [], [])]
set_option maxRecDepth 100000 in
theorem a_X3_close_0 : rv_all (fm_tm, flX3, fm_wr, kcX3, klX3, K_X3_close_0.2.2.1, [1], 2) ct_X3_close_0 cd_X3_close n_X3_close_0 K_X3_close_0 [] 0 n_X3_close_0 = true := by decide +kernel
theorem m_X3_close_0 {l : Launch} {D : va_G} {ad : Nat → Nat} {cy : Nat → ClassId} {Z : State → Heap → Prop} {Gp : fm_V → Prop} (hAd : fm_Ad fm_tm ad) (hZ : fm_Zk (fm_A fm_tm ad) Z) (hGd : fm_Gd Gp) : rv_Met l D fm_cl fm_tm ad cy fm_nt Z Gp yX3_close (.code yX3_close prog_5_method_5_code 2 (some .boolean) :: fm_Ts) { frames := 1, cells := 0, slots := 0, locals := 100 } K_X3_close_0 := rv_met hAd hZ (by decide +kernel) evX3 dc_X3_close a_X3_close_0 ⟨rfl, rfl, rfl⟩ (by decide +kernel) (by decide +kernel) (by decide) (fm_gm hGd (by decide +kernel)) (Or.inr ⟨rfl, by decide, by decide⟩) (fun p e s m args below meth c Q X Y => List.forall_mem_cons.mpr ⟨rv_ctV X Y fm_Ts_good dc_X3_close (pc := 1) (i := 1) (idx := 39) rfl (m_X3_next_0 hAd hZ hGd) wl_X3_39 wm_X3_next wy_X3_next (by decide) ⟨rfl, rfl, rfl⟩ ⟨rfl, rfl⟩, List.forall_mem_cons.mpr ⟨rv_ctV X Y fm_Ts_good dc_X3_close (pc := 10) (i := 6) (idx := 43) rfl (m_X3_fail_0 hAd hZ hGd) wl_X3_43 wm_X3_fail wy_X3_fail (by decide) ⟨rfl, rfl, rfl⟩ ⟨rfl, rfl⟩, fun _ h => absurd h List.not_mem_nil⟩⟩) (fun _ _ _ _ _ _ _ _ _ _ _ _ _ _ _ _ h => absurd h List.not_mem_nil)
def K_X3_readFactor_5 : rv_K := ([rv_r 16, rv_i 5 5], [], [(16, 3), (16, 4), (17, 2), (18, 9999), (19, 9999)], [(0, 0, 1)], [], [])
def ct_X3_readFactor_5 : List (Nat × rv_K) := [(1, K_X3_next_0), (9, K_X3_open_0), (15, K_X3_readSum_6), (19, K_X3_close_0), (26, K_X3_isDigit_0), (29, K_X3_readNumber_0), (44, K_X3_fail_0), (56, K_X1_putStep_0)]
def n_X3_readFactor_5 : List rv_N := [
  (0, ([rv_r 16, rv_i 5 5, rv_u, rv_u], [], []), [1], 29, [], []),
  (1, ([rv_r 16, rv_i 5 5, rv_u, rv_u], [rv_r 16], []), [2], 28, [], [0]),
  (2, ([rv_r 16, rv_i 5 5, rv_u, rv_u], [rv_i (-1) 255], []), [3], 27, [], []),
  (3, ([rv_r 16, rv_i 5 5, rv_i (-1) 255, rv_u], [], []), [4], 26, [], []),
  (4, ([rv_r 16, rv_i 5 5, rv_i (-1) 255, rv_u], [(1, 0, (-1), 255, [(.inl 2, 0)], [])], []), [5], 25, [], []),
  (5, ([rv_r 16, rv_i 5 5, rv_i (-1) 255, rv_u], [rv_i 91 91, (1, 0, (-1), 255, [(.inl 2, 0)], [])], []), [6, 26], 24, [], []),
  (6, ([rv_r 16, rv_i 5 5, rv_i 91 91, rv_u], [], []), [7], 17, [], []),
  (7, ([rv_r 16, rv_i 5 5, rv_i 91 91, rv_u], [rv_r 16], []), [8], 16, [], []),
  (8, ([rv_r 16, rv_i 5 5, rv_i 91 91, rv_u], [rv_i 91 91, rv_r 16], []), [9], 15, [], []),
  (9, ([rv_r 16, rv_i 5 5, rv_i 91 91, rv_u], [(1, 0, 5, 5, [(.inl 1, 0)], []), rv_i 91 91, rv_r 16], []), [10], 14, [], [1]),
  (10, ([rv_r 16, rv_i 5 5, rv_i 91 91, rv_u], [(1, 0, 0, 1, [], [(.inl 1, (-2147483648), 5)])], []), [11, 23], 13, [], []),
  (11, ([rv_r 16, rv_i 5 5, rv_i 91 91, rv_u], [], []), [12], 12, [], []),
  (12, ([rv_r 16, rv_i 5 5, rv_i 91 91, rv_u], [rv_r 16], []), [13], 11, [], []),
  (13, ([rv_r 16, rv_i 5 5, rv_i 91 91, rv_u], [(1, 0, 5, 5, [(.inl 1, 0)], []), rv_r 16], []), [14], 10, [], []),
  (14, ([rv_r 16, rv_i 5 5, rv_i 91 91, rv_u], [rv_i 1 1, (1, 0, 5, 5, [(.inl 1, 0)], []), rv_r 16], []), [15], 9, [], []),
  (15, ([rv_r 16, rv_i 5 5, rv_i 91 91, rv_u], [(1, 0, 6, 6, [(.inl 1, 1)], []), rv_r 16], []), [16], 8, [], [2]),
  (16, ([rv_r 16, rv_i 5 5, rv_i 91 91, rv_u], [rv_i 0 1], []), [17, 23], 7, [], []),
  (17, ([rv_r 16, rv_i 5 5, rv_i 91 91, rv_u], [], []), [18], 6, [], []),
  (18, ([rv_r 16, rv_i 5 5, rv_i 91 91, rv_u], [rv_r 16], []), [19], 5, [], []),
  (19, ([rv_r 16, rv_i 5 5, rv_i 91 91, rv_u], [rv_i 93 93, rv_r 16], []), [20], 4, [], [3]),
  (20, ([rv_r 16, rv_i 5 5, rv_i 91 91, rv_u], [rv_i 0 1], []), [21, 23], 3, [], []),
  (21, ([rv_r 16, rv_i 5 5, rv_i 91 91, rv_u], [], []), [22], 2, [], []),
  (22, ([rv_r 16, rv_i 5 5, rv_i 91 91, rv_u], [rv_i 1 1], []), [25], 1, [], []),
  (23, ([rv_r 16, rv_i 5 5, rv_i 91 91, rv_u], [], []), [24], 1, [], []),
  (24, ([rv_r 16, rv_i 5 5, rv_i 91 91, rv_u], [rv_i 0 0], []), [], 0, [], []),
  (24, ([rv_r 16, rv_i 5 5, rv_i 91 91, rv_u], [rv_i 1 1], []), [], 0, [], []),
  (25, ([rv_r 16, rv_i 5 5, rv_i (-1) 255, rv_u], [], []), [27], 23, [], []),
  (26, ([rv_r 16, rv_i 5 5, rv_i (-1) 255, rv_u], [(1, 0, (-1), 255, [(.inl 2, 0)], [])], []), [28], 22, [], [4]),
  (27, ([rv_r 16, rv_i 5 5, rv_i (-1) 255, rv_u], [(1, 0, 0, 1, [], [(.inl 2, 48, 57)])], []), [29, 32], 21, [], []),
  (28, ([rv_r 16, rv_i 5 5, rv_i 48 57, rv_u], [], []), [30], 2, [], []),
  (29, ([rv_r 16, rv_i 5 5, rv_i 48 57, rv_u], [rv_r 16], []), [31], 1, [], [5]),
  (30, ([rv_r 16, rv_i 5 5, rv_i 48 57, rv_u], [rv_i 0 1], []), [], 0, [], []),
  (31, ([rv_r 16, rv_i 5 5, rv_i (-1) 255, rv_u], [], []), [33], 20, [], []),
  (32, ([rv_r 16, rv_i 5 5, rv_i (-1) 255, rv_u], [(1, 0, (-1), 255, [(.inl 2, 0)], [])], []), [34, 36], 19, [], []),
  (33, ([rv_r 16, rv_i 5 5, rv_i (-1) (-1), rv_u], [], []), [35], 18, [], []),
  (34, ([rv_r 16, rv_i 5 5, rv_i (-1) (-1), rv_u], [rv_i (-1) (-1)], []), [37], 17, [], []),
  (35, ([rv_r 16, rv_i 5 5, rv_i 0 255, rv_u], [], []), [38], 17, [], []),
  (39, ([rv_r 16, rv_i 5 5, rv_i (-1) (-1), rv_u], [rv_i (-1) (-1)], []), [39], 16, [], []),
  (39, ([rv_r 16, rv_i 5 5, rv_i 0 255, rv_u], [rv_i (-1) 12], []), [39], 16, [], []),
  (40, ([rv_r 16, rv_i 5 5, rv_i (-1) 255, rv_i (-1) 12], [], []), [40], 15, [], []),
  (41, ([rv_r 16, rv_i 5 5, rv_i (-1) 255, rv_i (-1) 12], [(1, 0, (-1), 12, [(.inl 3, 0)], [])], []), [41, 45], 14, [], []),
  (42, ([rv_r 16, rv_i 5 5, rv_i (-1) 255, rv_i (-1) (-1)], [], []), [42], 3, [], []),
  (43, ([rv_r 16, rv_i 5 5, rv_i (-1) 255, rv_i (-1) (-1)], [rv_r 16], []), [43], 2, [], []),
  (44, ([rv_r 16, rv_i 5 5, rv_i (-1) 255, rv_i (-1) (-1)], [rv_i 1 1, rv_r 16], []), [44], 1, [], [6]),
  (45, ([rv_r 16, rv_i 5 5, rv_i (-1) 255, rv_i (-1) (-1)], [rv_i 0 0], []), [], 0, [], []),
  (46, ([rv_r 16, rv_i 5 5, rv_i (-1) 255, rv_i 0 12], [], []), [46], 13, [], []),
  (47, ([rv_r 16, rv_i 5 5, rv_i (-1) 255, rv_i 0 12], [rv_r 16], []), [47], 12, [], []),
  (48, ([rv_r 16, rv_i 5 5, rv_i (-1) 255, rv_i 0 12], [rv_r 16, rv_r 16], []), [48], 11, [], []),
  (49, ([rv_r 16, rv_i 5 5, rv_i (-1) 255, rv_i 0 12], [(1, 0, (-2147483648), 2147483647, [(.inr (16, 3), 0)], []), rv_r 16], []), [49], 10, [], []),
  (50, ([rv_r 16, rv_i 5 5, rv_i (-1) 255, rv_i 0 12], [rv_i 1 1, (1, 0, (-2147483648), 2147483647, [(.inr (16, 3), 0)], []), rv_r 16], []), [50], 9, [], []),
  (51, ([rv_r 16, rv_i 5 5, rv_i (-1) 255, rv_i 0 12], [(1, 0, (-2147483648), 2147483647, [(.inr (16, 3), 1)], []), rv_r 16], []), [51], 8, [], []),
  (52, ([rv_r 16, rv_i 5 5, rv_i (-1) 255, rv_i 0 12], [], []), [52], 7, [], []),
  (53, ([rv_r 16, rv_i 5 5, rv_i (-1) 255, rv_i 0 12], [rv_r 16], []), [53], 6, [], []),
  (54, ([rv_r 16, rv_i 5 5, rv_i (-1) 255, rv_i 0 12], [rv_r 17], []), [54], 5, [], []),
  (55, ([rv_r 16, rv_i 5 5, rv_i (-1) 255, rv_i 0 12], [rv_i 1 1, rv_r 17], []), [55], 4, [], []),
  (56, ([rv_r 16, rv_i 5 5, rv_i (-1) 255, rv_i 0 12], [(1, 0, 0, 12, [(.inl 3, 0)], []), rv_i 1 1, rv_r 17], []), [56], 3, [], [7]),
  (57, ([rv_r 16, rv_i 5 5, rv_i (-1) 255, rv_i 0 12], [rv_i (-1) 199], []), [57], 2, [], []),
  (58, ([rv_r 16, rv_i 5 5, rv_i (-1) 255, rv_i 0 12], [], []), [58], 1, [], []),
  (59, ([rv_r 16, rv_i 5 5, rv_i (-1) 255, rv_i 0 12], [rv_i 1 1], []), [], 0, [], [])]
set_option maxRecDepth 100000 in
theorem a_X3_readFactor_5 : rv_all (fm_tm, flX3, fm_wr, kcX3, klX3, K_X3_readFactor_5.2.2.1, [], 4) ct_X3_readFactor_5 cd_X3_readFactor n_X3_readFactor_5 K_X3_readFactor_5 [36] 0 n_X3_readFactor_5 = true := by decide +kernel
theorem m_X3_readFactor_5 {l : Launch} {D : va_G} {ad : Nat → Nat} {cy : Nat → ClassId} {Z : State → Heap → Prop} {Gp : fm_V → Prop} (hAd : fm_Ad fm_tm ad) (hZ : fm_Zk (fm_A fm_tm ad) Z) (hGd : fm_Gd Gp) : rv_Met l D fm_cl fm_tm ad cy fm_nt Z Gp yX3_readFactor (.code yX3_readFactor prog_5_method_14_code 4 (some .boolean) :: fm_Ts) { frames := 5, cells := 0, slots := 0, locals := 500 } K_X3_readFactor_5 := rv_met hAd hZ (by decide +kernel) evX3 dc_X3_readFactor a_X3_readFactor_5 ⟨rfl, rfl, rfl⟩ (by decide +kernel) (by decide +kernel) (by decide) (fm_gm hGd (by decide +kernel)) (Or.inr ⟨rfl, by decide, by decide⟩) (fun p e s m args below meth c Q X Y => List.forall_mem_cons.mpr ⟨rv_ctV X Y fm_Ts_good dc_X3_readFactor (pc := 1) (i := 1) (idx := 39) rfl (m_X3_next_0 hAd hZ hGd) wl_X3_39 wm_X3_next wy_X3_next (by decide) ⟨rfl, rfl, rfl⟩ ⟨rfl, rfl⟩, List.forall_mem_cons.mpr ⟨rv_ctV X Y fm_Ts_good dc_X3_readFactor (pc := 15) (i := 9) (idx := 79) rfl (m_X3_open_0 hAd hZ hGd) wl_X3_79 wm_X3_open wy_X3_open (by decide) ⟨rfl, rfl, rfl⟩ ⟨rfl, rfl⟩, List.forall_mem_cons.mpr ⟨rv_ctV X Y fm_Ts_good dc_X3_readFactor (pc := 25) (i := 15) (idx := 73) rfl (m_X3_readSum_6 hAd hZ hGd) wl_X3_73 wm_X3_readSum wy_X3_readSum (by decide) ⟨rfl, rfl, rfl⟩ ⟨rfl, rfl⟩, List.forall_mem_cons.mpr ⟨rv_ctV X Y fm_Ts_good dc_X3_readFactor (pc := 34) (i := 19) (idx := 86) rfl (m_X3_close_0 hAd hZ hGd) wl_X3_86 wm_X3_close wy_X3_close (by decide) ⟨rfl, rfl, rfl⟩ ⟨rfl, rfl⟩, List.forall_mem_cons.mpr ⟨rv_ctS X Y fm_Ts_good dc_X3_readFactor (pc := 47) (i := 26) (idx := 125) rfl (m_X3_isDigit_0 hAd hZ hGd) wl_X3_125 wm_X3_isDigit wy_X3_isDigit (by decide) rfl, List.forall_mem_cons.mpr ⟨rv_ctV X Y fm_Ts_good dc_X3_readFactor (pc := 54) (i := 29) (idx := 128) rfl (m_X3_readNumber_0 hAd hZ hGd) wl_X3_128 wm_X3_readNumber wy_X3_readNumber (by decide) ⟨rfl, rfl, rfl⟩ ⟨rfl, rfl⟩, List.forall_mem_cons.mpr ⟨rv_ctV X Y fm_Ts_good dc_X3_readFactor (pc := 80) (i := 44) (idx := 43) rfl (m_X3_fail_0 hAd hZ hGd) wl_X3_43 wm_X3_fail wy_X3_fail (by decide) ⟨rfl, rfl, rfl⟩ ⟨rfl, rfl⟩, List.forall_mem_cons.mpr ⟨rv_ctV X Y fm_Ts_good dc_X3_readFactor (pc := 100) (i := 56) (idx := 108) rfl (m_X1_putStep_0 hAd hZ hGd) wl_X3_108 wm_X1_putStep wy_X1_putStep (by decide) ⟨rfl, rfl, rfl⟩ ⟨rfl, rfl⟩, fun _ h => absurd h List.not_mem_nil⟩⟩⟩⟩⟩⟩⟩⟩) (by sorry)
end
