section
/-! THE WORLD AS NUMBERS: every cell of the world is known by a template; what changes is a number at a place (cell, field or index). -/
abbrev fm_V : Type := Nat → Nat → Int32
/-- a field: a number between two bounds, or a reference to a cell for good -/
abbrev fm_F : Type := (Int × Int) ⊕ Nat
/-- a cell: an array (type's place, length, bounds of its numbers), or an object (class, fields) -/
abbrev fm_C : Type := (Nat × Nat × Int × Int) ⊕ (Nat × List fm_F)
def fm_val (ad : Nat → Nat) (x : Int32) (t : fm_F) : Value := match t with
  | .inl _ => .int x
  | .inr j => .ref (ad j)
def fm_fs (ad : Nat → Nat) (f : Nat → Int32) (ts : List fm_F) : List Value := (List.range ts.length).map (fun k => fm_val ad (f k) (ts.getD k (.inl (0, 0))))
def fm_cell (ad : Nat → Nat) (cy : Nat → ClassId) (f : Nat → Int32) (t : fm_C) : va_E := match t with
  | .inl a => .inl (cy a.1, a.2.1, .inl f)
  | .inr o => .inr (o.1, fm_fs ad f o.2)
def fm_ws (tm : List fm_C) (ad : Nat → Nat) (cy : Nat → ClassId) (V : fm_V) : va_W := (List.range tm.length).map (fun i => (ad i, fm_cell ad cy (V i) (tm.getD i (.inl (0, 0, 0, 0)))))
def fm_up (V : fm_V) (i k : Nat) (x : Int32) : fm_V := fun a b => if a = i ∧ b = k then x else V a b
theorem fm_fs_get {ad : Nat → Nat} {f : Nat → Int32} {ts : List fm_F} {k : Nat} {t : fm_F} (h : ts[k]? = some t) : (fm_fs ad f ts)[k]? = some (fm_val ad (f k) t) := by
  have hk : k < ts.length := (List.getElem?_eq_some_iff.mp h).1
  simp [fm_fs, List.getElem?_map, List.getElem?_range hk, List.getD, h]
theorem fm_fs_len {ad : Nat → Nat} {f : Nat → Int32} {ts : List fm_F} : (fm_fs ad f ts).length = ts.length := by simp [fm_fs]
theorem fm_ws_get {tm : List fm_C} {ad : Nat → Nat} {cy : Nat → ClassId} {V : fm_V} {i : Nat} {t : fm_C} (h : tm[i]? = some t) : (fm_ws tm ad cy V)[i]? = some (ad i, fm_cell ad cy (V i) t) := by
  have hk : i < tm.length := (List.getElem?_eq_some_iff.mp h).1
  simp [fm_ws, List.getElem?_map, List.getElem?_range hk, List.getD, h]
theorem fm_ws_len {tm : List fm_C} {ad : Nat → Nat} {cy : Nat → ClassId} {V : fm_V} : (fm_ws tm ad cy V).length = tm.length := by simp [fm_ws]
theorem fm_up_self {V : fm_V} {i k : Nat} {x : Int32} : fm_up V i k x i k = x := by simp [fm_up]
theorem fm_up_ne {V : fm_V} {i k a b : Nat} {x : Int32} (h : ¬ (a = i ∧ b = k)) : fm_up V i k x a b = V a b := by simp only [fm_up, if_neg h]
theorem fm_ws_up {tm : List fm_C} {ad : Nat → Nat} {cy : Nat → ClassId} {V : fm_V} {i k : Nat} {x : Int32} {t : fm_C} {e : va_E} (h : tm[i]? = some t) (he : e = fm_cell ad cy (fm_up V i k x i) t) : (fm_ws tm ad cy V).set i (ad i, e) = fm_ws tm ad cy (fm_up V i k x) := by
  have hi : i < tm.length := (List.getElem?_eq_some_iff.mp h).1
  apply List.ext_getElem?
  intro j
  rw [List.getElem?_set]
  by_cases hj : i = j
  · subst hj
    rw [if_pos rfl, if_pos (by rw [fm_ws_len]; exact hi), fm_ws_get h, he]
  · rw [if_neg hj]
    by_cases hl : j < tm.length
    · have h2 : tm[j]? = some tm[j] := List.getElem?_eq_getElem hl
      rw [fm_ws_get h2, fm_ws_get h2]
      have e2 : fm_up V i k x j = V j := by
        funext b
        exact fm_up_ne (fun q => hj q.1.symm)
      rw [e2]
    · rw [List.getElem?_eq_none (by rw [fm_ws_len]; omega), List.getElem?_eq_none (by rw [fm_ws_len]; omega)]
theorem fm_fs_up {ad : Nat → Nat} {V : fm_V} {i k : Nat} {x : Int32} {ts : List fm_F} {r : Int × Int} (h : ts[k]? = some (.inl r)) : (fm_fs ad (V i) ts).set k (.int x) = fm_fs ad (fm_up V i k x i) ts := by
  have hk : k < ts.length := (List.getElem?_eq_some_iff.mp h).1
  apply List.ext_getElem?
  intro j
  rw [List.getElem?_set]
  by_cases hj : k = j
  · subst hj
    rw [if_pos rfl, if_pos (by rw [fm_fs_len]; exact hk), fm_fs_get h, fm_up_self]
    rfl
  · rw [if_neg hj]
    by_cases hl : j < ts.length
    · have h2 : ts[j]? = some ts[j] := List.getElem?_eq_getElem hl
      rw [fm_fs_get h2, fm_fs_get h2, fm_up_ne (fun q => hj q.2.symm)]
    · rw [List.getElem?_eq_none (by rw [fm_fs_len]; omega), List.getElem?_eq_none (by rw [fm_fs_len]; omega)]
theorem fm_upd {V : fm_V} {i k : Nat} {x : Int32} : upd (V i) k x = fm_up V i k x i := by
  funext b
  by_cases hb : b = k
  · subst hb
    simp [fm_up, upd]
  · simp [fm_up, upd, hb]
/-- the array classes: of ints, of bytes, of booleans -/
def fm_tys (cy : Nat → ClassId) : List (ClassId × FieldType) := [(cy 0, .int), (cy 1, .byte), (cy 2, .boolean)]
section FM
variable {p : Program} {l : Launch} {e : Env} {R : Room} {s : State} {m : MethodId} {args : Array Value} {below : List Frame} {meth : Method} {c : Code} {Q : State → Prop} {cc : ByteArray} {own : String} {D : va_G} {cl : List vw_C} {tm : List fm_C} {ad : Nat → Nat} {cy : Nat → ClassId} {A : Nat → Prop} {Ts : List Cond} {nL : Nat}
/-- the machine at pc, with such locals and stack, in a world of such numbers, comes to Q -/
def fm_W (p : Program) (l : Launch) (e : Env) (R : Room) (s : State) (m : MethodId) (args : Array Value) (below : List Frame) (meth : Method) (c : Code) (Q : State → Prop) (D : va_G) (cl : List vw_C) (tm : List fm_C) (ad : Nat → Nat) (cy : Nat → ClassId) (A : Nat → Prop) (V : fm_V) (pc : Nat) (ls : Array Slot) (st : List Value) : Prop :=
  ∀ (H : Heap) (locs : List Loc), va_P D cl (fm_ws tm ad cy V) H → va_S A s.heap H locs → W p l e R s m args below meth c H locs 0 0 Q (F0 m pc ls st)
/-- what holds all through a method's body -/
def fm_X (p : Program) (s : State) (m : MethodId) (args : Array Value) (c : Code) (cc : ByteArray) (own : String) (D : va_G) (cl : List vw_C) (tm : List fm_C) (ad : Nat → Nat) (cy : Nat → ClassId) (A : Nat → Prop) (Ts : List Cond) (nL : Nat) : Prop :=
  p.tables.exec = Jvm.exec ∧ c.code = cc ∧ s.vm.findClass own = some m.cls ∧ (∀ w ∈ Ts, w.before args s = true) ∧ va_K D cl (fm_tys cy) s ∧ (∀ V : fm_V, va_D A (fm_ws tm ad cy V)) ∧ c.maxLocals = nL
/-- a row of the pool that names a field: class ci of cl, its field k -/
def fm_Lk (cl : List vw_C) (Ts : List Cond) (own : String) (index ci k : Nat) : Prop := ∃ (C : String) (T : u_T) (N : Nat), cl[ci]? = some (C, T, N) ∧ (∀ w ∈ u_ws C T N, w ∈ Ts) ∧ k < N ∧ Cond.fieldLink own index C (T k).2.1 (T k).2.2.1 ∈ Ts ∧ (T k).1 = C
def fm_Cl (cl : List vw_C) (ci : Nat) : Prop := ∃ (C : String) (T : u_T) (N : Nat) (ty : Nat → FieldType), cl[ci]? = some (C, T, N) ∧ (∀ k, k < N → parseFieldDescriptor (T k).2.2.1 = some (ty k)) ∧ (∀ a, a < N → ∀ b, b < N → a ≠ b → (T a).2.1 ≠ (T b).2.1)
theorem fm_get (X : fm_X p s m args c cc own D cl tm ad cy A Ts nL) {index i ci k pc : Nat} {ts : List fm_F} {t : fm_F} {V : fm_V} {ls : Array Slot} {rest : List Value} (hL : fm_Lk cl Ts own index ci k) (hi : tm[i]? = some (.inr (ci, ts))) (hk : ts[k]? = some t) (hd : decode cc pc = .ok (.getfield index, 3))
    (kk : fm_W p l e R s m args below meth c Q D cl tm ad cy A V (pc + 3) ls (fm_val ad (V i k) t :: rest)) : fm_W p l e R s m args below meth c Q D cl tm ad cy A V pc ls (.ref (ad i) :: rest) := by
  obtain ⟨hx, hb, hown, hts, hK, hD, hml⟩ := X
  obtain ⟨C, T, N, hc, hin, hkN, hlk, hT⟩ := hL
  intro H locs hP hS
  have he := fm_ws_get (ad := ad) (cy := cy) (V := V) hi
  exact va_get (D := D) (ci := ci) (ref := C) (fs := fm_fs ad (V i) ts) hx hb hts hin hown hK hP i he hc k hkN (hts _ hlk) (fun x h => by rw [hT] at h; exact h) (fm_fs_get hk) hd (kk H locs hP hS)
theorem fm_put (X : fm_X p s m args c cc own D cl tm ad cy A Ts nL) {index i ci k pc : Nat} {ts : List fm_F} {r : Int × Int} {V : fm_V} {x : Int32} {ls : Array Slot} {rest : List Value} (hL : fm_Lk cl Ts own index ci k) (hC : fm_Cl cl ci) (hfin : ∀ (C : String) (T : u_T) (N : Nat), cl[ci]? = some (C, T, N) → (T k).2.2.2 = false ∧ ∃ ty, parseFieldDescriptor (T k).2.2.1 = some ty ∧ narrow ty (.int x) = .int x ∧ fits ty (.int x) = true) (hi : tm[i]? = some (.inr (ci, ts))) (hk : ts[k]? = some (.inl r)) (hd : decode cc pc = .ok (.putfield index, 3))
    (kk : fm_W p l e R s m args below meth c Q D cl tm ad cy A (fm_up V i k x) (pc + 3) ls rest) : fm_W p l e R s m args below meth c Q D cl tm ad cy A V pc ls (.int x :: .ref (ad i) :: rest) := by
  obtain ⟨hx, hb, hown, hts, hK, hD, hml⟩ := X
  obtain ⟨C, T, N, hc, hin, hkN, hlk, hT⟩ := hL
  obtain ⟨C', T', N', ty0, hc', hty, hnm⟩ := hC
  obtain ⟨rfl, rfl, rfl⟩ : C' = C ∧ T' = T ∧ N' = N := by
    have h := Option.some.inj (hc'.symm.trans hc)
    exact ⟨congrArg Prod.fst h, congrArg (fun q => q.2.1) h, congrArg (fun q => q.2.2) h⟩
  obtain ⟨hf, ty, h1, h2, h3⟩ := hfin _ _ _ hc
  intro H locs hP hS
  have he := fm_ws_get (ad := ad) (cy := cy) (V := V) hi
  have e1 : (fm_ws tm ad cy V).set i (ad i, .inr (ci, (fm_fs ad (V i) ts).set k (.int x))) = fm_ws tm ad cy (fm_up V i k x) := fm_ws_up hi (by rw [fm_fs_up hk]; rfl)
  refine va_put (D := D) (ci := ci) (ref := C') (fs := fm_fs ad (V i) ts) hx hb hts hin ty0 hty hnm hown hK hP (hD V) hS i he hc k hkN (hts _ hlk) (fun x h => by rw [hT] at h; exact h) hf h1 h2 h3 (by rw [fm_fs_len]; exact (List.getElem?_eq_some_iff.mp hk).1) hd (fun H1 locs1 hP1 _ hS1 => ?_)
  rw [e1] at hP1
  exact kk H1 locs1 hP1 hS1
theorem fm_ald0 (X : fm_X p s m args c cc own D cl tm ad cy A Ts nL) {i n pc : Nat} {lo hi : Int} {V : fm_V} {j : Int32} {ls : Array Slot} {rest : List Value} (hi0 : tm[i]? = some (.inl (0, n, lo, hi))) (hin : vp_in j n) (hd : decode cc pc = .ok (.iaload, 1))
    (kk : fm_W p l e R s m args below meth c Q D cl tm ad cy A V (pc + 1) ls (.int (V i j.toNatClampNeg) :: rest)) : fm_W p l e R s m args below meth c Q D cl tm ad cy A V pc ls (.int j :: .ref (ad i) :: rest) := by
  obtain ⟨hx, hb, hown, hts, hK, hD, hml⟩ := X
  intro H locs hP hS
  exact va_iald hx hb hK hP i 0 (fm_ws_get (ad := ad) (cy := cy) (V := V) hi0) rfl hin hd (kk H locs hP hS)
theorem fm_ald1 (X : fm_X p s m args c cc own D cl tm ad cy A Ts nL) {i n pc : Nat} {lo hi : Int} {V : fm_V} {j : Int32} {ls : Array Slot} {rest : List Value} (hi0 : tm[i]? = some (.inl (1, n, lo, hi))) (hin : vp_in j n) (hd : decode cc pc = .ok (.baload, 1))
    (kk : fm_W p l e R s m args below meth c Q D cl tm ad cy A V (pc + 1) ls (.int (V i j.toNatClampNeg) :: rest)) : fm_W p l e R s m args below meth c Q D cl tm ad cy A V pc ls (.int j :: .ref (ad i) :: rest) := by
  obtain ⟨hx, hb, hown, hts, hK, hD, hml⟩ := X
  intro H locs hP hS
  exact va_bald hx hb hK hP i 1 (fm_ws_get (ad := ad) (cy := cy) (V := V) hi0) rfl hin hd (kk H locs hP hS)
theorem fm_ald2 (X : fm_X p s m args c cc own D cl tm ad cy A Ts nL) {i n pc : Nat} {lo hi : Int} {V : fm_V} {j : Int32} {ls : Array Slot} {rest : List Value} (hi0 : tm[i]? = some (.inl (2, n, lo, hi))) (hin : vp_in j n) (hd : decode cc pc = .ok (.baload, 1))
    (kk : fm_W p l e R s m args below meth c Q D cl tm ad cy A V (pc + 1) ls (.int (V i j.toNatClampNeg) :: rest)) : fm_W p l e R s m args below meth c Q D cl tm ad cy A V pc ls (.int j :: .ref (ad i) :: rest) := by
  obtain ⟨hx, hb, hown, hts, hK, hD, hml⟩ := X
  intro H locs hP hS
  exact va_zald hx hb hK hP i 2 (fm_ws_get (ad := ad) (cy := cy) (V := V) hi0) rfl hin hd (kk H locs hP hS)
theorem fm_ast0 (X : fm_X p s m args c cc own D cl tm ad cy A Ts nL) {i n pc : Nat} {lo hi : Int} {V : fm_V} {j x : Int32} {ls : Array Slot} {rest : List Value} (hi0 : tm[i]? = some (.inl (0, n, lo, hi))) (hin : vp_in j n) (hd : decode cc pc = .ok (.iastore, 1))
    (kk : fm_W p l e R s m args below meth c Q D cl tm ad cy A (fm_up V i j.toNatClampNeg x) (pc + 1) ls rest) : fm_W p l e R s m args below meth c Q D cl tm ad cy A V pc ls (.int x :: .int j :: .ref (ad i) :: rest) := by
  obtain ⟨hx, hb, hown, hts, hK, hD, hml⟩ := X
  intro H locs hP hS
  refine va_iast hx hb hK hP (hD V) hS i 0 (fm_ws_get (ad := ad) (cy := cy) (V := V) hi0) rfl hin hd (fun H1 locs1 hP1 _ hS1 => ?_)
  have e1 := fm_ws_up (ad := ad) (cy := cy) (V := V) (i := i) (k := j.toNatClampNeg) (x := x) (e := .inl (cy 0, n, .inl (upd (V i) j.toNatClampNeg x))) hi0 (by rw [fm_upd]; rfl)
  rw [e1] at hP1
  exact kk H1 locs1 hP1 hS1
theorem fm_ast1 (X : fm_X p s m args c cc own D cl tm ad cy A Ts nL) {i n pc : Nat} {lo hi : Int} {V : fm_V} {j x : Int32} {ls : Array Slot} {rest : List Value} (hi0 : tm[i]? = some (.inl (1, n, lo, hi))) (hin : vp_in j n) (hd : decode cc pc = .ok (.bastore, 1))
    (kk : fm_W p l e R s m args below meth c Q D cl tm ad cy A (fm_up V i j.toNatClampNeg (vp_nar .byte x)) (pc + 1) ls rest) : fm_W p l e R s m args below meth c Q D cl tm ad cy A V pc ls (.int x :: .int j :: .ref (ad i) :: rest) := by
  obtain ⟨hx, hb, hown, hts, hK, hD, hml⟩ := X
  intro H locs hP hS
  refine va_bast hx hb hK hP (hD V) hS i 1 (fm_ws_get (ad := ad) (cy := cy) (V := V) hi0) rfl hin hd (fun H1 locs1 hP1 _ hS1 => ?_)
  have e1 := fm_ws_up (ad := ad) (cy := cy) (V := V) (i := i) (k := j.toNatClampNeg) (x := vp_nar .byte x) (e := .inl (cy 1, n, .inl (upd (V i) j.toNatClampNeg (vp_nar .byte x)))) hi0 (by rw [fm_upd]; rfl)
  rw [e1] at hP1
  exact kk H1 locs1 hP1 hS1
theorem fm_ast2 (X : fm_X p s m args c cc own D cl tm ad cy A Ts nL) {i n pc : Nat} {lo hi : Int} {V : fm_V} {j x : Int32} {ls : Array Slot} {rest : List Value} (hi0 : tm[i]? = some (.inl (2, n, lo, hi))) (hin : vp_in j n) (hd : decode cc pc = .ok (.bastore, 1))
    (kk : fm_W p l e R s m args below meth c Q D cl tm ad cy A (fm_up V i j.toNatClampNeg (vp_nar .boolean x)) (pc + 1) ls rest) : fm_W p l e R s m args below meth c Q D cl tm ad cy A V pc ls (.int x :: .int j :: .ref (ad i) :: rest) := by
  obtain ⟨hx, hb, hown, hts, hK, hD, hml⟩ := X
  intro H locs hP hS
  refine va_zast hx hb hK hP (hD V) hS i 2 (fm_ws_get (ad := ad) (cy := cy) (V := V) hi0) rfl hin hd (fun H1 locs1 hP1 _ hS1 => ?_)
  have e1 := fm_ws_up (ad := ad) (cy := cy) (V := V) (i := i) (k := j.toNatClampNeg) (x := vp_nar .boolean x) (e := .inl (cy 2, n, .inl (upd (V i) j.toNatClampNeg (vp_nar .boolean x)))) hi0 (by rw [fm_upd]; rfl)
  rw [e1] at hP1
  exact kk H1 locs1 hP1 hS1
/-- a store into the locals: of a value of one slot, where no long is known -/
theorem fm_sto {ls : Array Slot} {i : Nat} {v : Value} (hs : ls.size = nL) (hw : lv_wf ls) (hi : i < nL) (hc : v.category = 1) :
    ∃ ls', storeLocals ls i v = some ls' ∧ ls'.size = nL ∧ lv_wf ls' ∧ ls'[i]? = some (.val v) ∧ ∀ (k : Nat) (w : Value), k ≠ i → ls[k]? = some (.val w) → w.category = 1 → ls'[k]? = some (.val w) := by
  have key : ∀ (k : Nat) (w : Value), ls[k]? = some (.val w) → lv_has ls nL [(k, w)] := fun k w h => ⟨hs, hw, fun q hq => by rw [List.mem_singleton.mp hq]; exact h⟩
  obtain ⟨ls', e', h'⟩ := lv_store1 (ls := ls) (nL := nL) (l := []) (v := v) ⟨hs, hw, fun q hq => by cases hq⟩ hi hc
  refine ⟨ls', e', h'.1, h'.2.1, h'.2.2 (i, v) List.mem_cons_self, fun k w hk hl hcw => ?_⟩
  obtain ⟨ls2, e2, h2⟩ := lv_store1 (v := v) (key k w hl) hi hc
  rw [e'] at e2
  cases e2
  refine h2.2.2 (k, w) (List.mem_cons_of_mem _ (List.mem_filter.mpr ⟨List.mem_singleton.mpr rfl, ?_⟩))
  simp [hk, hcw]
end FM
end
section
/-! Int32 in whole numbers: every operation up to a multiple of 2^32. -/
theorem zi_rng (x : Int32) : -2147483648 ≤ x.toInt ∧ x.toInt ≤ 2147483647 := by
  have h1 := Int32.le_toInt x
  have h2 := Int32.toInt_lt x
  omega
theorem zi_bm (z : Int) : ∃ k : Int, z.bmod (2 ^ 32) = z + 4294967296 * k := by
  have h : z.bmod (2 ^ 32) = if z % 4294967296 < 2147483648 then z % 4294967296 else z % 4294967296 - 4294967296 := by
    simp [Int.bmod]
  rw [h]
  by_cases hc : z % 4294967296 < 2147483648
  · rw [if_pos hc]
    exact ⟨-(z / 4294967296), by omega⟩
  · rw [if_neg hc]
    exact ⟨-(z / 4294967296) - 1, by omega⟩
theorem zi_add (x y : Int32) : ∃ k : Int, (x + y).toInt = x.toInt + y.toInt + 4294967296 * k := by
  rw [Int32.toInt_add]
  exact zi_bm _
theorem zi_sub (x y : Int32) : ∃ k : Int, (x - y).toInt = x.toInt - y.toInt + 4294967296 * k := by
  rw [Int32.toInt_sub]
  exact zi_bm _
theorem zi_mul (x y : Int32) : ∃ k : Int, (x * y).toInt = x.toInt * y.toInt + 4294967296 * k := by
  rw [Int32.toInt_mul]
  exact zi_bm _
theorem zi_inj {x y : Int32} (h : x.toInt = y.toInt) : x = y := Int32.toInt_inj.mp h
theorem zi_of {z : Int} (h1 : -2147483648 ≤ z) (h2 : z ≤ 2147483647) : (Int32.ofInt z).toInt = z := Int32.toInt_ofInt_of_le (by omega) (by omega)
theorem zi_lt {x y : Int32} : x < y ↔ x.toInt < y.toInt := Int32.lt_iff_toInt_lt
theorem zi_le {x y : Int32} : x ≤ y ↔ x.toInt ≤ y.toInt := Int32.le_iff_toInt_le
theorem zi_0 : (0 : Int32).toInt = 0 := rfl
theorem zi_1 : (1 : Int32).toInt = 1 := rfl
theorem zi_nat {x : Int32} (h : 0 ≤ x.toInt) : x.toInt = (x.toBitVec.toNat : Int) := by
  have h1 : x.toInt = x.toBitVec.toInt := rfl
  rw [h1] at h ⊢
  rw [BitVec.toInt_eq_toNat_cond] at h ⊢
  have := x.toBitVec.isLt
  split
  · rfl
  · rename_i hc
    rw [if_neg hc] at h
    omega
theorem zi_ofnat {x : Int32} (h : x.toBitVec.toNat < 2147483648) : x.toInt = (x.toBitVec.toNat : Int) := by
  have h1 : x.toInt = x.toBitVec.toInt := rfl
  rw [h1, BitVec.toInt_eq_toNat_cond, if_pos (by omega)]
theorem zi_and {x y : Int32} (h : 0 ≤ y.toInt) : 0 ≤ (x &&& y).toInt ∧ (x &&& y).toInt ≤ y.toInt := by
  have hy := zi_nat h
  have hr := zi_rng y
  have h1 : (x &&& y).toBitVec.toNat = x.toBitVec.toNat &&& y.toBitVec.toNat := by
    rw [Int32.toBitVec_and, BitVec.toNat_and]
  have h2 : (x &&& y).toBitVec.toNat ≤ y.toBitVec.toNat := by rw [h1]; exact Nat.and_le_right
  have h3 := zi_ofnat (x := x &&& y) (by omega)
  omega
theorem zi_and' {x y : Int32} (h : 0 ≤ x.toInt) : 0 ≤ (x &&& y).toInt ∧ (x &&& y).toInt ≤ x.toInt := by
  have hy := zi_nat h
  have hr := zi_rng x
  have h1 : (x &&& y).toBitVec.toNat = x.toBitVec.toNat &&& y.toBitVec.toNat := by
    rw [Int32.toBitVec_and, BitVec.toNat_and]
  have h2 : (x &&& y).toBitVec.toNat ≤ x.toBitVec.toNat := by rw [h1]; exact Nat.and_le_left
  have h3 := zi_ofnat (x := x &&& y) (by omega)
  omega
theorem zi_bit {x : Int32} (h1 : 0 ≤ x.toInt) (h2 : x.toInt ≤ 1) : x = 0 ∨ x = 1 := by
  rcases (show x.toInt = 0 ∨ x.toInt = 1 by omega) with h | h
  · exact Or.inl (zi_inj h)
  · exact Or.inr (zi_inj h)
theorem zi_or {x y : Int32} (h1 : 0 ≤ x.toInt) (h2 : x.toInt ≤ 1) (h3 : 0 ≤ y.toInt) (h4 : y.toInt ≤ 1) : 0 ≤ (x ||| y).toInt ∧ (x ||| y).toInt ≤ 1 := by
  rcases zi_bit h1 h2 with rfl | rfl <;> rcases zi_bit h3 h4 with rfl | rfl <;> decide
theorem zi_clamp {x : Int32} : x.toNatClampNeg = x.toInt.toNat := rfl
theorem zi_in {x : Int32} {n : Nat} (h1 : 0 ≤ x.toInt) (h2 : x.toInt < n) : vp_in x n := vp_in_iff.mpr ⟨h1, h2⟩
theorem zi_b8 (x : Int32) : -128 ≤ (x.toInt8.toInt32).toInt ∧ (x.toInt8.toInt32).toInt ≤ 127 := by
  have h1 := Int8.le_toInt x.toInt8
  have h2 := Int8.toInt_lt x.toInt8
  rw [Int8.toInt_toInt32]
  omega
theorem zi_nb {x : Int32} (h1 : -128 ≤ x.toInt) (h2 : x.toInt ≤ 127) : vp_nar .byte x = x := by
  rw [vp_nar_byte]
  apply zi_inj
  rw [Int8.toInt_toInt32, Int32.toInt_toInt8]
  have h : x.toInt.bmod (2 ^ 8) = if x.toInt % 256 < 128 then x.toInt % 256 else x.toInt % 256 - 256 := by
    simp [Int.bmod]
  rw [h]
  split <;> omega
theorem zi_nz {x : Int32} (h1 : 0 ≤ x.toInt) (h2 : x.toInt ≤ 1) : vp_nar .boolean x = x := by
  rcases zi_bit h1 h2 with rfl | rfl <;> rfl
theorem zi_i64 (x : Int32) : x.toInt64.toInt = x.toInt := Int32.toInt_toInt64 x
end
section
/-! WHAT A PROGRAM KNOWS OF A PLACE IN A METHOD: locals, stack and some places of the world, by bounds. -/
/-- a variable: a local, or a place of the world (cell, index; an index from 5000 on: that of the local index - 5000) -/
abbrev rv_U : Type := Nat ⊕ (Nat × Nat)
/-- a value: 1 a number (1: not 0; bounds; variable + offset that it is; what holds if it isn't 0), 2 a reference to a cell, 3 a long -/
abbrev rv_A : Type := Nat × Nat × Int × Int × List (rv_U × Int) × List (rv_U × Int × Int)
/-- a fact of a place: bounds; bounds of its difference to what a place held at the method's start -/
abbrev rv_Fa : Type := (Nat × Nat) × Int × Int × List ((Nat × Nat) × Int × Int)
abbrev rv_S : Type := List rv_A × List rv_A × List rv_Fa
def rv_lx (ls : Array Slot) (k : Nat) : Int := match ls[k]? with
  | some (.val (.int y)) => y.toInt
  | _ => 0
def rv_ix (ls : Array Slot) (f : Nat) : Nat := if f < 5000 then f else (rv_lx ls (f - 5000)).toNat
def rv_uv (V : fm_V) (ls : Array Slot) (u : rv_U) : Int := match u with
  | .inl k => rv_lx ls k
  | .inr q => (V q.1 (rv_ix ls q.2)).toInt
theorem rv_lx_rng (ls : Array Slot) (k : Nat) : -2147483648 ≤ rv_lx ls k ∧ rv_lx ls k ≤ 2147483647 := by
  unfold rv_lx
  split
  · exact zi_rng _
  · omega
theorem rv_uv_rng (V : fm_V) (ls : Array Slot) (u : rv_U) : -2147483648 ≤ rv_uv V ls u ∧ rv_uv V ls u ≤ 2147483647 := by
  cases u with
  | inl k => exact rv_lx_rng ls k
  | inr q => exact zi_rng _
theorem rv_lx_at {ls : Array Slot} {k : Nat} {y : Int32} (h : ls[k]? = some (.val (.int y))) : rv_lx ls k = y.toInt := by
  unfold rv_lx
  rw [h]
def rv_l (a : rv_A) : Int := a.2.2.1
def rv_h (a : rv_A) : Int := a.2.2.2.1
def rv_al (a : rv_A) : List (rv_U × Int) := a.2.2.2.2.1
def rv_cs (a : rv_A) : List (rv_U × Int × Int) := a.2.2.2.2.2
def rv_oI (V : fm_V) (ls : Array Slot) (a : rv_A) (v : Value) : Prop := ∃ x : Int32, v = .int x ∧ rv_l a ≤ x.toInt ∧ x.toInt ≤ rv_h a ∧ (a.2.1 = 1 → x.toInt ≠ 0) ∧ (∀ q ∈ rv_al a, ∃ k : Int, x.toInt = rv_uv V ls q.1 + q.2 + 4294967296 * k) ∧ (x.toInt ≠ 0 → ∀ q ∈ rv_cs a, q.2.1 ≤ rv_uv V ls q.1 ∧ rv_uv V ls q.1 ≤ q.2.2)
def rv_oL (V : fm_V) (ls : Array Slot) (a : rv_A) (v : Value) : Prop := ∃ x : Int64, v = .long x ∧ rv_l a ≤ x.toInt ∧ x.toInt ≤ rv_h a ∧ (∀ q ∈ rv_al a, ∃ k : Int, x.toInt = rv_uv V ls q.1 + q.2 + 4294967296 * k)
def rv_ok (ad : Nat → Nat) (V : fm_V) (ls : Array Slot) (a : rv_A) (v : Value) : Prop := if a.1 = 1 then rv_oI V ls a v else if a.1 = 2 then v = .ref (ad a.2.1) else if a.1 = 3 then rv_oL V ls a v else False
def rv_lok (ad : Nat → Nat) (ls : Array Slot) (k : Nat) (a : rv_A) : Prop := if a.1 = 1 then ∃ y : Int32, ls[k]? = some (.val (.int y)) ∧ rv_l a ≤ y.toInt ∧ y.toInt ≤ rv_h a ∧ (a.2.1 = 1 → y.toInt ≠ 0) else if a.1 = 2 then ls[k]? = some (.val (.ref (ad a.2.1))) else True
def rv_fok (V0 V : fm_V) (ls : Array Slot) (q : rv_Fa) : Prop := (q.2.1 ≤ rv_uv V ls (.inr q.1) ∧ rv_uv V ls (.inr q.1) ≤ q.2.2.1) ∧ ∀ r ∈ q.2.2.2, r.2.1 ≤ rv_uv V ls (.inr q.1) - (V0 r.1.1 r.1.2).toInt ∧ rv_uv V ls (.inr q.1) - (V0 r.1.1 r.1.2).toInt ≤ r.2.2
def rv_sk (P : rv_A → Value → Prop) : List rv_A → List Value → Prop
  | [], [] => True
  | a :: as, v :: vs => P a v ∧ rv_sk P as vs
  | _, _ => False
theorem rv_sk_cons {P : rv_A → Value → Prop} {a : rv_A} {as : List rv_A} {st : List Value} (h : rv_sk P (a :: as) st) : ∃ v vs, st = v :: vs ∧ P a v ∧ rv_sk P as vs := by
  cases st with
  | nil => exact absurd h (by simp [rv_sk])
  | cons v vs => exact ⟨v, vs, rfl, h.1, h.2⟩
theorem rv_sk_nil {P : rv_A → Value → Prop} {st : List Value} (h : rv_sk P [] st) : st = [] := by
  cases st with
  | nil => rfl
  | cons v vs => exact absurd h (by simp [rv_sk])
theorem rv_sk_map {P P' : rv_A → Value → Prop} (f : rv_A → rv_A) (h : ∀ a v, P a v → P' (f a) v) : ∀ {as : List rv_A} {st : List Value}, rv_sk P as st → rv_sk P' (as.map f) st := by
  intro as
  induction as with
  | nil => intro st hs; rw [rv_sk_nil hs]; exact trivial
  | cons a as ih =>
    intro st hs
    obtain ⟨v, vs, rfl, h1, h2⟩ := rv_sk_cons hs
    exact ⟨h a v h1, ih h2⟩
theorem rv_sk_len {P : rv_A → Value → Prop} : ∀ {as : List rv_A} {st : List Value}, rv_sk P as st → st.length = as.length := by
  intro as
  induction as with
  | nil => intro st hs; rw [rv_sk_nil hs]; rfl
  | cons a as ih =>
    intro st hs
    obtain ⟨v, vs, rfl, h1, h2⟩ := rv_sk_cons hs
    simp [ih h2]
/-- what is known holds -/
def rv_G (ad : Nat → Nat) (V0 V : fm_V) (ls : Array Slot) (st : List Value) (G : rv_S) : Prop := (∀ (k : Nat) (a : rv_A), G.1[k]? = some a → rv_lok ad ls k a) ∧ rv_sk (rv_ok ad V ls) G.2.1 st ∧ ∀ q ∈ G.2.2, rv_fok V0 V ls q
theorem rv_okI {ad : Nat → Nat} {V : fm_V} {ls : Array Slot} {a : rv_A} {v : Value} (h1 : a.1 = 1) (h : rv_ok ad V ls a v) : rv_oI V ls a v := by
  unfold rv_ok at h
  rw [if_pos h1] at h
  exact h
theorem rv_okR {ad : Nat → Nat} {V : fm_V} {ls : Array Slot} {a : rv_A} {v : Value} (h1 : a.1 = 2) (h : rv_ok ad V ls a v) : v = .ref (ad a.2.1) := by
  unfold rv_ok at h
  rw [if_neg (by omega), if_pos h1] at h
  exact h
theorem rv_okL {ad : Nat → Nat} {V : fm_V} {ls : Array Slot} {a : rv_A} {v : Value} (h1 : a.1 = 3) (h : rv_ok ad V ls a v) : rv_oL V ls a v := by
  unfold rv_ok at h
  rw [if_neg (by omega), if_neg (by omega), if_pos h1] at h
  exact h
theorem rv_okI' {ad : Nat → Nat} {V : fm_V} {ls : Array Slot} {a : rv_A} {v : Value} (h1 : a.1 = 1) (h : rv_oI V ls a v) : rv_ok ad V ls a v := by
  unfold rv_ok
  rw [if_pos h1]
  exact h
theorem rv_okR' {ad : Nat → Nat} {V : fm_V} {ls : Array Slot} {a : rv_A} {v : Value} (h1 : a.1 = 2) (h : v = .ref (ad a.2.1)) : rv_ok ad V ls a v := by
  unfold rv_ok
  rw [if_neg (by omega), if_pos h1]
  exact h
theorem rv_okL' {ad : Nat → Nat} {V : fm_V} {ls : Array Slot} {a : rv_A} {v : Value} (h1 : a.1 = 3) (h : rv_oL V ls a v) : rv_ok ad V ls a v := by
  unfold rv_ok
  rw [if_neg (by omega), if_neg (by omega), if_pos h1]
  exact h
/-- a bare number -/
theorem rv_okB {ad : Nat → Nat} {V : fm_V} {ls : Array Slot} {lo hi : Int} {x : Int32} (h1 : lo ≤ x.toInt) (h2 : x.toInt ≤ hi) : rv_ok ad V ls (1, 0, lo, hi, [], []) (.int x) :=
  rv_okI' rfl ⟨x, rfl, h1, h2, fun h => absurd (show (0 : Nat) = 1 from h) (by decide), fun q h => absurd h List.not_mem_nil, fun _ q h => absurd h List.not_mem_nil⟩
theorem rv_ok_cat {ad : Nat → Nat} {V : fm_V} {ls : Array Slot} {a : rv_A} {v : Value} (h : rv_ok ad V ls a v) : v.category = if a.1 = 3 then 2 else 1 := by
  unfold rv_ok at h
  by_cases c1 : a.1 = 1
  · rw [if_pos c1] at h
    obtain ⟨x, rfl, -⟩ := h
    rw [if_neg (by omega)]
    rfl
  · rw [if_neg c1] at h
    by_cases c2 : a.1 = 2
    · rw [if_pos c2] at h
      rw [h, if_neg (by omega)]
      rfl
    · rw [if_neg c2] at h
      by_cases c3 : a.1 = 3
      · rw [if_pos c3] at h
        obtain ⟨x, rfl, -⟩ := h
        rw [if_pos c3]
        rfl
      · rw [if_neg c3] at h
        exact h.elim
/-! bounds of a number -/
def rv_nm (lo hi : Int) : Int × Int := if -2147483648 ≤ lo ∧ hi ≤ 2147483647 then (lo, hi) else (-2147483648, 2147483647)
theorem rv_nm_ok {lo hi z : Int} {w : Int32} {k : Int} (h1 : lo ≤ z) (h2 : z ≤ hi) (hw : w.toInt = z + 4294967296 * k) : (rv_nm lo hi).1 ≤ w.toInt ∧ w.toInt ≤ (rv_nm lo hi).2 := by
  have hr := zi_rng w
  unfold rv_nm
  by_cases c : -2147483648 ≤ lo ∧ hi ≤ 2147483647
  · rw [if_pos c]
    dsimp only
    omega
  · rw [if_neg c]
    exact hr
def rv_full : rv_A := (1, 0, -2147483648, 2147483647, [], [])
theorem rv_full_ok {ad : Nat → Nat} {V : fm_V} {ls : Array Slot} (x : Int32) : rv_ok ad V ls rv_full (.int x) := rv_okB (zi_rng x).1 (zi_rng x).2
def rv_mv (al : List (rv_U × Int)) (n : Int) : List (rv_U × Int) := al.map (fun q => (q.1, q.2 + n))
/-- two numbers: 0 add, 1 sub, 2 mul, 3 and, 4 or, 5 any other, from 6 on: one that wants the second not to be 0 -/
def rv_bin (op : Nat) (a b : rv_A) : Option rv_A :=
  if a.1 = 1 ∧ b.1 = 1 then
    match op with
    | 0 => some (1, 0, (rv_nm (rv_l a + rv_l b) (rv_h a + rv_h b)).1, (rv_nm (rv_l a + rv_l b) (rv_h a + rv_h b)).2, (if rv_l b = rv_h b then rv_mv (rv_al a) (rv_l b) else if rv_l a = rv_h a then rv_mv (rv_al b) (rv_l a) else []), [])
    | 1 => some (1, 0, (rv_nm (rv_l a - rv_h b) (rv_h a - rv_l b)).1, (rv_nm (rv_l a - rv_h b) (rv_h a - rv_l b)).2, (if rv_l b = rv_h b then rv_mv (rv_al a) (-rv_l b) else []), [])
    | 2 => if rv_l b = rv_h b ∧ 0 ≤ rv_l b then some (1, 0, (rv_nm (rv_l a * rv_l b) (rv_h a * rv_l b)).1, (rv_nm (rv_l a * rv_l b) (rv_h a * rv_l b)).2, [], [])
      else if rv_l a = rv_h a ∧ 0 ≤ rv_l a then some (1, 0, (rv_nm (rv_l b * rv_l a) (rv_h b * rv_l a)).1, (rv_nm (rv_l b * rv_l a) (rv_h b * rv_l a)).2, [], [])
      else some rv_full
    | 3 => if 0 ≤ rv_l b then some (1, 0, 0, rv_h b, [], []) else if 0 ≤ rv_l a then some (1, 0, 0, rv_h a, [], []) else some rv_full
    | 4 => if (0 ≤ rv_l a ∧ rv_h a ≤ 1) ∧ 0 ≤ rv_l b ∧ rv_h b ≤ 1 then some (1, 0, 0, 1, [], []) else some rv_full
    | 5 => some rv_full
    | _ => if b.2.1 = 1 ∨ 0 < rv_l b ∨ rv_h b < 0 then some rv_full else none
  else none
def rv_rel (op : Nat) (x y z : Int32) : Prop := match op with
  | 0 => z = x + y
  | 1 => z = x - y
  | 2 => z = x * y
  | 3 => z = x &&& y
  | 4 => z = x ||| y
  | _ => True
theorem rv_mul_bd {a b c z : Int} (h0 : 0 ≤ c) (h1 : a ≤ z) (h2 : z ≤ b) : a * c ≤ z * c ∧ z * c ≤ b * c := ⟨Int.mul_le_mul_of_nonneg_right h1 h0, Int.mul_le_mul_of_nonneg_right h2 h0⟩
theorem rv_bin_ok {ad : Nat → Nat} {V : fm_V} {ls : Array Slot} {op : Nat} {a b r : rv_A} {va vb : Value} (h : rv_bin op a b = some r) (ha : rv_ok ad V ls a va) (hb : rv_ok ad V ls b vb) : ∃ x y : Int32, va = .int x ∧ vb = .int y ∧ (6 ≤ op → ¬ y = 0) ∧ ∀ z : Int32, rv_rel op x y z → rv_ok ad V ls r (.int z) := by
  unfold rv_bin at h
  by_cases c : a.1 = 1 ∧ b.1 = 1
  · rw [if_pos c] at h
    obtain ⟨x, rfl, x1, x2, x3, x4, x5⟩ := rv_okI c.1 ha
    obtain ⟨y, rfl, y1, y2, y3, y4, y5⟩ := rv_okI c.2 hb
    refine ⟨x, y, rfl, rfl, ?_, ?_⟩
    · intro h6
      match op, h6, h with
      | n + 6, _, h =>
        by_cases d : b.2.1 = 1 ∨ 0 < rv_l b ∨ rv_h b < 0
        · intro e
          have e0 : y.toInt = 0 := by rw [e]; rfl
          rcases d with d | d | d
          · exact y3 d e0
          · omega
          · omega
        · rw [if_neg d] at h
          cases h
    · intro z hz
      match op, h, hz with
      | 0, h, hz =>
        cases h
        obtain ⟨k, hk⟩ := zi_add x y
        have hz' : z.toInt = x.toInt + y.toInt + 4294967296 * k := by rw [show z = x + y from hz]; exact hk
        obtain ⟨b1, b2⟩ := rv_nm_ok (lo := rv_l a + rv_l b) (hi := rv_h a + rv_h b) (by omega) (by omega) hz'
        refine rv_okI' rfl ⟨z, rfl, b1, b2, fun q => absurd (show (0 : Nat) = 1 from q) (by decide), fun q hq => ?_, fun _ q hq => absurd hq List.not_mem_nil⟩
        simp only [rv_al] at hq
        by_cases d : rv_l b = rv_h b
        · rw [if_pos d] at hq
          obtain ⟨q0, hq0, rfl⟩ := List.mem_map.mp hq
          obtain ⟨k0, e0⟩ := x4 q0 hq0
          exact ⟨k + k0, by dsimp only; omega⟩
        · rw [if_neg d] at hq
          by_cases d2 : rv_l a = rv_h a
          · rw [if_pos d2] at hq
            obtain ⟨q0, hq0, rfl⟩ := List.mem_map.mp hq
            obtain ⟨k0, e0⟩ := y4 q0 hq0
            exact ⟨k + k0, by dsimp only; omega⟩
          · rw [if_neg d2] at hq
            cases hq
      | 1, h, hz =>
        cases h
        obtain ⟨k, hk⟩ := zi_sub x y
        have hz' : z.toInt = x.toInt - y.toInt + 4294967296 * k := by rw [show z = x - y from hz]; exact hk
        obtain ⟨b1, b2⟩ := rv_nm_ok (lo := rv_l a - rv_h b) (hi := rv_h a - rv_l b) (by omega) (by omega) hz'
        refine rv_okI' rfl ⟨z, rfl, b1, b2, fun q => absurd (show (0 : Nat) = 1 from q) (by decide), fun q hq => ?_, fun _ q hq => absurd hq List.not_mem_nil⟩
        simp only [rv_al] at hq
        by_cases d : rv_l b = rv_h b
        · rw [if_pos d] at hq
          obtain ⟨q0, hq0, rfl⟩ := List.mem_map.mp hq
          obtain ⟨k0, e0⟩ := x4 q0 hq0
          exact ⟨k + k0, by dsimp only; omega⟩
        · rw [if_neg d] at hq
          cases hq
      | 2, h, hz =>
        obtain ⟨k, hk⟩ := zi_mul x y
        have hz' : z.toInt = x.toInt * y.toInt + 4294967296 * k := by rw [show z = x * y from hz]; exact hk
        by_cases d : rv_l b = rv_h b ∧ 0 ≤ rv_l b
        · rw [if_pos d] at h
          cases h
          have ey : y.toInt = rv_l b := by omega
          rw [ey] at hz'
          obtain ⟨m1, m2⟩ := rv_mul_bd d.2 x1 x2
          obtain ⟨b1, b2⟩ := rv_nm_ok m1 m2 hz'
          exact rv_okB b1 b2
        · rw [if_neg d] at h
          by_cases d2 : rv_l a = rv_h a ∧ 0 ≤ rv_l a
          · rw [if_pos d2] at h
            cases h
            have ex : x.toInt = rv_l a := by omega
            rw [ex, Int.mul_comm] at hz'
            obtain ⟨m1, m2⟩ := rv_mul_bd d2.2 y1 y2
            obtain ⟨b1, b2⟩ := rv_nm_ok m1 m2 hz'
            exact rv_okB b1 b2
          · rw [if_neg d2] at h
            cases h
            exact rv_full_ok z
      | 3, h, hz =>
        have hz' : z = x &&& y := hz
        by_cases d : 0 ≤ rv_l b
        · rw [if_pos d] at h
          cases h
          obtain ⟨b1, b2⟩ := zi_and (x := x) (y := y) (by omega)
          rw [hz']
          exact rv_okB b1 (by omega)
        · rw [if_neg d] at h
          by_cases d2 : 0 ≤ rv_l a
          · rw [if_pos d2] at h
            cases h
            obtain ⟨b1, b2⟩ := zi_and' (x := x) (y := y) (by omega)
            rw [hz']
            exact rv_okB b1 (by omega)
          · rw [if_neg d2] at h
            cases h
            exact rv_full_ok z
      | 4, h, hz =>
        have hz' : z = x ||| y := hz
        by_cases d : (0 ≤ rv_l a ∧ rv_h a ≤ 1) ∧ 0 ≤ rv_l b ∧ rv_h b ≤ 1
        · rw [if_pos d] at h
          cases h
          obtain ⟨b1, b2⟩ := zi_or (x := x) (y := y) (by omega) (by omega) (by omega) (by omega)
          rw [hz']
          exact rv_okB b1 b2
        · rw [if_neg d] at h
          cases h
          exact rv_full_ok z
      | 5, h, hz =>
        cases h
        exact rv_full_ok z
      | n + 6, h, hz =>
        by_cases d : b.2.1 = 1 ∨ 0 < rv_l b ∨ rv_h b < 0
        · rw [if_pos d] at h
          cases h
          exact rv_full_ok z
        · rw [if_neg d] at h
          cases h
  · rw [if_neg c] at h
    cases h
end
section
/-! Narrowing what is known, and what stays known behind a store. -/
def rv_mx (a b : Int) : Int := if a ≤ b then b else a
def rv_mn (a b : Int) : Int := if a ≤ b then a else b
theorem rv_mx_le {a b z : Int} (h1 : a ≤ z) (h2 : b ≤ z) : rv_mx a b ≤ z := by
  unfold rv_mx
  split <;> assumption
theorem rv_le_mn {a b z : Int} (h1 : z ≤ a) (h2 : z ≤ b) : z ≤ rv_mn a b := by
  unfold rv_mn
  split <;> assumption
def rv_frf (q : Nat × Nat) (lo hi : Int) : List rv_Fa → List rv_Fa
  | [] => [(q, lo, hi, [])]
  | f :: F => if f.1 = q then (q, rv_mx f.2.1 lo, rv_mn f.2.2.1 hi, f.2.2.2) :: F else f :: rv_frf q lo hi F
theorem rv_frf_ok {V0 V : fm_V} {ls : Array Slot} {q : Nat × Nat} {lo hi : Int} (h1 : lo ≤ rv_uv V ls (.inr q)) (h2 : rv_uv V ls (.inr q) ≤ hi) : ∀ {F : List rv_Fa}, (∀ f ∈ F, rv_fok V0 V ls f) → ∀ f ∈ rv_frf q lo hi F, rv_fok V0 V ls f := by
  intro F
  induction F with
  | nil =>
    intro _ f hf
    rw [List.mem_singleton.mp (show f ∈ [(q, lo, hi, [])] from hf)]
    exact ⟨⟨h1, h2⟩, fun r hr => absurd hr List.not_mem_nil⟩
  | cons g F ih =>
    intro hF f hf
    unfold rv_frf at hf
    have hg := hF g List.mem_cons_self
    have hF' : ∀ f ∈ F, rv_fok V0 V ls f := fun f h => hF f (List.mem_cons_of_mem _ h)
    by_cases c : g.1 = q
    · rw [if_pos c] at hf
      rcases List.mem_cons.mp hf with e | h
      · rw [e]
        have hg2 := hg.2
        have hg1 := hg.1
        rw [c] at hg1 hg2
        exact ⟨⟨rv_mx_le hg1.1 h1, rv_le_mn hg1.2 h2⟩, hg2⟩
      · exact hF' f h
    · rw [if_neg c] at hf
      rcases List.mem_cons.mp hf with e | h
      · rw [e]; exact hg
      · exact ih hF' f h
def rv_rf (G : rv_S) (u : rv_U) (lo hi : Int) (nz : Bool) : rv_S := match u with
  | .inl k => match G.1[k]? with
    | some a => if a.1 = 1 then (G.1.set k (1, (if nz = true then 1 else a.2.1), rv_mx (rv_l a) lo, rv_mn (rv_h a) hi, [], []), G.2) else G
    | none => G
  | .inr q => (G.1, G.2.1, rv_frf q lo hi G.2.2)
theorem rv_rf_ok {ad : Nat → Nat} {V0 V : fm_V} {ls : Array Slot} {st : List Value} {G : rv_S} {u : rv_U} {lo hi : Int} {nz : Bool} (h : rv_G ad V0 V ls st G) (h1 : lo ≤ rv_uv V ls u) (h2 : rv_uv V ls u ≤ hi) (h3 : nz = true → rv_uv V ls u ≠ 0) : rv_G ad V0 V ls st (rv_rf G u lo hi nz) := by
  cases u with
  | inr q => exact ⟨h.1, h.2.1, rv_frf_ok h1 h2 h.2.2⟩
  | inl k =>
    show rv_G ad V0 V ls st (match G.1[k]? with
      | some a => if a.1 = 1 then (G.1.set k (1, (if nz = true then 1 else a.2.1), rv_mx (rv_l a) lo, rv_mn (rv_h a) hi, [], []), G.2) else G
      | none => G)
    cases hk : G.1[k]? with
    | none => exact h
    | some a =>
      dsimp only
      by_cases c : a.1 = 1
      · rw [if_pos c]
        refine ⟨fun j b hb => ?_, h.2.1, h.2.2⟩
        dsimp only at hb
        rw [List.getElem?_set] at hb
        by_cases hj : k = j
        · subst hj
          rw [if_pos rfl, if_pos (List.getElem?_eq_some_iff.mp hk).1] at hb
          cases hb
          have ha := h.1 k a hk
          unfold rv_lok at ha ⊢
          rw [if_pos c] at ha
          rw [if_pos rfl]
          obtain ⟨y, y1, y2, y3, y4⟩ := ha
          have ey : rv_uv V ls (.inl k) = y.toInt := rv_lx_at y1
          rw [ey] at h1 h2 h3
          refine ⟨y, y1, rv_mx_le y2 h1, rv_le_mn y3 h2, fun q => ?_⟩
          cases nz with
          | true => exact h3 rfl
          | false => exact y4 q
        · rw [if_neg hj] at hb
          exact h.1 j b hb
      · rw [if_neg c]
        exact h
def rv_rfA (nl nh : Int) (nz : Bool) : List (rv_U × Int) → rv_S → rv_S
  | [], G => G
  | q :: al, G => rv_rfA nl nh nz al (if -2147483648 ≤ nl - q.2 ∧ nh - q.2 ≤ 2147483647 then rv_rf G q.1 (nl - q.2) (nh - q.2) (nz && decide (q.2 = 0)) else G)
theorem rv_rfA_ok {ad : Nat → Nat} {V0 V : fm_V} {ls : Array Slot} {st : List Value} {nl nh z : Int} {nz : Bool} (h1 : nl ≤ z) (h2 : z ≤ nh) (h3 : nz = true → z ≠ 0) : ∀ {al : List (rv_U × Int)} {G : rv_S}, (∀ q ∈ al, ∃ k : Int, z = rv_uv V ls q.1 + q.2 + 4294967296 * k) → rv_G ad V0 V ls st G → rv_G ad V0 V ls st (rv_rfA nl nh nz al G) := by
  intro al
  induction al with
  | nil => intro G _ h; exact h
  | cons q al ih =>
    intro G hal h
    unfold rv_rfA
    refine ih (fun q hq => hal q (List.mem_cons_of_mem _ hq)) ?_
    by_cases c : -2147483648 ≤ nl - q.2 ∧ nh - q.2 ≤ 2147483647
    · rw [if_pos c]
      obtain ⟨k, hk⟩ := hal q List.mem_cons_self
      have hr := rv_uv_rng V ls q.1
      have e : rv_uv V ls q.1 = z - q.2 := by omega
      refine rv_rf_ok h (by omega) (by omega) (fun hz => ?_)
      simp only [Bool.and_eq_true, decide_eq_true_eq] at hz
      have := h3 hz.1
      omega
    · rw [if_neg c]
      exact h
def rv_rfC : List (rv_U × Int × Int) → rv_S → rv_S
  | [], G => G
  | q :: cs, G => rv_rfC cs (rv_rf G q.1 q.2.1 q.2.2 false)
theorem rv_rfC_ok {ad : Nat → Nat} {V0 V : fm_V} {ls : Array Slot} {st : List Value} : ∀ {cs : List (rv_U × Int × Int)} {G : rv_S}, (∀ q ∈ cs, q.2.1 ≤ rv_uv V ls q.1 ∧ rv_uv V ls q.1 ≤ q.2.2) → rv_G ad V0 V ls st G → rv_G ad V0 V ls st (rv_rfC cs G) := by
  intro cs
  induction cs with
  | nil => intro G _ h; exact h
  | cons q cs ih =>
    intro G hcs h
    unfold rv_rfC
    have hq := hcs q List.mem_cons_self
    exact ih (fun q hq => hcs q (List.mem_cons_of_mem _ hq)) (rv_rf_ok h hq.1 hq.2 (fun e => by cases e))
def rv_cmp (c : Nat) (l1 h1 l2 h2 : Int) : Int × Int × Int × Int := match c with
  | 0 => (rv_mx l1 l2, rv_mn h1 h2, rv_mx l1 l2, rv_mn h1 h2)
  | 1 => ((if l2 = h2 ∧ l1 = l2 then l1 + 1 else l1), (if l2 = h2 ∧ h1 = l2 then h1 - 1 else h1), (if l1 = h1 ∧ l2 = l1 then l2 + 1 else l2), (if l1 = h1 ∧ h2 = l1 then h2 - 1 else h2))
  | 2 => (l1, rv_mn h1 (h2 - 1), rv_mx l2 (l1 + 1), h2)
  | 3 => (rv_mx l1 l2, h1, l2, rv_mn h2 h1)
  | 4 => (rv_mx l1 (l2 + 1), h1, l2, rv_mn h2 (h1 - 1))
  | _ => (l1, rv_mn h1 h2, rv_mx l2 l1, h2)
def rv_cR (c : Nat) (x y : Int) : Prop := match c with
  | 0 => x = y
  | 1 => ¬ x = y
  | 2 => x < y
  | 3 => y ≤ x
  | 4 => y < x
  | _ => x ≤ y
theorem rv_cmp_ok {c : Nat} {l1 h1 l2 h2 x y : Int} (a1 : l1 ≤ x) (a2 : x ≤ h1) (b1 : l2 ≤ y) (b2 : y ≤ h2) (hc : rv_cR c x y) : ((rv_cmp c l1 h1 l2 h2).1 ≤ x ∧ x ≤ (rv_cmp c l1 h1 l2 h2).2.1) ∧ (rv_cmp c l1 h1 l2 h2).2.2.1 ≤ y ∧ y ≤ (rv_cmp c l1 h1 l2 h2).2.2.2 := by
  match c, hc with
  | 0, hc =>
    have hc : x = y := hc
    subst hc
    exact ⟨⟨rv_mx_le a1 b1, rv_le_mn a2 b2⟩, rv_mx_le a1 b1, rv_le_mn a2 b2⟩
  | 1, hc =>
    have hc : ¬ x = y := hc
    simp only [rv_cmp]
    refine ⟨⟨?_, ?_⟩, ?_, ?_⟩ <;> split <;> omega
  | 2, hc =>
    have hc : x < y := hc
    exact ⟨⟨a1, rv_le_mn a2 (by omega)⟩, rv_mx_le b1 (by omega), b2⟩
  | 3, hc =>
    have hc : y ≤ x := hc
    exact ⟨⟨rv_mx_le a1 (by omega), a2⟩, b1, rv_le_mn b2 (by omega)⟩
  | 4, hc =>
    have hc : y < x := hc
    exact ⟨⟨rv_mx_le a1 (by omega), a2⟩, b1, rv_le_mn b2 (by omega)⟩
  | n + 5, hc =>
    have hc : x ≤ y := hc
    exact ⟨⟨a1, rv_le_mn a2 (by omega)⟩, rv_mx_le b1 (by omega), b2⟩
/-- what is known where a comparison holds; none: it can't hold -/
def rv_br (c : Nat) (a b : rv_A) (G : rv_S) : Option rv_S :=
  if (rv_cmp c (rv_l a) (rv_h a) (rv_l b) (rv_h b)).1 ≤ (rv_cmp c (rv_l a) (rv_h a) (rv_l b) (rv_h b)).2.1 ∧ (rv_cmp c (rv_l a) (rv_h a) (rv_l b) (rv_h b)).2.2.1 ≤ (rv_cmp c (rv_l a) (rv_h a) (rv_l b) (rv_h b)).2.2.2
  then some (rv_rfA (rv_cmp c (rv_l a) (rv_h a) (rv_l b) (rv_h b)).2.2.1 (rv_cmp c (rv_l a) (rv_h a) (rv_l b) (rv_h b)).2.2.2 false (rv_al b)
    (rv_rfA (rv_cmp c (rv_l a) (rv_h a) (rv_l b) (rv_h b)).1 (rv_cmp c (rv_l a) (rv_h a) (rv_l b) (rv_h b)).2.1 (decide (c = 1 ∧ rv_l b = 0 ∧ rv_h b = 0)) (rv_al a)
      (if c = 1 ∧ rv_l b = 0 ∧ rv_h b = 0 then rv_rfC (rv_cs a) G else G)))
  else none
theorem rv_br_ok {ad : Nat → Nat} {V0 V : fm_V} {ls : Array Slot} {st : List Value} {G : rv_S} {c : Nat} {a b : rv_A} {va vb : Value} {x y : Int32} (ha : rv_oI V ls a (.int x)) (hb : rv_oI V ls b (.int y)) (hc : rv_cR c x.toInt y.toInt) (h : rv_G ad V0 V ls st G) : ∃ G', rv_br c a b G = some G' ∧ rv_G ad V0 V ls st G' := by
  obtain ⟨x', ex, x1, x2, x3, x4, x5⟩ := ha
  cases ex
  obtain ⟨y', ey, y1, y2, y3, y4, y5⟩ := hb
  cases ey
  obtain ⟨⟨b1, b2⟩, b3, b4⟩ := rv_cmp_ok x1 x2 y1 y2 hc
  unfold rv_br
  rw [if_pos ⟨by omega, by omega⟩]
  refine ⟨_, rfl, rv_rfA_ok b3 b4 (fun e => by cases e) y4 (rv_rfA_ok b1 b2 (fun e => ?_) x4 ?_)⟩
  · have e := of_decide_eq_true e
    obtain ⟨rfl, e1, e2⟩ := e
    have hc : ¬ x.toInt = y.toInt := hc
    omega
  · by_cases d : c = 1 ∧ rv_l b = 0 ∧ rv_h b = 0
    · rw [if_pos d]
      obtain ⟨rfl, e1, e2⟩ := d
      have hc : ¬ x.toInt = y.toInt := hc
      exact rv_rfC_ok (x5 (by omega)) h
    · rw [if_neg d]
      exact h
/-! what is forgotten -/
def rv_dA (d : rv_U → Bool) (a : rv_A) : rv_A := (a.1, a.2.1, rv_l a, rv_h a, (rv_al a).filter (fun q => !d q.1), (rv_cs a).filter (fun q => !d q.1))
theorem rv_dA_ok {ad : Nat → Nat} {V V' : fm_V} {ls ls' : Array Slot} {d : rv_U → Bool} (hd : ∀ u, d u = false → rv_uv V' ls' u = rv_uv V ls u) (a : rv_A) (v : Value) (h : rv_ok ad V ls a v) : rv_ok ad V' ls' (rv_dA d a) v := by
  by_cases c1 : a.1 = 1
  · obtain ⟨x, rfl, x1, x2, x3, x4, x5⟩ := rv_okI c1 h
    refine rv_okI' c1 ⟨x, rfl, x1, x2, x3, fun q hq => ?_, fun hx q hq => ?_⟩
    · obtain ⟨q1, q2⟩ := List.mem_filter.mp hq
      rw [hd q.1 (by simpa using q2)]
      exact x4 q q1
    · obtain ⟨q1, q2⟩ := List.mem_filter.mp hq
      rw [hd q.1 (by simpa using q2)]
      exact x5 hx q q1
  · by_cases c2 : a.1 = 2
    · exact rv_okR' (a := rv_dA d a) c2 (show v = .ref (ad a.2.1) from rv_okR c2 h)
    · by_cases c3 : a.1 = 3
      · obtain ⟨x, rfl, x1, x2, x4⟩ := rv_okL c3 h
        refine rv_okL' c3 ⟨x, rfl, x1, x2, fun q hq => ?_⟩
        obtain ⟨q1, q2⟩ := List.mem_filter.mp hq
        rw [hd q.1 (by simpa using q2)]
        exact x4 q q1
      · unfold rv_ok at h
        rw [if_neg c1, if_neg c2, if_neg c3] at h
        exact h.elim
def rv_dF (d : rv_U → Bool) (F : List rv_Fa) : List rv_Fa := F.filter (fun f => !d (.inr f.1))
theorem rv_dF_ok {V0 V V' : fm_V} {ls ls' : Array Slot} {d : rv_U → Bool} (hd : ∀ u, d u = false → rv_uv V' ls' u = rv_uv V ls u) {F : List rv_Fa} (h : ∀ f ∈ F, rv_fok V0 V ls f) : ∀ f ∈ rv_dF d F, rv_fok V0 V' ls' f := by
  intro f hf
  obtain ⟨f1, f2⟩ := List.mem_filter.mp hf
  have e := hd (.inr f.1) (by simpa using f2)
  have h1 := h f f1
  unfold rv_fok at h1 ⊢
  rw [e]
  exact h1
/-- a local is stored -/
def rv_mk (k : Nat) (u : rv_U) : Bool := match u with
  | .inl j => decide (j = k)
  | .inr q => decide (q.2 = 5000 + k)
theorem rv_mk_ok {V : fm_V} {ls ls' : Array Slot} {k : Nat} (h : ∀ j, j ≠ k → rv_lx ls' j = rv_lx ls j) : ∀ u, rv_mk k u = false → rv_uv V ls' u = rv_uv V ls u := by
  intro u hu
  cases u with
  | inl j => exact h j (by simpa [rv_mk] using hu)
  | inr q =>
    have hq : q.2 ≠ 5000 + k := by simpa [rv_mk] using hu
    show (V q.1 (rv_ix ls' q.2)).toInt = (V q.1 (rv_ix ls q.2)).toInt
    have e : rv_ix ls' q.2 = rv_ix ls q.2 := by
      unfold rv_ix
      by_cases c : q.2 < 5000
      · rw [if_pos c, if_pos c]
      · rw [if_neg c, if_neg c, h _ (by omega)]
    rw [e]
def rv_bare (a : rv_A) : rv_A := (a.1, a.2.1, rv_l a, rv_h a, [], [])
def rv_st (k : Nat) (a : rv_A) (G : rv_S) : rv_S := (G.1.set k (rv_bare a), G.2.1.map (rv_dA (rv_mk k)), rv_dF (rv_mk k) G.2.2)
/-- the locals behind a store -/
def rv_sto (ls ls' : Array Slot) (i : Nat) (v : Value) : Prop := ls'.size = ls.size ∧ lv_wf ls' ∧ ls'[i]? = some (.val v) ∧ (∀ (k : Nat) (w : Value), k ≠ i → ls[k]? = some (.val w) → w.category = 1 → ls'[k]? = some (.val w)) ∧ ∀ j, j ≠ i → rv_lx ls' j = rv_lx ls j
theorem rv_sto_of {ls : Array Slot} {i : Nat} {v : Value} (hw : lv_wf ls) (hi : i < ls.size) (hc : v.category = 1) : ∃ ls', storeLocals ls i v = some ls' ∧ rv_sto ls ls' i v := by
  obtain ⟨l1, c1, c2, c3⟩ := lv_clean v hw hi
  obtain ⟨l2, d1, d2, d3⟩ := lv_set (l := l1) (i := i) (.val v) (by omega)
  have e1 : storeLocals ls i v = some l2 := by
    rw [c1]
    simp [storeSelf, hc, d1]
  obtain ⟨ls', e', f1, f2, f3, f4⟩ := fm_sto (nL := ls.size) rfl hw hi hc
  rw [e1] at e'
  cases e'
  refine ⟨l2, e1, f1, f2, f3, f4, fun j hj => ?_⟩
  have g : l2[j]? = l1[j]? := by rw [d3 j, if_neg hj]
  unfold rv_lx
  rw [g, c3 j]
  by_cases c : (j + 1 = i ∧ ls[i]? = some .second) ∨ (j = i + 1 ∧ ls[j]? = some .second)
  · rw [if_pos c]
    rcases c with ⟨q1, q2⟩ | ⟨q1, q2⟩
    · obtain ⟨j', w, r1, r2, r3⟩ := hw.2 i q2
      have : j' = j := by omega
      subst this
      rw [r2]
      cases w <;> first | rfl | (exact absurd r3 (by simp [Value.category]))
    · rw [q2]
  · rw [if_neg c]
theorem rv_st_ok {ad : Nat → Nat} {V0 V : fm_V} {ls ls' : Array Slot} {v : Value} {st : List Value} {G : rv_S} {k : Nat} {a : rv_A} (hs : rv_sto ls ls' k v) (ha : rv_ok ad V ls a v) (h3 : a.1 ≠ 3) (h : rv_G ad V0 V ls st G) : rv_G ad V0 V ls' st (rv_st k a G) := by
  obtain ⟨s1, s2, s3, s4, s5⟩ := hs
  have hd := rv_mk_ok (V := V) s5
  refine ⟨fun j b hb => ?_, rv_sk_map _ (rv_dA_ok hd) h.2.1, rv_dF_ok hd h.2.2⟩
  unfold rv_st at hb
  dsimp only at hb
  rw [List.getElem?_set] at hb
  by_cases hj : k = j
  · subst hj
    rw [if_pos rfl] at hb
    by_cases hl : k < G.1.length
    · rw [if_pos hl] at hb
      cases hb
      unfold rv_lok
      by_cases c1 : a.1 = 1
      · obtain ⟨x, rfl, x1, x2, x3, -⟩ := rv_okI c1 ha
        rw [if_pos (show (rv_bare a).1 = 1 from c1)]
        exact ⟨x, s3, x1, x2, x3⟩
      · rw [if_neg (show ¬ (rv_bare a).1 = 1 from c1)]
        by_cases c2 : a.1 = 2
        · rw [if_pos (show (rv_bare a).1 = 2 from c2), s3, rv_okR c2 ha]
          rfl
        · rw [if_neg (show ¬ (rv_bare a).1 = 2 from c2)]
          trivial
    · rw [if_neg hl] at hb
      cases hb
  · rw [if_neg hj] at hb
    have hb2 := h.1 j b hb
    unfold rv_lok at hb2 ⊢
    by_cases c1 : b.1 = 1
    · rw [if_pos c1] at hb2 ⊢
      obtain ⟨y, y1, y2⟩ := hb2
      exact ⟨y, s4 j _ (Ne.symm hj) y1 rfl, y2⟩
    · rw [if_neg c1] at hb2 ⊢
      by_cases c2 : b.1 = 2
      · rw [if_pos c2] at hb2 ⊢
        exact s4 j _ (Ne.symm hj) hb2 rfl
      · rw [if_neg c2]
        trivial
/-- iinc -/
def rv_sh (k : Nat) (n : Int) (a : rv_A) : rv_A := (a.1, a.2.1, rv_l a, rv_h a, ((rv_al a).filter (fun q => match q.1 with | .inl _ => true | .inr p => !decide (p.2 = 5000 + k))).map (fun q => if q.1 = .inl k then (q.1, q.2 - n) else q), (rv_cs a).filter (fun q => !rv_mk k q.1))
def rv_inc (k : Nat) (n : Int) (a : rv_A) (G : rv_S) : rv_S := (G.1.set k (1, 0, (rv_nm (rv_l a + n) (rv_h a + n)).1, (rv_nm (rv_l a + n) (rv_h a + n)).2, [], []), G.2.1.map (rv_sh k n), rv_dF (rv_mk k) G.2.2)
theorem rv_sh_ok {ad : Nat → Nat} {V : fm_V} {ls ls' : Array Slot} {k : Nat} {n m : Int} (h : ∀ j, j ≠ k → rv_lx ls' j = rv_lx ls j) (hk : rv_lx ls' k = rv_lx ls k + n + 4294967296 * m) (a : rv_A) (v : Value) (ha : rv_ok ad V ls a v) : rv_ok ad V ls' (rv_sh k n a) v := by
  have hd := rv_mk_ok (V := V) h
  have key : ∀ (z : Int), (∀ q ∈ rv_al a, ∃ k : Int, z = rv_uv V ls q.1 + q.2 + 4294967296 * k) → ∀ q ∈ rv_al (rv_sh k n a), ∃ k : Int, z = rv_uv V ls' q.1 + q.2 + 4294967296 * k := by
    intro z hz q hq
    obtain ⟨q0, hq0, rfl⟩ := List.mem_map.mp hq
    obtain ⟨q1, q2⟩ := List.mem_filter.mp hq0
    obtain ⟨k0, e0⟩ := hz q0 q1
    by_cases c : q0.1 = .inl k
    · rw [if_pos c]
      rw [c] at e0
      have e1 : rv_uv V ls (.inl k) = rv_lx ls k := rfl
      have e2 : rv_uv V ls' q0.1 = rv_lx ls' k := by rw [c]; rfl
      exact ⟨k0 - m, by dsimp only; rw [e2, hk]; rw [e1] at e0; omega⟩
    · rw [if_neg c]
      refine ⟨k0, ?_⟩
      rw [hd q0.1 ?_]
      · exact e0
      · obtain ⟨u, off⟩ := q0
        cases u with
        | inl j => simp only [rv_mk, decide_eq_false_iff_not]; intro e; exact c (by rw [e])
        | inr p => simpa [rv_mk] using q2
  by_cases c1 : a.1 = 1
  · obtain ⟨x, rfl, x1, x2, x3, x4, x5⟩ := rv_okI c1 ha
    refine rv_okI' c1 ⟨x, rfl, x1, x2, x3, key _ x4, fun hx q hq => ?_⟩
    obtain ⟨q1, q2⟩ := List.mem_filter.mp hq
    rw [hd q.1 (by simpa using q2)]
    exact x5 hx q q1
  · by_cases c2 : a.1 = 2
    · exact rv_okR' (a := rv_sh k n a) c2 (show v = .ref (ad a.2.1) from rv_okR c2 ha)
    · by_cases c3 : a.1 = 3
      · obtain ⟨x, rfl, x1, x2, x4⟩ := rv_okL c3 ha
        exact rv_okL' c3 ⟨x, rfl, x1, x2, key _ x4⟩
      · unfold rv_ok at ha
        rw [if_neg c1, if_neg c2, if_neg c3] at ha
        exact ha.elim
theorem rv_inc_ok {ad : Nat → Nat} {V0 V : fm_V} {ls ls' : Array Slot} {st : List Value} {G : rv_S} {k : Nat} {n : Int} {a : rv_A} {y : Int32} (hn : -2147483648 ≤ n ∧ n ≤ 2147483647) (hy : ls[k]? = some (.val (.int y))) (hs : rv_sto ls ls' k (.int (y + Int32.ofInt n))) (hy1 : rv_l a ≤ y.toInt) (hy2 : y.toInt ≤ rv_h a) (h : rv_G ad V0 V ls st G) : rv_G ad V0 V ls' st (rv_inc k n a G) := by
  obtain ⟨s1, s2, s3, s4, s5⟩ := hs
  have hd := rv_mk_ok (V := V) s5
  obtain ⟨m, hm⟩ := zi_add y (Int32.ofInt n)
  rw [zi_of hn.1 hn.2] at hm
  have hk : rv_lx ls' k = rv_lx ls k + n + 4294967296 * m := by rw [rv_lx_at s3, rv_lx_at hy]; exact hm
  refine ⟨fun j b hb => ?_, rv_sk_map _ (rv_sh_ok s5 hk) h.2.1, rv_dF_ok hd h.2.2⟩
  unfold rv_inc at hb
  dsimp only at hb
  rw [List.getElem?_set] at hb
  by_cases hj : k = j
  · subst hj
    rw [if_pos rfl] at hb
    by_cases hl : k < G.1.length
    · rw [if_pos hl] at hb
      cases hb
      unfold rv_lok
      rw [if_pos rfl]
      obtain ⟨b1, b2⟩ := rv_nm_ok (lo := rv_l a + n) (hi := rv_h a + n) (z := y.toInt + n) (by omega) (by omega) hm
      exact ⟨_, s3, b1, b2, fun e => absurd (show (0 : Nat) = 1 from e) (by decide)⟩
    · rw [if_neg hl] at hb
      cases hb
  · rw [if_neg hj] at hb
    have hb2 := h.1 j b hb
    unfold rv_lok at hb2 ⊢
    by_cases c1 : b.1 = 1
    · rw [if_pos c1] at hb2 ⊢
      obtain ⟨y, y1, y2⟩ := hb2
      exact ⟨y, s4 j _ (Ne.symm hj) y1 rfl, y2⟩
    · rw [if_neg c1] at hb2 ⊢
      by_cases c2 : b.1 = 2
      · rw [if_pos c2] at hb2 ⊢
        exact s4 j _ (Ne.symm hj) hb2 rfl
      · rw [if_neg c2]
        trivial
end
section
/-! Places of the world: reads and stores. -/
/-- every number of the world lies in its template's bounds -/
def fm_Tm (tm : List fm_C) (V : fm_V) : Prop := (∀ (i t n : Nat) (lo hi : Int) (j : Nat), tm[i]? = some (.inl (t, n, lo, hi)) → j < n → lo ≤ (V i j).toInt ∧ (V i j).toInt ≤ hi) ∧ ∀ (i ci : Nat) (ts : List fm_F) (k : Nat) (lo hi : Int), tm[i]? = some (.inr (ci, ts)) → ts[k]? = some (.inl (lo, hi)) → lo ≤ (V i k).toInt ∧ (V i k).toInt ≤ hi
theorem fm_Tm_o {tm : List fm_C} {V : fm_V} {i ci k : Nat} {ts : List fm_F} {lo hi : Int} {x : Int32} (h : fm_Tm tm V) (hi0 : tm[i]? = some (.inr (ci, ts))) (hk : ts[k]? = some (.inl (lo, hi))) (h1 : lo ≤ x.toInt) (h2 : x.toInt ≤ hi) : fm_Tm tm (fm_up V i k x) := by
  refine ⟨fun i' t n lo' hi' j ht hj => ?_, fun i' ci' ts' k' lo' hi' ht hk' => ?_⟩
  · by_cases c : i' = i ∧ j = k
    · rw [c.1, hi0] at ht; cases ht
    · rw [fm_up_ne c]; exact h.1 i' t n lo' hi' j ht hj
  · by_cases c : i' = i ∧ k' = k
    · rw [c.1, hi0] at ht; cases ht
      rw [c.2, hk] at hk'; cases hk'
      rw [c.1, c.2, fm_up_self]
      exact ⟨h1, h2⟩
    · rw [fm_up_ne c]; exact h.2 i' ci' ts' k' lo' hi' ht hk'
theorem fm_Tm_a {tm : List fm_C} {V : fm_V} {i t n k : Nat} {lo hi : Int} {x : Int32} (h : fm_Tm tm V) (hi0 : tm[i]? = some (.inl (t, n, lo, hi))) (h1 : lo ≤ x.toInt) (h2 : x.toInt ≤ hi) : fm_Tm tm (fm_up V i k x) := by
  refine ⟨fun i' t' n' lo' hi' j ht hj => ?_, fun i' ci' ts' k' lo' hi' ht hk' => ?_⟩
  · by_cases c : i' = i ∧ j = k
    · rw [c.1, hi0] at ht; cases ht
      rw [c.1, c.2, fm_up_self]
      exact ⟨h1, h2⟩
    · rw [fm_up_ne c]; exact h.1 i' t' n' lo' hi' j ht hj
  · by_cases c : i' = i ∧ k' = k
    · rw [c.1, hi0] at ht; cases ht
    · rw [fm_up_ne c]; exact h.2 i' ci' ts' k' lo' hi' ht hk'
/-- a place's bounds out of the facts -/
def rv_fg (F : List rv_Fa) (q : Nat × Nat) (lo hi : Int) : Int × Int := match F.find? (fun f => decide (f.1 = q)) with
  | some f => (rv_mx lo f.2.1, rv_mn hi f.2.2.1)
  | none => (lo, hi)
theorem rv_find {F : List rv_Fa} {q : Nat × Nat} {f : rv_Fa} (h : F.find? (fun f => decide (f.1 = q)) = some f) : f ∈ F ∧ f.1 = q := ⟨List.mem_of_find?_eq_some h, by simpa using List.find?_some h⟩
theorem rv_fg_ok {V0 V : fm_V} {ls : Array Slot} {F : List rv_Fa} {q : Nat × Nat} {lo hi : Int} (hF : ∀ f ∈ F, rv_fok V0 V ls f) (h1 : lo ≤ rv_uv V ls (.inr q)) (h2 : rv_uv V ls (.inr q) ≤ hi) : (rv_fg F q lo hi).1 ≤ rv_uv V ls (.inr q) ∧ rv_uv V ls (.inr q) ≤ (rv_fg F q lo hi).2 := by
  unfold rv_fg
  cases hf : F.find? (fun f => decide (f.1 = q)) with
  | none => exact ⟨h1, h2⟩
  | some f =>
    obtain ⟨f1, f2⟩ := rv_find hf
    have h3 := (hF f f1).1
    rw [f2] at h3
    exact ⟨rv_mx_le h1 h3.1, rv_le_mn h2 h3.2⟩
def rv_rd (F : List rv_Fa) (q : Nat × Nat) (lo hi : Int) : rv_A := (1, 0, (rv_fg F q lo hi).1, (rv_fg F q lo hi).2, [(.inr q, 0)], [])
theorem rv_rd_ok {ad : Nat → Nat} {V0 V : fm_V} {ls : Array Slot} {F : List rv_Fa} {q : Nat × Nat} {lo hi : Int} {x : Int32} (hF : ∀ f ∈ F, rv_fok V0 V ls f) (hx : x = V q.1 (rv_ix ls q.2)) (h1 : lo ≤ x.toInt) (h2 : x.toInt ≤ hi) : rv_ok ad V ls (rv_rd F q lo hi) (.int x) := by
  have e : rv_uv V ls (.inr q) = x.toInt := by rw [hx]; rfl
  obtain ⟨b1, b2⟩ := rv_fg_ok (q := q) (lo := lo) (hi := hi) hF (by rw [e]; exact h1) (by rw [e]; exact h2)
  rw [e] at b1 b2
  refine rv_okI' rfl ⟨x, rfl, b1, b2, fun z => absurd (show (0 : Nat) = 1 from z) (by decide), fun r hr => ?_, fun _ r hr => absurd hr List.not_mem_nil⟩
  rw [List.mem_singleton.mp (show r ∈ [((.inr q : rv_U), (0 : Int))] from hr)]
  exact ⟨0, by dsimp only; omega⟩
/-- the place of an array that an index names, if it can be told -/
def rv_ipL : List (rv_U × Int) → Option Nat
  | [] => none
  | (.inl k, off) :: al => if off = 0 then some (5000 + k) else rv_ipL al
  | (.inr _, _) :: al => rv_ipL al
def rv_ip (b : rv_A) : Option Nat := if rv_l b = rv_h b ∧ 0 ≤ rv_l b ∧ rv_l b < 5000 then some (rv_l b).toNat else rv_ipL (rv_al b)
theorem rv_ipL_ok {V : fm_V} {ls : Array Slot} {z : Int} (hz : -2147483648 ≤ z ∧ z ≤ 2147483647) : ∀ {al : List (rv_U × Int)} {f : Nat}, (∀ q ∈ al, ∃ k : Int, z = rv_uv V ls q.1 + q.2 + 4294967296 * k) → rv_ipL al = some f → rv_ix ls f = z.toNat := by
  intro al
  induction al with
  | nil => intro f _ h; cases h
  | cons q al ih =>
    intro f hal h
    obtain ⟨u, off⟩ := q
    cases u with
    | inr p => exact ih (fun q hq => hal q (List.mem_cons_of_mem _ hq)) h
    | inl k =>
      unfold rv_ipL at h
      by_cases c : off = 0
      · rw [if_pos c] at h
        cases h
        obtain ⟨m, hm⟩ := hal _ List.mem_cons_self
        have e1 : rv_uv V ls (.inl k) = rv_lx ls k := rfl
        dsimp only at hm
        rw [e1] at hm
        have hr := rv_lx_rng ls k
        have e2 : rv_lx ls k = z := by omega
        unfold rv_ix
        rw [if_neg (by omega), show 5000 + k - 5000 = k by omega, e2]
      · rw [if_neg c] at h
        exact ih (fun q hq => hal q (List.mem_cons_of_mem _ hq)) h
theorem rv_ip_ok {V : fm_V} {ls : Array Slot} {b : rv_A} {f : Nat} {x : Int32} (hb : rv_oI V ls b (.int x)) (h : rv_ip b = some f) : rv_ix ls f = x.toInt.toNat := by
  obtain ⟨x', ex, x1, x2, -, x4, -⟩ := hb
  cases ex
  unfold rv_ip at h
  by_cases c : rv_l b = rv_h b ∧ 0 ≤ rv_l b ∧ rv_l b < 5000
  · rw [if_pos c] at h
    cases h
    unfold rv_ix
    rw [if_pos (by omega)]
    congr 1
    omega
  · rw [if_neg c] at h
    exact rv_ipL_ok (zi_rng x) x4 h
/-- a store at a place, or anywhere in a cell -/
def rv_dp (j f : Nat) (u : rv_U) : Bool := match u with
  | .inl _ => false
  | .inr q => decide (q.1 = j) && (decide (q.2 = f) || decide (5000 ≤ q.2))
def rv_dc (j : Nat) (u : rv_U) : Bool := match u with
  | .inl _ => false
  | .inr q => decide (q.1 = j)
theorem rv_dp_ok {V : fm_V} {ls : Array Slot} {j f : Nat} {x : Int32} : ∀ u, rv_dp j f u = false → rv_uv (fm_up V j f x) ls u = rv_uv V ls u := by
  intro u hu
  cases u with
  | inl k => rfl
  | inr q =>
    show (fm_up V j f x q.1 (rv_ix ls q.2)).toInt = (V q.1 (rv_ix ls q.2)).toInt
    rw [fm_up_ne]
    intro c
    simp only [rv_dp, c.1, decide_true, Bool.true_and, Bool.or_eq_false_iff, decide_eq_false_iff_not] at hu
    have c2 := c.2
    unfold rv_ix at c2
    rw [if_pos (by omega)] at c2
    exact hu.1 c2
theorem rv_dc_ok {V : fm_V} {ls : Array Slot} {j f : Nat} {x : Int32} : ∀ u, rv_dc j u = false → rv_uv (fm_up V j f x) ls u = rv_uv V ls u := by
  intro u hu
  cases u with
  | inl k => rfl
  | inr q =>
    show (fm_up V j f x q.1 (rv_ix ls q.2)).toInt = (V q.1 (rv_ix ls q.2)).toInt
    rw [fm_up_ne]
    intro c
    simp [rv_dc, c.1] at hu
/-- differences to the start, out of what a value is a copy of -/
def rv_rl (F : List rv_Fa) : List (rv_U × Int) → List ((Nat × Nat) × Int × Int)
  | [] => []
  | (.inl _, _) :: al => rv_rl F al
  | (.inr q0, off) :: al => match F.find? (fun f => decide (f.1 = q0)) with
    | some f0 => if -2147483648 ≤ f0.2.1 + off ∧ f0.2.2.1 + off ≤ 2147483647 then f0.2.2.2.map (fun r => (r.1, r.2.1 + off, r.2.2 + off)) else rv_rl F al
    | none => rv_rl F al
theorem rv_rl_ok {V0 V : fm_V} {ls : Array Slot} {F : List rv_Fa} {z : Int} (hF : ∀ f ∈ F, rv_fok V0 V ls f) (hz : -2147483648 ≤ z ∧ z ≤ 2147483647) : ∀ {al : List (rv_U × Int)}, (∀ q ∈ al, ∃ k : Int, z = rv_uv V ls q.1 + q.2 + 4294967296 * k) → ∀ r ∈ rv_rl F al, r.2.1 ≤ z - (V0 r.1.1 r.1.2).toInt ∧ z - (V0 r.1.1 r.1.2).toInt ≤ r.2.2 := by
  intro al
  induction al with
  | nil => intro _ r hr; cases hr
  | cons q al ih =>
    intro hal r hr
    have ih2 := ih (fun q hq => hal q (List.mem_cons_of_mem _ hq))
    obtain ⟨u, off⟩ := q
    cases u with
    | inl k => exact ih2 r hr
    | inr q0 =>
      unfold rv_rl at hr
      cases hf : F.find? (fun f => decide (f.1 = q0)) with
      | none => rw [hf] at hr; exact ih2 r hr
      | some f0 =>
        rw [hf] at hr
        dsimp only at hr
        obtain ⟨g1, g2⟩ := rv_find hf
        have h3 := hF f0 g1
        unfold rv_fok at h3
        rw [g2] at h3
        by_cases c : -2147483648 ≤ f0.2.1 + off ∧ f0.2.2.1 + off ≤ 2147483647
        · rw [if_pos c] at hr
          obtain ⟨r0, hr0, rfl⟩ := List.mem_map.mp hr
          obtain ⟨m, hm⟩ := hal _ List.mem_cons_self
          dsimp only at hm ⊢
          have h4 := h3.2 r0 hr0
          have h5 := h3.1
          omega
        · rw [if_neg c] at hr
          exact ih2 r hr
def rv_pt (j f : Nat) (a : rv_A) (G : rv_S) : rv_S := (G.1, G.2.1.map (rv_dA (rv_dp j f)), ((j, f), rv_l a, rv_h a, rv_rl G.2.2 (rv_al a)) :: rv_dF (rv_dp j f) G.2.2)
def rv_pc (j : Nat) (G : rv_S) : rv_S := (G.1, G.2.1.map (rv_dA (rv_dc j)), rv_dF (rv_dc j) G.2.2)
theorem rv_pt_ok {ad : Nat → Nat} {V0 V : fm_V} {ls : Array Slot} {st : List Value} {G : rv_S} {j f : Nat} {a : rv_A} {x : Int32} (hf : f < 5000) (ha : rv_oI V ls a (.int x)) (h : rv_G ad V0 V ls st G) : rv_G ad V0 (fm_up V j f x) ls st (rv_pt j f a G) := by
  obtain ⟨x', ex, x1, x2, x3, x4, x5⟩ := ha
  cases ex
  refine ⟨h.1, rv_sk_map _ (rv_dA_ok rv_dp_ok) h.2.1, fun g hg => ?_⟩
  rcases List.mem_cons.mp hg with e | hg
  · rw [e]
    have e1 : rv_uv (fm_up V j f x) ls (.inr (j, f)) = x.toInt := by
      show (fm_up V j f x j (rv_ix ls f)).toInt = x.toInt
      have : rv_ix ls f = f := by unfold rv_ix; rw [if_pos hf]
      rw [this, fm_up_self]
    unfold rv_fok
    dsimp only
    rw [e1]
    exact ⟨⟨x1, x2⟩, rv_rl_ok h.2.2 (zi_rng x) x4⟩
  · exact rv_dF_ok rv_dp_ok h.2.2 g hg
theorem rv_pc_ok {ad : Nat → Nat} {V0 V : fm_V} {ls : Array Slot} {st : List Value} {G : rv_S} {j f : Nat} {x : Int32} (h : rv_G ad V0 V ls st G) : rv_G ad V0 (fm_up V j f x) ls st (rv_pc j G) :=
  ⟨h.1, rv_sk_map _ (rv_dA_ok rv_dc_ok) h.2.1, rv_dF_ok rv_dc_ok h.2.2⟩
/-! one knowledge is enough for another -/
def rv_leA (a b : rv_A) : Bool := decide (a.1 = b.1) && (if b.1 = 2 then decide (a.2.1 = b.2.1) else decide (rv_l b ≤ rv_l a) && decide (rv_h a ≤ rv_h b) && (decide (b.2.1 ≠ 1) || decide (a.2.1 = 1) || decide (0 < rv_l a) || decide (rv_h a < 0)) && (rv_al b).all (fun q => (rv_al a).any (fun r => decide (r = q))) && (rv_cs b).all (fun q => (rv_cs a).any (fun r => decide (r = q)) || decide (rv_l a = 0 ∧ rv_h a = 0)))
theorem rv_leA_ok {ad : Nat → Nat} {V : fm_V} {ls : Array Slot} {a b : rv_A} {v : Value} (h : rv_leA a b = true) (ha : rv_ok ad V ls a v) : rv_ok ad V ls b v := by
  unfold rv_leA at h
  simp only [Bool.and_eq_true, decide_eq_true_eq] at h
  obtain ⟨e, h⟩ := h
  by_cases c2 : b.1 = 2
  · rw [if_pos c2] at h
    have h := of_decide_eq_true h
    exact rv_okR' c2 (by rw [rv_okR (by omega) ha, h])
  · rw [if_neg c2] at h
    simp only [Bool.and_eq_true, Bool.or_eq_true, decide_eq_true_eq, List.all_eq_true, List.any_eq_true, exists_eq_right] at h
    obtain ⟨⟨⟨⟨h1, h2⟩, h3⟩, h4⟩, h5⟩ := h
    by_cases c1 : b.1 = 1
    · obtain ⟨x, rfl, x1, x2, x3, x4, x5⟩ := rv_okI (by omega) ha
      refine rv_okI' c1 ⟨x, rfl, by omega, by omega, fun hb => ?_, fun q hq => x4 q (h4 q hq), fun hx q hq => ?_⟩
      · rcases h3 with ((h3 | h3) | h3) | h3
        · exact absurd hb h3
        · exact x3 h3
        · omega
        · omega
      · rcases h5 q hq with h5 | h5
        · exact x5 hx q h5
        · omega
    · by_cases c3 : b.1 = 3
      · obtain ⟨x, rfl, x1, x2, x4⟩ := rv_okL (by omega) ha
        exact rv_okL' c3 ⟨x, rfl, by omega, by omega, fun q hq => x4 q (h4 q hq)⟩
      · unfold rv_ok at ha
        rw [if_neg (by omega), if_neg (by omega), if_neg (by omega)] at ha
        exact ha.elim
def rv_leL : List rv_A → List rv_A → Bool
  | _, [] => true
  | [], b :: bs => decide (b.1 = 0) && rv_leL [] bs
  | a :: as, b :: bs => (decide (b.1 = 0) || (decide (a.1 = b.1) && decide (b.1 = 1 ∨ b.1 = 2) && (if b.1 = 2 then decide (a.2.1 = b.2.1) else decide (rv_l b ≤ rv_l a) && decide (rv_h a ≤ rv_h b) && (decide (b.2.1 ≠ 1) || decide (a.2.1 = 1) || decide (0 < rv_l a) || decide (rv_h a < 0))))) && rv_leL as bs
theorem rv_leL_ok {ad : Nat → Nat} {ls : Array Slot} : ∀ (n : Nat) (as bs : List rv_A), rv_leL as bs = true → (∀ (k : Nat) (a : rv_A), as[k]? = some a → rv_lok ad ls (n + k) a) → ∀ (k : Nat) (b : rv_A), bs[k]? = some b → rv_lok ad ls (n + k) b := by
  intro n as bs
  induction bs generalizing n as with
  | nil => intro _ _ k b hb; simp at hb
  | cons b bs ih =>
    intro h ha k b' hb
    cases as with
    | nil =>
      unfold rv_leL at h
      simp only [Bool.and_eq_true, decide_eq_true_eq] at h
      cases k with
      | zero =>
        simp only [List.getElem?_cons_zero, Option.some.injEq] at hb
        subst hb
        unfold rv_lok
        rw [if_neg (by omega), if_neg (by omega)]
        trivial
      | succ k =>
        have := ih (n + 1) [] h.2 (fun k a hk => by simp at hk) k b' (by simpa using hb)
        rw [show n + (k + 1) = n + 1 + k by omega]
        exact this
    | cons a as =>
      unfold rv_leL at h
      simp only [Bool.and_eq_true] at h
      cases k with
      | zero =>
        simp only [List.getElem?_cons_zero, Option.some.injEq] at hb
        subst hb
        have h1 := h.1
        have ha0 := ha 0 a (by simp)
        simp only [Bool.or_eq_true, decide_eq_true_eq, Bool.and_eq_true] at h1
        rcases h1 with h1 | ⟨⟨e, hc⟩, h2⟩
        · unfold rv_lok
          rw [if_neg (by omega), if_neg (by omega)]
          trivial
        · by_cases c2 : b.1 = 2
          · rw [if_pos c2] at h2
            have h2 := of_decide_eq_true h2
            unfold rv_lok at ha0 ⊢
            rw [if_neg (by omega), if_pos (by omega)] at ha0
            rw [if_neg (by omega), if_pos (by omega), ← h2]
            exact ha0
          · rw [if_neg c2] at h2
            simp only [Bool.and_eq_true, Bool.or_eq_true, decide_eq_true_eq] at h2
            obtain ⟨⟨h3, h4⟩, h5⟩ := h2
            unfold rv_lok at ha0 ⊢
            rw [if_pos (by omega)] at ha0
            rw [if_pos (by omega)]
            obtain ⟨y, y1, y2, y3, y4⟩ := ha0
            refine ⟨y, y1, by omega, by omega, fun hb => ?_⟩
            rcases h5 with ((h5 | h5) | h5) | h5
            · exact absurd hb h5
            · exact y4 h5
            · omega
            · omega
      | succ k =>
        have := ih (n + 1) as h.2 (fun k a hk => by
          have := ha (k + 1) a (by simpa using hk)
          rw [show n + 1 + k = n + (k + 1) by omega]
          exact this) k b' (by simpa using hb)
        rw [show n + (k + 1) = n + 1 + k by omega]
        exact this
def rv_leS : List rv_A → List rv_A → Bool
  | [], [] => true
  | a :: as, b :: bs => rv_leA a b && rv_leS as bs
  | _, _ => false
theorem rv_leS_ok {ad : Nat → Nat} {V : fm_V} {ls : Array Slot} : ∀ {as bs : List rv_A} {st : List Value}, rv_leS as bs = true → rv_sk (rv_ok ad V ls) as st → rv_sk (rv_ok ad V ls) bs st := by
  intro as
  induction as with
  | nil =>
    intro bs st h hs
    cases bs with
    | nil => exact hs
    | cons b bs => simp [rv_leS] at h
  | cons a as ih =>
    intro bs st h hs
    cases bs with
    | nil => simp [rv_leS] at h
    | cons b bs =>
      simp only [rv_leS, Bool.and_eq_true] at h
      obtain ⟨v, vs, rfl, h1, h2⟩ := rv_sk_cons hs
      exact ⟨rv_leA_ok h.1 h1, ih h.2 h2⟩
/-- a place's template bounds -/
def rv_tb (tm : List fm_C) (q : Nat × Nat) : Int × Int := match tm[q.1]? with
  | some (.inl (_, n, lo, hi)) => if q.2 < n ∧ n ≤ 5000 then (lo, hi) else (-2147483648, 2147483647)
  | some (.inr (_, ts)) => if q.2 < 5000 then (match ts[q.2]? with
    | some (.inl (lo, hi)) => (lo, hi)
    | _ => (-2147483648, 2147483647)) else (-2147483648, 2147483647)
  | none => (-2147483648, 2147483647)
theorem rv_tb_ok {tm : List fm_C} {V : fm_V} {ls : Array Slot} {q : Nat × Nat} (hT : fm_Tm tm V) : (rv_tb tm q).1 ≤ rv_uv V ls (.inr q) ∧ rv_uv V ls (.inr q) ≤ (rv_tb tm q).2 := by
  have hr := rv_uv_rng V ls (.inr q)
  have hu : rv_uv V ls (.inr q) = (V q.1 (rv_ix ls q.2)).toInt := rfl
  unfold rv_tb
  cases ht : tm[q.1]? with
  | none => exact hr
  | some t =>
    cases t with
    | inl a =>
      obtain ⟨t, n, lo, hi⟩ := a
      dsimp only
      by_cases c : q.2 < n ∧ n ≤ 5000
      · rw [if_pos c, hu]
        have e : rv_ix ls q.2 = q.2 := by unfold rv_ix; rw [if_pos (by omega)]
        rw [e]
        exact hT.1 q.1 t n lo hi q.2 ht c.1
      · rw [if_neg c]
        exact hr
    | inr o =>
      obtain ⟨ci, ts⟩ := o
      dsimp only
      by_cases c : q.2 < 5000
      · rw [if_pos c]
        cases hk : ts[q.2]? with
        | none => exact hr
        | some r =>
          cases r with
          | inr j => exact hr
          | inl b =>
            obtain ⟨lo, hi⟩ := b
            dsimp only
            rw [hu]
            have e : rv_ix ls q.2 = q.2 := by unfold rv_ix; rw [if_pos c]
            rw [e]
            exact hT.2 q.1 ci ts q.2 lo hi ht hk
      · rw [if_neg c]
        exact hr
/-- a fact out of facts -/
def rv_leF (tm : List fm_C) (F : List rv_Fa) (g : rv_Fa) : Bool := match F.find? (fun f => decide (f.1 = g.1)) with
  | some f => (decide (g.2.1 ≤ f.2.1) || decide (g.2.1 ≤ (rv_tb tm g.1).1)) && (decide (f.2.2.1 ≤ g.2.2.1) || decide ((rv_tb tm g.1).2 ≤ g.2.2.1)) && g.2.2.2.all (fun r => f.2.2.2.any (fun s => decide (s.1 = r.1) && decide (r.2.1 ≤ s.2.1) && decide (s.2.2 ≤ r.2.2)))
  | none => decide (g.2.1 ≤ (rv_tb tm g.1).1) && decide ((rv_tb tm g.1).2 ≤ g.2.2.1) && g.2.2.2.isEmpty
theorem rv_leF_ok {tm : List fm_C} {V0 V : fm_V} {ls : Array Slot} {F : List rv_Fa} {g : rv_Fa} (hT : fm_Tm tm V) (hF : ∀ f ∈ F, rv_fok V0 V ls f) (h : rv_leF tm F g = true) : rv_fok V0 V ls g := by
  have ht := rv_tb_ok (ls := ls) (q := g.1) hT
  unfold rv_leF at h
  cases hf : F.find? (fun f => decide (f.1 = g.1)) with
  | none =>
    rw [hf] at h
    simp only [Bool.and_eq_true, decide_eq_true_eq, List.isEmpty_iff] at h
    refine ⟨⟨by omega, by omega⟩, fun r hr => ?_⟩
    rw [h.2] at hr
    cases hr
  | some f =>
    rw [hf] at h
    obtain ⟨g1, g2⟩ := rv_find hf
    have h3 := hF f g1
    unfold rv_fok at h3 ⊢
    rw [g2] at h3
    simp only [Bool.and_eq_true, Bool.or_eq_true, decide_eq_true_eq, List.all_eq_true, List.any_eq_true] at h
    obtain ⟨⟨h4, h5⟩, h6⟩ := h
    refine ⟨⟨by omega, by omega⟩, fun r hr => ?_⟩
    obtain ⟨s, s1, ⟨s2, s3⟩, s4⟩ := h6 r hr
    have h7 := h3.2 s s1
    rw [s2] at h7
    omega
def rv_le (tm : List fm_C) (G G' : rv_S) : Bool := rv_leL G.1 G'.1 && rv_leS G.2.1 G'.2.1 && G'.2.2.all (rv_leF tm G.2.2)
theorem rv_le_ok {tm : List fm_C} {ad : Nat → Nat} {V0 V : fm_V} {ls : Array Slot} {st : List Value} {G G' : rv_S} (hT : fm_Tm tm V) (h : rv_le tm G G' = true) (hG : rv_G ad V0 V ls st G) : rv_G ad V0 V ls st G' := by
  unfold rv_le at h
  simp only [Bool.and_eq_true, List.all_eq_true] at h
  obtain ⟨⟨h1, h2⟩, h3⟩ := h
  refine ⟨fun k b hb => ?_, rv_leS_ok h2 hG.2.1, fun g hg => rv_leF_ok hT hG.2.2 (h3 g hg)⟩
  have := rv_leL_ok (ad := ad) (ls := ls) 0 G.1 G'.1 h1 (fun k a hk => by rw [Nat.zero_add]; exact hG.1 k a hk) k b hb
  rw [Nat.zero_add] at this
  exact this
end
section
/-! ONE INSTRUCTION, by what is known. -/
abbrev rv_K : Type := List rv_A × List rv_Fa × List (Nat × Nat) × List (Nat × Int × Int) × List (rv_U × Int × Int) × List rv_Fa
/-- template; rows of the pool (index, class, field); fields that may be written (class, field, 0 int 2 boolean); constants; long constants; places that may be changed; locals that stay; locals -/
abbrev rv_E : Type := List fm_C × List (Nat × Nat × Nat) × List (Nat × Nat × Nat) × List (Nat × Int) × List (Nat × Int) × List (Nat × Nat) × List Nat × Nat
def rv_in (M : List (Nat × Nat)) (i f : Nat) : Bool := M.any (fun q => decide (q.1 = i) && (decide (q.2 = f) || decide (q.2 = 9999)))
def rv_av (avs : List Value) (j : Nat) : Int := match avs[j]? with
  | some (.int y) => y.toInt
  | some (.long y) => y.toInt
  | _ => 0
def rv_ua (V : fm_V) (avs : List Value) (u : rv_U) : Int := match u with
  | .inl j => rv_av avs j
  | .inr q => (V q.1 (if q.2 < 5000 then q.2 else (rv_av avs (q.2 - 5000)).toNat)).toInt
def rv_Pre (tm : List fm_C) (Gp : fm_V → Prop) (ad : Nat → Nat) (K : rv_K) (V : fm_V) (avs : List Value) : Prop := fm_Tm tm V ∧ Gp V ∧ rv_sk (rv_ok ad V #[]) (K.1.map rv_bare) avs ∧ ∀ f ∈ K.2.1, f.2.1 ≤ rv_ua V avs (.inr f.1) ∧ rv_ua V avs (.inr f.1) ≤ f.2.2.1
def rv_Res (K : rv_K) (V' : fm_V) (avs : List Value) (r : Option Value) : Prop := match K.2.2.2.1 with
  | [] => r = none
  | q :: _ => ∃ x : Int32, r = some (.int x) ∧ q.2.1 ≤ x.toInt ∧ x.toInt ≤ q.2.2 ∧ (q.1 = 1 → x.toInt ≠ 0) ∧ (x.toInt ≠ 0 → ∀ c ∈ K.2.2.2.2.1, c.2.1 ≤ rv_ua V' avs c.1 ∧ rv_ua V' avs c.1 ≤ c.2.2)
def rv_pok (V V' : fm_V) (f : rv_Fa) : Prop := (f.2.1 ≤ (V' f.1.1 f.1.2).toInt ∧ (V' f.1.1 f.1.2).toInt ≤ f.2.2.1) ∧ ∀ r ∈ f.2.2.2, r.2.1 ≤ (V' f.1.1 f.1.2).toInt - (V r.1.1 r.1.2).toInt ∧ (V' f.1.1 f.1.2).toInt - (V r.1.1 r.1.2).toInt ≤ r.2.2
def rv_Post (tm : List fm_C) (K : rv_K) (V : fm_V) (avs : List Value) (r : Option Value) (V' : fm_V) : Prop := fm_Tm tm V' ∧ (∀ i f, rv_in K.2.2.1 i f = false → V' i f = V i f) ∧ rv_Res K V' avs r ∧ ∀ f ∈ K.2.2.2.2.2, rv_pok V V' f
/-! a call -/
def rv_dm (M : List (Nat × Nat)) (u : rv_U) : Bool := match u with
  | .inl _ => false
  | .inr q => M.any (fun p => decide (p.1 = q.1) && (decide (p.2 = q.2) || decide (p.2 = 9999) || decide (5000 ≤ q.2)))
theorem rv_dm_ok {V V' : fm_V} {ls : Array Slot} {M : List (Nat × Nat)} (h : ∀ i f, rv_in M i f = false → V' i f = V i f) : ∀ u, rv_dm M u = false → rv_uv V' ls u = rv_uv V ls u := by
  intro u hu
  cases u with
  | inl k => rfl
  | inr q =>
    show (V' q.1 (rv_ix ls q.2)).toInt = (V q.1 (rv_ix ls q.2)).toInt
    rw [h]
    simp only [rv_dm, List.any_eq_false, Bool.and_eq_true, Bool.or_eq_true, decide_eq_true_eq] at hu
    simp only [rv_in, List.any_eq_false, Bool.and_eq_true, Bool.or_eq_true, decide_eq_true_eq]
    intro p hp c
    refine hu p hp ⟨c.1, ?_⟩
    by_cases c5 : 5000 ≤ q.2
    · exact Or.inr c5
    · have e : rv_ix ls q.2 = q.2 := by unfold rv_ix; rw [if_pos (by omega)]
      rw [e] at c
      exact Or.inl c.2
def rv_ro (F : List rv_Fa) (q : Nat × Nat) : List ((Nat × Nat) × Int × Int) := match F.find? (fun f => decide (f.1 = q)) with
  | some f => f.2.2.2
  | none => []
theorem rv_ro_ok {V0 V : fm_V} {ls : Array Slot} {F : List rv_Fa} {q : Nat × Nat} (hF : ∀ f ∈ F, rv_fok V0 V ls f) : ∀ r ∈ rv_ro F q, r.2.1 ≤ rv_uv V ls (.inr q) - (V0 r.1.1 r.1.2).toInt ∧ rv_uv V ls (.inr q) - (V0 r.1.1 r.1.2).toInt ≤ r.2.2 := by
  intro r hr
  unfold rv_ro at hr
  cases hf : F.find? (fun f => decide (f.1 = q)) with
  | none => rw [hf] at hr; cases hr
  | some f =>
    rw [hf] at hr
    obtain ⟨g1, g2⟩ := rv_find hf
    have h3 := (hF f g1).2 r hr
    rw [g2] at h3
    exact h3
def rv_pf (tm : List fm_C) (F : List rv_Fa) (f : rv_Fa) : rv_Fa := match f.2.2.2 with
  | [] => f
  | r :: _ => if r.1.2 < 5000 then (f.1, rv_mx f.2.1 ((rv_fg F r.1 (rv_tb tm r.1).1 (rv_tb tm r.1).2).1 + r.2.1), rv_mn f.2.2.1 ((rv_fg F r.1 (rv_tb tm r.1).1 (rv_tb tm r.1).2).2 + r.2.2), (rv_ro F r.1).map (fun s => (s.1, s.2.1 + r.2.1, s.2.2 + r.2.2))) else (f.1, f.2.1, f.2.2.1, [])
theorem rv_pf_ok {tm : List fm_C} {V0 V V' : fm_V} {ls : Array Slot} {F : List rv_Fa} {f : rv_Fa} (hT : fm_Tm tm V) (hF : ∀ f ∈ F, rv_fok V0 V ls f) (hf5 : f.1.2 < 5000) (h : rv_pok V V' f) : rv_fok V0 V' ls (rv_pf tm F f) := by
  have e : ∀ (W : fm_V) (q : Nat × Nat), q.2 < 5000 → rv_uv W ls (.inr q) = (W q.1 q.2).toInt := fun W q hq => by
    show (W q.1 (rv_ix ls q.2)).toInt = _
    have : rv_ix ls q.2 = q.2 := by unfold rv_ix; rw [if_pos hq]
    rw [this]
  obtain ⟨q, lo, hi, rel⟩ := f
  obtain ⟨h1, h2⟩ := h
  dsimp only at h1 h2 hf5
  cases rel with
  | nil =>
    unfold rv_pf rv_fok
    dsimp only
    rw [e V' q hf5]
    exact ⟨h1, fun r hr => absurd hr List.not_mem_nil⟩
  | cons r rel =>
    unfold rv_pf
    dsimp only
    by_cases c : r.1.2 < 5000
    · rw [if_pos c]
      have h3 := h2 r List.mem_cons_self
      obtain ⟨b1, b2⟩ := rv_fg_ok (F := F) (q := r.1) hF (rv_tb_ok (ls := ls) (q := r.1) hT).1 (rv_tb_ok (ls := ls) (q := r.1) hT).2
      rw [e V r.1 c] at b1 b2
      unfold rv_fok
      dsimp only
      rw [e V' q hf5]
      refine ⟨⟨rv_mx_le h1.1 (by omega), rv_le_mn h1.2 (by omega)⟩, fun s hs => ?_⟩
      obtain ⟨s0, hs0, rfl⟩ := List.mem_map.mp hs
      have h4 := rv_ro_ok hF s0 hs0
      rw [e V r.1 c] at h4
      dsimp only
      omega
    · rw [if_neg c]
      unfold rv_fok
      dsimp only
      rw [e V' q hf5]
      exact ⟨h1, fun s hs => absurd hs List.not_mem_nil⟩
/-- what an answer says of the caller's variables -/
def rv_tc (as : List rv_A) (c : rv_U × Int × Int) : List (rv_U × Int × Int) := match c.1 with
  | .inl j => match as[j]? with
    | some a => if a.1 = 1 ∨ a.1 = 3 then ((rv_al a).filter (fun q => decide (-2147483648 ≤ c.2.1 - q.2) && decide (c.2.2 - q.2 ≤ 2147483647))).map (fun q => (q.1, c.2.1 - q.2, c.2.2 - q.2)) else []
    | none => []
  | .inr q => if q.2 < 5000 then [c] else match as[q.2 - 5000]? with
    | some a => if a.1 = 1 then (match rv_ip a with
      | some g => [(.inr (q.1, g), c.2.1, c.2.2)]
      | none => []) else []
    | none => []
theorem rv_sk_get {P : rv_A → Value → Prop} : ∀ {as : List rv_A} {vs : List Value}, rv_sk P as vs → ∀ {j : Nat} {a : rv_A}, as[j]? = some a → ∃ v, vs[j]? = some v ∧ P a v := by
  intro as
  induction as with
  | nil => intro vs _ j a h; simp at h
  | cons b as ih =>
    intro vs h j a hj
    obtain ⟨v, vs', rfl, h1, h2⟩ := rv_sk_cons h
    cases j with
    | zero =>
      simp only [List.getElem?_cons_zero, Option.some.injEq] at hj
      subst hj
      exact ⟨v, by simp, h1⟩
    | succ j =>
      obtain ⟨w, w1, w2⟩ := ih h2 (j := j) (a := a) (by simpa using hj)
      exact ⟨w, by simpa using w1, w2⟩
theorem rv_tc_ok {ad : Nat → Nat} {V V' : fm_V} {ls : Array Slot} {as : List rv_A} {avs : List Value} {c : rv_U × Int × Int} (hs : rv_sk (rv_ok ad V ls) as avs) (hc : c.2.1 ≤ rv_ua V' avs c.1 ∧ rv_ua V' avs c.1 ≤ c.2.2) (d : rv_U → Bool) (hd : ∀ u, d u = false → rv_uv V' ls u = rv_uv V ls u) :
    ∀ q ∈ rv_tc as c, (∀ j, c.1 = .inl j → d q.1 = false) → q.2.1 ≤ rv_uv V' ls q.1 ∧ rv_uv V' ls q.1 ≤ q.2.2 := by
  obtain ⟨u, lo, hi⟩ := c
  dsimp only at hc
  intro q hq hdq
  cases u with
  | inl j =>
    have hdq := hdq j rfl
    unfold rv_tc at hq
    dsimp only at hq
    cases ha : as[j]? with
    | none => rw [ha] at hq; cases hq
    | some a =>
      rw [ha] at hq
      dsimp only at hq
      by_cases c1 : a.1 = 1 ∨ a.1 = 3
      · rw [if_pos c1] at hq
        obtain ⟨q0, hq0, rfl⟩ := List.mem_map.mp hq
        obtain ⟨q1, q2⟩ := List.mem_filter.mp hq0
        simp only [Bool.and_eq_true, decide_eq_true_eq] at q2
        obtain ⟨v, v1, v2⟩ := rv_sk_get hs ha
        have hr := rv_uv_rng V ls q0.1
        have key : ∃ k : Int, rv_av avs j = rv_uv V ls q0.1 + q0.2 + 4294967296 * k := by
          rcases c1 with c1 | c1
          · obtain ⟨x, rfl, x1, x2, x3, x4, x5⟩ := rv_okI c1 v2
            obtain ⟨k, hk⟩ := x4 q0 q1
            exact ⟨k, by unfold rv_av; rw [v1]; exact hk⟩
          · obtain ⟨x, rfl, x1, x2, x4⟩ := rv_okL c1 v2
            obtain ⟨k, hk⟩ := x4 q0 q1
            exact ⟨k, by unfold rv_av; rw [v1]; exact hk⟩
        obtain ⟨k, hk⟩ := key
        have e : rv_ua V' avs (.inl j) = rv_av avs j := rfl
        rw [e] at hc
        dsimp only at hdq ⊢
        rw [hd q0.1 hdq]
        omega
      · rw [if_neg c1] at hq
        cases hq
  | inr p =>
    unfold rv_tc at hq
    dsimp only at hq
    by_cases c5 : p.2 < 5000
    · rw [if_pos c5] at hq
      rw [List.mem_singleton.mp hq]
      dsimp only
      have e : rv_ua V' avs (.inr p) = rv_uv V' ls (.inr p) := by
        show (V' p.1 (if p.2 < 5000 then p.2 else _)).toInt = (V' p.1 (rv_ix ls p.2)).toInt
        unfold rv_ix
        rw [if_pos c5, if_pos c5]
      rw [← e]
      exact hc
    · rw [if_neg c5] at hq
      cases ha : as[p.2 - 5000]? with
      | none => rw [ha] at hq; cases hq
      | some a =>
        rw [ha] at hq
        dsimp only at hq
        by_cases c1 : a.1 = 1
        · rw [if_pos c1] at hq
          cases hg : rv_ip a with
          | none => rw [hg] at hq; cases hq
          | some g =>
            rw [hg] at hq
            rw [List.mem_singleton.mp hq]
            obtain ⟨v, v1, v2⟩ := rv_sk_get hs ha
            have v3 := rv_okI c1 v2
            obtain ⟨x, rfl, -⟩ := id v3
            have e1 := rv_ip_ok v3 hg
            have e : rv_ua V' avs (.inr p) = rv_uv V' ls (.inr (p.1, g)) := by
              show (V' p.1 (if p.2 < 5000 then p.2 else (rv_av avs (p.2 - 5000)).toNat)).toInt = (V' p.1 (rv_ix ls g)).toInt
              rw [if_neg c5, e1]
              have : rv_av avs (p.2 - 5000) = x.toInt := by
                unfold rv_av
                rw [v1]
              rw [this]
            dsimp only
            rw [← e]
            exact hc
        · rw [if_neg c1] at hq
          cases hq
def rv_cw (as : List rv_A) : Nat := (as.map (fun a => if a.1 = 3 then 2 else 1)).sum
theorem rv_cw_ok {ad : Nat → Nat} {V : fm_V} {ls : Array Slot} : ∀ {as : List rv_A} {st : List Value}, rv_sk (rv_ok ad V ls) as st → (st.map fun v => v.category).sum = rv_cw as := by
  intro as
  induction as with
  | nil => intro st h; rw [rv_sk_nil h]; rfl
  | cons a as ih =>
    intro st h
    obtain ⟨v, vs, rfl, h1, h2⟩ := rv_sk_cons h
    have h3 := ih h2
    have h4 := rv_ok_cat h1
    unfold rv_cw at h3 ⊢
    simp only [List.map_cons, List.sum_cons, h3, h4]
theorem rv_sk_app {P : rv_A → Value → Prop} : ∀ {as bs : List rv_A} {st : List Value}, rv_sk P (as ++ bs) st → ∃ s1 s2, st = s1 ++ s2 ∧ rv_sk P as s1 ∧ rv_sk P bs s2 := by
  intro as
  induction as with
  | nil => intro bs st h; exact ⟨[], st, rfl, trivial, h⟩
  | cons a as ih =>
    intro bs st h
    obtain ⟨v, vs, rfl, h1, h2⟩ := rv_sk_cons (a := a) (as := as ++ bs) h
    obtain ⟨s1, s2, rfl, h3, h4⟩ := ih h2
    exact ⟨v :: s1, s2, rfl, ⟨h1, h3⟩, h4⟩
theorem rv_sk_snoc {P : rv_A → Value → Prop} : ∀ {as : List rv_A} {vs : List Value} {a : rv_A} {v : Value}, rv_sk P as vs → P a v → rv_sk P (as ++ [a]) (vs ++ [v]) := by
  intro as
  induction as with
  | nil => intro vs a v h ha; rw [rv_sk_nil h]; exact ⟨ha, trivial⟩
  | cons b as ih =>
    intro vs a v h ha
    obtain ⟨w, ws, rfl, h1, h2⟩ := rv_sk_cons h
    exact ⟨h1, ih h2 ha⟩
theorem rv_sk_rev {P : rv_A → Value → Prop} : ∀ {as : List rv_A} {vs : List Value}, rv_sk P as vs → rv_sk P as.reverse vs.reverse := by
  intro as
  induction as with
  | nil => intro vs h; rw [rv_sk_nil h]; exact trivial
  | cons a as ih =>
    intro vs h
    obtain ⟨w, ws, rfl, h1, h2⟩ := rv_sk_cons h
    rw [List.reverse_cons, List.reverse_cons]
    exact rv_sk_snoc (ih h2) h1
/-- a fact that a callee wants: its place in the caller's words -/
def rv_wf (tm : List fm_C) (F : List rv_Fa) (as : List rv_A) (f : rv_Fa) : Bool := if f.1.2 < 5000 then rv_leF tm F (f.1, f.2.1, f.2.2.1, []) else match as[f.1.2 - 5000]? with
  | some a => if a.1 = 1 then (match rv_ip a with
    | some g => rv_leF tm F ((f.1.1, g), f.2.1, f.2.2.1, [])
    | none => false) else false
  | none => false
theorem rv_wf_ok {tm : List fm_C} {ad : Nat → Nat} {V0 V : fm_V} {ls : Array Slot} {F : List rv_Fa} {as : List rv_A} {avs : List Value} {f : rv_Fa} (hT : fm_Tm tm V) (hF : ∀ f ∈ F, rv_fok V0 V ls f) (hs : rv_sk (rv_ok ad V ls) as avs) (h : rv_wf tm F as f = true) : f.2.1 ≤ rv_ua V avs (.inr f.1) ∧ rv_ua V avs (.inr f.1) ≤ f.2.2.1 := by
  unfold rv_wf at h
  by_cases c5 : f.1.2 < 5000
  · rw [if_pos c5] at h
    have h1 := (rv_leF_ok hT hF h).1
    have e : rv_ua V avs (.inr f.1) = rv_uv V ls (.inr f.1) := by
      show (V f.1.1 (if f.1.2 < 5000 then f.1.2 else _)).toInt = (V f.1.1 (rv_ix ls f.1.2)).toInt
      unfold rv_ix
      rw [if_pos c5, if_pos c5]
    rw [e]
    exact h1
  · rw [if_neg c5] at h
    cases ha : as[f.1.2 - 5000]? with
    | none => rw [ha] at h; cases h
    | some a =>
      rw [ha] at h
      dsimp only at h
      by_cases c1 : a.1 = 1
      · rw [if_pos c1] at h
        cases hg : rv_ip a with
        | none => rw [hg] at h; cases h
        | some g =>
          rw [hg] at h
          have h1 := (rv_leF_ok hT hF h).1
          obtain ⟨v, v1, v2⟩ := rv_sk_get hs ha
          have v3 := rv_okI c1 v2
          obtain ⟨x, rfl, -⟩ := id v3
          have e1 := rv_ip_ok v3 hg
          have e : rv_ua V avs (.inr f.1) = rv_uv V ls (.inr (f.1.1, g)) := by
            show (V f.1.1 (if f.1.2 < 5000 then f.1.2 else (rv_av avs (f.1.2 - 5000)).toNat)).toInt = (V f.1.1 (rv_ix ls g)).toInt
            rw [if_neg c5, e1]
            have : rv_av avs (f.1.2 - 5000) = x.toInt := by
              unfold rv_av
              rw [v1]
            rw [this]
          rw [e]
          exact h1
      · rw [if_neg c1] at h
        cases h
/-- behind a call by a contract -/
def rv_call (tm : List fm_C) (M : List (Nat × Nat)) (K : rv_K) (G : rv_S) : Option rv_S :=
  if K.1.length ≤ G.2.1.length ∧ rv_leS (G.2.1.take K.1.length).reverse (K.1.map rv_bare) = true ∧ K.2.1.all (rv_wf tm G.2.2 (G.2.1.take K.1.length).reverse) = true ∧ K.2.2.1.all (fun q => M.any (fun p => decide (p.1 = q.1) && (decide (p.2 = q.2) || decide (p.2 = 9999)))) = true ∧ K.2.2.2.2.2.all (fun f => decide (f.1.2 < 5000)) = true ∧ rv_cw (G.2.1.drop K.1.length) ≤ 8
  then some (G.1,
    (match K.2.2.2.1 with
      | [] => []
      | q :: _ => [(1, q.1, q.2.1, q.2.2, [], K.2.2.2.2.1.flatMap (fun c => (rv_tc (G.2.1.take K.1.length).reverse c).filter (fun z => match c.1 with | .inl _ => !rv_dm K.2.2.1 z.1 | .inr _ => true)))]) ++ (G.2.1.drop K.1.length).map (rv_dA (rv_dm K.2.2.1)),
    K.2.2.2.2.2.map (rv_pf tm G.2.2) ++ rv_dF (rv_dm K.2.2.1) G.2.2)
  else none
theorem rv_bare_ls {ad : Nat → Nat} {V V' : fm_V} {ls ls' : Array Slot} {a : rv_A} {v : Value} (h : rv_ok ad V ls (rv_bare a) v) : rv_ok ad V' ls' (rv_bare a) v := by
  by_cases c1 : (rv_bare a).1 = 1
  · obtain ⟨x, rfl, x1, x2, x3, -⟩ := rv_okI c1 h
    exact rv_okI' c1 ⟨x, rfl, x1, x2, x3, fun q hq => absurd hq List.not_mem_nil, fun _ q hq => absurd hq List.not_mem_nil⟩
  · by_cases c2 : (rv_bare a).1 = 2
    · exact rv_okR' c2 (rv_okR c2 h)
    · by_cases c3 : (rv_bare a).1 = 3
      · obtain ⟨x, rfl, x1, x2, -⟩ := rv_okL c3 h
        exact rv_okL' c3 ⟨x, rfl, x1, x2, fun q hq => absurd hq List.not_mem_nil⟩
      · unfold rv_ok at h
        rw [if_neg c1, if_neg c2, if_neg c3] at h
        exact h.elim
theorem rv_bares_ls {ad : Nat → Nat} {V V' : fm_V} {ls ls' : Array Slot} : ∀ {as : List rv_A} {vs : List Value}, rv_sk (rv_ok ad V ls) (as.map rv_bare) vs → rv_sk (rv_ok ad V' ls') (as.map rv_bare) vs := by
  intro as
  induction as with
  | nil => intro vs h; rw [rv_sk_nil (show rv_sk _ [] vs from h)]; exact trivial
  | cons a as ih =>
    intro vs h
    obtain ⟨v, vs, rfl, h1, h2⟩ := rv_sk_cons (a := rv_bare a) (as := as.map rv_bare) h
    exact ⟨rv_bare_ls h1, ih h2⟩
theorem rv_call_ok {tm : List fm_C} {ad : Nat → Nat} {V0 V : fm_V} {ls : Array Slot} {st : List Value} {M : List (Nat × Nat)} {K : rv_K} {G G' : rv_S} (h : rv_call tm M K G = some G') (hT : fm_Tm tm V) (hG : rv_G ad V0 V ls st G) :
    ∃ avs rest, st = avs.reverse ++ rest ∧ rv_sk (rv_ok ad V #[]) (K.1.map rv_bare) avs ∧ (∀ f ∈ K.2.1, f.2.1 ≤ rv_ua V avs (.inr f.1) ∧ rv_ua V avs (.inr f.1) ≤ f.2.2.1) ∧ (rest.map fun v => v.category).sum ≤ 8 ∧ ∀ r V', rv_Post tm K V avs r V' → rv_G ad V0 V' ls (r.toList ++ rest) G' ∧ ∀ i f, rv_in M i f = false → V' i f = V i f := by
  unfold rv_call at h
  by_cases c : K.1.length ≤ G.2.1.length ∧ rv_leS (G.2.1.take K.1.length).reverse (K.1.map rv_bare) = true ∧ K.2.1.all (rv_wf tm G.2.2 (G.2.1.take K.1.length).reverse) = true ∧ K.2.2.1.all (fun q => M.any (fun p => decide (p.1 = q.1) && (decide (p.2 = q.2) || decide (p.2 = 9999)))) = true ∧ K.2.2.2.2.2.all (fun f => decide (f.1.2 < 5000)) = true ∧ rv_cw (G.2.1.drop K.1.length) ≤ 8
  · rw [if_pos c] at h
    obtain ⟨c1, c2, c3, c4, c5, c6⟩ := c
    have h := Option.some.inj h
    obtain ⟨hL, hS, hF⟩ := hG
    rw [← List.take_append_drop K.1.length G.2.1] at hS
    obtain ⟨s1, rest, rfl, hs1, hs2⟩ := rv_sk_app hS
    have hs1r := rv_sk_rev hs1
    refine ⟨s1.reverse, rest, by rw [List.reverse_reverse], rv_bares_ls (rv_leS_ok c2 hs1r), fun f hf => rv_wf_ok hT hF hs1r (List.all_eq_true.mp c3 f hf), ?_, fun r V' hp => ?_⟩
    · rw [rv_cw_ok hs2]
      exact c6
    · obtain ⟨p1, p2, p3, p4⟩ := hp
      have hd := rv_dm_ok (ls := ls) p2
      refine ⟨?_, fun i f hif => p2 i f ?_⟩
      · rw [← h]
        refine ⟨hL, ?_, fun g hg => ?_⟩
        · have hrest := rv_sk_map _ (rv_dA_ok (ad := ad) hd) hs2
          unfold rv_Res at p3
          dsimp only
          cases hk : K.2.2.2.1 with
          | nil =>
            rw [hk] at p3
            dsimp only at p3
            rw [p3]
            exact hrest
          | cons q qs =>
            rw [hk] at p3
            dsimp only at p3
            obtain ⟨x, rfl, x1, x2, x3, x4⟩ := p3
            refine ⟨rv_okI' rfl ⟨x, rfl, x1, x2, x3, fun q hq => absurd hq List.not_mem_nil, fun hx z hz => ?_⟩, hrest⟩
            obtain ⟨c, hc, hz⟩ := List.mem_flatMap.mp hz
            obtain ⟨z1, z2⟩ := List.mem_filter.mp hz
            refine rv_tc_ok hs1r (x4 hx c hc) (rv_dm K.2.2.1) hd z z1 (fun j hj => ?_)
            rw [hj] at z2
            simpa using z2
        · rcases List.mem_append.mp hg with hg | hg
          · obtain ⟨f, hf, rfl⟩ := List.mem_map.mp hg
            exact rv_pf_ok hT hF (of_decide_eq_true (List.all_eq_true.mp c5 f hf)) (p4 f hf)
          · exact rv_dF_ok hd hF g hg
      · cases hb : rv_in K.2.2.1 i f with
        | false => rfl
        | true =>
          simp only [rv_in, List.any_eq_true, Bool.and_eq_true, Bool.or_eq_true, decide_eq_true_eq] at hb
          obtain ⟨q, hq, e1, e2⟩ := hb
          have h4 := List.all_eq_true.mp c4 q hq
          simp only [List.any_eq_true, Bool.and_eq_true, Bool.or_eq_true, decide_eq_true_eq] at h4
          obtain ⟨p, hp, g1, g2⟩ := h4
          simp only [rv_in, List.any_eq_false, Bool.and_eq_true, Bool.or_eq_true, decide_eq_true_eq] at hif
          exact absurd ⟨by omega, by omega⟩ (hif p hp)
  · rw [if_neg c] at h
    cases h
end
section
/-! ONE STEP: what an instruction makes of what is known, and that the machine does so. -/
def rv_psh (a : rv_A) (G : rv_S) : rv_S := (G.1, a :: G.2.1, G.2.2)
def rv_cst (n : Int) : rv_A := (1, 0, n, n, [], [])
def rv_tg (pc : Nat) (off : Int) : Nat := ((pc : Int) + off).toNat
def rv_kf (l : List (Nat × Int)) (i : Nat) : Option Int := match l.find? (fun q => decide (q.1 = i)) with
  | some q => some q.2
  | none => none
def rv_ild (k : Nat) (G : rv_S) : Option rv_S := match G.1[k]? with
  | some a => if a.1 = 1 then some (rv_psh (1, a.2.1, rv_l a, rv_h a, [(.inl k, 0)], []) G) else none
  | none => none
def rv_ald (k : Nat) (G : rv_S) : Option rv_S := match G.1[k]? with
  | some a => if a.1 = 2 then some (rv_psh (2, a.2.1, 0, 0, [], []) G) else none
  | none => none
def rv_sto1 (t : Nat) (P : List Nat) (nL k : Nat) (G : rv_S) : Option rv_S := match G.2.1 with
  | a :: S => if a.1 = t ∧ k < nL ∧ P.any (fun j => decide (j = k)) = false then some (rv_st k a (G.1, S, G.2.2)) else none
  | [] => none
def rv_ii (P : List Nat) (nL k : Nat) (n : Int) (G : rv_S) : Option rv_S := match G.1[k]? with
  | some a => if a.1 = 1 ∧ k < nL ∧ P.any (fun j => decide (j = k)) = false ∧ -2147483648 ≤ n ∧ n ≤ 2147483647 then some (rv_inc k n a G) else none
  | none => none
def rv_b2 (op : Nat) (G : rv_S) : Option rv_S := match G.2.1 with
  | b :: a :: S => match rv_bin op a b with
    | some r => some (G.1, r :: S, G.2.2)
    | none => none
  | _ => none
def rv_u1 (f : rv_A → rv_A) (G : rv_S) : Option rv_S := match G.2.1 with
  | a :: S => if a.1 = 1 then some (G.1, f a :: S, G.2.2) else none
  | _ => none
def rv_ne (c : Nat) : Nat := match c with
  | 0 => 1
  | 1 => 0
  | 2 => 3
  | 3 => 2
  | 4 => 5
  | _ => 4
def rv_cc (c : Jvm.ClassFile.Cond) : Nat := match c with
  | .eq => 0
  | .ne => 1
  | .lt => 2
  | .ge => 3
  | .gt => 4
  | .le => 5
def rv_two (pc len : Nat) (off : Int) (c : Nat) (a b : rv_A) (G : rv_S) : List (Nat × rv_S) := (match rv_br c a b G with
  | some g => [(rv_tg pc off, g)]
  | none => []) ++ (match rv_br (rv_ne c) a b G with
  | some g => [(pc + len, g)]
  | none => [])
def rv_gf (tm : List fm_C) (fl : List (Nat × Nat × Nat)) (i : Nat) (G : rv_S) : Option rv_S := match fl.find? (fun q => decide (q.1 = i)), G.2.1 with
  | some q, a :: S => if a.1 = 2 ∧ q.2.2 < 5000 then (match tm[a.2.1]? with
    | some (.inr (ci, ts)) => if ci = q.2.1 then (match ts[q.2.2]? with
      | some (.inl (lo, hi)) => some (G.1, rv_rd G.2.2 (a.2.1, q.2.2) lo hi :: S, G.2.2)
      | some (.inr j) => some (G.1, (2, j, 0, 0, [], []) :: S, G.2.2)
      | none => none) else none
    | _ => none) else none
  | _, _ => none
def rv_pfd (tm : List fm_C) (fl wr : List (Nat × Nat × Nat)) (M : List (Nat × Nat)) (i : Nat) (G : rv_S) : Option rv_S := match fl.find? (fun q => decide (q.1 = i)), G.2.1 with
  | some q, v :: a :: S => if a.1 = 2 ∧ v.1 = 1 ∧ q.2.2 < 5000 ∧ rv_in M a.2.1 q.2.2 = true then (match tm[a.2.1]?, wr.find? (fun w => decide (w.1 = q.2.1) && decide (w.2.1 = q.2.2)) with
    | some (.inr (ci, ts)), some w => if ci = q.2.1 then (match ts[q.2.2]? with
      | some (.inl (lo, hi)) => if lo ≤ rv_l v ∧ rv_h v ≤ hi ∧ (w.2.2 = 0 ∨ (0 ≤ lo ∧ hi ≤ 1)) then some (rv_pt a.2.1 q.2.2 v (G.1, S, G.2.2)) else none
      | _ => none) else none
    | _, _ => none) else none
  | _, _ => none
def rv_xl (tm : List fm_C) (b8 : Bool) (G : rv_S) : Option rv_S := match G.2.1 with
  | b :: a :: S => if a.1 = 2 ∧ b.1 = 1 then (match tm[a.2.1]? with
    | some (.inl (t, n, lo, hi)) => if (if b8 = true then t = 1 ∨ t = 2 else t = 0) ∧ 0 ≤ rv_l b ∧ rv_h b < n then some (G.1, (match rv_ip b with
      | some f => rv_rd G.2.2 (a.2.1, f) lo hi
      | none => (1, 0, lo, hi, [], [])) :: S, G.2.2) else none
    | _ => none) else none
  | _ => none
def rv_xs (tm : List fm_C) (M : List (Nat × Nat)) (b8 : Bool) (G : rv_S) : Option rv_S := match G.2.1 with
  | v :: b :: a :: S => if a.1 = 2 ∧ b.1 = 1 ∧ v.1 = 1 then (match tm[a.2.1]? with
    | some (.inl (t, n, lo, hi)) => if (if b8 = true then (t = 1 ∧ -128 ≤ lo ∧ hi ≤ 127) ∨ (t = 2 ∧ 0 ≤ lo ∧ hi ≤ 1) else t = 0) ∧ 0 ≤ rv_l b ∧ rv_h b < n ∧ lo ≤ rv_l v ∧ rv_h v ≤ hi then
        (if rv_l b = rv_h b ∧ rv_l b < 5000 then (if rv_in M a.2.1 (rv_l b).toNat = true then some (rv_pt a.2.1 (rv_l b).toNat v (G.1, S, G.2.2)) else none) else if rv_in M a.2.1 9999 = true then some (rv_pc a.2.1 (G.1, S, G.2.2)) else none) else none
    | _ => none) else none
  | _ => none
def rv_o1 (pc : Nat) (G : Option rv_S) : Option (List (Nat × rv_S)) := match G with
  | some g => some [(pc, g)]
  | none => none
def rv_tr (E : rv_E) (pc : Nat) (ins : Instr) (len : Nat) (G : rv_S) (kx : List rv_K) : Option (List (Nat × rv_S)) :=
  match ins, len with
  | .iconst n, 1 => if -1 ≤ n ∧ n ≤ 5 then some [(pc + 1, rv_psh (rv_cst n) G)] else none
  | .bipush n, 2 => if -128 ≤ n ∧ n ≤ 127 then some [(pc + 2, rv_psh (rv_cst n) G)] else none
  | .sipush n, 3 => if -32768 ≤ n ∧ n ≤ 32767 then some [(pc + 3, rv_psh (rv_cst n) G)] else none
  | .ldc i, 2 => match rv_kf E.2.2.2.1 i with
    | some n => some [(pc + 2, rv_psh (rv_cst n) G)]
    | none => none
  | .ldc_w i, 3 => match rv_kf E.2.2.2.1 i with
    | some n => some [(pc + 3, rv_psh (rv_cst n) G)]
    | none => none
  | .ldc2_w i, 3 => match rv_kf E.2.2.2.2.1 i with
    | some n => some [(pc + 3, rv_psh (3, 0, n, n, [], []) G)]
    | none => none
  | .lconst n, 1 => some [(pc + 1, rv_psh (3, 0, ((n : Nat) : Int), ((n : Nat) : Int), [], []) G)]
  | .iload_n k, 1 => rv_o1 (pc + 1) (rv_ild k G)
  | .iload k, 2 => rv_o1 (pc + 2) (rv_ild k G)
  | .aload_n k, 1 => rv_o1 (pc + 1) (rv_ald k G)
  | .aload k, 2 => rv_o1 (pc + 2) (rv_ald k G)
  | .istore_n k, 1 => rv_o1 (pc + 1) (rv_sto1 1 E.2.2.2.2.2.2.1 E.2.2.2.2.2.2.2 k G)
  | .istore k, 2 => rv_o1 (pc + 2) (rv_sto1 1 E.2.2.2.2.2.2.1 E.2.2.2.2.2.2.2 k G)
  | .astore_n k, 1 => rv_o1 (pc + 1) (rv_sto1 2 E.2.2.2.2.2.2.1 E.2.2.2.2.2.2.2 k G)
  | .astore k, 2 => rv_o1 (pc + 2) (rv_sto1 2 E.2.2.2.2.2.2.1 E.2.2.2.2.2.2.2 k G)
  | .iinc k n, 3 => rv_o1 (pc + 3) (rv_ii E.2.2.2.2.2.2.1 E.2.2.2.2.2.2.2 k n G)
  | .iadd, 1 => rv_o1 (pc + 1) (rv_b2 0 G)
  | .isub, 1 => rv_o1 (pc + 1) (rv_b2 1 G)
  | .imul, 1 => rv_o1 (pc + 1) (rv_b2 2 G)
  | .iand, 1 => rv_o1 (pc + 1) (rv_b2 3 G)
  | .ior, 1 => rv_o1 (pc + 1) (rv_b2 4 G)
  | .ixor, 1 => rv_o1 (pc + 1) (rv_b2 5 G)
  | .ishl, 1 => rv_o1 (pc + 1) (rv_b2 5 G)
  | .ishr, 1 => rv_o1 (pc + 1) (rv_b2 5 G)
  | .iushr, 1 => rv_o1 (pc + 1) (rv_b2 5 G)
  | .idiv, 1 => rv_o1 (pc + 1) (rv_b2 6 G)
  | .irem, 1 => rv_o1 (pc + 1) (rv_b2 6 G)
  | .ineg, 1 => rv_o1 (pc + 1) (rv_u1 (fun _ => rv_full) G)
  | .i2c, 1 => rv_o1 (pc + 1) (rv_u1 (fun _ => rv_full) G)
  | .i2b, 1 => rv_o1 (pc + 1) (rv_u1 (fun _ => (1, 0, -128, 127, [], [])) G)
  | .i2l, 1 => rv_o1 (pc + 1) (rv_u1 (fun a => (3, 0, rv_l a, rv_h a, rv_al a, [])) G)
  | .dup, 1 => match G.2.1 with
    | a :: S => if a.1 = 3 then none else some [(pc + 1, (G.1, a :: a :: S, G.2.2))]
    | _ => none
  | .dup2, 1 => match G.2.1 with
    | b :: a :: S => if a.1 = 3 ∨ b.1 = 3 then none else some [(pc + 1, (G.1, b :: a :: b :: a :: S, G.2.2))]
    | _ => none
  | .pop, 1 => match G.2.1 with
    | a :: S => if a.1 = 3 then none else some [(pc + 1, (G.1, S, G.2.2))]
    | _ => none
  | .goto off, 3 => if 0 ≤ (pc : Int) + off then some [(rv_tg pc off, G)] else none
  | .ifCond c off, 3 => match G.2.1 with
    | a :: S => if a.1 = 1 ∧ 0 ≤ (pc : Int) + off then some (rv_two pc 3 off (rv_cc c) a (rv_cst 0) (G.1, S, G.2.2)) else none
    | _ => none
  | .if_icmp c off, 3 => match G.2.1 with
    | b :: a :: S => if a.1 = 1 ∧ b.1 = 1 ∧ 0 ≤ (pc : Int) + off then some (rv_two pc 3 off (rv_cc c) a b (G.1, S, G.2.2)) else none
    | _ => none
  | .getfield i, 3 => rv_o1 (pc + 3) (rv_gf E.1 E.2.1 i G)
  | .putfield i, 3 => rv_o1 (pc + 3) (rv_pfd E.1 E.2.1 E.2.2.1 E.2.2.2.2.2.1 i G)
  | .iaload, 1 => rv_o1 (pc + 1) (rv_xl E.1 false G)
  | .baload, 1 => rv_o1 (pc + 1) (rv_xl E.1 true G)
  | .iastore, 1 => rv_o1 (pc + 1) (rv_xs E.1 E.2.2.2.2.2.1 false G)
  | .bastore, 1 => rv_o1 (pc + 1) (rv_xs E.1 E.2.2.2.2.2.1 true G)
  | .invokevirtual _, 3 => match kx with
    | K :: _ => rv_o1 (pc + 3) (rv_call E.1 E.2.2.2.2.2.1 K G)
    | [] => none
  | .invokestatic _, 3 => match kx with
    | K :: _ => rv_o1 (pc + 3) (rv_call E.1 E.2.2.2.2.2.1 K G)
    | [] => none
  | .tableswitch d lo hi offs, _ => match G.2.1 with
    | a :: S => if a.1 = 1 ∧ 0 ≤ (pc : Int) + d ∧ offs.toList.all (fun o => decide (0 ≤ (pc : Int) + o)) = true ∧ hi - lo + 1 = offs.size ∧ -2147483648 ≤ lo ∧ hi ≤ 2147483647 then some ((rv_tg pc d, (G.1, S, G.2.2)) :: (List.range offs.size).flatMap (fun (i : Nat) => match rv_br 0 a (rv_cst (lo + (i : Int))) (G.1, S, G.2.2) with
      | some g => [(rv_tg pc (offs.toList.getD i 0), g)]
      | none => [])) else none
    | _ => none
  | .lookupswitch d ps, _ => match G.2.1 with
    | a :: S => if a.1 = 1 ∧ 0 ≤ (pc : Int) + d ∧ ps.toList.all (fun o => decide (0 ≤ (pc : Int) + o.2) && decide (-2147483648 ≤ o.1) && decide (o.1 ≤ 2147483647)) = true ∧ (ps.toList.zip (ps.toList.drop 1)).all (fun (a, next) => a.1 < next.1) = true then some ((rv_tg pc d, (G.1, S, G.2.2)) :: ps.toList.flatMap (fun q => match rv_br 0 a (rv_cst q.1) (G.1, S, G.2.2) with
      | some g => [(rv_tg pc q.2, g)]
      | none => [])) else none
    | _ => none
  | _, _ => none
/-- which local a step changes -/
def rv_tch (ins : Instr) (G : rv_S) : Option (Nat × Option Int) := match ins with
  | .istore_n k => some (k, none)
  | .istore k => some (k, none)
  | .astore_n k => some (k, none)
  | .astore k => some (k, none)
  | .iinc k n => match G.1[k]? with
    | some a => if a.1 = 1 ∧ -2147483648 ≤ rv_l a + n ∧ rv_h a + n ≤ 2147483647 then some (k, some n) else some (k, none)
    | none => some (k, none)
  | _ => none
def rv_Rl (t : Option (Nat × Option Int)) (ls ls' : Array Slot) : Prop := match t with
  | none => ∀ j, rv_lx ls' j = rv_lx ls j
  | some (k, none) => ∀ j, j ≠ k → rv_lx ls' j = rv_lx ls j
  | some (k, some n) => (∀ j, j ≠ k → rv_lx ls' j = rv_lx ls j) ∧ rv_lx ls' k = rv_lx ls k + n
section STEP
variable {p : Program} {l : Launch} {e : Env} {R : Room} {s : State} {m : MethodId} {args : Array Value} {below : List Frame} {meth : Method} {c : Code} {Q : State → Prop} {cc : ByteArray} {own : String} {D : va_G} {cl : List vw_C} {tm : List fm_C} {ad : Nat → Nat} {cy : Nat → ClassId} {A : Nat → Prop} {Ts : List Cond} {nL : Nat}
variable {pc : Nat} {ls : Array Slot} {rest : List Value} {V : fm_V}
theorem fm_istore (X : fm_X p s m args c cc own D cl tm ad cy A Ts nL) {i : Nat} {x : Int32} (hd : decode cc pc = .ok (.istore i, 2)) (hs : ls.size = nL) (hw : lv_wf ls) (hi : i < nL) (kk : ∀ ls', rv_sto ls ls' i (.int x) → fm_W p l e R s m args below meth c Q D cl tm ad cy A V (pc + 2) ls' rest) : fm_W p l e R s m args below meth c Q D cl tm ad cy A V pc ls (.int x :: rest) := by
  obtain ⟨hx, hb, -⟩ := X
  obtain ⟨ls', e', h'⟩ := rv_sto_of (v := .int x) hw (show i < ls.size by omega) rfl
  intro H locs hP hS T hT X
  obtain ⟨t, a, b⟩ := kk ls' h' H locs hP hS T hT X
  refine ⟨t, ?_, b⟩
  jvm_step X.here [X.here.top, ↓top_set X.here.top, hx, hb, hd, e']
  exact a
theorem fm_istore_n (X : fm_X p s m args c cc own D cl tm ad cy A Ts nL) {i : Fin 4} {x : Int32} (hd : decode cc pc = .ok (.istore_n i, 1)) (hs : ls.size = nL) (hw : lv_wf ls) (hi : (i : Nat) < nL) (kk : ∀ ls', rv_sto ls ls' i (.int x) → fm_W p l e R s m args below meth c Q D cl tm ad cy A V (pc + 1) ls' rest) : fm_W p l e R s m args below meth c Q D cl tm ad cy A V pc ls (.int x :: rest) := by
  obtain ⟨hx, hb, -⟩ := X
  obtain ⟨ls', e', h'⟩ := rv_sto_of (v := .int x) hw (show (i : Nat) < ls.size by omega) rfl
  intro H locs hP hS T hT X
  obtain ⟨t, a, b⟩ := kk ls' h' H locs hP hS T hT X
  refine ⟨t, ?_, b⟩
  jvm_step X.here [X.here.top, ↓top_set X.here.top, hx, hb, hd, e']
  exact a
theorem fm_astore (X : fm_X p s m args c cc own D cl tm ad cy A Ts nL) {i : Nat} {x : Nat} (hd : decode cc pc = .ok (.astore i, 2)) (hs : ls.size = nL) (hw : lv_wf ls) (hi : i < nL) (kk : ∀ ls', rv_sto ls ls' i (.ref x) → fm_W p l e R s m args below meth c Q D cl tm ad cy A V (pc + 2) ls' rest) : fm_W p l e R s m args below meth c Q D cl tm ad cy A V pc ls (.ref x :: rest) := by
  obtain ⟨hx, hb, -⟩ := X
  obtain ⟨ls', e', h'⟩ := rv_sto_of (v := .ref x) hw (show i < ls.size by omega) rfl
  intro H locs hP hS T hT X
  obtain ⟨t, a, b⟩ := kk ls' h' H locs hP hS T hT X
  refine ⟨t, ?_, b⟩
  jvm_step X.here [X.here.top, ↓top_set X.here.top, hx, hb, hd, e', Value.isRef]
  exact a
theorem fm_astore_n (X : fm_X p s m args c cc own D cl tm ad cy A Ts nL) {i : Fin 4} {x : Nat} (hd : decode cc pc = .ok (.astore_n i, 1)) (hs : ls.size = nL) (hw : lv_wf ls) (hi : (i : Nat) < nL) (kk : ∀ ls', rv_sto ls ls' i (.ref x) → fm_W p l e R s m args below meth c Q D cl tm ad cy A V (pc + 1) ls' rest) : fm_W p l e R s m args below meth c Q D cl tm ad cy A V pc ls (.ref x :: rest) := by
  obtain ⟨hx, hb, -⟩ := X
  obtain ⟨ls', e', h'⟩ := rv_sto_of (v := .ref x) hw (show (i : Nat) < ls.size by omega) rfl
  intro H locs hP hS T hT X
  obtain ⟨t, a, b⟩ := kk ls' h' H locs hP hS T hT X
  refine ⟨t, ?_, b⟩
  jvm_step X.here [X.here.top, ↓top_set X.here.top, hx, hb, hd, e', Value.isRef]
  exact a
theorem fm_iinc (X : fm_X p s m args c cc own D cl tm ad cy A Ts nL) {i : Nat} {n : Int} {x : Int32} (hd : decode cc pc = .ok (.iinc i n, 3)) (hl : ls[i]? = some (.val (.int x))) (hs : ls.size = nL) (hw : lv_wf ls) (hi : i < nL) (kk : ∀ ls', rv_sto ls ls' i (.int (x + Int32.ofInt n)) → fm_W p l e R s m args below meth c Q D cl tm ad cy A V (pc + 3) ls' rest) : fm_W p l e R s m args below meth c Q D cl tm ad cy A V pc ls rest := by
  obtain ⟨hx, hb, -⟩ := X
  obtain ⟨ls', e', h'⟩ := rv_sto_of (v := .int (x + Int32.ofInt n)) hw (show i < ls.size by omega) rfl
  intro H locs hP hS T hT X
  obtain ⟨t, a, b⟩ := kk ls' h' H locs hP hS T hT X
  refine ⟨t, ?_, b⟩
  jvm_step X.here [X.here.top, ↓top_set X.here.top, hx, hb, hd, hl, e']
  exact a
end STEP
end
section
/-! the step is right -/
theorem zi_b (n : Int) (h1 : -128 ≤ n) (h2 : n ≤ 127) : (Int8.ofInt n).toInt32.toInt = n := by
  rw [Int8.toInt_toInt32]
  exact Int8.toInt_ofInt_of_le (by omega) (by omega)
theorem zi_s (n : Int) (h1 : -32768 ≤ n) (h2 : n ≤ 32767) : (Int16.ofInt n).toInt32.toInt = n := by
  rw [Int16.toInt_toInt32]
  exact Int16.toInt_ofInt_of_le (by omega) (by omega)
theorem rv_kf_mem {l : List (Nat × Int)} {i : Nat} {n : Int} (h : rv_kf l i = some n) : (i, n) ∈ l := by
  unfold rv_kf at h
  cases hf : l.find? (fun q => decide (q.1 = i)) with
  | none => rw [hf] at h; cases h
  | some q =>
    rw [hf] at h
    have h1 := List.mem_of_find?_eq_some hf
    have h2 : q.1 = i := by simpa using List.find?_some hf
    have h3 : q.2 = n := Option.some.inj h
    rw [← h2, ← h3]
    exact h1
def rv_I (tm : List fm_C) (M : List (Nat × Nat)) (P : List Nat) (nL : Nat) (V0 : fm_V) (avs : List Value) (V : fm_V) (ls : Array Slot) : Prop := fm_Tm tm V ∧ (∀ i f, rv_in M i f = false → V i f = V0 i f) ∧ ls.size = nL ∧ lv_wf ls ∧ ∀ j ∈ P, ∀ v, avs[j]? = some v → v.category = 1 → ls[j]? = some (.val v)
theorem rv_I_sto {tm : List fm_C} {M : List (Nat × Nat)} {P : List Nat} {nL : Nat} {V0 V : fm_V} {avs : List Value} {ls ls' : Array Slot} {k : Nat} {v : Value} (h : rv_I tm M P nL V0 avs V ls) (hs : rv_sto ls ls' k v) (hk : P.any (fun j => decide (j = k)) = false) : rv_I tm M P nL V0 avs V ls' := by
  obtain ⟨h1, h2, h3, h4, h5⟩ := h
  obtain ⟨s1, s2, s3, s4, s5⟩ := hs
  refine ⟨h1, h2, by omega, s2, fun j hj w hw hc => s4 j w (fun e => ?_) (h5 j hj w hw hc) hc⟩
  simp only [List.any_eq_false, decide_eq_true_eq] at hk
  exact hk j hj e
theorem rv_cR_ne {n : Nat} (c : Jvm.ClassFile.Cond) {x y : Int} (h : ¬ rv_cR (rv_cc c) x y) : rv_cR (rv_ne (rv_cc c)) x y := by
  cases c
  · exact h
  · exact Classical.not_not.mp h
  · exact Int.not_lt.mp h
  · exact Int.not_le.mp h
  · exact Int.not_lt.mp h
  · exact Int.not_le.mp h
/-- the tables that a body's check goes by are the machine's -/
def rv_Ev (cl : List vw_C) (Ts : List Jvm.Cond) (own : String) (fl wr : List (Nat × Nat × Nat)) (kc kl : List (Nat × Int)) : Prop :=
  (∀ q ∈ fl, fm_Lk cl Ts own q.1 q.2.1 q.2.2) ∧ (∀ q ∈ wr, fm_Cl cl q.1 ∧ ∀ (C : String) (T : u_T) (N : Nat), cl[q.1]? = some (C, T, N) → (T q.2.1).2.2.2 = false ∧ parseFieldDescriptor (T q.2.1).2.2.1 = some (if q.2.2 = 0 then .int else .boolean)) ∧ (∀ q ∈ kc, (-2147483648 ≤ q.2 ∧ q.2 ≤ 2147483647) ∧ Jvm.Cond.constant own q.1 (Int32.ofInt q.2) ∈ Ts) ∧ ∀ q ∈ kl, (-2147483648 ≤ q.2 ∧ q.2 ≤ 2147483647) ∧ Jvm.Cond.constantLong own q.1 (Int64.ofInt q.2) ∈ Ts
section SOUND
variable {p : Program} {l : Launch} {e : Env} {R : Room} {s : State} {m : MethodId} {args : Array Value} {below : List Frame} {meth : Method} {c : Code} {Q : State → Prop} {cc : ByteArray} {own : String} {D : va_G} {cl : List vw_C} {tm : List fm_C} {ad : Nat → Nat} {cy : Nat → ClassId} {A : Nat → Prop} {Ts : List Jvm.Cond} {nL : Nat}
variable {pc : Nat} {ls : Array Slot} {st : List Value} {V0 V : fm_V} {fl wr : List (Nat × Nat × Nat)} {kc kl : List (Nat × Int)} {M : List (Nat × Nat)} {P : List Nat} {avs : List Value} {Gp : fm_V → Prop}
/-- a call at pc keeps to a contract -/
def rv_Call (p : Program) (l : Launch) (e : Env) (R : Room) (s : State) (m : MethodId) (args : Array Value) (below : List Frame) (meth : Method) (c : Code) (Q : State → Prop) (D : va_G) (cl : List vw_C) (tm : List fm_C) (ad : Nat → Nat) (cy : Nat → ClassId) (A : Nat → Prop) (Gp : fm_V → Prop) (nL : Nat) (pc : Nat) (K : rv_K) : Prop :=
  ∀ (V : fm_V) (ls : Array Slot) (avs rest : List Value), rv_Pre tm Gp ad K V avs → ls.size = nL → (rest.map fun v => v.category).sum ≤ 8 → (∀ r V', rv_Post tm K V avs r V' → fm_W p l e R s m args below meth c Q D cl tm ad cy A V' (pc + 3) ls (r.toList ++ rest)) → fm_W p l e R s m args below meth c Q D cl tm ad cy A V pc ls (avs.reverse ++ rest)
theorem rv_two_ok {len : Nat} {off : Int} {c0 : Jvm.ClassFile.Cond} {a b : rv_A} {G : rv_S} {x y : Int32} {W1 W2 : Prop} (ha : rv_oI V ls a (.int x)) (hb : rv_oI V ls b (.int y)) (hG : rv_G ad V0 V ls st G)
    (n1 : ∀ g, (rv_tg pc off, g) ∈ rv_two pc len off (rv_cc c0) a b G → rv_G ad V0 V ls st g → W1) (n2 : ∀ g, (pc + len, g) ∈ rv_two pc len off (rv_cc c0) a b G → rv_G ad V0 V ls st g → W2) : (rv_cR (rv_cc c0) x.toInt y.toInt → W1) ∧ (¬ rv_cR (rv_cc c0) x.toInt y.toInt → W2) := by
  refine ⟨fun h => ?_, fun h => ?_⟩
  · obtain ⟨g, g1, g2⟩ := rv_br_ok (va := .int x) (vb := .int y) ha hb h hG
    exact n1 g (by unfold rv_two; rw [g1]; exact List.mem_append_left _ (List.mem_singleton.mpr rfl)) g2
  · obtain ⟨g, g1, g2⟩ := rv_br_ok (va := .int x) (vb := .int y) ha hb (rv_cR_ne (n := 0) c0 h) hG
    exact n2 g (by unfold rv_two; rw [g1]; exact List.mem_append_right _ (List.mem_singleton.mpr rfl)) g2
theorem rv_cst_ok {n : Int} (h1 : -2147483648 ≤ n) (h2 : n ≤ 2147483647) : rv_oI V ls (rv_cst n) (.int (Int32.ofInt n)) := by
  have h := rv_okB (ad := fun x => x) (V := V) (ls := ls) (lo := n) (hi := n) (x := Int32.ofInt n) (by rw [zi_of h1 h2]; omega) (by rw [zi_of h1 h2]; omega)
  exact rv_okI rfl h
theorem rv_ild_ok {k : Nat} {G G' : rv_S} (h : rv_ild k G = some G') (hG : rv_G ad V0 V ls st G) : ∃ x : Int32, ls[k]? = some (.val (.int x)) ∧ rv_G ad V0 V ls (.int x :: st) G' := by
  unfold rv_ild at h
  cases ha : G.1[k]? with
  | none => rw [ha] at h; cases h
  | some a =>
    rw [ha] at h
    dsimp only at h
    by_cases c1 : a.1 = 1
    · rw [if_pos c1] at h
      cases h
      have h1 := hG.1 k a ha
      unfold rv_lok at h1
      rw [if_pos c1] at h1
      obtain ⟨y, y1, y2, y3, y4⟩ := h1
      refine ⟨y, y1, hG.1, ⟨rv_okI' rfl ⟨y, rfl, y2, y3, y4, fun q hq => ?_, fun _ q hq => absurd hq List.not_mem_nil⟩, hG.2.1⟩, hG.2.2⟩
      rw [List.mem_singleton.mp (show q ∈ [((.inl k : rv_U), (0 : Int))] from hq)]
      refine ⟨0, ?_⟩
      show y.toInt = rv_lx ls k + 0 + 4294967296 * 0
      rw [rv_lx_at y1]
      omega
    · rw [if_neg c1] at h
      cases h
theorem rv_ald_ok {k : Nat} {G G' : rv_S} (h : rv_ald k G = some G') (hG : rv_G ad V0 V ls st G) : ∃ x : Nat, ls[k]? = some (.val (.ref x)) ∧ rv_G ad V0 V ls (.ref x :: st) G' := by
  unfold rv_ald at h
  cases ha : G.1[k]? with
  | none => rw [ha] at h; cases h
  | some a =>
    rw [ha] at h
    dsimp only at h
    by_cases c1 : a.1 = 2
    · rw [if_pos c1] at h
      cases h
      have h1 := hG.1 k a ha
      unfold rv_lok at h1
      rw [if_neg (by omega), if_pos c1] at h1
      exact ⟨_, h1, hG.1, ⟨rv_okR' rfl rfl, hG.2.1⟩, hG.2.2⟩
    · rw [if_neg c1] at h
      cases h
theorem rv_sto1_ok {t k : Nat} {G G' : rv_S} (ht : t = 1 ∨ t = 2) (h : rv_sto1 t P nL k G = some G') (hG : rv_G ad V0 V ls st G) : k < nL ∧ P.any (fun j => decide (j = k)) = false ∧ ∃ v rest, st = v :: rest ∧ (t = 1 → ∃ x, v = .int x) ∧ (t = 2 → ∃ x, v = .ref x) ∧ ∀ ls', rv_sto ls ls' k v → rv_G ad V0 V ls' rest G' := by
  unfold rv_sto1 at h
  cases hs : G.2.1 with
  | nil => rw [hs] at h; cases h
  | cons a S =>
    rw [hs] at h
    dsimp only at h
    by_cases c1 : a.1 = t ∧ k < nL ∧ P.any (fun j => decide (j = k)) = false
    · rw [if_pos c1] at h
      cases h
      have hS := hG.2.1
      rw [hs] at hS
      obtain ⟨v, vs, rfl, h1, h2⟩ := rv_sk_cons hS
      refine ⟨c1.2.1, c1.2.2, v, vs, rfl, fun e1 => ?_, fun e2 => ?_, fun ls' hst => rv_st_ok hst h1 (by omega) ⟨hG.1, h2, hG.2.2⟩⟩
      · obtain ⟨x, e, -⟩ := rv_okI (by omega) h1
        exact ⟨x, e⟩
      · exact ⟨_, rv_okR (by omega) h1⟩
    · rw [if_neg c1] at h
      cases h
theorem rv_ii_ok {k : Nat} {n : Int} {G G' : rv_S} (h : rv_ii P nL k n G = some G') (hG : rv_G ad V0 V ls st G) : k < nL ∧ P.any (fun j => decide (j = k)) = false ∧ ∃ x : Int32, ls[k]? = some (.val (.int x)) ∧ ∀ ls', rv_sto ls ls' k (.int (x + Int32.ofInt n)) → rv_G ad V0 V ls' st G' ∧ rv_Rl (rv_tch (.iinc k n) G) ls ls' := by
  unfold rv_ii at h
  cases ha : G.1[k]? with
  | none => rw [ha] at h; cases h
  | some a =>
    rw [ha] at h
    dsimp only at h
    by_cases c1 : a.1 = 1 ∧ k < nL ∧ P.any (fun j => decide (j = k)) = false ∧ -2147483648 ≤ n ∧ n ≤ 2147483647
    · rw [if_pos c1] at h
      cases h
      have h1 := hG.1 k a ha
      unfold rv_lok at h1
      rw [if_pos c1.1] at h1
      obtain ⟨y, y1, y2, y3, y4⟩ := h1
      refine ⟨c1.2.1, c1.2.2.1, y, y1, fun ls' hst => ⟨rv_inc_ok c1.2.2.2 y1 hst y2 y3 hG, ?_⟩⟩
      obtain ⟨s1, s2, s3, s4, s5⟩ := hst
      unfold rv_tch
      dsimp only
      rw [ha]
      dsimp only
      by_cases c2 : a.1 = 1 ∧ -2147483648 ≤ rv_l a + n ∧ rv_h a + n ≤ 2147483647
      · rw [if_pos c2]
        refine ⟨s5, ?_⟩
        rw [rv_lx_at s3, rv_lx_at y1]
        obtain ⟨q, hq⟩ := zi_add y (Int32.ofInt n)
        rw [zi_of c1.2.2.2.1 c1.2.2.2.2] at hq
        have hr := zi_rng (y + Int32.ofInt n)
        omega
      · rw [if_neg c2]
        exact s5
    · rw [if_neg c1] at h
      cases h
theorem rv_b2_ok {op : Nat} {G G' : rv_S} (h : rv_b2 op G = some G') (hG : rv_G ad V0 V ls st G) : ∃ x y rest, st = .int y :: .int x :: rest ∧ (6 ≤ op → ¬ y = 0) ∧ ∀ z : Int32, rv_rel op x y z → rv_G ad V0 V ls (.int z :: rest) G' := by
  unfold rv_b2 at h
  match hs : G.2.1, h with
  | b :: a :: S, h =>
    dsimp only at h
    cases hr : rv_bin op a b with
    | none => rw [hr] at h; cases h
    | some r =>
      rw [hr] at h
      cases h
      have hS := hG.2.1
      rw [hs] at hS
      obtain ⟨vb, vs, rfl, h1, h2⟩ := rv_sk_cons hS
      obtain ⟨va, vs, rfl, h3, h4⟩ := rv_sk_cons h2
      obtain ⟨x, y, rfl, rfl, h5, h6⟩ := rv_bin_ok hr h3 h1
      exact ⟨x, y, vs, rfl, h5, fun z hz => ⟨hG.1, ⟨h6 z hz, h4⟩, hG.2.2⟩⟩
  | [_], h => cases h
  | [], h => cases h
theorem rv_u1_ok {f : rv_A → rv_A} {G G' : rv_S} (h : rv_u1 f G = some G') (hG : rv_G ad V0 V ls st G) : ∃ a x rest, st = .int x :: rest ∧ rv_oI V ls a (.int x) ∧ ∀ v, rv_ok ad V ls (f a) v → rv_G ad V0 V ls (v :: rest) G' := by
  unfold rv_u1 at h
  match hs : G.2.1, h with
  | a :: S, h =>
    dsimp only at h
    by_cases c1 : a.1 = 1
    · rw [if_pos c1] at h
      cases h
      have hS := hG.2.1
      rw [hs] at hS
      obtain ⟨va, vs, rfl, h1, h2⟩ := rv_sk_cons hS
      have h3 := rv_okI c1 h1
      obtain ⟨x, rfl, -⟩ := id h3
      exact ⟨a, x, vs, rfl, h3, fun v hv => ⟨hG.1, ⟨hv, h2⟩, hG.2.2⟩⟩
    · rw [if_neg c1] at h
      cases h
  | [], h => cases h
theorem rv_o1_some {n : Nat} {G : Option rv_S} {outs : List (Nat × rv_S)} (h : rv_o1 n G = some outs) : ∃ g, G = some g ∧ outs = [(n, g)] := by
  unfold rv_o1 at h
  cases G with
  | none => cases h
  | some g => exact ⟨g, rfl, (Option.some.inj h).symm⟩
end SOUND
end
section
/-! the step is right: fields, arrays, and all of them together -/
section STEPOK
variable {p : Program} {l : Launch} {e : Env} {R : Room} {s : State} {m : MethodId} {args : Array Value} {below : List Frame} {meth : Method} {c : Code} {Q : State → Prop} {cc : ByteArray} {own : String} {D : va_G} {cl : List vw_C} {tm : List fm_C} {ad : Nat → Nat} {cy : Nat → ClassId} {A : Nat → Prop} {Ts : List Jvm.Cond} {nL : Nat}
variable {pc : Nat} {ls : Array Slot} {st : List Value} {V0 V : fm_V} {fl wr : List (Nat × Nat × Nat)} {kc kl : List (Nat × Int)} {M : List (Nat × Nat)} {P : List Nat} {avs : List Value} {Gp : fm_V → Prop}
theorem rv_gf_ok {i : Nat} {G G' : rv_S} (hE : rv_Ev cl Ts own fl wr kc kl) (hT : fm_Tm tm V) (h : rv_gf tm fl i G = some G') (hG : rv_G ad V0 V ls st G) :
    ∃ (j : Nat) (rest : List Value) (ci k : Nat) (ts : List fm_F) (t : fm_F), st = .ref (ad j) :: rest ∧ fm_Lk cl Ts own i ci k ∧ tm[j]? = some (.inr (ci, ts)) ∧ ts[k]? = some t ∧ rv_G ad V0 V ls (fm_val ad (V j k) t :: rest) G' := by
  unfold rv_gf at h
  cases hq : fl.find? (fun q => decide (q.1 = i)) with
  | none => rw [hq] at h; cases h
  | some q =>
    have q1 := List.mem_of_find?_eq_some hq
    have q2 : q.1 = i := by simpa using List.find?_some hq
    rw [hq] at h
    cases hs : G.2.1 with
    | nil => rw [hs] at h; cases h
    | cons a S =>
      rw [hs] at h
      dsimp only at h
      by_cases c1 : a.1 = 2 ∧ q.2.2 < 5000
      · rw [if_pos c1] at h
        have hS := hG.2.1
        rw [hs] at hS
        obtain ⟨v, vs, rfl, h1, h2⟩ := rv_sk_cons hS
        have hv := rv_okR c1.1 h1
        have hL := hE.1 q q1
        rw [q2] at hL
        cases ht : tm[a.2.1]? with
        | none => rw [ht] at h; cases h
        | some t =>
          rw [ht] at h
          cases t with
          | inl t => cases h
          | inr o =>
            obtain ⟨ci, ts⟩ := o
            dsimp only at h
            by_cases c2 : ci = q.2.1
            · rw [if_pos c2] at h
              cases hk : ts[q.2.2]? with
              | none => rw [hk] at h; cases h
              | some t =>
                rw [hk] at h
                refine ⟨a.2.1, vs, ci, q.2.2, ts, t, by rw [hv], by rw [c2]; exact hL, ht, hk, ?_⟩
                cases t with
                | inr j =>
                  cases h
                  exact ⟨hG.1, ⟨rv_okR' rfl rfl, h2⟩, hG.2.2⟩
                | inl b =>
                  obtain ⟨lo, hi⟩ := b
                  cases h
                  have hb := hT.2 a.2.1 ci ts q.2.2 lo hi ht hk
                  refine ⟨hG.1, ⟨rv_rd_ok hG.2.2 ?_ hb.1 hb.2, h2⟩, hG.2.2⟩
                  show V a.2.1 q.2.2 = V a.2.1 (rv_ix ls q.2.2)
                  have : rv_ix ls q.2.2 = q.2.2 := by unfold rv_ix; rw [if_pos c1.2]
                  rw [this]
            · rw [if_neg c2] at h
              cases h
      · rw [if_neg c1] at h
        cases h
theorem rv_pfd_ok {i : Nat} {G G' : rv_S} (hE : rv_Ev cl Ts own fl wr kc kl) (h : rv_pfd tm fl wr M i G = some G') (hG : rv_G ad V0 V ls st G) :
    ∃ (j : Nat) (rest : List Value) (ci k : Nat) (ts : List fm_F) (lo hi : Int) (x : Int32), st = .int x :: .ref (ad j) :: rest ∧ fm_Lk cl Ts own i ci k ∧ fm_Cl cl ci ∧ (∀ (C : String) (T : u_T) (N : Nat), cl[ci]? = some (C, T, N) → (T k).2.2.2 = false ∧ ∃ ty, parseFieldDescriptor (T k).2.2.1 = some ty ∧ narrow ty (.int x) = .int x ∧ fits ty (.int x) = true) ∧ tm[j]? = some (.inr (ci, ts)) ∧ ts[k]? = some (.inl (lo, hi)) ∧ lo ≤ x.toInt ∧ x.toInt ≤ hi ∧ rv_in M j k = true ∧ rv_G ad V0 (fm_up V j k x) ls rest G' := by
  unfold rv_pfd at h
  cases hq : fl.find? (fun q => decide (q.1 = i)) with
  | none => rw [hq] at h; cases h
  | some q =>
    have q1 := List.mem_of_find?_eq_some hq
    have q2 : q.1 = i := by simpa using List.find?_some hq
    rw [hq] at h
    match hs : G.2.1, h with
    | [], h => cases h
    | [_], h => cases h
    | v :: a :: S, h =>
      dsimp only at h
      by_cases c1 : a.1 = 2 ∧ v.1 = 1 ∧ q.2.2 < 5000 ∧ rv_in M a.2.1 q.2.2 = true
      · rw [if_pos c1] at h
        have hS := hG.2.1
        rw [hs] at hS
        obtain ⟨vv, vs, rfl, h1, h2⟩ := rv_sk_cons hS
        obtain ⟨va, vs, rfl, h3, h4⟩ := rv_sk_cons h2
        have hv := rv_okR c1.1 h3
        have hx := rv_okI c1.2.1 h1
        obtain ⟨x, rfl, x1, x2, -⟩ := id hx
        have hL := hE.1 q q1
        rw [q2] at hL
        cases ht : tm[a.2.1]? with
        | none => rw [ht] at h; cases h
        | some t =>
          rw [ht] at h
          cases t with
          | inl t => cases h
          | inr o =>
            obtain ⟨ci, ts⟩ := o
            cases hw : wr.find? (fun w => decide (w.1 = q.2.1) && decide (w.2.1 = q.2.2)) with
            | none => rw [hw] at h; cases h
            | some w =>
              rw [hw] at h
              have w1 := List.mem_of_find?_eq_some hw
              have w2 : w.1 = q.2.1 ∧ w.2.1 = q.2.2 := by simpa using List.find?_some hw
              dsimp only at h
              by_cases c2 : ci = q.2.1
              · rw [if_pos c2] at h
                cases hk : ts[q.2.2]? with
                | none => rw [hk] at h; cases h
                | some t =>
                  rw [hk] at h
                  cases t with
                  | inr j => cases h
                  | inl b =>
                    obtain ⟨lo, hi⟩ := b
                    dsimp only at h
                    by_cases c3 : lo ≤ rv_l v ∧ rv_h v ≤ hi ∧ (w.2.2 = 0 ∨ (0 ≤ lo ∧ hi ≤ 1))
                    · rw [if_pos c3] at h
                      cases h
                      obtain ⟨g1, g2⟩ := hE.2.1 w w1
                      rw [w2.1, ← c2] at g1 g2
                      rw [w2.2] at g2
                      refine ⟨a.2.1, vs, ci, q.2.2, ts, lo, hi, x, by rw [hv], by rw [c2]; exact hL, g1, fun C T N hc => ⟨(g2 C T N hc).1, _, (g2 C T N hc).2, ?_, ?_⟩, ht, hk, by omega, by omega, c1.2.2.2, rv_pt_ok c1.2.2.1 hx ⟨hG.1, h4, hG.2.2⟩⟩
                      · by_cases c4 : w.2.2 = 0
                        · rw [if_pos c4]
                          rfl
                        · rw [if_neg c4]
                          rcases zi_bit (x := x) (by omega) (by omega) with rfl | rfl <;> rfl
                      · by_cases c4 : w.2.2 = 0
                        · rw [if_pos c4]
                          rfl
                        · rw [if_neg c4]
                          rcases zi_bit (x := x) (by omega) (by omega) with rfl | rfl <;> rfl
                    · rw [if_neg c3] at h
                      cases h
              · rw [if_neg c2] at h
                cases h
      · rw [if_neg c1] at h
        cases h
theorem rv_xl_ok {b8 : Bool} {G G' : rv_S} (hT : fm_Tm tm V) (h : rv_xl tm b8 G = some G') (hG : rv_G ad V0 V ls st G) :
    ∃ (j : Nat) (rest : List Value) (t n : Nat) (lo hi : Int) (x : Int32), st = .int x :: .ref (ad j) :: rest ∧ tm[j]? = some (.inl (t, n, lo, hi)) ∧ (if b8 = true then t = 1 ∨ t = 2 else t = 0) ∧ vp_in x n ∧ rv_G ad V0 V ls (.int (V j x.toNatClampNeg) :: rest) G' := by
  unfold rv_xl at h
  match hs : G.2.1, h with
  | [], h => cases h
  | [_], h => cases h
  | b :: a :: S, h =>
    dsimp only at h
    by_cases c1 : a.1 = 2 ∧ b.1 = 1
    · rw [if_pos c1] at h
      have hS := hG.2.1
      rw [hs] at hS
      obtain ⟨vv, vs, rfl, h1, h2⟩ := rv_sk_cons hS
      obtain ⟨va, vs, rfl, h3, h4⟩ := rv_sk_cons h2
      have hv := rv_okR c1.1 h3
      have hx := rv_okI c1.2 h1
      obtain ⟨x, rfl, x1, x2, -⟩ := id hx
      cases ht : tm[a.2.1]? with
      | none => rw [ht] at h; cases h
      | some t =>
        rw [ht] at h
        cases t with
        | inr o => cases h
        | inl o =>
          obtain ⟨t, n, lo, hi⟩ := o
          dsimp only at h
          by_cases c2 : (if b8 = true then t = 1 ∨ t = 2 else t = 0) ∧ 0 ≤ rv_l b ∧ rv_h b < n
          · rw [if_pos c2] at h
            have hin : x.toInt.toNat < n := by omega
            have hb := hT.1 a.2.1 t n lo hi x.toInt.toNat ht hin
            refine ⟨a.2.1, vs, t, n, lo, hi, x, by rw [hv], ht, c2.1, zi_in (by omega) (by omega), ?_⟩
            rw [zi_clamp]
            cases hf : rv_ip b with
            | none =>
              rw [hf] at h
              cases h
              exact ⟨hG.1, ⟨rv_okB hb.1 hb.2, h4⟩, hG.2.2⟩
            | some f =>
              rw [hf] at h
              cases h
              refine ⟨hG.1, ⟨rv_rd_ok hG.2.2 ?_ hb.1 hb.2, h4⟩, hG.2.2⟩
              show V a.2.1 x.toInt.toNat = V a.2.1 (rv_ix ls f)
              rw [rv_ip_ok hx hf]
          · rw [if_neg c2] at h
            cases h
    · rw [if_neg c1] at h
      cases h
theorem rv_xs_ok {b8 : Bool} {G G' : rv_S} (hT : fm_Tm tm V) (h : rv_xs tm M b8 G = some G') (hG : rv_G ad V0 V ls st G) :
    ∃ (j : Nat) (rest : List Value) (t n : Nat) (lo hi : Int) (x y : Int32), st = .int y :: .int x :: .ref (ad j) :: rest ∧ tm[j]? = some (.inl (t, n, lo, hi)) ∧ (if b8 = true then (t = 1 ∧ -128 ≤ lo ∧ hi ≤ 127) ∨ (t = 2 ∧ 0 ≤ lo ∧ hi ≤ 1) else t = 0) ∧ vp_in x n ∧ lo ≤ y.toInt ∧ y.toInt ≤ hi ∧ rv_in M j x.toNatClampNeg = true ∧ rv_G ad V0 (fm_up V j x.toNatClampNeg y) ls rest G' := by
  unfold rv_xs at h
  match hs : G.2.1, h with
  | [], h => cases h
  | [_], h => cases h
  | [_, _], h => cases h
  | v :: b :: a :: S, h =>
    dsimp only at h
    by_cases c1 : a.1 = 2 ∧ b.1 = 1 ∧ v.1 = 1
    · rw [if_pos c1] at h
      have hS := hG.2.1
      rw [hs] at hS
      obtain ⟨vy, vs, rfl, h5, h6⟩ := rv_sk_cons hS
      obtain ⟨vv, vs, rfl, h1, h2⟩ := rv_sk_cons h6
      obtain ⟨va, vs, rfl, h3, h4⟩ := rv_sk_cons h2
      have hv := rv_okR c1.1 h3
      have hx := rv_okI c1.2.1 h1
      obtain ⟨x, rfl, x1, x2, -⟩ := id hx
      have hy := rv_okI c1.2.2 h5
      obtain ⟨y, rfl, y1, y2, -⟩ := id hy
      cases ht : tm[a.2.1]? with
      | none => rw [ht] at h; cases h
      | some t =>
        rw [ht] at h
        cases t with
        | inr o => cases h
        | inl o =>
          obtain ⟨t, n, lo, hi⟩ := o
          dsimp only at h
          by_cases c2 : (if b8 = true then (t = 1 ∧ -128 ≤ lo ∧ hi ≤ 127) ∨ (t = 2 ∧ 0 ≤ lo ∧ hi ≤ 1) else t = 0) ∧ 0 ≤ rv_l b ∧ rv_h b < n ∧ lo ≤ rv_l v ∧ rv_h v ≤ hi
          · rw [if_pos c2] at h
            refine ⟨a.2.1, vs, t, n, lo, hi, x, y, by rw [hv], ht, c2.1, zi_in (by omega) (by omega), by omega, by omega, ?_⟩
            rw [zi_clamp]
            by_cases c3 : rv_l b = rv_h b ∧ rv_l b < 5000
            · rw [if_pos c3] at h
              have e : x.toInt.toNat = (rv_l b).toNat := by congr 1; omega
              rw [e]
              by_cases c4 : rv_in M a.2.1 (rv_l b).toNat = true
              · rw [if_pos c4] at h
                cases h
                exact ⟨c4, rv_pt_ok (by omega) hy ⟨hG.1, h4, hG.2.2⟩⟩
              · rw [if_neg c4] at h
                cases h
            · rw [if_neg c3] at h
              by_cases c4 : rv_in M a.2.1 9999 = true
              · rw [if_pos c4] at h
                cases h
                refine ⟨?_, rv_pc_ok ⟨hG.1, h4, hG.2.2⟩⟩
                simp only [rv_in, List.any_eq_true, Bool.and_eq_true, Bool.or_eq_true, decide_eq_true_eq] at c4 ⊢
                obtain ⟨q, q1, q2, q3⟩ := c4
                exact ⟨q, q1, q2, Or.inr (q3.elim id id)⟩
              · rw [if_neg c4] at h
                cases h
          · rw [if_neg c2] at h
            cases h
    · rw [if_neg c1] at h
      cases h
theorem rv_I_up {j k : Nat} {x : Int32} (h : rv_I tm M P nL V0 avs V ls) (hT : fm_Tm tm (fm_up V j k x)) (hM : rv_in M j k = true) : rv_I tm M P nL V0 avs (fm_up V j k x) ls := by
  obtain ⟨h1, h2, h3⟩ := h
  refine ⟨hT, fun i f hif => ?_, h3⟩
  rw [fm_up_ne (fun q => by rw [q.1, q.2, hM] at hif; cases hif)]
  exact h2 i f hif
end STEPOK
end
section
/-! ALL STEPS -/
section ALLSTEPS
variable {p : Program} {l : Launch} {e : Env} {R : Room} {s : State} {m : MethodId} {args : Array Value} {below : List Frame} {meth : Method} {c : Code} {Q : State → Prop} {cc : ByteArray} {own : String} {D : va_G} {cl : List vw_C} {tm : List fm_C} {ad : Nat → Nat} {cy : Nat → ClassId} {A : Nat → Prop} {Ts : List Jvm.Cond} {nL : Nat}
variable {pc : Nat} {ls : Array Slot} {st : List Value} {V0 V : fm_V} {fl wr : List (Nat × Nat × Nat)} {kc kl : List (Nat × Int)} {M : List (Nat × Nat)} {P : List Nat} {avs : List Value} {Gp : fm_V → Prop}
theorem rv_lk_off {x : Int} {d : Int} : ∀ (ps : List (Int × Int)), Op.lookupswitch.offset ps d x = d ∨ ∃ q ∈ ps, q.1 = x ∧ Op.lookupswitch.offset ps d x = q.2 := by
  intro ps
  induction ps with
  | nil => exact Or.inl rfl
  | cons q ps ih =>
    rw [Op.lookupswitch.offset_cons]
    by_cases c : q.1 = x
    · first
        | (rw [if_pos c]; exact Or.inr ⟨q, List.mem_cons_self, c, rfl⟩)
        | (rw [if_pos c.symm]; exact Or.inr ⟨q, List.mem_cons_self, c, rfl⟩)
    · first
        | rw [if_neg c]
        | rw [if_neg (fun z => c z.symm)]
      rcases ih with h | ⟨q', h1, h2, h3⟩
      · exact Or.inl h
      · exact Or.inr ⟨q', List.mem_cons_of_mem _ h1, h2, h3⟩
theorem rv_G_psh {G : rv_S} {a : rv_A} {v : Value} (h : rv_ok ad V ls a v) (hG : rv_G ad V0 V ls st G) : rv_G ad V0 V ls (v :: st) (rv_psh a G) := ⟨hG.1, ⟨h, hG.2.1⟩, hG.2.2⟩
set_option maxHeartbeats 2000000 in
theorem rv_step (X : fm_X p s m args c cc own D cl tm ad cy A Ts nL) (hE : rv_Ev cl Ts own fl wr kc kl) {ins : Instr} {len : Nat} {G : rv_S} {kx : List rv_K} {outs : List (Nat × rv_S)} (hd : decode cc pc = .ok (ins, len)) (h : rv_tr (tm, fl, wr, kc, kl, M, P, nL) pc ins len G kx = some outs) (hI : rv_I tm M P nL V0 avs V ls) (hG : rv_G ad V0 V ls st G)
    (hGp : ∀ V', (∀ i f, rv_in M i f = false → V' i f = V0 i f) → Gp V') (hC : ∀ K ∈ kx, rv_Call p l e R s m args below meth c Q D cl tm ad cy A Gp nL pc K)
    (next : ∀ o ∈ outs, ∀ V' ls' st', rv_I tm M P nL V0 avs V' ls' → rv_G ad V0 V' ls' st' o.2 → rv_Rl (rv_tch ins G) ls ls' → fm_W p l e R s m args below meth c Q D cl tm ad cy A V' o.1 ls' st') : fm_W p l e R s m args below meth c Q D cl tm ad cy A V pc ls st := by
  obtain ⟨hx, hb, hown, hts, hK, hD, hml⟩ := id X
  have hT := hI.1
  unfold rv_tr at h
  split at h
  · rename_i n
    by_cases c1 : -1 ≤ n ∧ n ≤ 5
    · rw [if_pos c1] at h
      cases h
      intro H locs hP hS
      have e := zi_of (z := n) (by omega) (by omega)
      exact lv_iconst (v := Int32.ofInt n) hx hb hd rfl (next _ (List.mem_singleton.mpr rfl) V ls _ hI (rv_G_psh (rv_okB (by rw [e]; omega) (by rw [e]; omega)) hG) (fun j => rfl) H locs hP hS)
    · rw [if_neg c1] at h
      cases h
  · rename_i n
    by_cases c1 : -128 ≤ n ∧ n ≤ 127
    · rw [if_pos c1] at h
      cases h
      intro H locs hP hS
      have e := zi_b n c1.1 c1.2
      exact lv_bipush (v := (Int8.ofInt n).toInt32) hx hb hd rfl (next _ (List.mem_singleton.mpr rfl) V ls _ hI (rv_G_psh (rv_okB (by rw [e]; omega) (by rw [e]; omega)) hG) (fun j => rfl) H locs hP hS)
    · rw [if_neg c1] at h
      cases h
  · rename_i n
    by_cases c1 : -32768 ≤ n ∧ n ≤ 32767
    · rw [if_pos c1] at h
      cases h
      intro H locs hP hS
      have e := zi_s n c1.1 c1.2
      exact lv_sipush (v := (Int16.ofInt n).toInt32) hx hb hd rfl (next _ (List.mem_singleton.mpr rfl) V ls _ hI (rv_G_psh (rv_okB (by rw [e]; omega) (by rw [e]; omega)) hG) (fun j => rfl) H locs hP hS)
    · rw [if_neg c1] at h
      cases h
  · rename_i i
    dsimp only at h
    cases hn : rv_kf kc i with
    | none => rw [hn] at h; cases h
    | some n =>
      rw [hn] at h
      cases h
      obtain ⟨b1, b2⟩ := hE.2.2.1 _ (rv_kf_mem hn)
      intro H locs hP hS
      have e := zi_of b1.1 b1.2
      exact lv_ldc hx hb hown (hts _ b2) hd (next _ (List.mem_singleton.mpr rfl) V ls _ hI (rv_G_psh (rv_okB (by rw [e]; omega) (by rw [e]; omega)) hG) (fun j => rfl) H locs hP hS)
  · rename_i i
    dsimp only at h
    cases hn : rv_kf kc i with
    | none => rw [hn] at h; cases h
    | some n =>
      rw [hn] at h
      cases h
      obtain ⟨b1, b2⟩ := hE.2.2.1 _ (rv_kf_mem hn)
      intro H locs hP hS
      have e := zi_of b1.1 b1.2
      exact lv_ldcw hx hb hown (hts _ b2) hd (next _ (List.mem_singleton.mpr rfl) V ls _ hI (rv_G_psh (rv_okB (by rw [e]; omega) (by rw [e]; omega)) hG) (fun j => rfl) H locs hP hS)
  · rename_i i
    dsimp only at h
    cases hn : rv_kf kl i with
    | none => rw [hn] at h; cases h
    | some n =>
      rw [hn] at h
      cases h
      obtain ⟨b1, b2⟩ := hE.2.2.2 _ (rv_kf_mem hn)
      dsimp only at b1
      intro H locs hP hS
      have e : (Int64.ofInt n).toInt = n := Int64.toInt_ofInt_of_le (by omega) (by omega)
      exact lv_ldc2 hx hb hown (hts _ b2) hd (next _ (List.mem_singleton.mpr rfl) V ls _ hI (rv_G_psh (rv_okL' rfl ⟨_, rfl, by rw [e]; exact Int.le_refl _, by rw [e]; exact Int.le_refl _, fun q hq => absurd hq List.not_mem_nil⟩) hG) (fun j => rfl) H locs hP hS)
  · rename_i n
    cases h
    intro H locs hP hS
    have e : (Int64.ofNat (n : Nat)).toInt = ((n : Nat) : Int) := by
      match n with
      | 0 => rfl
      | 1 => rfl
    exact lv_lconst (v := Int64.ofNat (n : Nat)) hx hb hd rfl (next _ (List.mem_singleton.mpr rfl) V ls _ hI (rv_G_psh (rv_okL' rfl ⟨_, rfl, by rw [e]; exact Int.le_refl _, by rw [e]; exact Int.le_refl _, fun q hq => absurd hq List.not_mem_nil⟩) hG) (fun j => rfl) H locs hP hS)
  · obtain ⟨g, hg, rfl⟩ := rv_o1_some h
    obtain ⟨x, hx1, hx2⟩ := rv_ild_ok hg hG
    intro H locs hP hS
    exact lv_iload_n hx hb hd rfl hx1 (next _ (List.mem_singleton.mpr rfl) V ls _ hI hx2 (fun j => rfl) H locs hP hS)
  · obtain ⟨g, hg, rfl⟩ := rv_o1_some h
    obtain ⟨x, hx1, hx2⟩ := rv_ild_ok hg hG
    intro H locs hP hS
    exact lv_iload hx hb hd hx1 (next _ (List.mem_singleton.mpr rfl) V ls _ hI hx2 (fun j => rfl) H locs hP hS)
  · obtain ⟨g, hg, rfl⟩ := rv_o1_some h
    obtain ⟨x, hx1, hx2⟩ := rv_ald_ok hg hG
    intro H locs hP hS
    exact lv_aload_n hx hb hd rfl hx1 (next _ (List.mem_singleton.mpr rfl) V ls _ hI hx2 (fun j => rfl) H locs hP hS)
  · obtain ⟨g, hg, rfl⟩ := rv_o1_some h
    obtain ⟨x, hx1, hx2⟩ := rv_ald_ok hg hG
    intro H locs hP hS
    exact lv_aload hx hb hd hx1 (next _ (List.mem_singleton.mpr rfl) V ls _ hI hx2 (fun j => rfl) H locs hP hS)
  · obtain ⟨g, hg, rfl⟩ := rv_o1_some h
    obtain ⟨k1, k2, v, rest, rfl, i1, i2, k3⟩ := rv_sto1_ok (by decide) hg hG
    obtain ⟨x, rfl⟩ := i1 rfl
    exact fm_istore_n X hd hI.2.2.1 hI.2.2.2.1 k1 (fun ls' hs' => next _ (List.mem_singleton.mpr rfl) V ls' _ (rv_I_sto hI hs' k2) (k3 ls' hs') hs'.2.2.2.2)
  · obtain ⟨g, hg, rfl⟩ := rv_o1_some h
    obtain ⟨k1, k2, v, rest, rfl, i1, i2, k3⟩ := rv_sto1_ok (by decide) hg hG
    obtain ⟨x, rfl⟩ := i1 rfl
    exact fm_istore X hd hI.2.2.1 hI.2.2.2.1 k1 (fun ls' hs' => next _ (List.mem_singleton.mpr rfl) V ls' _ (rv_I_sto hI hs' k2) (k3 ls' hs') hs'.2.2.2.2)
  · obtain ⟨g, hg, rfl⟩ := rv_o1_some h
    obtain ⟨k1, k2, v, rest, rfl, i1, i2, k3⟩ := rv_sto1_ok (by decide) hg hG
    obtain ⟨x, rfl⟩ := i2 rfl
    exact fm_astore_n X hd hI.2.2.1 hI.2.2.2.1 k1 (fun ls' hs' => next _ (List.mem_singleton.mpr rfl) V ls' _ (rv_I_sto hI hs' k2) (k3 ls' hs') hs'.2.2.2.2)
  · obtain ⟨g, hg, rfl⟩ := rv_o1_some h
    obtain ⟨k1, k2, v, rest, rfl, i1, i2, k3⟩ := rv_sto1_ok (by decide) hg hG
    obtain ⟨x, rfl⟩ := i2 rfl
    exact fm_astore X hd hI.2.2.1 hI.2.2.2.1 k1 (fun ls' hs' => next _ (List.mem_singleton.mpr rfl) V ls' _ (rv_I_sto hI hs' k2) (k3 ls' hs') hs'.2.2.2.2)
  · obtain ⟨g, hg, rfl⟩ := rv_o1_some h
    obtain ⟨k1, k2, x, k3, k4⟩ := rv_ii_ok hg hG
    exact fm_iinc X hd k3 hI.2.2.1 hI.2.2.2.1 k1 (fun ls' hs' => next _ (List.mem_singleton.mpr rfl) V ls' _ (rv_I_sto hI hs' k2) (k4 ls' hs').1 (k4 ls' hs').2)
  · obtain ⟨g, hg, rfl⟩ := rv_o1_some h
    obtain ⟨x, y, rest, rfl, -, k3⟩ := rv_b2_ok hg hG
    intro H locs hP hS
    exact lv_iadd hx hb hd (next _ (List.mem_singleton.mpr rfl) V ls _ hI (k3 _ rfl) (fun j => rfl) H locs hP hS)
  · obtain ⟨g, hg, rfl⟩ := rv_o1_some h
    obtain ⟨x, y, rest, rfl, -, k3⟩ := rv_b2_ok hg hG
    intro H locs hP hS
    exact lv_isub hx hb hd (next _ (List.mem_singleton.mpr rfl) V ls _ hI (k3 _ rfl) (fun j => rfl) H locs hP hS)
  · obtain ⟨g, hg, rfl⟩ := rv_o1_some h
    obtain ⟨x, y, rest, rfl, -, k3⟩ := rv_b2_ok hg hG
    intro H locs hP hS
    exact lv_imul hx hb hd (next _ (List.mem_singleton.mpr rfl) V ls _ hI (k3 _ rfl) (fun j => rfl) H locs hP hS)
  · obtain ⟨g, hg, rfl⟩ := rv_o1_some h
    obtain ⟨x, y, rest, rfl, -, k3⟩ := rv_b2_ok hg hG
    intro H locs hP hS
    exact lv_iand hx hb hd (next _ (List.mem_singleton.mpr rfl) V ls _ hI (k3 _ rfl) (fun j => rfl) H locs hP hS)
  · obtain ⟨g, hg, rfl⟩ := rv_o1_some h
    obtain ⟨x, y, rest, rfl, -, k3⟩ := rv_b2_ok hg hG
    intro H locs hP hS
    exact lv_ior hx hb hd (next _ (List.mem_singleton.mpr rfl) V ls _ hI (k3 _ rfl) (fun j => rfl) H locs hP hS)
  · obtain ⟨g, hg, rfl⟩ := rv_o1_some h
    obtain ⟨x, y, rest, rfl, -, k3⟩ := rv_b2_ok hg hG
    intro H locs hP hS
    exact lv_ixor hx hb hd (next _ (List.mem_singleton.mpr rfl) V ls _ hI (k3 _ trivial) (fun j => rfl) H locs hP hS)
  · obtain ⟨g, hg, rfl⟩ := rv_o1_some h
    obtain ⟨x, y, rest, rfl, -, k3⟩ := rv_b2_ok hg hG
    intro H locs hP hS
    exact lv_ishl hx hb hd (next _ (List.mem_singleton.mpr rfl) V ls _ hI (k3 _ trivial) (fun j => rfl) H locs hP hS)
  · obtain ⟨g, hg, rfl⟩ := rv_o1_some h
    obtain ⟨x, y, rest, rfl, -, k3⟩ := rv_b2_ok hg hG
    intro H locs hP hS
    exact lv_ishr hx hb hd (next _ (List.mem_singleton.mpr rfl) V ls _ hI (k3 _ trivial) (fun j => rfl) H locs hP hS)
  · obtain ⟨g, hg, rfl⟩ := rv_o1_some h
    obtain ⟨x, y, rest, rfl, -, k3⟩ := rv_b2_ok hg hG
    intro H locs hP hS
    exact lv_iushr hx hb hd rfl (next _ (List.mem_singleton.mpr rfl) V ls _ hI (k3 _ trivial) (fun j => rfl) H locs hP hS)
  · obtain ⟨g, hg, rfl⟩ := rv_o1_some h
    obtain ⟨x, y, rest, rfl, k2, k3⟩ := rv_b2_ok hg hG
    intro H locs hP hS
    exact lv_idiv hx hb hd (k2 (by decide)) (next _ (List.mem_singleton.mpr rfl) V ls _ hI (k3 _ trivial) (fun j => rfl) H locs hP hS)
  · obtain ⟨g, hg, rfl⟩ := rv_o1_some h
    obtain ⟨x, y, rest, rfl, k2, k3⟩ := rv_b2_ok hg hG
    intro H locs hP hS
    exact lv_irem hx hb hd (k2 (by decide)) (next _ (List.mem_singleton.mpr rfl) V ls _ hI (k3 _ trivial) (fun j => rfl) H locs hP hS)
  · obtain ⟨g, hg, rfl⟩ := rv_o1_some h
    obtain ⟨a, x, rest, rfl, k2, k3⟩ := rv_u1_ok hg hG
    intro H locs hP hS
    exact lv_ineg hx hb hd (next _ (List.mem_singleton.mpr rfl) V ls _ hI (k3 _ (rv_full_ok _)) (fun j => rfl) H locs hP hS)
  · obtain ⟨g, hg, rfl⟩ := rv_o1_some h
    obtain ⟨a, x, rest, rfl, k2, k3⟩ := rv_u1_ok hg hG
    intro H locs hP hS
    exact lv_i2c hx hb hd rfl (next _ (List.mem_singleton.mpr rfl) V ls _ hI (k3 _ (rv_full_ok _)) (fun j => rfl) H locs hP hS)
  · obtain ⟨g, hg, rfl⟩ := rv_o1_some h
    obtain ⟨a, x, rest, rfl, k2, k3⟩ := rv_u1_ok hg hG
    intro H locs hP hS
    exact lv_i2b hx hb hd rfl (next _ (List.mem_singleton.mpr rfl) V ls _ hI (k3 _ (rv_okB (zi_b8 x).1 (zi_b8 x).2)) (fun j => rfl) H locs hP hS)
  · obtain ⟨g, hg, rfl⟩ := rv_o1_some h
    obtain ⟨a, x, rest, rfl, k2, k3⟩ := rv_u1_ok hg hG
    intro H locs hP hS
    obtain ⟨x', ex, x1, x2, x3, x4, x5⟩ := k2
    cases ex
    have e := zi_i64 x
    exact lv_i2l hx hb hd rfl (next _ (List.mem_singleton.mpr rfl) V ls _ hI (k3 _ (rv_okL' rfl ⟨_, rfl, by rw [e]; exact x1, by rw [e]; exact x2, fun q hq => by rw [e]; exact x4 q hq⟩)) (fun j => rfl) H locs hP hS)
  · match hs : G.2.1, h with
    | [], h => cases h
    | a :: S, h =>
      dsimp only at h
      by_cases c1 : a.1 = 3
      · rw [if_pos c1] at h
        cases h
      · rw [if_neg c1] at h
        cases h
        have hS := hG.2.1
        rw [hs] at hS
        obtain ⟨va, vs, rfl, h1, h2⟩ := rv_sk_cons hS
        have hc := rv_ok_cat h1
        rw [if_neg c1] at hc
        intro H locs hP hS
        exact lv_dup hx hb hd hc (next _ (List.mem_singleton.mpr rfl) V ls (va :: va :: vs) hI ⟨hG.1, ⟨h1, h1, h2⟩, hG.2.2⟩ (fun j => rfl) H locs hP hS)
  · match hs : G.2.1, h with
    | [], h => cases h
    | [_], h => cases h
    | b :: a :: S, h =>
      dsimp only at h
      by_cases c1 : a.1 = 3 ∨ b.1 = 3
      · rw [if_pos c1] at h
        cases h
      · rw [if_neg c1] at h
        cases h
        have hS := hG.2.1
        rw [hs] at hS
        obtain ⟨vb, vs, rfl, h1, h2⟩ := rv_sk_cons hS
        obtain ⟨va, vs, rfl, h3, h4⟩ := rv_sk_cons h2
        have hcb := rv_ok_cat h1
        rw [if_neg (fun z => c1 (Or.inr z))] at hcb
        have hca := rv_ok_cat h3
        rw [if_neg (fun z => c1 (Or.inl z))] at hca
        intro H locs hP hS
        exact lv_dup2_11 hx hb hd hcb hca (next _ (List.mem_singleton.mpr rfl) V ls (vb :: va :: vb :: va :: vs) hI ⟨hG.1, ⟨h1, h3, h1, h3, h4⟩, hG.2.2⟩ (fun j => rfl) H locs hP hS)
  · match hs : G.2.1, h with
    | [], h => cases h
    | a :: S, h =>
      dsimp only at h
      by_cases c1 : a.1 = 3
      · rw [if_pos c1] at h
        cases h
      · rw [if_neg c1] at h
        cases h
        have hS := hG.2.1
        rw [hs] at hS
        obtain ⟨va, vs, rfl, h1, h2⟩ := rv_sk_cons hS
        have hc := rv_ok_cat h1
        rw [if_neg c1] at hc
        intro H locs hP hS
        exact lv_pop hx hb hd hc (next _ (List.mem_singleton.mpr rfl) V ls _ hI ⟨hG.1, h2, hG.2.2⟩ (fun j => rfl) H locs hP hS)
  · rename_i off
    by_cases c1 : 0 ≤ (pc : Int) + off
    · rw [if_pos c1] at h
      cases h
      intro H locs hP hS
      exact lv_goto (tgt := rv_tg pc off) hx hb hd (by unfold rv_tg; omega) (next _ (List.mem_singleton.mpr rfl) V ls _ hI hG (fun j => rfl) H locs hP hS)
    · rw [if_neg c1] at h
      cases h
  · rename_i c0 off
    match hs : G.2.1, h with
    | [], h => cases h
    | a :: S, h =>
      dsimp only at h
      by_cases c1 : a.1 = 1 ∧ 0 ≤ (pc : Int) + off
      · rw [if_pos c1] at h
        cases h
        have hS := hG.2.1
        rw [hs] at hS
        obtain ⟨va, vs, rfl, h1, h2⟩ := rv_sk_cons hS
        have h3 := rv_okI c1.1 h1
        obtain ⟨x, rfl, -⟩ := id h3
        have htg : (pc : Int) + off = ((rv_tg pc off : Nat) : Int) := by unfold rv_tg; omega
        intro H locs hP hS
        obtain ⟨k1, k2⟩ := rv_two_ok (pc := pc) (len := 3) (off := off) (c0 := c0) (W1 := W p l e R s m args below meth c H locs 0 0 Q (F0 m (rv_tg pc off) ls vs)) (W2 := W p l e R s m args below meth c H locs 0 0 Q (F0 m (pc + 3) ls vs)) h3 (rv_cst_ok (V := V) (ls := ls) (n := 0) (by decide) (by decide)) (show rv_G ad V0 V ls vs (G.1, S, G.2.2) from ⟨hG.1, h2, hG.2.2⟩)
          (fun g hg1 hg2 => next _ hg1 V ls _ hI hg2 (fun j => rfl) H locs hP hS) (fun g hg1 hg2 => next _ hg1 V ls _ hI hg2 (fun j => rfl) H locs hP hS)
        have e0 : (Int32.ofInt 0).toInt = 0 := rfl
        rw [e0] at k1 k2
        cases c0
        · exact lv_if_eq (tgt := rv_tg pc off) hx hb hd htg (fun z => k1 (show x.toInt = 0 by rw [z]; rfl)) (fun z => k2 (fun y => z (zi_inj y)))
        · exact lv_if_ne (tgt := rv_tg pc off) hx hb hd htg (fun z => k1 (fun y => z (zi_inj y))) (fun z => k2 (fun y => y (show x.toInt = 0 by rw [z]; rfl)))
        · exact lv_if_lt (tgt := rv_tg pc off) hx hb hd htg (fun z => k1 (zi_lt.mp z)) (fun z => k2 (fun y => z (zi_lt.mpr y)))
        · exact lv_if_ge (tgt := rv_tg pc off) hx hb hd htg (fun z => k1 (zi_le.mp z)) (fun z => k2 (fun y => z (zi_le.mpr y)))
        · exact lv_if_gt (tgt := rv_tg pc off) hx hb hd htg (fun z => k1 (zi_lt.mp z)) (fun z => k2 (fun y => z (zi_lt.mpr y)))
        · exact lv_if_le (tgt := rv_tg pc off) hx hb hd htg (fun z => k1 (zi_le.mp z)) (fun z => k2 (fun y => z (zi_le.mpr y)))
      · rw [if_neg c1] at h
        cases h
  · rename_i c0 off
    match hs : G.2.1, h with
    | [], h => cases h
    | [_], h => cases h
    | b :: a :: S, h =>
      dsimp only at h
      by_cases c1 : a.1 = 1 ∧ b.1 = 1 ∧ 0 ≤ (pc : Int) + off
      · rw [if_pos c1] at h
        cases h
        have hS := hG.2.1
        rw [hs] at hS
        obtain ⟨vb, vs, rfl, h5, h6⟩ := rv_sk_cons hS
        obtain ⟨va, vs, rfl, h1, h2⟩ := rv_sk_cons h6
        have h3 := rv_okI c1.1 h1
        obtain ⟨x, rfl, -⟩ := id h3
        have h4 := rv_okI c1.2.1 h5
        obtain ⟨y, rfl, -⟩ := id h4
        have htg : (pc : Int) + off = ((rv_tg pc off : Nat) : Int) := by unfold rv_tg; omega
        intro H locs hP hS
        obtain ⟨k1, k2⟩ := rv_two_ok (pc := pc) (len := 3) (off := off) (c0 := c0) (W1 := W p l e R s m args below meth c H locs 0 0 Q (F0 m (rv_tg pc off) ls vs)) (W2 := W p l e R s m args below meth c H locs 0 0 Q (F0 m (pc + 3) ls vs)) h3 h4 (show rv_G ad V0 V ls vs (G.1, S, G.2.2) from ⟨hG.1, h2, hG.2.2⟩)
          (fun g hg1 hg2 => next _ hg1 V ls _ hI hg2 (fun j => rfl) H locs hP hS) (fun g hg1 hg2 => next _ hg1 V ls _ hI hg2 (fun j => rfl) H locs hP hS)
        cases c0
        · exact lv_icmp_eq (tgt := rv_tg pc off) hx hb hd htg (fun z => k1 (show x.toInt = y.toInt by rw [z])) (fun z => k2 (fun q => z (zi_inj q)))
        · exact lv_icmp_ne (tgt := rv_tg pc off) hx hb hd htg (fun z => k1 (fun q => z (zi_inj q))) (fun z => k2 (fun q => q (show x.toInt = y.toInt by rw [z])))
        · exact lv_icmp_lt (tgt := rv_tg pc off) hx hb hd htg (fun z => k1 (zi_lt.mp z)) (fun z => k2 (fun q => z (zi_lt.mpr q)))
        · exact lv_icmp_ge (tgt := rv_tg pc off) hx hb hd htg (fun z => k1 (zi_le.mp z)) (fun z => k2 (fun q => z (zi_le.mpr q)))
        · exact lv_icmp_gt (tgt := rv_tg pc off) hx hb hd htg (fun z => k1 (zi_lt.mp z)) (fun z => k2 (fun q => z (zi_lt.mpr q)))
        · exact lv_icmp_le (tgt := rv_tg pc off) hx hb hd htg (fun z => k1 (zi_le.mp z)) (fun z => k2 (fun q => z (zi_le.mpr q)))
      · rw [if_neg c1] at h
        cases h
  · obtain ⟨g, hg, rfl⟩ := rv_o1_some h
    obtain ⟨j, rest, ci, k, ts, t, rfl, g1, g2, g3, g4⟩ := rv_gf_ok hE hT hg hG
    exact fm_get X g1 g2 g3 hd (next _ (List.mem_singleton.mpr rfl) V ls _ hI g4 (fun j => rfl))
  · obtain ⟨g, hg, rfl⟩ := rv_o1_some h
    obtain ⟨j, rest, ci, k, ts, lo, hi, x, rfl, g1, g2, g3, g4, g5, g6, g7, g8, g9⟩ := rv_pfd_ok hE hg hG
    exact fm_put X g1 g2 g3 g4 g5 hd (next _ (List.mem_singleton.mpr rfl) _ ls _ (rv_I_up hI (fm_Tm_o hT g4 g5 g6 g7) g8) g9 (fun j => rfl))
  · obtain ⟨g, hg, rfl⟩ := rv_o1_some h
    obtain ⟨j, rest, t, n, lo, hi, x, rfl, g1, g2, g3, g4⟩ := rv_xl_ok hT hg hG
    have g2 : t = 0 := g2
    subst g2
    exact fm_ald0 X g1 g3 hd (next _ (List.mem_singleton.mpr rfl) V ls _ hI g4 (fun j => rfl))
  · obtain ⟨g, hg, rfl⟩ := rv_o1_some h
    obtain ⟨j, rest, t, n, lo, hi, x, rfl, g1, g2, g3, g4⟩ := rv_xl_ok hT hg hG
    have g2 : t = 1 ∨ t = 2 := g2
    rcases g2 with g2 | g2
    · subst g2
      exact fm_ald1 X g1 g3 hd (next _ (List.mem_singleton.mpr rfl) V ls _ hI g4 (fun j => rfl))
    · subst g2
      exact fm_ald2 X g1 g3 hd (next _ (List.mem_singleton.mpr rfl) V ls _ hI g4 (fun j => rfl))
  · obtain ⟨g, hg, rfl⟩ := rv_o1_some h
    obtain ⟨j, rest, t, n, lo, hi, x, y, rfl, g1, g2, g3, g4, g5, g6, g7⟩ := rv_xs_ok hT hg hG
    have g2 : t = 0 := g2
    subst g2
    exact fm_ast0 X g1 g3 hd (next _ (List.mem_singleton.mpr rfl) _ ls _ (rv_I_up hI (fm_Tm_a hT g1 g4 g5) g6) g7 (fun j => rfl))
  · obtain ⟨g, hg, rfl⟩ := rv_o1_some h
    obtain ⟨j, rest, t, n, lo, hi, x, y, rfl, g1, g2, g3, g4, g5, g6, g7⟩ := rv_xs_ok hT hg hG
    have g2 : (t = 1 ∧ -128 ≤ lo ∧ hi ≤ 127) ∨ (t = 2 ∧ 0 ≤ lo ∧ hi ≤ 1) := g2
    rcases g2 with g2 | g2
    · obtain ⟨rfl, z1, z2⟩ := g2
      refine fm_ast1 X g1 g3 hd ?_
      rw [zi_nb (by omega) (by omega)]
      exact next _ (List.mem_singleton.mpr rfl) _ ls _ (rv_I_up hI (fm_Tm_a hT g1 g4 g5) g6) g7 (fun j => rfl)
    · obtain ⟨rfl, z1, z2⟩ := g2
      refine fm_ast2 X g1 g3 hd ?_
      rw [zi_nz (by omega) (by omega)]
      exact next _ (List.mem_singleton.mpr rfl) _ ls _ (rv_I_up hI (fm_Tm_a hT g1 g4 g5) g6) g7 (fun j => rfl)
  · match kx, h, hC with
    | [], h, hC => cases h
    | K :: ks, h, hC =>
      obtain ⟨g, hg, rfl⟩ := rv_o1_some h
      obtain ⟨av, rest, rfl, k1, k2, k3, k4⟩ := rv_call_ok hg hT hG
      refine hC K List.mem_cons_self V ls av rest ⟨hT, hGp V hI.2.1, k1, k2⟩ hI.2.2.1 k3 (fun r V' hp => ?_)
      obtain ⟨k5, k6⟩ := k4 r V' hp
      exact next _ (List.mem_singleton.mpr rfl) V' ls _ ⟨hp.1, fun i f hif => (k6 i f hif).trans (hI.2.1 i f hif), hI.2.2⟩ k5 (fun j => rfl)
  · match kx, h, hC with
    | [], h, hC => cases h
    | K :: ks, h, hC =>
      obtain ⟨g, hg, rfl⟩ := rv_o1_some h
      obtain ⟨av, rest, rfl, k1, k2, k3, k4⟩ := rv_call_ok hg hT hG
      refine hC K List.mem_cons_self V ls av rest ⟨hT, hGp V hI.2.1, k1, k2⟩ hI.2.2.1 k3 (fun r V' hp => ?_)
      obtain ⟨k5, k6⟩ := k4 r V' hp
      exact next _ (List.mem_singleton.mpr rfl) V' ls _ ⟨hp.1, fun i f hif => (k6 i f hif).trans (hI.2.1 i f hif), hI.2.2⟩ k5 (fun j => rfl)
  · rename_i d lo hi offs
    match hs : G.2.1, h with
    | [], h => cases h
    | a :: S, h =>
      dsimp only at h
      by_cases c1 : a.1 = 1 ∧ 0 ≤ (pc : Int) + d ∧ offs.toList.all (fun o => decide (0 ≤ (pc : Int) + o)) = true ∧ hi - lo + 1 = offs.size ∧ -2147483648 ≤ lo ∧ hi ≤ 2147483647
      · rw [if_pos c1] at h
        cases h
        obtain ⟨c1, c2, c3, c4, c5, c6⟩ := c1
        have hS := hG.2.1
        rw [hs] at hS
        obtain ⟨va, vs, rfl, h1, h2⟩ := rv_sk_cons hS
        have h3 := rv_okI c1 h1
        obtain ⟨x, rfl, -⟩ := id h3
        intro H locs hP hS
        by_cases hin : x.toInt < lo ∨ hi < x.toInt
        · exact lv_tableOut (tgt := rv_tg pc d) hx hb hd hin (by unfold rv_tg; omega) (next _ List.mem_cons_self V ls _ hI (show rv_G ad V0 V ls vs (G.1, S, G.2.2) from ⟨hG.1, h2, hG.2.2⟩) (fun j => rfl) H locs hP hS)
        · have hlt : (x.toInt - lo).toNat < offs.toList.length := by rw [Array.length_toList]; omega
          have hlt' : (x.toInt - lo).toNat < offs.size := by omega
          have ho : offs[(x.toInt - lo).toNat]? = some offs.toList[(x.toInt - lo).toNat] := by rw [← Array.getElem?_toList]; exact List.getElem?_eq_getElem hlt
          have hz : x.toInt = lo + ((x.toInt - lo).toNat : Int) := by omega
          have h0 := List.all_eq_true.mp c3 _ (List.getElem_mem hlt)
          simp only [decide_eq_true_eq] at h0
          obtain ⟨g, g1, g2⟩ := rv_br_ok (c := 0) (va := .int x) (vb := .int x) h3 (rv_cst_ok (V := V) (ls := ls) (n := lo + ((x.toInt - lo).toNat : Int)) (by omega) (by omega)) (show x.toInt = _ by rw [zi_of (by omega) (by omega)]; exact hz) (show rv_G ad V0 V ls vs (G.1, S, G.2.2) from ⟨hG.1, h2, hG.2.2⟩)
          refine lv_tableIn (tgt := rv_tg pc offs.toList[(x.toInt - lo).toNat]) hx hb hd (fun z => hin (Or.inl z)) (fun z => hin (Or.inr z)) ho (by unfold rv_tg; omega) (next (_, g) (List.mem_cons_of_mem _ (List.mem_flatMap.mpr ⟨(x.toInt - lo).toNat, List.mem_range.mpr hlt', ?_⟩)) V ls _ hI g2 (fun j => rfl) H locs hP hS)
          rw [g1]
          have e9 : offs.toList.getD (x.toInt - lo).toNat 0 = offs.toList[(x.toInt - lo).toNat] := by simp [List.getD, List.getElem?_eq_getElem hlt]
          rw [e9]
          exact List.mem_singleton.mpr rfl
      · rw [if_neg c1] at h
        cases h
  · rename_i d ps
    match hs : G.2.1, h with
    | [], h => cases h
    | a :: S, h =>
      dsimp only at h
      by_cases c1 : a.1 = 1 ∧ 0 ≤ (pc : Int) + d ∧ ps.toList.all (fun o => decide (0 ≤ (pc : Int) + o.2) && decide (-2147483648 ≤ o.1) && decide (o.1 ≤ 2147483647)) = true ∧ (ps.toList.zip (ps.toList.drop 1)).all (fun (a, next) => a.1 < next.1) = true
      · rw [if_pos c1] at h
        cases h
        obtain ⟨c1, c2, c3, c4⟩ := c1
        have hS := hG.2.1
        rw [hs] at hS
        obtain ⟨va, vs, rfl, h1, h2⟩ := rv_sk_cons hS
        have h3 := rv_okI c1 h1
        obtain ⟨x, rfl, -⟩ := id h3
        intro H locs hP hS
        rcases rv_lk_off (x := x.toInt) (d := d) ps.toList with ho | ⟨q, q1, q2, ho⟩
        · exact lv_lookup (tgt := rv_tg pc d) hx hb hd c4 ho (by unfold rv_tg; omega) (next _ List.mem_cons_self V ls _ hI (show rv_G ad V0 V ls vs (G.1, S, G.2.2) from ⟨hG.1, h2, hG.2.2⟩) (fun j => rfl) H locs hP hS)
        · have h0 := List.all_eq_true.mp c3 q q1
          simp only [Bool.and_eq_true, decide_eq_true_eq] at h0
          obtain ⟨g, g1, g2⟩ := rv_br_ok (c := 0) (va := .int x) (vb := .int x) h3 (rv_cst_ok (V := V) (ls := ls) (n := q.1) (by omega) (by omega)) (show x.toInt = _ by rw [zi_of (by omega) (by omega)]; exact q2.symm) (show rv_G ad V0 V ls vs (G.1, S, G.2.2) from ⟨hG.1, h2, hG.2.2⟩)
          refine lv_lookup (tgt := rv_tg pc q.2) hx hb hd c4 ho (by unfold rv_tg; omega) (next (_, g) (List.mem_cons_of_mem _ (List.mem_flatMap.mpr ⟨q, q1, ?_⟩)) V ls _ hI g2 (fun j => rfl) H locs hP hS)
          rw [g1]
          exact List.mem_singleton.mpr rfl
      · rw [if_neg c1] at h
        cases h
  · cases h
end ALLSTEPS
end
section
/-! THE CHECK OF A BODY: nodes with what is known there, successors, a rank that falls. -/
def rv_ev (ls : Array Slot) : List (Nat × Int) → Int
  | [] => 0
  | q :: cs => q.2 * rv_lx ls q.1 + rv_ev ls cs
def rv_bl (L : List rv_A) (k : Nat) : Int × Int := match L[k]? with
  | some a => if a.1 = 1 then (rv_l a, rv_h a) else (-2147483648, 2147483647)
  | none => (-2147483648, 2147483647)
def rv_lw (c : Int) (b : Int × Int) : Int := if 0 ≤ c then c * b.1 else c * b.2
theorem rv_lw_ok {c x : Int} {b : Int × Int} (h1 : b.1 ≤ x) (h2 : x ≤ b.2) : rv_lw c b ≤ c * x := by
  unfold rv_lw
  by_cases h : 0 ≤ c
  · rw [if_pos h]
    exact Int.mul_le_mul_of_nonneg_left h1 h
  · rw [if_neg h]
    exact Int.mul_le_mul_of_nonpos_left (by omega) h2
theorem rv_bl_ok {ad : Nat → Nat} {ls : Array Slot} {L : List rv_A} (hL : ∀ (k : Nat) (a : rv_A), L[k]? = some a → rv_lok ad ls k a) (k : Nat) : (rv_bl L k).1 ≤ rv_lx ls k ∧ rv_lx ls k ≤ (rv_bl L k).2 := by
  have hr := rv_lx_rng ls k
  unfold rv_bl
  cases ha : L[k]? with
  | none => exact hr
  | some a =>
    dsimp only
    by_cases c : a.1 = 1
    · rw [if_pos c]
      have h := hL k a ha
      unfold rv_lok at h
      rw [if_pos c] at h
      obtain ⟨y, y1, y2, y3, -⟩ := h
      rw [rv_lx_at y1]
      exact ⟨y2, y3⟩
    · rw [if_neg c]
      exact hr
def rv_pr (t : Option (Nat × Option Int)) (L : List rv_A) : List (Nat × Int) → Int × List (Nat × Int)
  | [] => (0, [])
  | q :: cs => match t with
    | none => ((rv_pr t L cs).1, q :: (rv_pr t L cs).2)
    | some (k, o) => if q.1 = k then (match o with
      | some n => ((rv_pr t L cs).1 - q.2 * n, q :: (rv_pr t L cs).2)
      | none => ((rv_pr t L cs).1 + rv_lw q.2 (rv_bl L q.1), (rv_pr t L cs).2)) else ((rv_pr t L cs).1, q :: (rv_pr t L cs).2)
theorem rv_pr_ok {ad : Nat → Nat} {ls ls' : Array Slot} {L : List rv_A} {t : Option (Nat × Option Int)} (hL : ∀ (k : Nat) (a : rv_A), L[k]? = some a → rv_lok ad ls k a) (hR : rv_Rl t ls ls') : ∀ cs, (rv_pr t L cs).1 + rv_ev ls' (rv_pr t L cs).2 ≤ rv_ev ls cs := by
  intro cs
  induction cs with
  | nil => exact Int.le_refl _
  | cons q cs ih =>
    unfold rv_pr
    match t, hR, ih with
    | none, hR, ih =>
      have hR : ∀ j, rv_lx ls' j = rv_lx ls j := hR
      dsimp only
      simp only [rv_ev, hR q.1]
      omega
    | some (k, o), hR, ih =>
      dsimp only
      by_cases c : q.1 = k
      · rw [if_pos c]
        match o, hR, ih with
        | some n, hR, ih =>
          have hR : (∀ j, j ≠ k → rv_lx ls' j = rv_lx ls j) ∧ rv_lx ls' k = rv_lx ls k + n := hR
          dsimp only
          simp only [rv_ev]
          rw [c, hR.2, Int.mul_add]
          omega
        | none, hR, ih =>
          dsimp only
          have h1 := rv_bl_ok hL q.1
          have h2 := rv_lw_ok (c := q.2) h1.1 h1.2
          simp only [rv_ev]
          omega
      · rw [if_neg c]
        have e : rv_lx ls' q.1 = rv_lx ls q.1 := by
          match o, hR with
          | some n, hR => exact hR.1 q.1 c
          | none, hR => exact hR q.1 c
        simp only [rv_ev, e]
        omega
def rv_ca (k : Nat) (c : Int) : List (Nat × Int) → List (Nat × Int)
  | [] => [(k, c)]
  | q :: l => if q.1 = k then (k, q.2 + c) :: l else q :: rv_ca k c l
theorem rv_ca_ok {ls : Array Slot} {k : Nat} {c : Int} : ∀ l, rv_ev ls (rv_ca k c l) = rv_ev ls l + c * rv_lx ls k := by
  intro l
  induction l with
  | nil => simp [rv_ca, rv_ev]
  | cons q l ih =>
    unfold rv_ca
    by_cases h : q.1 = k
    · rw [if_pos h]
      simp only [rv_ev, h, Int.add_mul]
      omega
    · rw [if_neg h]
      simp only [rv_ev, ih]
      omega
def rv_sb : List (Nat × Int) → List (Nat × Int) → List (Nat × Int)
  | l, [] => l
  | l, q :: cs => rv_sb (rv_ca q.1 (-q.2) l) cs
theorem rv_sb_ok {ls : Array Slot} : ∀ cs l, rv_ev ls (rv_sb l cs) = rv_ev ls l - rv_ev ls cs := by
  intro cs
  induction cs with
  | nil => intro l; simp [rv_sb, rv_ev]
  | cons q cs ih =>
    intro l
    unfold rv_sb
    rw [ih, rv_ca_ok]
    simp only [rv_ev, Int.neg_mul]
    omega
def rv_mi (L : List rv_A) : List (Nat × Int) → Int
  | [] => 0
  | q :: cs => rv_lw q.2 (rv_bl L q.1) + rv_mi L cs
theorem rv_mi_ok {ad : Nat → Nat} {ls : Array Slot} {L : List rv_A} (hL : ∀ (k : Nat) (a : rv_A), L[k]? = some a → rv_lok ad ls k a) : ∀ cs, rv_mi L cs ≤ rv_ev ls cs := by
  intro cs
  induction cs with
  | nil => exact Int.le_refl _
  | cons q cs ih =>
    have h1 := rv_bl_ok hL q.1
    have h2 := rv_lw_ok (c := q.2) h1.1 h1.2
    simp only [rv_mi, rv_ev]
    omega
/-- a node: its instruction's place in the listing, what is known, successors, rank, contract -/
abbrev rv_N : Type := Nat × rv_S × List Nat × Int × List (Nat × Int) × List Nat
/-- the calls of a body: the instruction's place in the listing, a contract -/
def rv_kx (ct : List (Nat × rv_K)) (ci : Nat) (is : List Nat) : List rv_K := is.filterMap (fun i => match ct[i]? with
  | some t => if t.1 = ci then some t.2 else none
  | none => none)
theorem rv_kx_mem {ct : List (Nat × rv_K)} {ci : Nat} {is : List Nat} {K : rv_K} (h : K ∈ rv_kx ct ci is) : ∃ t ∈ ct, t.1 = ci ∧ t.2 = K := by
  obtain ⟨i, -, hi⟩ := List.mem_filterMap.mp h
  cases ht : ct[i]? with
  | none => rw [ht] at hi; cases hi
  | some t =>
    rw [ht] at hi
    dsimp only at hi
    by_cases c : t.1 = ci
    · rw [if_pos c] at hi
      exact ⟨t, List.mem_of_getElem? ht, c, Option.some.inj hi⟩
    · rw [if_neg c] at hi
      cases hi
def rv_edge (tm : List fm_C) (cd : List (Nat × Instr × Nat)) (nodes : List rv_N) (d : Int) (cs : List (Nat × Int)) (o : Nat × rv_S) (id : Nat) : Bool := match nodes[id]? with
  | some n => (match cd[n.1]? with
    | some q => decide (q.1 = o.1) && rv_le tm o.2 n.2.1 && decide (1 ≤ d - n.2.2.2.1 + rv_mi o.2.1 (rv_sb cs n.2.2.2.2.1))
    | none => false)
  | none => false
def rv_rc (tm : List fm_C) (K : rv_K) (P : List Nat) (G : rv_S) (c : rv_U × Int × Int) : Bool := match c.1 with
  | .inl j => P.any (fun i => decide (i = j)) && (match K.1[j]?, G.1[j]? with
    | some k, some a => decide (k.1 = 1) && decide (a.1 = 1) && decide (c.2.1 ≤ rv_l a) && decide (rv_h a ≤ c.2.2)
    | _, _ => false)
  | .inr q => (decide (q.2 < 5000) || (P.any (fun i => decide (i = q.2 - 5000)) && (match K.1[q.2 - 5000]? with
    | some k => decide (k.1 = 1)
    | none => false))) && rv_leF tm G.2.2 (q, c.2.1, c.2.2, [])
def rv_pk (tm : List fm_C) (K : rv_K) (G : rv_S) : Bool := K.2.2.2.2.2.all (fun f => decide (f.1.2 < 5000) && rv_leF tm G.2.2 f)
def rv_rI (tm : List fm_C) (K : rv_K) (P : List Nat) (G : rv_S) : Bool := match G.2.1, K.2.2.2.1 with
  | [a], q :: _ => decide (a.1 = 1) && decide (q.2.1 ≤ rv_l a) && decide (rv_h a ≤ q.2.2) && (decide (q.1 ≠ 1) || decide (a.2.1 = 1) || decide (0 < rv_l a) || decide (rv_h a < 0)) && (decide (rv_l a = 0 ∧ rv_h a = 0) || K.2.2.2.2.1.all (rv_rc tm K P (rv_rfC (rv_cs a) (G.1, [], G.2.2)))) && rv_pk tm K G
  | _, _ => false
def rv_rV (tm : List fm_C) (K : rv_K) (G : rv_S) : Bool := match G.2.1, K.2.2.2.1 with
  | [], [] => rv_pk tm K G
  | _, _ => false
def rv_chk (E : rv_E) (ct : List (Nat × rv_K)) (cd : List (Nat × Instr × Nat)) (nodes : List rv_N) (K : rv_K) (n : rv_N) : Bool := decide (0 ≤ n.2.2.2.1 + rv_mi n.2.1.1 n.2.2.2.2.1) && (match cd[n.1]? with
  | none => false
  | some q => match q.2.1, q.2.2 with
    | .ireturn, 1 => rv_rI E.1 K E.2.2.2.2.2.2.1 n.2.1
    | .return_, 1 => rv_rV E.1 K n.2.1
    | _, _ => match rv_tr E q.1 q.2.1 q.2.2 n.2.1 (rv_kx ct n.1 n.2.2.2.2.2) with
      | none => false
      | some outs => outs.all (fun o => n.2.2.1.any (rv_edge E.1 cd nodes (n.2.2.2.1 + (rv_pr (rv_tch q.2.1 n.2.1) n.2.1.1 n.2.2.2.2.1).1) (rv_pr (rv_tch q.2.1 n.2.1) n.2.1.1 n.2.2.2.2.1).2 o)))
def rv_all (E : rv_E) (ct : List (Nat × rv_K)) (cd : List (Nat × Instr × Nat)) (nodes : List rv_N) (K : rv_K) (xs : List Nat) : Nat → List rv_N → Bool
  | _, [] => true
  | id, n :: ns => (xs.any (fun x => decide (x = id)) || rv_chk E ct cd nodes K n) && rv_all E ct cd nodes K xs (id + 1) ns
theorem rv_all_ok {E : rv_E} {ct : List (Nat × rv_K)} {cd : List (Nat × Instr × Nat)} {nodes : List rv_N} {K : rv_K} {xs : List Nat} : ∀ {ns : List rv_N} {id : Nat}, rv_all E ct cd nodes K xs id ns = true → ∀ {k : Nat} {n : rv_N}, ns[k]? = some n → id + k ∈ xs ∨ rv_chk E ct cd nodes K n = true := by
  intro ns
  induction ns with
  | nil => intro id _ k n h; simp at h
  | cons n0 ns ih =>
    intro id h k n hk
    unfold rv_all at h
    simp only [Bool.and_eq_true, Bool.or_eq_true, List.any_eq_true, decide_eq_true_eq] at h
    cases k with
    | zero =>
      simp only [List.getElem?_cons_zero, Option.some.injEq] at hk
      subst hk
      rcases h.1 with ⟨x, x1, x2⟩ | h1
      · exact Or.inl (by rw [← show x = id + 0 by omega]; exact x1)
      · exact Or.inr h1
    | succ k =>
      have := ih h.2 (k := k) (n := n) (by simpa using hk)
      rw [show id + (k + 1) = id + 1 + k by omega]
      exact this
end
section
/-! FROM THE CHECK TO A CONTRACT -/
def fm_A (tm : List fm_C) (ad : Nat → Nat) : Nat → Prop := fun q => ∃ i, i < tm.length ∧ q = ad i
def fm_Ad (tm : List fm_C) (ad : Nat → Nat) : Prop := ∀ i j, i < tm.length → j < tm.length → ad i = ad j → i = j
theorem fm_D {tm : List fm_C} {ad : Nat → Nat} (h : fm_Ad tm ad) (cy : Nat → ClassId) (V : fm_V) : va_D (fm_A tm ad) (fm_ws tm ad cy V) := by
  have key : ∀ (k : Nat) (q : Nat × va_E), (fm_ws tm ad cy V)[k]? = some q → k < tm.length ∧ q.1 = ad k := by
    intro k q hq
    have hk : k < tm.length := by
      have := (List.getElem?_eq_some_iff.mp hq).1
      rw [fm_ws_len] at this
      exact this
    rw [fm_ws_get (List.getElem?_eq_getElem hk)] at hq
    cases hq
    exact ⟨hk, rfl⟩
  refine ⟨fun i j p q hp hq e => ?_, fun k q hq => ?_⟩
  · obtain ⟨a1, a2⟩ := key i p hp
    obtain ⟨b1, b2⟩ := key j q hq
    exact h i j a1 b1 (by rw [← a2, ← b2]; exact e)
  · obtain ⟨a1, a2⟩ := key k q hq
    exact ⟨k, a1, a2⟩
/-- words of a nest: who names, by which row, which method, whose nest -/
abbrev fm_Nt : Type := List (String × Nat × MethodName × String)
def fm_Nw (nt : fm_Nt) (U : State) : Prop := ∀ q ∈ nt, va_Nw (.methodLinkNest q.1 q.2.1 q.2.2.1 q.2.2.2) U
/-- what else must be known of the state, outside the world -/
def fm_Zk (A : Nat → Prop) (Z : State → Heap → Prop) : Prop := (∀ (u U : State) (H : Heap), U.vm = u.vm → Z u H → Z U H) ∧ (∀ (u U : State) (H : Heap), u.WarmedH U.vm → Z u H → Z U H) ∧ ∀ (U : State) (H H' : Heap), H.size ≤ H'.size → (∀ q, q < H.size → ¬ A q → H'[q]? = H[q]?) → Z U H → Z U H'
def fm_Wd (D : va_G) (cl : List vw_C) (tm : List fm_C) (ad : Nat → Nat) (cy : Nat → ClassId) (nt : fm_Nt) (Z : State → Heap → Prop) (V : fm_V) (U : State) : Prop := va_P D cl (fm_ws tm ad cy V) U.heap ∧ va_K D cl (fm_tys cy) U ∧ fm_Nw nt U ∧ Z U U.heap
def rv_Pc (D : va_G) (cl : List vw_C) (tm : List fm_C) (ad : Nat → Nat) (cy : Nat → ClassId) (nt : fm_Nt) (Z : State → Heap → Prop) (V : fm_V) (avs : List Value) : Array Value → State → Prop := fun v U => v = avs.toArray ∧ fm_Wd D cl tm ad cy nt Z V U
def rv_Qc (D : va_G) (cl : List vw_C) (tm : List fm_C) (ad : Nat → Nat) (cy : Nat → ClassId) (nt : fm_Nt) (Z : State → Heap → Prop) (po : Option Value → fm_V → Prop) : Array Value → State → Outcome → State → Prop := fun _ st oc t => (∃ (r : Option Value) (V' : fm_V), oc = .returned r ∧ po r V' ∧ fm_Wd D cl tm ad cy nt Z V' t) ∧ va_F (fm_A tm ad) st t
/-- a method keeps to a contract, from every world -/
def rv_Met (l : Launch) (D : va_G) (cl : List vw_C) (tm : List fm_C) (ad : Nat → Nat) (cy : Nat → ClassId) (nt : fm_Nt) (Z : State → Heap → Prop) (Gp : fm_V → Prop) (y : MethodName) (ws : List Jvm.Cond) (rm : Room) (K : rv_K) : Prop :=
  ∀ (V : fm_V) (avs : List Value), rv_Pre tm Gp ad K V avs → Met l y ws rm (rv_Pc D cl tm ad cy nt Z V avs) (rv_Qc D cl tm ad cy nt Z (rv_Post tm K V avs)) 0 0 (fm_A tm ad)
theorem rv_Pc_blind {D : va_G} {cl : List vw_C} {tm : List fm_C} {ad : Nat → Nat} {cy : Nat → ClassId} {nt : fm_Nt} {Z : State → Heap → Prop} {V : fm_V} {avs : List Value} (hZ : fm_Zk (fm_A tm ad) Z) : FrameBlind (rv_Pc D cl tm ad cy nt Z V avs) := by
  intro a U g mk h
  obtain ⟨h1, h2, h3, h4, h5⟩ := h
  exact ⟨h1, h2, va_K.moved (u := U) (U := U.calling g mk a) (Vm.Alike.refl U.vm) h3, fun q hq => va_Nw.same rfl rfl (h4 q hq), hZ.1 U (U.calling g mk a) _ rfl h5⟩
section MET
variable {p : Program} {l : Launch} {e : Env} {R : Room} {s : State} {m : MethodId} {args : Array Value} {below : List Frame} {meth : Method} {c : Code} {Q : State → Prop} {cc : ByteArray} {own : String} {D : va_G} {cl : List vw_C} {tm : List fm_C} {ad : Nat → Nat} {cy : Nat → ClassId} {A : Nat → Prop} {Ts : List Jvm.Cond} {nL : Nat} {nt : fm_Nt} {Z : State → Heap → Prop}
variable {pc : Nat} {ls : Array Slot} {st : List Value} {V0 V : fm_V} {fl wr : List (Nat × Nat × Nat)} {kc kl : List (Nat × Int)} {M : List (Nat × Nat)} {P : List Nat} {avs : List Value} {Gp : fm_V → Prop} {K : rv_K} {po : Option Value → fm_V → Prop}
/-- the world of the start, with other numbers, at a state that came from it -/
theorem fm_Wd_of (hZ : fm_Zk (fm_A tm ad) Z) (hAA : ∀ q, q < s.heap.size → A q → fm_A tm ad q) (hK : va_K D cl (fm_tys cy) s) (hN : fm_Nw nt s) (hZ0 : Z s s.heap) {H : Heap} {locs : List Loc} (hP : va_P D cl (fm_ws tm ad cy V) H) (hS : va_S A s.heap H locs) {U : State} (hU : U.heap = H) (hW : s.WarmedH U.vm) : fm_Wd D cl tm ad cy nt Z V U := by
  refine ⟨by rw [hU]; exact hP, va_K.moved hW.alike hK, fun q hq => va_Nw.warmM hW (hN q hq), ?_⟩
  rw [hU]
  exact hZ.2.1 s U _ hW (hZ.2.2 s s.heap H hS.1 (fun q h1 h2 => hS.2.1 q h1 (fun z => h2 (hAA q h1 z))) hZ0)
theorem fm_callW {rest st0 : List Value} {a : Array Value} {H : Heap} {locs : List Loc} (hr : va_Run p l e R s m args below meth c H locs 0 0 0 0 (F0 m pc ls st0) rest (rv_Qc D cl tm ad cy nt Z po a) (fm_A tm ad)) (hS : va_S A s.heap H locs) (hA : ∀ q, fm_A tm ad q → A q)
    (kk : ∀ (r : Option Value) (V' : fm_V), po r V' → fm_W p l e R s m args below meth c Q D cl tm ad cy A V' (pc + 3) ls (r.toList ++ rest)) : W p l e R s m args below meth c H locs 0 0 Q (F0 m pc ls st0) := by
  intro T hT X
  obtain ⟨v, st₀, t, T', L, h0, X', hL, e1, e2, ⟨⟨r, V', hv, hp, hw⟩, hz, hk⟩, st⟩ := hr T hT X
  cases hv
  rw [h0] at hz hk
  obtain ⟨t2, a1, b1⟩ := kk v V' hp T'.heap (locs ++ L) (by rw [e1]; exact hw.1)
    ⟨Nat.le_trans hS.1 (by rw [e1]; exact hz), fun q h1 h2 => by rw [e1, hk q (Nat.lt_of_lt_of_le h1 hS.1) (fun z => h2 (hA q z))]; exact hS.2.1 q h1 h2, fun q hq => by
      rcases List.mem_append.mp hq with h | h
      · exact hS.2.2 q h
      · exact hA _ (hL q h)⟩ T' rfl X'
  exact ⟨t2, st t2 a1, b1⟩
/-- what holds in a body: fm_X, and what a callee wants -/
def fm_Y (s : State) (nt : fm_Nt) (Z : State → Heap → Prop) (tm : List fm_C) (ad : Nat → Nat) (A : Nat → Prop) : Prop := fm_Zk (fm_A tm ad) Z ∧ (∀ q, q < s.heap.size → A q → fm_A tm ad q) ∧ (∀ q, fm_A tm ad q → A q) ∧ fm_Nw nt s ∧ Z s s.heap
/-- the words of a callee, among those that all have -/
def fm_Good (Ts : List Jvm.Cond) : Prop := Ts.all goodWord = true
theorem fm_Good.of (h : fm_Good Ts) {ws : List Jvm.Cond} (hw : ∀ w ∈ ws, w ∈ Ts) : GoodIn Ts ws := fun w hw' => ⟨hw w hw', good_of_word (List.all_eq_true.mp h w (hw w hw'))⟩
theorem rv_sk_hd {as : List rv_A} {vs : List Value} {a : rv_A} (h : rv_sk (rv_ok ad V ls) (a :: as) vs) (ha : a.1 = 2) : ∃ vs', vs = .ref (ad a.2.1) :: vs' ∧ rv_sk (rv_ok ad V ls) as vs' := by
  obtain ⟨v, vs', rfl, h1, h2⟩ := rv_sk_cons h
  exact ⟨vs', by rw [rv_okR ha h1], h2⟩
/-- a call of a method of an object: its class's own -/
theorem rv_callV (X : fm_X p s m args c cc own D cl tm ad cy A Ts nL) (Y : fm_Y s nt Z tm ad A) (hg : fm_Good Ts) {y : MethodName} {C : String} {idx maxL n : Nat} {bytes : ByteArray} {ret : Option FieldType} {rm : Room} (hM : rv_Met l D cl tm ad cy nt Z Gp y (.code y bytes maxL ret :: Ts) rm K)
    (hw : Jvm.Cond.methodLink own idx y ∈ Ts ∧ Jvm.Cond.instanceMethod y ∈ Ts ∧ Jvm.Cond.selects C y y ∈ Ts ∧ Jvm.Cond.initialized C ∈ Ts ∧ Jvm.Cond.code y bytes maxL ret ∈ Ts) (hy : y.cls = C ∧ y.cls ≠ "java/lang/invoke/MethodHandle" ∧ y.cls ≠ "java/lang/invoke/VarHandle" ∧ (parseMethodDescriptor y.desc).map (fun d => d.parameters.length) = some n)
    (hrm : (rm.cells = 0 ∧ rm.slots = 0) ∧ rm.frames + 1 ≤ R.frames ∧ 8 + (maxL + 11) + rm.locals ≤ R.locals) {a0 : rv_A} {as : List rv_A} (hK1 : K.1 = a0 :: as ∧ a0.1 = 2 ∧ as.length = n) {ci N : Nat} {T : u_T} {ts : List fm_F} (hci : tm[a0.2.1]? = some (.inr (ci, ts)) ∧ cl[ci]? = some (C, T, N)) (hd : decode cc pc = .ok (.invokevirtual idx, 3)) :
    rv_Call p l e R s m args below meth c Q D cl tm ad cy A Gp nL pc K := by
  obtain ⟨hx, hb, hown, hts, hKk, hD, hml⟩ := id X
  obtain ⟨hZ, hAA, hA, hN, hZ0⟩ := Y
  intro V ls avs rest hpre hls hcat kk H locs hP hS
  obtain ⟨p1, p2, p3, p4⟩ := id hpre
  rw [hK1.1] at p3
  obtain ⟨vs', rfl, hvs⟩ := rv_sk_hd (a := rv_bare a0) (as := as.map rv_bare) p3 hK1.2.1
  have hlen : vs'.length = n := by rw [rv_sk_len hvs, List.length_map]; exact hK1.2.2
  have hstk : (Value.ref (ad (rv_bare a0).2.1) :: vs').reverse ++ rest = vs'.reverse ++ .ref (ad a0.2.1) :: rest := by
    rw [List.reverse_cons, List.append_assoc]
    rfl
  rw [hstk]
  refine fm_callW (a := (Value.ref (ad a0.2.1) :: vs').toArray) (rest := rest) (va_runV (As := vs') (rest := rest) (C := C) (n := n) ⟨hx, hb, hml, hown, hts⟩ (hM V _ hpre) (cwV n hts (hg.of (fun w hw' => ?_)) rfl hrm.1.1 hrm.1.2 hy hrm.2) ⟨rv_Pc_blind hZ, va_recv hKk hP hci.2 (fm_ws_get (ad := ad) (cy := cy) (V := V) hci.1), fun U hU hW => ⟨rfl, fm_Wd_of hZ hAA hKk hN hZ0 hP hS hU hW⟩⟩ rfl hlen hls rfl (lv_room hcat) hd ⟨Nat.zero_le _, Nat.zero_le _⟩) hS hA kk
  unfold wsV at hw'
  rcases List.mem_append.mp hw' with hw' | hw'
  · simp only [List.mem_cons, List.not_mem_nil, or_false] at hw'
    rcases hw' with rfl | rfl | rfl | rfl
    · exact hw.1
    · exact hw.2.1
    · exact hw.2.2.1
    · exact hw.2.2.2.1
  · rcases List.mem_cons.mp hw' with rfl | hw'
    · exact hw.2.2.2.2
    · exact hw'
/-- a call of a static method -/
theorem rv_callS (X : fm_X p s m args c cc own D cl tm ad cy A Ts nL) (Y : fm_Y s nt Z tm ad A) (hg : fm_Good Ts) {y : MethodName} {idx maxL n : Nat} {bytes : ByteArray} {ret : Option FieldType} {rm : Room} (hM : rv_Met l D cl tm ad cy nt Z Gp y (.code y bytes maxL ret :: Ts) rm K)
    (hw : Jvm.Cond.methodLink own idx y ∈ Ts ∧ Jvm.Cond.static y ∈ Ts ∧ Jvm.Cond.initialized y.cls ∈ Ts ∧ Jvm.Cond.code y bytes maxL ret ∈ Ts) (hy : y.cls ≠ "java/lang/invoke/MethodHandle" ∧ y.cls ≠ "java/lang/invoke/VarHandle" ∧ (parseMethodDescriptor y.desc).map (fun d => d.parameters.length) = some n)
    (hrm : (rm.cells = 0 ∧ rm.slots = 0) ∧ rm.frames + 1 ≤ R.frames ∧ 8 + (maxL + 11) + rm.locals ≤ R.locals) (hK1 : K.1.length = n) (hd : decode cc pc = .ok (.invokestatic idx, 3)) :
    rv_Call p l e R s m args below meth c Q D cl tm ad cy A Gp nL pc K := by
  obtain ⟨hx, hb, hown, hts, hKk, hD, hml⟩ := id X
  obtain ⟨hZ, hAA, hA, hN, hZ0⟩ := Y
  intro V ls avs rest hpre hls hcat kk H locs hP hS
  obtain ⟨p1, p2, p3, p4⟩ := id hpre
  have hlen : avs.length = n := by rw [rv_sk_len p3, List.length_map]; exact hK1
  refine fm_callW (a := avs.toArray) (rest := rest) (va_runS (As := avs) (rest := rest) (n := n) ⟨hx, hb, hml, hown, hts⟩ (hM V _ hpre) (va_cwS n hts (hg.of (fun w hw' => ?_)) rfl hrm.1.1 hrm.1.2 hy hrm.2) ⟨rv_Pc_blind hZ, fun U hU hW => ⟨rfl, fm_Wd_of hZ hAA hKk hN hZ0 hP hS hU hW⟩⟩ rfl hlen hls rfl (lv_room hcat) hd ⟨Nat.zero_le _, Nat.zero_le _⟩) hS hA kk
  unfold va_wsS at hw'
  rcases List.mem_append.mp hw' with hw' | hw'
  · simp only [List.mem_cons, List.not_mem_nil, or_false] at hw'
    rcases hw' with rfl | rfl | rfl
    · exact hw.1
    · exact hw.2.1
    · exact hw.2.2.1
  · rcases List.mem_cons.mp hw' with rfl | hw'
    · exact hw.2.2.2
    · exact hw'
/-- a call of a nest mate's private static method -/
theorem rv_callSN (X : fm_X p s m args c cc own D cl tm ad cy A Ts nL) (Y : fm_Y s nt Z tm ad A) (hg : fm_Good Ts) {y : MethodName} {host : String} {idx maxL n : Nat} {bytes : ByteArray} {ret : Option FieldType} {rm : Room} (hM : rv_Met l D cl tm ad cy nt Z Gp y (.code y bytes maxL ret :: Ts) rm K)
    (hq : (own, idx, y, host) ∈ nt) (hw : Jvm.Cond.static y ∈ Ts ∧ Jvm.Cond.initialized y.cls ∈ Ts ∧ Jvm.Cond.code y bytes maxL ret ∈ Ts) (hy : y.cls ≠ "java/lang/invoke/MethodHandle" ∧ y.cls ≠ "java/lang/invoke/VarHandle" ∧ (parseMethodDescriptor y.desc).map (fun d => d.parameters.length) = some n)
    (hrm : (rm.cells = 0 ∧ rm.slots = 0) ∧ rm.frames + 1 ≤ R.frames ∧ 8 + (maxL + 11) + rm.locals ≤ R.locals) (hK1 : K.1.length = n) (hd : decode cc pc = .ok (.invokestatic idx, 3)) :
    rv_Call p l e R s m args below meth c Q D cl tm ad cy A Gp nL pc K := by
  obtain ⟨hx, hb, hown, hts, hKk, hD, hml⟩ := id X
  obtain ⟨hZ, hAA, hA, hN, hZ0⟩ := Y
  intro V ls avs rest hpre hls hcat kk H locs hP hS
  obtain ⟨p1, p2, p3, p4⟩ := id hpre
  have hlen : avs.length = n := by rw [rv_sk_len p3, List.length_map]; exact hK1
  refine fm_callW (a := avs.toArray) (rest := rest) (va_runSN (As := avs) (rest := rest) (n := n) ⟨hx, hb, hml, hown, hts⟩ (hM V _ hpre) ⟨va_cnB n hts (hg.of (fun w hw' => ?_)) rfl hrm.1.1 hrm.1.2 (hN _ hq) (hts _ hw.2.1) hy hrm.2, hts _ hw.1, trivial⟩ ⟨rv_Pc_blind hZ, fun U hU hW => ⟨rfl, fm_Wd_of hZ hAA hKk hN hZ0 hP hS hU hW⟩⟩ rfl hlen hls rfl (lv_room hcat) hd ⟨Nat.zero_le _, Nat.zero_le _⟩) hS hA kk
  rcases List.mem_cons.mp hw' with rfl | hw'
  · exact hw.2.2
  · exact hw'
end MET
end
section
/-! THE CHECK IS RIGHT -/
section FIN
variable {p : Program} {l : Launch} {e : Env} {R : Room} {s : State} {m : MethodId} {args : Array Value} {below : List Frame} {meth : Method} {c : Code} {cc : ByteArray} {own : String} {D : va_G} {cl : List vw_C} {tm : List fm_C} {ad : Nat → Nat} {cy : Nat → ClassId} {Ts : List Jvm.Cond} {nL : Nat} {nt : fm_Nt} {Z : State → Heap → Prop}
variable {pc : Nat} {ls : Array Slot} {st : List Value} {V0 V : fm_V} {fl wr : List (Nat × Nat × Nat)} {kc kl : List (Nat × Int)} {M : List (Nat × Nat)} {P : List Nat} {avs : List Value} {Gp : fm_V → Prop} {K : rv_K}
theorem rv_any_mem {P : List Nat} {j : Nat} (h : P.any (fun i => decide (i = j)) = true) : j ∈ P := by
  simp only [List.any_eq_true, decide_eq_true_eq] at h
  obtain ⟨x, x1, x2⟩ := h
  rw [← x2]
  exact x1
theorem rv_rc_ok {G : rv_S} {q : rv_U × Int × Int} (ha : rv_sk (rv_ok ad V0 #[]) (K.1.map rv_bare) avs) (hI : rv_I tm M P nL V0 avs V ls) (hG : rv_G ad V0 V ls st G) (h : rv_rc tm K P G q = true) : q.2.1 ≤ rv_ua V avs q.1 ∧ rv_ua V avs q.1 ≤ q.2.2 := by
  have arg : ∀ j k, j ∈ P → K.1[j]? = some k → k.1 = 1 → ∃ y : Int32, avs[j]? = some (.int y) ∧ ls[j]? = some (.val (.int y)) := by
    intro j k hj hk h1
    obtain ⟨v, v1, v2⟩ := rv_sk_get ha (j := j) (a := rv_bare k) (by rw [List.getElem?_map, hk]; rfl)
    obtain ⟨y, rfl, -⟩ := rv_okI (show (rv_bare k).1 = 1 from h1) v2
    exact ⟨y, v1, hI.2.2.2.2 j hj _ v1 rfl⟩
  obtain ⟨u, lo, hi⟩ := q
  cases u with
  | inl j =>
    unfold rv_rc at h
    simp only [Bool.and_eq_true] at h
    obtain ⟨h1, h2⟩ := h
    cases hk : K.1[j]? with
    | none => rw [hk] at h2; cases h2
    | some k =>
      cases hg : G.1[j]? with
      | none => rw [hk, hg] at h2; cases h2
      | some a =>
        rw [hk, hg] at h2
        simp only [Bool.and_eq_true, decide_eq_true_eq] at h2
        obtain ⟨⟨⟨h3, h4⟩, h5⟩, h6⟩ := h2
        obtain ⟨y, y1, y2⟩ := arg j k (rv_any_mem h1) hk h3
        have h7 := hG.1 j a hg
        unfold rv_lok at h7
        rw [if_pos h4] at h7
        obtain ⟨z, z1, z2, z3, -⟩ := h7
        rw [y2] at z1
        cases z1
        have e : rv_ua V avs (.inl j) = y.toInt := by
          show rv_av avs j = y.toInt
          unfold rv_av
          rw [y1]
        dsimp only
        rw [e]
        omega
  | inr w =>
    unfold rv_rc at h
    simp only [Bool.and_eq_true, Bool.or_eq_true, decide_eq_true_eq] at h
    obtain ⟨h1, h2⟩ := h
    have h3 := (rv_leF_ok hI.1 hG.2.2 h2).1
    dsimp only at h3 ⊢
    have e : rv_ua V avs (.inr w) = rv_uv V ls (.inr w) := by
      show (V w.1 (if w.2 < 5000 then w.2 else (rv_av avs (w.2 - 5000)).toNat)).toInt = (V w.1 (rv_ix ls w.2)).toInt
      unfold rv_ix
      by_cases c5 : w.2 < 5000
      · rw [if_pos c5, if_pos c5]
      · rw [if_neg c5, if_neg c5]
        rcases h1 with h1 | ⟨h1, h4⟩
        · exact absurd h1 c5
        · cases hk : K.1[w.2 - 5000]? with
          | none => rw [hk] at h4; cases h4
          | some k =>
            rw [hk] at h4
            obtain ⟨y, y1, y2⟩ := arg _ k (rv_any_mem h1) hk (of_decide_eq_true h4)
            rw [rv_lx_at y2]
            unfold rv_av
            rw [y1]
    rw [e]
    exact h3
theorem rv_pk_ok {G : rv_S} (hT : fm_Tm tm V) (hG : rv_G ad V0 V ls st G) (h : rv_pk tm K G = true) : ∀ f ∈ K.2.2.2.2.2, rv_pok V0 V f := by
  intro f hf
  have h1 := List.all_eq_true.mp h f hf
  simp only [Bool.and_eq_true, decide_eq_true_eq] at h1
  have h2 := rv_leF_ok hT hG.2.2 h1.2
  have e : rv_uv V ls (.inr f.1) = (V f.1.1 f.1.2).toInt := by
    show (V f.1.1 (rv_ix ls f.1.2)).toInt = _
    have : rv_ix ls f.1.2 = f.1.2 := by unfold rv_ix; rw [if_pos h1.1]
    rw [this]
  unfold rv_fok at h2
  rw [e] at h2
  exact h2
theorem rv_rI_ok {G : rv_S} (hKM : M = K.2.2.1) (ha : rv_sk (rv_ok ad V0 #[]) (K.1.map rv_bare) avs) (hI : rv_I tm M P nL V0 avs V ls) (hG : rv_G ad V0 V ls st G) (h : rv_rI tm K P G = true) : ∃ x : Int32, st = [.int x] ∧ rv_Post tm K V0 avs (some (.int x)) V ∧ ∃ q qs, K.2.2.2.1 = q :: qs ∧ q.2.1 ≤ x.toInt ∧ x.toInt ≤ q.2.2 := by
  unfold rv_rI at h
  match hs : G.2.1, hk : K.2.2.2.1, h with
  | [a], q :: qs, h =>
    simp only [Bool.and_eq_true, Bool.or_eq_true, decide_eq_true_eq, List.all_eq_true] at h
    obtain ⟨⟨⟨⟨⟨h1, h2⟩, h3⟩, h4⟩, h5⟩, h6⟩ := h
    have hS := hG.2.1
    rw [hs] at hS
    obtain ⟨v, vs, rfl, g1, g2⟩ := rv_sk_cons hS
    rw [rv_sk_nil g2]
    obtain ⟨x, rfl, x1, x2, x3, x4, x5⟩ := rv_okI h1 g1
    refine ⟨x, rfl, ⟨hI.1, by rw [← hKM]; exact hI.2.1, ?_, rv_pk_ok hI.1 hG h6⟩, q, qs, rfl, by omega, by omega⟩
    unfold rv_Res
    rw [hk]
    refine ⟨x, rfl, by omega, by omega, fun hq => ?_, fun hx cs hc => ?_⟩
    · rcases h4 with ((h4 | h4) | h4) | h4
      · exact absurd hq h4
      · exact x3 h4
      · omega
      · omega
    · rcases h5 with h5 | h5
      · omega
      · exact rv_rc_ok (st := []) ha hI (rv_rfC_ok (x5 hx) (show rv_G ad V0 V ls [] (G.1, [], G.2.2) from ⟨hG.1, trivial, hG.2.2⟩)) (h5 cs hc)
  | [], [], h => cases h
  | [], _ :: _, h => cases h
  | [_], [], h => cases h
  | _ :: _ :: _, [], h => cases h
  | _ :: _ :: _, _ :: _, h => cases h
theorem rv_rV_ok {G : rv_S} (hKM : M = K.2.2.1) (hI : rv_I tm M P nL V0 avs V ls) (hG : rv_G ad V0 V ls st G) (h : rv_rV tm K G = true) : st = [] ∧ rv_Post tm K V0 avs none V ∧ K.2.2.2.1 = [] := by
  unfold rv_rV at h
  match hs : G.2.1, hk : K.2.2.2.1, h with
  | [], [], h =>
    have hS := hG.2.1
    rw [hs] at hS
    refine ⟨rv_sk_nil hS, ⟨hI.1, by rw [← hKM]; exact hI.2.1, ?_, rv_pk_ok hI.1 hG h⟩, rfl⟩
    unfold rv_Res
    rw [hk]
  | [], _ :: _, h => cases h
  | _ :: _, [], h => cases h
  | _ :: _, _ :: _, h => cases h
/-- the answer's type -/
def rv_rt (K : rv_K) (ret : Option FieldType) : Prop := match K.2.2.2.1 with
  | [] => ret = none
  | q :: _ => ret = some .int ∨ (ret = some .boolean ∧ 0 ≤ q.2.1 ∧ q.2.2 ≤ 1)
theorem rv_sound {ct : List (Nat × rv_K)} {cd : List (Nat × Instr × Nat)} {nodes : List rv_N} {xs : List Nat} {ret : Option FieldType} (X : fm_X p s m args c cc own D cl tm ad cy (fm_A tm ad) Ts nL) (Y : fm_Y s nt Z tm ad (fm_A tm ad)) (hE : rv_Ev cl Ts own fl wr kc kl) (hdec : ∀ q ∈ cd, decode cc q.1 = .ok (q.2.1, q.2.2)) (hall : rv_all (tm, fl, wr, kc, kl, M, P, nL) ct cd nodes K xs 0 nodes = true) (hKM : M = K.2.2.1) (ha : rv_sk (rv_ok ad V0 #[]) (K.1.map rv_bare) avs)
    (hGp : ∀ V', (∀ i f, rv_in M i f = false → V' i f = V0 i f) → Gp V') (hr : meth.sig.returnType = ret) (hrt : rv_rt K ret) (hlocks : meth.locks = false)
    (hcalls : ∀ t ∈ ct, ∀ q, cd[t.1]? = some q → rv_Call p l e R s m args below meth c (MQ below (rv_Qc D cl tm ad cy nt Z (rv_Post tm K V0 avs)) args s 0 0 (fm_A tm ad)) D cl tm ad cy (fm_A tm ad) Gp nL q.1 t.2)
    (hext : ∀ id ∈ xs, ∀ n, nodes[id]? = some n → ∀ q, cd[n.1]? = some q → ∀ V ls st, rv_I tm M P nL V0 avs V ls → rv_G ad V0 V ls st n.2.1 → (∀ (id' : Nat) (n' : rv_N) (q' : Nat × Instr × Nat), nodes[id']? = some n' → cd[n'.1]? = some q' → ∀ V' ls' st', rv_I tm M P nL V0 avs V' ls' → rv_G ad V0 V' ls' st' n'.2.1 → (n'.2.2.2.1 + rv_ev ls' n'.2.2.2.2.1 + 1).toNat < (n.2.2.2.1 + rv_ev ls n.2.2.2.2.1 + 1).toNat → fm_W p l e R s m args below meth c (MQ below (rv_Qc D cl tm ad cy nt Z (rv_Post tm K V0 avs)) args s 0 0 (fm_A tm ad)) D cl tm ad cy (fm_A tm ad) V' q'.1 ls' st') → fm_W p l e R s m args below meth c (MQ below (rv_Qc D cl tm ad cy nt Z (rv_Post tm K V0 avs)) args s 0 0 (fm_A tm ad)) D cl tm ad cy (fm_A tm ad) V q.1 ls st) :
    ∀ (N id : Nat) (n : rv_N) (q : Nat × Instr × Nat), nodes[id]? = some n → cd[n.1]? = some q → ∀ V ls st, rv_I tm M P nL V0 avs V ls → rv_G ad V0 V ls st n.2.1 → (n.2.2.2.1 + rv_ev ls n.2.2.2.2.1 + 1).toNat < N → fm_W p l e R s m args below meth c (MQ below (rv_Qc D cl tm ad cy nt Z (rv_Post tm K V0 avs)) args s 0 0 (fm_A tm ad)) D cl tm ad cy (fm_A tm ad) V q.1 ls st := by
  obtain ⟨hx, hb, hown, hts, hKk, hD, hml⟩ := id X
  obtain ⟨hZ, hAA, hA, hN, hZ0⟩ := id Y
  intro N
  induction N with
  | zero => intro id n q _ _ V ls st _ _ h; omega
  | succ N ih =>
    intro id n q hn hq V ls st hI hG hrk
    rcases rv_all_ok hall hn with hxs | hchk
    · rw [Nat.zero_add] at hxs
      exact hext id hxs n hn q hq V ls st hI hG (fun id' n' q' hn' hq' V' ls' st' hI' hG' hlt => ih id' n' q' hn' hq' V' ls' st' hI' hG' (by omega))
    · unfold rv_chk at hchk
      rw [hq] at hchk
      simp only [Bool.and_eq_true, decide_eq_true_eq] at hchk
      obtain ⟨h0, hchk⟩ := hchk
      have hmi := rv_mi_ok hG.1 n.2.2.2.2.1
      have hdq := hdec q (List.mem_of_getElem? hq)
      obtain ⟨pcq, ins, len⟩ := q
      dsimp only at hchk hdq ⊢
      split at hchk
      · obtain ⟨x, rfl, hpo, q0, qs, hk, b1, b2⟩ := rv_rI_ok hKM ha hI hG hchk
        intro H locs hP hS
        unfold rv_rt at hrt
        rw [hk] at hrt
        rcases hrt with hrt | ⟨hrt, c1, c2⟩
        · exact W.iret (v := x) hx hb (by rw [hr, hrt]) (fun t ht hW => ⟨⟨_, V, rfl, hpo, fm_Wd_of hZ hAA hKk hN hZ0 hP hS ht hW⟩, hS.F ht⟩) hS.2.2 hdq hlocks
        · exact W.zret (v := x) (ty := .boolean) hx hb (by rw [hr, hrt]) (by rcases zi_bit (x := x) (by omega) (by omega) with rfl | rfl <;> rfl) (fun t ht hW => ⟨⟨_, V, rfl, hpo, fm_Wd_of hZ hAA hKk hN hZ0 hP hS ht hW⟩, hS.F ht⟩) hS.2.2 hdq hlocks
      · obtain ⟨rfl, hpo, hk⟩ := rv_rV_ok hKM hI hG hchk
        intro H locs hP hS
        unfold rv_rt at hrt
        rw [hk] at hrt
        exact W.vret hx hb (by rw [hr]; exact hrt) (fun t ht hW => ⟨⟨_, V, rfl, hpo, fm_Wd_of hZ hAA hKk hN hZ0 hP hS ht hW⟩, hS.F ht⟩) hS.2.2 hdq hlocks
      · cases ht : rv_tr (tm, fl, wr, kc, kl, M, P, nL) pcq ins len n.2.1 (rv_kx ct n.1 n.2.2.2.2.2) with
        | none => rw [ht] at hchk; cases hchk
        | some outs =>
          rw [ht] at hchk
          dsimp only at hchk
          refine rv_step X hE hdq ht hI hG hGp (fun K' hK' => by
            obtain ⟨t, t1, t2, t3⟩ := rv_kx_mem hK'
            have := hcalls t t1 _ (by rw [t2]; exact hq)
            rw [t3] at this
            exact this) (fun o ho V' ls' st' hI' hG' hRl => ?_)
          have h1 := List.all_eq_true.mp hchk o ho
          simp only [List.any_eq_true] at h1
          obtain ⟨id', -, h2⟩ := h1
          unfold rv_edge at h2
          cases hn' : nodes[id']? with
          | none => rw [hn'] at h2; cases h2
          | some n' =>
            rw [hn'] at h2
            dsimp only at h2
            cases hq' : cd[n'.1]? with
            | none => rw [hq'] at h2; cases h2
            | some q' =>
              rw [hq'] at h2
              simp only [Bool.and_eq_true, decide_eq_true_eq] at h2
              obtain ⟨⟨e1, e2⟩, e3⟩ := h2
              have hpr := rv_pr_ok hG.1 hRl n.2.2.2.2.1
              have hm2 := rv_mi_ok hG'.1 (rv_sb (rv_pr (rv_tch ins n.2.1) n.2.1.1 n.2.2.2.2.1).2 n'.2.2.2.2.1)
              rw [rv_sb_ok] at hm2
              have := ih id' n' q' hn' hq' V' ls' st' hI' (rv_le_ok hI'.1 e2 hG') (by omega)
              rw [e1] at this
              exact this
/-- locals at the start: all of one slot -/
theorem rv_ent {n : Nat} : ∀ (vs : List Value) (i : Nat), (∀ v ∈ vs, v.category = 1) → ∀ (j : Nat) (v : Value), vs[j]? = some v → (i + j, v) ∈ lv_args i vs := by
  intro vs
  induction vs with
  | nil => intro i _ j v h; simp at h
  | cons w vs ih =>
    intro i hc j v h
    have hw := hc w List.mem_cons_self
    unfold lv_args
    rw [if_neg (by omega)]
    cases j with
    | zero =>
      simp only [List.getElem?_cons_zero, Option.some.injEq] at h
      subst h
      exact List.mem_cons_self
    | succ j =>
      have := ih (i + 1) (fun v hv => hc v (List.mem_cons_of_mem _ hv)) j v (by simpa using h)
      rw [show i + (j + 1) = i + 1 + j by omega]
      exact List.mem_cons_of_mem _ this
theorem rv_slen : ∀ (vs : List Value), (∀ v ∈ vs, v.category = 1) → (lg_sl vs).length = vs.length := by
  intro vs
  induction vs with
  | nil => intro _; rfl
  | cons w vs ih =>
    intro hc
    have h1 := ih (fun v hv => hc v (List.mem_cons_of_mem _ hv))
    have hw := hc w List.mem_cons_self
    unfold lg_sl at h1 ⊢
    rw [List.flatMap_cons, if_neg (by omega)]
    simp [h1]
theorem rv_catA : ∀ {as : List rv_A} {vs : List Value}, (as.all (fun a => decide (a.1 ≠ 3)) = true) → rv_sk (rv_ok ad V ls) (as.map rv_bare) vs → ∀ v ∈ vs, v.category = 1 := by
  intro as
  induction as with
  | nil => intro vs _ h v hv; rw [rv_sk_nil (show rv_sk _ [] vs from h)] at hv; cases hv
  | cons a as ih =>
    intro vs hc h v hv
    obtain ⟨w, ws, rfl, h1, h2⟩ := rv_sk_cons (a := rv_bare a) (as := as.map rv_bare) h
    rw [List.all_cons, Bool.and_eq_true] at hc
    have hcw := rv_ok_cat h1
    rw [if_neg (show ¬ (rv_bare a).1 = 3 from of_decide_eq_true hc.1)] at hcw
    rcases List.mem_cons.mp hv with rfl | hv
    · exact hcw
    · exact ih hc.2 h2 v hv
/-- the first node fits the contract's start -/
def rv_ini (tm : List fm_C) (K : rv_K) (G : rv_S) : Bool := rv_leL (K.1.map rv_bare) G.1 && G.2.1.isEmpty && K.2.1.all (fun f => decide (f.1.2 < 5000) || (match K.1[f.1.2 - 5000]? with
  | some a => decide (a.1 = 1)
  | none => false)) && G.2.2.all (fun g => rv_leF tm (K.2.1.map (fun f => (f.1, f.2.1, f.2.2.1, []))) (g.1, g.2.1, g.2.2.1, []) && g.2.2.2.all (fun r => decide (g.1.2 < 5000) && decide (r.1 = g.1) && decide (r.2.1 ≤ 0) && decide (0 ≤ r.2.2)))
theorem rv_ini_ok {Gp' : fm_V → Prop} {G : rv_S} (hpre : rv_Pre tm Gp' ad K V avs) (hls : ∀ (j : Nat) (v : Value), avs[j]? = some v → ls[j]? = some (.val v)) (h : rv_ini tm K G = true) : rv_G ad V V ls [] G := by
  obtain ⟨p1, p2, p3, p4⟩ := hpre
  unfold rv_ini at h
  simp only [Bool.and_eq_true, List.isEmpty_iff, List.all_eq_true, decide_eq_true_eq] at h
  obtain ⟨⟨⟨h1, h2⟩, h4⟩, h3⟩ := h
  refine ⟨fun k b hb => ?_, by rw [h2]; exact trivial, fun g hg => ?_⟩
  · have := rv_leL_ok (ad := ad) (ls := ls) 0 (K.1.map rv_bare) G.1 h1 (fun k a hk => ?_) k b hb
    · rw [Nat.zero_add] at this
      exact this
    · rw [Nat.zero_add]
      obtain ⟨v, v1, v2⟩ := rv_sk_get p3 hk
      have v3 := hls k v v1
      unfold rv_lok
      by_cases c1 : a.1 = 1
      · rw [if_pos c1]
        obtain ⟨x, rfl, x1, x2, x3, -⟩ := rv_okI c1 v2
        exact ⟨x, v3, x1, x2, x3⟩
      · rw [if_neg c1]
        by_cases c2 : a.1 = 2
        · rw [if_pos c2, v3, rv_okR c2 v2]
        · rw [if_neg c2]
          trivial
  · obtain ⟨g2, g3⟩ := h3 g hg
    have e : ∀ (q : Nat × Nat), q.2 < 5000 → rv_uv V ls (.inr q) = (V q.1 q.2).toInt := fun q hq => by
      show (V q.1 (rv_ix ls q.2)).toInt = _
      have : rv_ix ls q.2 = q.2 := by unfold rv_ix; rw [if_pos hq]
      rw [this]
    have hF : ∀ f ∈ (K.2.1.map (fun f => ((f.1, f.2.1, f.2.2.1, []) : rv_Fa))), rv_fok V V ls f := by
      intro f hf
      obtain ⟨f0, f1, rfl⟩ := List.mem_map.mp hf
      have hf0 := p4 f0 f1
      have e2 : rv_ua V avs (.inr f0.1) = rv_uv V ls (.inr f0.1) := by
        show (V f0.1.1 (if f0.1.2 < 5000 then f0.1.2 else (rv_av avs (f0.1.2 - 5000)).toNat)).toInt = (V f0.1.1 (rv_ix ls f0.1.2)).toInt
        unfold rv_ix
        by_cases c5 : f0.1.2 < 5000
        · rw [if_pos c5, if_pos c5]
        · rw [if_neg c5, if_neg c5]
          have h6 := h4 f0 f1
          rw [Bool.or_eq_true] at h6
          rcases h6 with h6 | h6
          · exact absurd (of_decide_eq_true h6) c5
          · cases hk : K.1[f0.1.2 - 5000]? with
            | none => rw [hk] at h6; cases h6
            | some k =>
              rw [hk] at h6
              have h7 := of_decide_eq_true h6
              obtain ⟨v, v1, v2⟩ := rv_sk_get p3 (j := f0.1.2 - 5000) (a := rv_bare k) (by rw [List.getElem?_map, hk]; rfl)
              obtain ⟨y, rfl, -⟩ := rv_okI (show (rv_bare k).1 = 1 from h7) v2
              rw [rv_lx_at (hls _ _ v1)]
              unfold rv_av
              rw [v1]
      rw [e2] at hf0
      exact ⟨hf0, fun r hr => absurd hr List.not_mem_nil⟩
    have h5 := (rv_leF_ok p1 hF g2).1
    refine ⟨h5, fun r hr => ?_⟩
    obtain ⟨⟨⟨r0, r1⟩, r2⟩, r3⟩ := g3 r hr
    rw [e g.1 r0, r1]
    omega
/-- A CHECKED BODY KEEPS TO ITS CONTRACT -/
theorem rv_met {ct : List (Nat × rv_K)} {y : MethodName} {bytes : ByteArray} {ret : Option FieldType} {rm : Room} {cd : List (Nat × Instr × Nat)} {nodes : List rv_N} {xs : List Nat} {n0 : rv_N} {q0 : Nat × Instr × Nat} (hAd : fm_Ad tm ad) (hZ : fm_Zk (fm_A tm ad) Z) (hy : plainName y.cls = true) (hE : rv_Ev cl Ts y.cls fl wr kc kl) (hdec : ∀ q ∈ cd, decode bytes q.1 = .ok (q.2.1, q.2.2)) (hall : rv_all (tm, fl, wr, kc, kl, K.2.2.1, P, nL) ct cd nodes K xs 0 nodes = true)
    (h0 : nodes[0]? = some n0 ∧ cd[n0.1]? = some q0 ∧ q0.1 = 0) (hini : rv_ini tm K n0.2.1 = true) (hcat : K.1.all (fun a => decide (a.1 ≠ 3)) = true) (hlen : K.1.length ≤ nL)
    (hGm : ∀ V V' : fm_V, (∀ i f, rv_in K.2.2.1 i f = false → V' i f = V i f) → Gp V → Gp V') (hrt : rv_rt K ret)
    (hcalls : ∀ (p : Program) (e : Env) (s : State) (m : MethodId) (args : Array Value) (below : List Frame) (meth : Method) (c : Code) (Q : State → Prop), fm_X p s m args c bytes y.cls D cl tm ad cy (fm_A tm ad) Ts nL → fm_Y s nt Z tm ad (fm_A tm ad) → ∀ t ∈ ct, ∀ q, cd[t.1]? = some q → rv_Call p l e rm s m args below meth c Q D cl tm ad cy (fm_A tm ad) Gp nL q.1 t.2)
    (hext : ∀ (p : Program) (e : Env) (s : State) (m : MethodId) (args : Array Value) (below : List Frame) (meth : Method) (c : Code) (V0 : fm_V) (avs : List Value), rv_Pre tm Gp ad K V0 avs → meth.sig.returnType = ret → meth.locks = false → fm_X p s m args c bytes y.cls D cl tm ad cy (fm_A tm ad) Ts nL → fm_Y s nt Z tm ad (fm_A tm ad) → ∀ id ∈ xs, ∀ n, nodes[id]? = some n → ∀ q, cd[n.1]? = some q → ∀ V ls st, rv_I tm K.2.2.1 P nL V0 avs V ls → rv_G ad V0 V ls st n.2.1 → (∀ (id' : Nat) (n' : rv_N) (q' : Nat × Instr × Nat), nodes[id']? = some n' → cd[n'.1]? = some q' → ∀ V' ls' st', rv_I tm K.2.2.1 P nL V0 avs V' ls' → rv_G ad V0 V' ls' st' n'.2.1 → (n'.2.2.2.1 + rv_ev ls' n'.2.2.2.2.1 + 1).toNat < (n.2.2.2.1 + rv_ev ls n.2.2.2.2.1 + 1).toNat → fm_W p l e rm s m args below meth c (MQ below (rv_Qc D cl tm ad cy nt Z (rv_Post tm K V0 avs)) args s 0 0 (fm_A tm ad)) D cl tm ad cy (fm_A tm ad) V' q'.1 ls' st') → fm_W p l e rm s m args below meth c (MQ below (rv_Qc D cl tm ad cy nt Z (rv_Post tm K V0 avs)) args s 0 0 (fm_A tm ad)) D cl tm ad cy (fm_A tm ad) V q.1 ls st) :
    rv_Met l D cl tm ad cy nt Z Gp y (.code y bytes nL ret :: Ts) rm K := by
  intro V avs hpre
  refine Met.ofW (cc := bytes) (maxL := nL) (ret := ret) hy rfl ?_
  intro p e s m args below meth c s₁ B hml hv
  obtain ⟨rfl, hP, hK, hN, hZ0⟩ := hv
  have hts := atoms_spec (ws := Jvm.Cond.code y bytes nL ret :: Ts) B.pre
  have hown : s.vm.findClass y.cls = some m.cls := findClass_of_methodNamed B.named
  have X : fm_X p s m avs.toArray c bytes y.cls D cl tm ad cy (fm_A tm ad) Ts nL := ⟨B.exec, B.bytes, hown, fun w hw => hts w (List.mem_cons_of_mem _ hw), hK, fun V => fm_D hAd cy V, hml⟩
  have Y : fm_Y s nt Z tm ad (fm_A tm ad) := ⟨hZ, fun q _ h => h, fun q h => h, hN, hZ0⟩
  have hc1 := rv_catA hcat hpre.2.2.1
  have hsl := rv_slen avs hc1
  have hal : avs.length = K.1.length := by rw [rv_sk_len hpre.2.2.1, List.length_map]
  have hl := lv_entry avs (n := nL) (by rw [hsl, hal]; exact hlen)
  rw [lg_entry_eq]
  generalize (lg_sl avs ++ List.replicate (nL - (lg_sl avs).length) Slot.unset).toArray = ls at hl ⊢
  have hls : ∀ (j : Nat) (v : Value), avs[j]? = some v → ls[j]? = some (.val v) := fun j v hj => by
    have := hl.2.2 _ (rv_ent (n := 0) avs 0 hc1 j v hj)
    simpa using this
  have hI : rv_I tm K.2.2.1 P nL V avs V ls := ⟨hpre.1, fun i f _ => rfl, hl.1, hl.2.1, fun j _ v hv _ => hls j v hv⟩
  have := rv_sound (Gp := Gp) (l := l) (R := rm) (e := e) (below := below) X Y hE hdec hall rfl hpre.2.2.1 (fun V' h => hGm V V' h hpre.2.1) B.returns hrt B.notSynchronized (hcalls p e s m avs.toArray below meth c _ X Y) (hext p e s m avs.toArray below meth c V avs hpre B.returns B.notSynchronized X Y) _ 0 n0 q0 h0.1 h0.2.1 V ls [] hI (rv_ini_ok hpre hls hini) (Nat.lt_succ_self _)
  rw [h0.2.2] at this
  exact this s.heap [] hP va_S.rf
end FIN
end
