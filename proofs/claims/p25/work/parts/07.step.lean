/-! ONE STEP: what an instruction makes of what is known, and that the machine does so. -/
def rv_psh (a : rv_A) (G : rv_S) : rv_S := (G.1, a :: G.2.1, G.2.2)
def rv_cst (n : Int) : rv_A := (1, 0, n, n, [], [])
def rv_tg (pc : Nat) (off : Int) : Nat := ((pc : Int) + off).toNat
def rv_kf (l : List (Nat × Int)) (i : Nat) : Option Int := match l.find? (fun q => decide (q.1 = i)) with
  | some q => some q.2
  | none => none
def rv_ild (k : Nat) (G : rv_S) : Option rv_S := match G.1[k]? with
  | some a => if a.1 = 1 then some (rv_psh (1, a.2.1, rv_l a, rv_h a, [(.inl k, 0)], []) G) else none
  | none => none
def rv_ald (k : Nat) (G : rv_S) : Option rv_S := match G.1[k]? with
  | some a => if a.1 = 2 then some (rv_psh (2, a.2.1, 0, 0, [], []) G) else none
  | none => none
def rv_sto1 (t : Nat) (P : List Nat) (nL k : Nat) (G : rv_S) : Option rv_S := match G.2.1 with
  | a :: S => if a.1 = t ∧ k < nL ∧ P.any (fun j => decide (j = k)) = false then some (rv_st k a (G.1, S, G.2.2)) else none
  | [] => none
def rv_ii (P : List Nat) (nL k : Nat) (n : Int) (G : rv_S) : Option rv_S := match G.1[k]? with
  | some a => if a.1 = 1 ∧ k < nL ∧ P.any (fun j => decide (j = k)) = false ∧ -2147483648 ≤ n ∧ n ≤ 2147483647 then some (rv_inc k n a G) else none
  | none => none
def rv_b2 (op : Nat) (G : rv_S) : Option rv_S := match G.2.1 with
  | b :: a :: S => match rv_bin op a b with
    | some r => some (G.1, r :: S, G.2.2)
    | none => none
  | _ => none
def rv_u1 (f : rv_A → rv_A) (G : rv_S) : Option rv_S := match G.2.1 with
  | a :: S => if a.1 = 1 then some (G.1, f a :: S, G.2.2) else none
  | _ => none
def rv_ne (c : Nat) : Nat := match c with
  | 0 => 1
  | 1 => 0
  | 2 => 3
  | 3 => 2
  | 4 => 5
  | _ => 4
def rv_cc (c : Jvm.ClassFile.Cond) : Nat := match c with
  | .eq => 0
  | .ne => 1
  | .lt => 2
  | .ge => 3
  | .gt => 4
  | .le => 5
def rv_two (pc len : Nat) (off : Int) (c : Nat) (a b : rv_A) (G : rv_S) : List (Nat × rv_S) := (rv_one c a b G).map (fun g => (rv_tg pc off, g)) ++ (rv_one (rv_ne c) a b G).map (fun g => (pc + len, g))
def rv_gf (tm : List fm_C) (fl : List (Nat × Nat × Nat)) (i : Nat) (G : rv_S) : Option rv_S := match fl.find? (fun q => decide (q.1 = i)), G.2.1 with
  | some q, a :: S => if a.1 = 2 ∧ q.2.2 < 5000 then (match tm[a.2.1]? with
    | some (.inr (ci, ts)) => if ci = q.2.1 then (match ts[q.2.2]? with
      | some (.inl (lo, hi)) => some (G.1, rv_rd G.2.2 (a.2.1, q.2.2) lo hi :: S, G.2.2)
      | some (.inr j) => some (G.1, (2, j, 0, 0, [], []) :: S, G.2.2)
      | none => none) else none
    | _ => none) else none
  | _, _ => none
def rv_pfd (tm : List fm_C) (fl wr : List (Nat × Nat × Nat)) (M : List (Nat × Nat)) (i : Nat) (G : rv_S) : Option rv_S := match fl.find? (fun q => decide (q.1 = i)), G.2.1 with
  | some q, v :: a :: S => if a.1 = 2 ∧ v.1 = 1 ∧ q.2.2 < 5000 ∧ rv_in M a.2.1 q.2.2 = true then (match tm[a.2.1]?, wr.find? (fun w => decide (w.1 = q.2.1) && decide (w.2.1 = q.2.2)) with
    | some (.inr (ci, ts)), some w => if ci = q.2.1 then (match ts[q.2.2]? with
      | some (.inl (lo, hi)) => if lo ≤ rv_l v ∧ rv_h v ≤ hi ∧ (w.2.2 = 0 ∨ (0 ≤ lo ∧ hi ≤ 1)) then some (rv_pt a.2.1 q.2.2 v (G.1, S, G.2.2)) else none
      | _ => none) else none
    | _, _ => none) else none
  | _, _ => none
def rv_xl (tm : List fm_C) (b8 : Bool) (G : rv_S) : Option rv_S := match G.2.1 with
  | b :: a :: S => if a.1 = 2 ∧ b.1 = 1 then (match tm[a.2.1]? with
    | some (.inl (t, n, lo, hi)) => if (if b8 = true then t = 1 ∨ t = 2 else t = 0) ∧ 0 ≤ rv_l b ∧ rv_h b < n then some (G.1, (match rv_ip b with
      | some f => rv_rd G.2.2 (a.2.1, f) lo hi
      | none => (1, 0, lo, hi, [], [])) :: S, G.2.2) else none
    | _ => none) else none
  | _ => none
def rv_xs (tm : List fm_C) (M : List (Nat × Nat)) (b8 : Bool) (G : rv_S) : Option rv_S := match G.2.1 with
  | v :: b :: a :: S => if a.1 = 2 ∧ b.1 = 1 ∧ v.1 = 1 then (match tm[a.2.1]? with
    | some (.inl (t, n, lo, hi)) => if (if b8 = true then (t = 1 ∧ -128 ≤ lo ∧ hi ≤ 127) ∨ (t = 2 ∧ 0 ≤ lo ∧ hi ≤ 1) else t = 0) ∧ 0 ≤ rv_l b ∧ rv_h b < n ∧ lo ≤ rv_l v ∧ rv_h v ≤ hi then
        (if rv_l b = rv_h b ∧ rv_l b < 5000 then (if rv_in M a.2.1 (rv_l b).toNat = true then some (rv_pt a.2.1 (rv_l b).toNat v (G.1, S, G.2.2)) else none) else if rv_in M a.2.1 9999 = true then some (rv_pc a.2.1 (G.1, S, G.2.2)) else none) else none
    | _ => none) else none
  | _ => none
def rv_o1 (pc : Nat) (G : Option rv_S) : Option (List (Nat × rv_S)) := match G with
  | some g => some [(pc, g)]
  | none => none
def rv_tr (E : rv_E) (pc : Nat) (ins : Instr) (len : Nat) (G : rv_S) (kx : List rv_K) : Option (List (Nat × rv_S)) :=
  match ins, len with
  | .iconst n, 1 => if -1 ≤ n ∧ n ≤ 5 then some [(pc + 1, rv_psh (rv_cst n) G)] else none
  | .bipush n, 2 => if -128 ≤ n ∧ n ≤ 127 then some [(pc + 2, rv_psh (rv_cst n) G)] else none
  | .sipush n, 3 => if -32768 ≤ n ∧ n ≤ 32767 then some [(pc + 3, rv_psh (rv_cst n) G)] else none
  | .ldc i, 2 => match rv_kf E.2.2.2.1 i with
    | some n => some [(pc + 2, rv_psh (rv_cst n) G)]
    | none => none
  | .ldc_w i, 3 => match rv_kf E.2.2.2.1 i with
    | some n => some [(pc + 3, rv_psh (rv_cst n) G)]
    | none => none
  | .ldc2_w i, 3 => match rv_kf E.2.2.2.2.1 i with
    | some n => some [(pc + 3, rv_psh (3, 0, n, n, [], []) G)]
    | none => none
  | .lconst n, 1 => some [(pc + 1, rv_psh (3, 0, ((n : Nat) : Int), ((n : Nat) : Int), [], []) G)]
  | .iload_n k, 1 => rv_o1 (pc + 1) (rv_ild k G)
  | .iload k, 2 => rv_o1 (pc + 2) (rv_ild k G)
  | .aload_n k, 1 => rv_o1 (pc + 1) (rv_ald k G)
  | .aload k, 2 => rv_o1 (pc + 2) (rv_ald k G)
  | .istore_n k, 1 => rv_o1 (pc + 1) (rv_sto1 1 E.2.2.2.2.2.2.1 E.2.2.2.2.2.2.2 k G)
  | .istore k, 2 => rv_o1 (pc + 2) (rv_sto1 1 E.2.2.2.2.2.2.1 E.2.2.2.2.2.2.2 k G)
  | .astore_n k, 1 => rv_o1 (pc + 1) (rv_sto1 2 E.2.2.2.2.2.2.1 E.2.2.2.2.2.2.2 k G)
  | .astore k, 2 => rv_o1 (pc + 2) (rv_sto1 2 E.2.2.2.2.2.2.1 E.2.2.2.2.2.2.2 k G)
  | .iinc k n, 3 => rv_o1 (pc + 3) (rv_ii E.2.2.2.2.2.2.1 E.2.2.2.2.2.2.2 k n G)
  | .iadd, 1 => rv_o1 (pc + 1) (rv_b2 0 G)
  | .isub, 1 => rv_o1 (pc + 1) (rv_b2 1 G)
  | .imul, 1 => rv_o1 (pc + 1) (rv_b2 2 G)
  | .iand, 1 => rv_o1 (pc + 1) (rv_b2 3 G)
  | .ior, 1 => rv_o1 (pc + 1) (rv_b2 4 G)
  | .ixor, 1 => rv_o1 (pc + 1) (rv_b2 5 G)
  | .ishl, 1 => rv_o1 (pc + 1) (rv_b2 5 G)
  | .ishr, 1 => rv_o1 (pc + 1) (rv_b2 5 G)
  | .iushr, 1 => rv_o1 (pc + 1) (rv_b2 5 G)
  | .idiv, 1 => rv_o1 (pc + 1) (rv_b2 6 G)
  | .irem, 1 => rv_o1 (pc + 1) (rv_b2 6 G)
  | .ineg, 1 => rv_o1 (pc + 1) (rv_u1 (fun _ => rv_full) G)
  | .i2c, 1 => rv_o1 (pc + 1) (rv_u1 (fun _ => rv_full) G)
  | .i2b, 1 => rv_o1 (pc + 1) (rv_u1 (fun _ => (1, 0, -128, 127, [], [])) G)
  | .i2l, 1 => rv_o1 (pc + 1) (rv_u1 (fun a => (3, 0, rv_l a, rv_h a, rv_al a, [])) G)
  | .dup, 1 => match G.2.1 with
    | a :: S => if a.1 = 3 then none else some [(pc + 1, (G.1, a :: a :: S, G.2.2))]
    | _ => none
  | .dup2, 1 => match G.2.1 with
    | b :: a :: S => if a.1 = 3 ∨ b.1 = 3 then none else some [(pc + 1, (G.1, b :: a :: b :: a :: S, G.2.2))]
    | _ => none
  | .pop, 1 => match G.2.1 with
    | a :: S => if a.1 = 3 then none else some [(pc + 1, (G.1, S, G.2.2))]
    | _ => none
  | .goto off, 3 => if 0 ≤ (pc : Int) + off then some [(rv_tg pc off, G)] else none
  | .ifCond c off, 3 => match G.2.1 with
    | a :: S => if a.1 = 1 ∧ 0 ≤ (pc : Int) + off then some (rv_two pc 3 off (rv_cc c) a (rv_cst 0) (G.1, S, G.2.2)) else none
    | _ => none
  | .if_icmp c off, 3 => match G.2.1 with
    | b :: a :: S => if a.1 = 1 ∧ b.1 = 1 ∧ 0 ≤ (pc : Int) + off then some (rv_two pc 3 off (rv_cc c) a b (G.1, S, G.2.2)) else none
    | _ => none
  | .getfield i, 3 => rv_o1 (pc + 3) (rv_gf E.1 E.2.1 i G)
  | .putfield i, 3 => rv_o1 (pc + 3) (rv_pfd E.1 E.2.1 E.2.2.1 E.2.2.2.2.2.1 i G)
  | .iaload, 1 => rv_o1 (pc + 1) (rv_xl E.1 false G)
  | .baload, 1 => rv_o1 (pc + 1) (rv_xl E.1 true G)
  | .iastore, 1 => rv_o1 (pc + 1) (rv_xs E.1 E.2.2.2.2.2.1 false G)
  | .bastore, 1 => rv_o1 (pc + 1) (rv_xs E.1 E.2.2.2.2.2.1 true G)
  | .invokevirtual _, 3 => match kx with
    | K :: _ => rv_o1 (pc + 3) (rv_call E.1 E.2.2.2.2.2.1 K G)
    | [] => none
  | .invokestatic _, 3 => match kx with
    | K :: _ => rv_o1 (pc + 3) (rv_call E.1 E.2.2.2.2.2.1 K G)
    | [] => none
  | .tableswitch d lo hi offs, _ => match G.2.1 with
    | a :: S => if a.1 = 1 ∧ 0 ≤ (pc : Int) + d ∧ offs.toList.all (fun o => decide (0 ≤ (pc : Int) + o)) = true ∧ hi - lo + 1 = offs.size ∧ -2147483648 ≤ lo ∧ hi ≤ 2147483647 then some ((rv_tg pc d, (G.1, S, G.2.2)) :: (List.range offs.size).flatMap (fun (i : Nat) => match rv_br 0 a (rv_cst (lo + (i : Int))) (G.1, S, G.2.2) with
      | some g => [(rv_tg pc (offs.toList.getD i 0), g)]
      | none => [])) else none
    | _ => none
  | .lookupswitch d ps, _ => match G.2.1 with
    | a :: S => if a.1 = 1 ∧ 0 ≤ (pc : Int) + d ∧ ps.toList.all (fun o => decide (0 ≤ (pc : Int) + o.2) && decide (-2147483648 ≤ o.1) && decide (o.1 ≤ 2147483647)) = true ∧ (ps.toList.zip (ps.toList.drop 1)).all (fun (a, next) => a.1 < next.1) = true then some ((rv_tg pc d, (G.1, S, G.2.2)) :: ps.toList.flatMap (fun q => match rv_br 0 a (rv_cst q.1) (G.1, S, G.2.2) with
      | some g => [(rv_tg pc q.2, g)]
      | none => [])) else none
    | _ => none
  | _, _ => none
/-- which local a step changes -/
def rv_tch (ins : Instr) (G : rv_S) : Option (Nat × Option Int) := match ins with
  | .istore_n k => some (k, none)
  | .istore k => some (k, none)
  | .astore_n k => some (k, none)
  | .astore k => some (k, none)
  | .iinc k n => match G.1[k]? with
    | some a => if a.1 = 1 ∧ -2147483648 ≤ rv_l a + n ∧ rv_h a + n ≤ 2147483647 then some (k, some n) else some (k, none)
    | none => some (k, none)
  | _ => none
def rv_Rl (t : Option (Nat × Option Int)) (ls ls' : Array Slot) : Prop := match t with
  | none => ∀ j, rv_lx ls' j = rv_lx ls j
  | some (k, none) => ∀ j, j ≠ k → rv_lx ls' j = rv_lx ls j
  | some (k, some n) => (∀ j, j ≠ k → rv_lx ls' j = rv_lx ls j) ∧ rv_lx ls' k = rv_lx ls k + n
section STEP
variable {p : Program} {l : Launch} {e : Env} {R : Room} {s : State} {m : MethodId} {args : Array Value} {below : List Frame} {meth : Method} {c : Code} {Q : State → Prop} {cc : ByteArray} {own : String} {D : va_G} {cl : List vw_C} {tm : List fm_C} {ad : Nat → Nat} {cy : Nat → ClassId} {A : Nat → Prop} {Ts : List Cond} {nL : Nat}
variable {pc : Nat} {ls : Array Slot} {rest : List Value} {V : fm_V}
theorem fm_istore (X : fm_X p s m args c cc own D cl tm ad cy A Ts nL) {i : Nat} {x : Int32} (hd : decode cc pc = .ok (.istore i, 2)) (hs : ls.size = nL) (hw : lv_wf ls) (hi : i < nL) (kk : ∀ ls', rv_sto ls ls' i (.int x) → fm_W p l e R s m args below meth c Q D cl tm ad cy A V (pc + 2) ls' rest) : fm_W p l e R s m args below meth c Q D cl tm ad cy A V pc ls (.int x :: rest) := by
  obtain ⟨hx, hb, -⟩ := X
  obtain ⟨ls', e', h'⟩ := rv_sto_of (v := .int x) hw (show i < ls.size by omega) rfl
  intro H locs hP hS T hT X
  obtain ⟨t, a, b⟩ := kk ls' h' H locs hP hS T hT X
  refine ⟨t, ?_, b⟩
  jvm_step X.here [X.here.top, ↓top_set X.here.top, hx, hb, hd, e']
  exact a
theorem fm_istore_n (X : fm_X p s m args c cc own D cl tm ad cy A Ts nL) {i : Fin 4} {x : Int32} (hd : decode cc pc = .ok (.istore_n i, 1)) (hs : ls.size = nL) (hw : lv_wf ls) (hi : (i : Nat) < nL) (kk : ∀ ls', rv_sto ls ls' i (.int x) → fm_W p l e R s m args below meth c Q D cl tm ad cy A V (pc + 1) ls' rest) : fm_W p l e R s m args below meth c Q D cl tm ad cy A V pc ls (.int x :: rest) := by
  obtain ⟨hx, hb, -⟩ := X
  obtain ⟨ls', e', h'⟩ := rv_sto_of (v := .int x) hw (show (i : Nat) < ls.size by omega) rfl
  intro H locs hP hS T hT X
  obtain ⟨t, a, b⟩ := kk ls' h' H locs hP hS T hT X
  refine ⟨t, ?_, b⟩
  jvm_step X.here [X.here.top, ↓top_set X.here.top, hx, hb, hd, e']
  exact a
theorem fm_astore (X : fm_X p s m args c cc own D cl tm ad cy A Ts nL) {i : Nat} {x : Nat} (hd : decode cc pc = .ok (.astore i, 2)) (hs : ls.size = nL) (hw : lv_wf ls) (hi : i < nL) (kk : ∀ ls', rv_sto ls ls' i (.ref x) → fm_W p l e R s m args below meth c Q D cl tm ad cy A V (pc + 2) ls' rest) : fm_W p l e R s m args below meth c Q D cl tm ad cy A V pc ls (.ref x :: rest) := by
  obtain ⟨hx, hb, -⟩ := X
  obtain ⟨ls', e', h'⟩ := rv_sto_of (v := .ref x) hw (show i < ls.size by omega) rfl
  intro H locs hP hS T hT X
  obtain ⟨t, a, b⟩ := kk ls' h' H locs hP hS T hT X
  refine ⟨t, ?_, b⟩
  jvm_step X.here [X.here.top, ↓top_set X.here.top, hx, hb, hd, e', Value.isRef]
  exact a
theorem fm_astore_n (X : fm_X p s m args c cc own D cl tm ad cy A Ts nL) {i : Fin 4} {x : Nat} (hd : decode cc pc = .ok (.astore_n i, 1)) (hs : ls.size = nL) (hw : lv_wf ls) (hi : (i : Nat) < nL) (kk : ∀ ls', rv_sto ls ls' i (.ref x) → fm_W p l e R s m args below meth c Q D cl tm ad cy A V (pc + 1) ls' rest) : fm_W p l e R s m args below meth c Q D cl tm ad cy A V pc ls (.ref x :: rest) := by
  obtain ⟨hx, hb, -⟩ := X
  obtain ⟨ls', e', h'⟩ := rv_sto_of (v := .ref x) hw (show (i : Nat) < ls.size by omega) rfl
  intro H locs hP hS T hT X
  obtain ⟨t, a, b⟩ := kk ls' h' H locs hP hS T hT X
  refine ⟨t, ?_, b⟩
  jvm_step X.here [X.here.top, ↓top_set X.here.top, hx, hb, hd, e', Value.isRef]
  exact a
theorem fm_iinc (X : fm_X p s m args c cc own D cl tm ad cy A Ts nL) {i : Nat} {n : Int} {x : Int32} (hd : decode cc pc = .ok (.iinc i n, 3)) (hl : ls[i]? = some (.val (.int x))) (hs : ls.size = nL) (hw : lv_wf ls) (hi : i < nL) (kk : ∀ ls', rv_sto ls ls' i (.int (x + Int32.ofInt n)) → fm_W p l e R s m args below meth c Q D cl tm ad cy A V (pc + 3) ls' rest) : fm_W p l e R s m args below meth c Q D cl tm ad cy A V pc ls rest := by
  obtain ⟨hx, hb, -⟩ := X
  obtain ⟨ls', e', h'⟩ := rv_sto_of (v := .int (x + Int32.ofInt n)) hw (show i < ls.size by omega) rfl
  intro H locs hP hS T hT X
  obtain ⟨t, a, b⟩ := kk ls' h' H locs hP hS T hT X
  refine ⟨t, ?_, b⟩
  jvm_step X.here [X.here.top, ↓top_set X.here.top, hx, hb, hd, hl, e']
  exact a
end STEP
