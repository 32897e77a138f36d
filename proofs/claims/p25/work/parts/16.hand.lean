/-! ROWS FOR WALKS BY HAND, over the world of numbers -/
section HAND
variable {p : Program} {l : Launch} {e : Env} {R : Room} {s : State} {m : MethodId} {args : Array Value} {below : List Frame} {meth : Method} {c : Code} {Q : State → Prop} {cc : ByteArray} {own : String} {D : va_G} {cl : List vw_C} {tm : List fm_C} {ad : Nat → Nat} {cy : Nat → ClassId} {A : Nat → Prop} {Ts : List Jvm.Cond} {nL : Nat}
variable {pc : Nat} {ls : Array Slot} {rest : List Value} {V : fm_V}
theorem fm_iconst (X : fm_X p s m args c cc own D cl tm ad cy A Ts nL) {n : Int} {v : Int32} (hd : decode cc pc = .ok (.iconst n, 1)) (hv : Int32.ofInt n = v) (kk : fm_W p l e R s m args below meth c Q D cl tm ad cy A V (pc + 1) ls (.int v :: rest)) : fm_W p l e R s m args below meth c Q D cl tm ad cy A V pc ls (rest) := by
  obtain ⟨hx, hb, hown, hts, -⟩ := X
  intro H locs hP hS
  exact lv_iconst hx hb hd hv (kk H locs hP hS)
theorem fm_bipush (X : fm_X p s m args c cc own D cl tm ad cy A Ts nL) {n : Int} {v : Int32} (hd : decode cc pc = .ok (.bipush n, 2)) (hv : (Int8.ofInt n).toInt32 = v) (kk : fm_W p l e R s m args below meth c Q D cl tm ad cy A V (pc + 2) ls (.int v :: rest)) : fm_W p l e R s m args below meth c Q D cl tm ad cy A V pc ls (rest) := by
  obtain ⟨hx, hb, hown, hts, -⟩ := X
  intro H locs hP hS
  exact lv_bipush hx hb hd hv (kk H locs hP hS)
theorem fm_sipush (X : fm_X p s m args c cc own D cl tm ad cy A Ts nL) {n : Int} {v : Int32} (hd : decode cc pc = .ok (.sipush n, 3)) (hv : (Int16.ofInt n).toInt32 = v) (kk : fm_W p l e R s m args below meth c Q D cl tm ad cy A V (pc + 3) ls (.int v :: rest)) : fm_W p l e R s m args below meth c Q D cl tm ad cy A V pc ls (rest) := by
  obtain ⟨hx, hb, hown, hts, -⟩ := X
  intro H locs hP hS
  exact lv_sipush hx hb hd hv (kk H locs hP hS)
theorem fm_iload_n (X : fm_X p s m args c cc own D cl tm ad cy A Ts nL) {k : Fin 4} {i : Nat} {x : Int32} (hd : decode cc pc = .ok (.iload_n k, 1)) (hi : (k : Nat) = i) (hl : ls[i]? = some (.val (.int x))) (kk : fm_W p l e R s m args below meth c Q D cl tm ad cy A V (pc + 1) ls (.int x :: rest)) : fm_W p l e R s m args below meth c Q D cl tm ad cy A V pc ls (rest) := by
  obtain ⟨hx, hb, hown, hts, -⟩ := X
  intro H locs hP hS
  exact lv_iload_n hx hb hd hi hl (kk H locs hP hS)
theorem fm_iload (X : fm_X p s m args c cc own D cl tm ad cy A Ts nL) {i : Nat} {x : Int32} (hd : decode cc pc = .ok (.iload i, 2)) (hl : ls[i]? = some (.val (.int x))) (kk : fm_W p l e R s m args below meth c Q D cl tm ad cy A V (pc + 2) ls (.int x :: rest)) : fm_W p l e R s m args below meth c Q D cl tm ad cy A V pc ls (rest) := by
  obtain ⟨hx, hb, hown, hts, -⟩ := X
  intro H locs hP hS
  exact lv_iload hx hb hd hl (kk H locs hP hS)
theorem fm_lload_n (X : fm_X p s m args c cc own D cl tm ad cy A Ts nL) {k : Fin 4} {i : Nat} {x : Int64} (hd : decode cc pc = .ok (.lload_n k, 1)) (hi : (k : Nat) = i) (hl : ls[i]? = some (.val (.long x))) (kk : fm_W p l e R s m args below meth c Q D cl tm ad cy A V (pc + 1) ls (.long x :: rest)) : fm_W p l e R s m args below meth c Q D cl tm ad cy A V pc ls (rest) := by
  obtain ⟨hx, hb, hown, hts, -⟩ := X
  intro H locs hP hS
  exact lv_lload_n hx hb hd hi hl (kk H locs hP hS)
theorem fm_lload (X : fm_X p s m args c cc own D cl tm ad cy A Ts nL) {i : Nat} {x : Int64} (hd : decode cc pc = .ok (.lload i, 2)) (hl : ls[i]? = some (.val (.long x))) (kk : fm_W p l e R s m args below meth c Q D cl tm ad cy A V (pc + 2) ls (.long x :: rest)) : fm_W p l e R s m args below meth c Q D cl tm ad cy A V pc ls (rest) := by
  obtain ⟨hx, hb, hown, hts, -⟩ := X
  intro H locs hP hS
  exact lv_lload hx hb hd hl (kk H locs hP hS)
theorem fm_aload_n (X : fm_X p s m args c cc own D cl tm ad cy A Ts nL) {k : Fin 4} {i : Nat} {x : Nat} (hd : decode cc pc = .ok (.aload_n k, 1)) (hi : (k : Nat) = i) (hl : ls[i]? = some (.val (.ref x))) (kk : fm_W p l e R s m args below meth c Q D cl tm ad cy A V (pc + 1) ls (.ref x :: rest)) : fm_W p l e R s m args below meth c Q D cl tm ad cy A V pc ls (rest) := by
  obtain ⟨hx, hb, hown, hts, -⟩ := X
  intro H locs hP hS
  exact lv_aload_n hx hb hd hi hl (kk H locs hP hS)
theorem fm_iadd (X : fm_X p s m args c cc own D cl tm ad cy A Ts nL) {x y : Int32} (hd : decode cc pc = .ok (.iadd, 1))  (kk : fm_W p l e R s m args below meth c Q D cl tm ad cy A V (pc + 1) ls (.int (x + y) :: rest)) : fm_W p l e R s m args below meth c Q D cl tm ad cy A V pc ls (.int y :: .int x :: rest) := by
  obtain ⟨hx, hb, hown, hts, -⟩ := X
  intro H locs hP hS
  exact lv_iadd hx hb hd (kk H locs hP hS)
theorem fm_isub (X : fm_X p s m args c cc own D cl tm ad cy A Ts nL) {x y : Int32} (hd : decode cc pc = .ok (.isub, 1))  (kk : fm_W p l e R s m args below meth c Q D cl tm ad cy A V (pc + 1) ls (.int (x - y) :: rest)) : fm_W p l e R s m args below meth c Q D cl tm ad cy A V pc ls (.int y :: .int x :: rest) := by
  obtain ⟨hx, hb, hown, hts, -⟩ := X
  intro H locs hP hS
  exact lv_isub hx hb hd (kk H locs hP hS)
theorem fm_imul (X : fm_X p s m args c cc own D cl tm ad cy A Ts nL) {x y : Int32} (hd : decode cc pc = .ok (.imul, 1))  (kk : fm_W p l e R s m args below meth c Q D cl tm ad cy A V (pc + 1) ls (.int (x * y) :: rest)) : fm_W p l e R s m args below meth c Q D cl tm ad cy A V pc ls (.int y :: .int x :: rest) := by
  obtain ⟨hx, hb, hown, hts, -⟩ := X
  intro H locs hP hS
  exact lv_imul hx hb hd (kk H locs hP hS)
theorem fm_iand (X : fm_X p s m args c cc own D cl tm ad cy A Ts nL) {x y : Int32} (hd : decode cc pc = .ok (.iand, 1))  (kk : fm_W p l e R s m args below meth c Q D cl tm ad cy A V (pc + 1) ls (.int (x &&& y) :: rest)) : fm_W p l e R s m args below meth c Q D cl tm ad cy A V pc ls (.int y :: .int x :: rest) := by
  obtain ⟨hx, hb, hown, hts, -⟩ := X
  intro H locs hP hS
  exact lv_iand hx hb hd (kk H locs hP hS)
theorem fm_ior (X : fm_X p s m args c cc own D cl tm ad cy A Ts nL) {x y : Int32} (hd : decode cc pc = .ok (.ior, 1))  (kk : fm_W p l e R s m args below meth c Q D cl tm ad cy A V (pc + 1) ls (.int (x ||| y) :: rest)) : fm_W p l e R s m args below meth c Q D cl tm ad cy A V pc ls (.int y :: .int x :: rest) := by
  obtain ⟨hx, hb, hown, hts, -⟩ := X
  intro H locs hP hS
  exact lv_ior hx hb hd (kk H locs hP hS)
theorem fm_ixor (X : fm_X p s m args c cc own D cl tm ad cy A Ts nL) {x y : Int32} (hd : decode cc pc = .ok (.ixor, 1))  (kk : fm_W p l e R s m args below meth c Q D cl tm ad cy A V (pc + 1) ls (.int (x ^^^ y) :: rest)) : fm_W p l e R s m args below meth c Q D cl tm ad cy A V pc ls (.int y :: .int x :: rest) := by
  obtain ⟨hx, hb, hown, hts, -⟩ := X
  intro H locs hP hS
  exact lv_ixor hx hb hd (kk H locs hP hS)
theorem fm_ishl (X : fm_X p s m args c cc own D cl tm ad cy A Ts nL) {x y : Int32} (hd : decode cc pc = .ok (.ishl, 1))  (kk : fm_W p l e R s m args below meth c Q D cl tm ad cy A V (pc + 1) ls (.int (x <<< (y &&& 31)) :: rest)) : fm_W p l e R s m args below meth c Q D cl tm ad cy A V pc ls (.int y :: .int x :: rest) := by
  obtain ⟨hx, hb, hown, hts, -⟩ := X
  intro H locs hP hS
  exact lv_ishl hx hb hd (kk H locs hP hS)
theorem fm_ishr (X : fm_X p s m args c cc own D cl tm ad cy A Ts nL) {x y : Int32} (hd : decode cc pc = .ok (.ishr, 1))  (kk : fm_W p l e R s m args below meth c Q D cl tm ad cy A V (pc + 1) ls (.int (x >>> (y &&& 31)) :: rest)) : fm_W p l e R s m args below meth c Q D cl tm ad cy A V pc ls (.int y :: .int x :: rest) := by
  obtain ⟨hx, hb, hown, hts, -⟩ := X
  intro H locs hP hS
  exact lv_ishr hx hb hd (kk H locs hP hS)
theorem fm_idiv (X : fm_X p s m args c cc own D cl tm ad cy A Ts nL) {x y : Int32} (hd : decode cc pc = .ok (.idiv, 1)) (hne : ¬ y = 0) (kk : fm_W p l e R s m args below meth c Q D cl tm ad cy A V (pc + 1) ls (.int (x / y) :: rest)) : fm_W p l e R s m args below meth c Q D cl tm ad cy A V pc ls (.int y :: .int x :: rest) := by
  obtain ⟨hx, hb, hown, hts, -⟩ := X
  intro H locs hP hS
  exact lv_idiv hx hb hd hne (kk H locs hP hS)
theorem fm_irem (X : fm_X p s m args c cc own D cl tm ad cy A Ts nL) {x y : Int32} (hd : decode cc pc = .ok (.irem, 1)) (hne : ¬ y = 0) (kk : fm_W p l e R s m args below meth c Q D cl tm ad cy A V (pc + 1) ls (.int (x - x / y * y) :: rest)) : fm_W p l e R s m args below meth c Q D cl tm ad cy A V pc ls (.int y :: .int x :: rest) := by
  obtain ⟨hx, hb, hown, hts, -⟩ := X
  intro H locs hP hS
  exact lv_irem hx hb hd hne (kk H locs hP hS)
theorem fm_dup (X : fm_X p s m args c cc own D cl tm ad cy A Ts nL) {va : Value} (hd : decode cc pc = .ok (.dup, 1)) (hva : va.category = 1) (kk : fm_W p l e R s m args below meth c Q D cl tm ad cy A V (pc + 1) ls (va :: va :: rest)) : fm_W p l e R s m args below meth c Q D cl tm ad cy A V pc ls (va :: rest) := by
  obtain ⟨hx, hb, hown, hts, -⟩ := X
  intro H locs hP hS
  exact lv_dup hx hb hd hva (kk H locs hP hS)
theorem fm_pop (X : fm_X p s m args c cc own D cl tm ad cy A Ts nL) {va : Value} (hd : decode cc pc = .ok (.pop, 1)) (hva : va.category = 1) (kk : fm_W p l e R s m args below meth c Q D cl tm ad cy A V (pc + 1) ls (rest)) : fm_W p l e R s m args below meth c Q D cl tm ad cy A V pc ls (va :: rest) := by
  obtain ⟨hx, hb, hown, hts, -⟩ := X
  intro H locs hP hS
  exact lv_pop hx hb hd hva (kk H locs hP hS)
theorem fm_dup2 (X : fm_X p s m args c cc own D cl tm ad cy A Ts nL) {va vb : Value} (hd : decode cc pc = .ok (.dup2, 1)) (hva : va.category = 1) (hvb : vb.category = 1) (kk : fm_W p l e R s m args below meth c Q D cl tm ad cy A V (pc + 1) ls (va :: vb :: va :: vb :: rest)) : fm_W p l e R s m args below meth c Q D cl tm ad cy A V pc ls (va :: vb :: rest) := by
  obtain ⟨hx, hb, hown, hts, -⟩ := X
  intro H locs hP hS
  exact lv_dup2_11 hx hb hd hva hvb (kk H locs hP hS)
theorem fm_goto (X : fm_X p s m args c cc own D cl tm ad cy A Ts nL) {off : Int} {tgt : Nat} (hd : decode cc pc = .ok (.goto off, 3)) (ht : (pc : Int) + off = (tgt : Int)) (kk : fm_W p l e R s m args below meth c Q D cl tm ad cy A V tgt ls rest) : fm_W p l e R s m args below meth c Q D cl tm ad cy A V pc ls rest := by
  obtain ⟨hx, hb, -⟩ := X
  intro H locs hP hS
  exact lv_goto hx hb hd ht (kk H locs hP hS)
theorem fm_if_eq (X : fm_X p s m args c cc own D cl tm ad cy A Ts nL) {x : Int32} {off : Int} {tgt : Nat} (hd : decode cc pc = .ok (.ifCond .eq off, 3)) (ht : (pc : Int) + off = (tgt : Int)) (kt : x = 0 → fm_W p l e R s m args below meth c Q D cl tm ad cy A V tgt ls rest) (kf : ¬ x = 0 → fm_W p l e R s m args below meth c Q D cl tm ad cy A V (pc + 3) ls rest) : fm_W p l e R s m args below meth c Q D cl tm ad cy A V pc ls (.int x :: rest) := by
  obtain ⟨hx, hb, -⟩ := X
  intro H locs hP hS
  exact lv_if_eq hx hb hd ht (fun z => kt z H locs hP hS) (fun z => kf z H locs hP hS)
theorem fm_if_ne (X : fm_X p s m args c cc own D cl tm ad cy A Ts nL) {x : Int32} {off : Int} {tgt : Nat} (hd : decode cc pc = .ok (.ifCond .ne off, 3)) (ht : (pc : Int) + off = (tgt : Int)) (kt : ¬ x = 0 → fm_W p l e R s m args below meth c Q D cl tm ad cy A V tgt ls rest) (kf : x = 0 → fm_W p l e R s m args below meth c Q D cl tm ad cy A V (pc + 3) ls rest) : fm_W p l e R s m args below meth c Q D cl tm ad cy A V pc ls (.int x :: rest) := by
  obtain ⟨hx, hb, -⟩ := X
  intro H locs hP hS
  exact lv_if_ne hx hb hd ht (fun z => kt z H locs hP hS) (fun z => kf z H locs hP hS)
theorem fm_if_lt (X : fm_X p s m args c cc own D cl tm ad cy A Ts nL) {x : Int32} {off : Int} {tgt : Nat} (hd : decode cc pc = .ok (.ifCond .lt off, 3)) (ht : (pc : Int) + off = (tgt : Int)) (kt : x < 0 → fm_W p l e R s m args below meth c Q D cl tm ad cy A V tgt ls rest) (kf : ¬ x < 0 → fm_W p l e R s m args below meth c Q D cl tm ad cy A V (pc + 3) ls rest) : fm_W p l e R s m args below meth c Q D cl tm ad cy A V pc ls (.int x :: rest) := by
  obtain ⟨hx, hb, -⟩ := X
  intro H locs hP hS
  exact lv_if_lt hx hb hd ht (fun z => kt z H locs hP hS) (fun z => kf z H locs hP hS)
theorem fm_if_ge (X : fm_X p s m args c cc own D cl tm ad cy A Ts nL) {x : Int32} {off : Int} {tgt : Nat} (hd : decode cc pc = .ok (.ifCond .ge off, 3)) (ht : (pc : Int) + off = (tgt : Int)) (kt : 0 ≤ x → fm_W p l e R s m args below meth c Q D cl tm ad cy A V tgt ls rest) (kf : ¬ 0 ≤ x → fm_W p l e R s m args below meth c Q D cl tm ad cy A V (pc + 3) ls rest) : fm_W p l e R s m args below meth c Q D cl tm ad cy A V pc ls (.int x :: rest) := by
  obtain ⟨hx, hb, -⟩ := X
  intro H locs hP hS
  exact lv_if_ge hx hb hd ht (fun z => kt z H locs hP hS) (fun z => kf z H locs hP hS)
theorem fm_if_gt (X : fm_X p s m args c cc own D cl tm ad cy A Ts nL) {x : Int32} {off : Int} {tgt : Nat} (hd : decode cc pc = .ok (.ifCond .gt off, 3)) (ht : (pc : Int) + off = (tgt : Int)) (kt : 0 < x → fm_W p l e R s m args below meth c Q D cl tm ad cy A V tgt ls rest) (kf : ¬ 0 < x → fm_W p l e R s m args below meth c Q D cl tm ad cy A V (pc + 3) ls rest) : fm_W p l e R s m args below meth c Q D cl tm ad cy A V pc ls (.int x :: rest) := by
  obtain ⟨hx, hb, -⟩ := X
  intro H locs hP hS
  exact lv_if_gt hx hb hd ht (fun z => kt z H locs hP hS) (fun z => kf z H locs hP hS)
theorem fm_if_le (X : fm_X p s m args c cc own D cl tm ad cy A Ts nL) {x : Int32} {off : Int} {tgt : Nat} (hd : decode cc pc = .ok (.ifCond .le off, 3)) (ht : (pc : Int) + off = (tgt : Int)) (kt : x ≤ 0 → fm_W p l e R s m args below meth c Q D cl tm ad cy A V tgt ls rest) (kf : ¬ x ≤ 0 → fm_W p l e R s m args below meth c Q D cl tm ad cy A V (pc + 3) ls rest) : fm_W p l e R s m args below meth c Q D cl tm ad cy A V pc ls (.int x :: rest) := by
  obtain ⟨hx, hb, -⟩ := X
  intro H locs hP hS
  exact lv_if_le hx hb hd ht (fun z => kt z H locs hP hS) (fun z => kf z H locs hP hS)
theorem fm_icmp_eq (X : fm_X p s m args c cc own D cl tm ad cy A Ts nL) {x y : Int32} {off : Int} {tgt : Nat} (hd : decode cc pc = .ok (.if_icmp .eq off, 3)) (ht : (pc : Int) + off = (tgt : Int)) (kt : x = y → fm_W p l e R s m args below meth c Q D cl tm ad cy A V tgt ls rest) (kf : ¬ x = y → fm_W p l e R s m args below meth c Q D cl tm ad cy A V (pc + 3) ls rest) : fm_W p l e R s m args below meth c Q D cl tm ad cy A V pc ls (.int y :: .int x :: rest) := by
  obtain ⟨hx, hb, -⟩ := X
  intro H locs hP hS
  exact lv_icmp_eq hx hb hd ht (fun z => kt z H locs hP hS) (fun z => kf z H locs hP hS)
theorem fm_icmp_ne (X : fm_X p s m args c cc own D cl tm ad cy A Ts nL) {x y : Int32} {off : Int} {tgt : Nat} (hd : decode cc pc = .ok (.if_icmp .ne off, 3)) (ht : (pc : Int) + off = (tgt : Int)) (kt : ¬ x = y → fm_W p l e R s m args below meth c Q D cl tm ad cy A V tgt ls rest) (kf : x = y → fm_W p l e R s m args below meth c Q D cl tm ad cy A V (pc + 3) ls rest) : fm_W p l e R s m args below meth c Q D cl tm ad cy A V pc ls (.int y :: .int x :: rest) := by
  obtain ⟨hx, hb, -⟩ := X
  intro H locs hP hS
  exact lv_icmp_ne hx hb hd ht (fun z => kt z H locs hP hS) (fun z => kf z H locs hP hS)
theorem fm_icmp_lt (X : fm_X p s m args c cc own D cl tm ad cy A Ts nL) {x y : Int32} {off : Int} {tgt : Nat} (hd : decode cc pc = .ok (.if_icmp .lt off, 3)) (ht : (pc : Int) + off = (tgt : Int)) (kt : x < y → fm_W p l e R s m args below meth c Q D cl tm ad cy A V tgt ls rest) (kf : ¬ x < y → fm_W p l e R s m args below meth c Q D cl tm ad cy A V (pc + 3) ls rest) : fm_W p l e R s m args below meth c Q D cl tm ad cy A V pc ls (.int y :: .int x :: rest) := by
  obtain ⟨hx, hb, -⟩ := X
  intro H locs hP hS
  exact lv_icmp_lt hx hb hd ht (fun z => kt z H locs hP hS) (fun z => kf z H locs hP hS)
theorem fm_icmp_ge (X : fm_X p s m args c cc own D cl tm ad cy A Ts nL) {x y : Int32} {off : Int} {tgt : Nat} (hd : decode cc pc = .ok (.if_icmp .ge off, 3)) (ht : (pc : Int) + off = (tgt : Int)) (kt : y ≤ x → fm_W p l e R s m args below meth c Q D cl tm ad cy A V tgt ls rest) (kf : ¬ y ≤ x → fm_W p l e R s m args below meth c Q D cl tm ad cy A V (pc + 3) ls rest) : fm_W p l e R s m args below meth c Q D cl tm ad cy A V pc ls (.int y :: .int x :: rest) := by
  obtain ⟨hx, hb, -⟩ := X
  intro H locs hP hS
  exact lv_icmp_ge hx hb hd ht (fun z => kt z H locs hP hS) (fun z => kf z H locs hP hS)
theorem fm_icmp_gt (X : fm_X p s m args c cc own D cl tm ad cy A Ts nL) {x y : Int32} {off : Int} {tgt : Nat} (hd : decode cc pc = .ok (.if_icmp .gt off, 3)) (ht : (pc : Int) + off = (tgt : Int)) (kt : y < x → fm_W p l e R s m args below meth c Q D cl tm ad cy A V tgt ls rest) (kf : ¬ y < x → fm_W p l e R s m args below meth c Q D cl tm ad cy A V (pc + 3) ls rest) : fm_W p l e R s m args below meth c Q D cl tm ad cy A V pc ls (.int y :: .int x :: rest) := by
  obtain ⟨hx, hb, -⟩ := X
  intro H locs hP hS
  exact lv_icmp_gt hx hb hd ht (fun z => kt z H locs hP hS) (fun z => kf z H locs hP hS)
theorem fm_icmp_le (X : fm_X p s m args c cc own D cl tm ad cy A Ts nL) {x y : Int32} {off : Int} {tgt : Nat} (hd : decode cc pc = .ok (.if_icmp .le off, 3)) (ht : (pc : Int) + off = (tgt : Int)) (kt : x ≤ y → fm_W p l e R s m args below meth c Q D cl tm ad cy A V tgt ls rest) (kf : ¬ x ≤ y → fm_W p l e R s m args below meth c Q D cl tm ad cy A V (pc + 3) ls rest) : fm_W p l e R s m args below meth c Q D cl tm ad cy A V pc ls (.int y :: .int x :: rest) := by
  obtain ⟨hx, hb, -⟩ := X
  intro H locs hP hS
  exact lv_icmp_le hx hb hd ht (fun z => kt z H locs hP hS) (fun z => kf z H locs hP hS)
theorem fm_lcmp (X : fm_X p s m args c cc own D cl tm ad cy A Ts nL) {x y : Int64} (hd : decode cc pc = .ok (.lcmp, 1)) (kk : fm_W p l e R s m args below meth c Q D cl tm ad cy A V (pc + 1) ls (.int (lg_cmp x y) :: rest)) : fm_W p l e R s m args below meth c Q D cl tm ad cy A V pc ls (.long y :: .long x :: rest) := by
  obtain ⟨hx, hb, -⟩ := X
  intro H locs hP hS
  exact W.lcmp hx hb hd (kk H locs hP hS)
theorem fz_iconst (X : fm_X p s m args c cc own D cl tm ad cy A Ts nL) {n : Int} (hd : decode cc pc = .ok (.iconst n, 1)) (h : -1 ≤ n ∧ n ≤ 5) (kk : ∀ v : Int32, v.toInt = n → fm_W p l e R s m args below meth c Q D cl tm ad cy A V (pc + 1) ls (.int v :: rest)) : fm_W p l e R s m args below meth c Q D cl tm ad cy A V pc ls rest := fm_iconst X hd rfl (kk (Int32.ofInt n) (zi_of (by omega) (by omega)))
theorem fz_bipush (X : fm_X p s m args c cc own D cl tm ad cy A Ts nL) {n : Int} (hd : decode cc pc = .ok (.bipush n, 2)) (h : -128 ≤ n ∧ n ≤ 127) (kk : ∀ v : Int32, v.toInt = n → fm_W p l e R s m args below meth c Q D cl tm ad cy A V (pc + 2) ls (.int v :: rest)) : fm_W p l e R s m args below meth c Q D cl tm ad cy A V pc ls rest := fm_bipush X hd rfl (kk ((Int8.ofInt n).toInt32) (zi_b n h.1 h.2))
theorem fz_sipush (X : fm_X p s m args c cc own D cl tm ad cy A Ts nL) {n : Int} (hd : decode cc pc = .ok (.sipush n, 3)) (h : -32768 ≤ n ∧ n ≤ 32767) (kk : ∀ v : Int32, v.toInt = n → fm_W p l e R s m args below meth c Q D cl tm ad cy A V (pc + 3) ls (.int v :: rest)) : fm_W p l e R s m args below meth c Q D cl tm ad cy A V pc ls rest := fm_sipush X hd rfl (kk ((Int16.ofInt n).toInt32) (zi_s n h.1 h.2))
theorem fz_iadd (X : fm_X p s m args c cc own D cl tm ad cy A Ts nL) {x y : Int32} (hd : decode cc pc = .ok (.iadd, 1)) (h : -2147483648 ≤ x.toInt + y.toInt ∧ x.toInt + y.toInt ≤ 2147483647) (kk : ∀ z : Int32, z.toInt = x.toInt + y.toInt → fm_W p l e R s m args below meth c Q D cl tm ad cy A V (pc + 1) ls (.int z :: rest)) : fm_W p l e R s m args below meth c Q D cl tm ad cy A V pc ls (.int y :: .int x :: rest) := by
  refine fm_iadd X hd (kk _ ?_)
  obtain ⟨k, hk⟩ := zi_add x y
  have hr := zi_rng (x + y)
  omega
theorem fz_isub (X : fm_X p s m args c cc own D cl tm ad cy A Ts nL) {x y : Int32} (hd : decode cc pc = .ok (.isub, 1)) (h : -2147483648 ≤ x.toInt - y.toInt ∧ x.toInt - y.toInt ≤ 2147483647) (kk : ∀ z : Int32, z.toInt = x.toInt - y.toInt → fm_W p l e R s m args below meth c Q D cl tm ad cy A V (pc + 1) ls (.int z :: rest)) : fm_W p l e R s m args below meth c Q D cl tm ad cy A V pc ls (.int y :: .int x :: rest) := by
  refine fm_isub X hd (kk _ ?_)
  obtain ⟨k, hk⟩ := zi_sub x y
  have hr := zi_rng (x - y)
  omega
theorem fa_iadd (X : fm_X p s m args c cc own D cl tm ad cy A Ts nL) {x y : Int32} (hd : decode cc pc = .ok (.iadd, 1)) (kk : ∀ z : Int32, fm_W p l e R s m args below meth c Q D cl tm ad cy A V (pc + 1) ls (.int z :: rest)) : fm_W p l e R s m args below meth c Q D cl tm ad cy A V pc ls (.int y :: .int x :: rest) := fm_iadd X hd (kk _)
theorem fa_isub (X : fm_X p s m args c cc own D cl tm ad cy A Ts nL) {x y : Int32} (hd : decode cc pc = .ok (.isub, 1)) (kk : ∀ z : Int32, fm_W p l e R s m args below meth c Q D cl tm ad cy A V (pc + 1) ls (.int z :: rest)) : fm_W p l e R s m args below meth c Q D cl tm ad cy A V pc ls (.int y :: .int x :: rest) := fm_isub X hd (kk _)
theorem fa_imul (X : fm_X p s m args c cc own D cl tm ad cy A Ts nL) {x y : Int32} (hd : decode cc pc = .ok (.imul, 1)) (kk : ∀ z : Int32, fm_W p l e R s m args below meth c Q D cl tm ad cy A V (pc + 1) ls (.int z :: rest)) : fm_W p l e R s m args below meth c Q D cl tm ad cy A V pc ls (.int y :: .int x :: rest) := fm_imul X hd (kk _)
theorem fa_iand (X : fm_X p s m args c cc own D cl tm ad cy A Ts nL) {x y : Int32} (hd : decode cc pc = .ok (.iand, 1)) (kk : ∀ z : Int32, fm_W p l e R s m args below meth c Q D cl tm ad cy A V (pc + 1) ls (.int z :: rest)) : fm_W p l e R s m args below meth c Q D cl tm ad cy A V pc ls (.int y :: .int x :: rest) := fm_iand X hd (kk _)
theorem fa_ior (X : fm_X p s m args c cc own D cl tm ad cy A Ts nL) {x y : Int32} (hd : decode cc pc = .ok (.ior, 1)) (kk : ∀ z : Int32, fm_W p l e R s m args below meth c Q D cl tm ad cy A V (pc + 1) ls (.int z :: rest)) : fm_W p l e R s m args below meth c Q D cl tm ad cy A V pc ls (.int y :: .int x :: rest) := fm_ior X hd (kk _)
theorem fa_ixor (X : fm_X p s m args c cc own D cl tm ad cy A Ts nL) {x y : Int32} (hd : decode cc pc = .ok (.ixor, 1)) (kk : ∀ z : Int32, fm_W p l e R s m args below meth c Q D cl tm ad cy A V (pc + 1) ls (.int z :: rest)) : fm_W p l e R s m args below meth c Q D cl tm ad cy A V pc ls (.int y :: .int x :: rest) := fm_ixor X hd (kk _)
theorem fa_ishl (X : fm_X p s m args c cc own D cl tm ad cy A Ts nL) {x y : Int32} (hd : decode cc pc = .ok (.ishl, 1)) (kk : ∀ z : Int32, fm_W p l e R s m args below meth c Q D cl tm ad cy A V (pc + 1) ls (.int z :: rest)) : fm_W p l e R s m args below meth c Q D cl tm ad cy A V pc ls (.int y :: .int x :: rest) := fm_ishl X hd (kk _)
theorem fa_ishr (X : fm_X p s m args c cc own D cl tm ad cy A Ts nL) {x y : Int32} (hd : decode cc pc = .ok (.ishr, 1)) (kk : ∀ z : Int32, fm_W p l e R s m args below meth c Q D cl tm ad cy A V (pc + 1) ls (.int z :: rest)) : fm_W p l e R s m args below meth c Q D cl tm ad cy A V pc ls (.int y :: .int x :: rest) := fm_ishr X hd (kk _)
theorem fz_if_eq (X : fm_X p s m args c cc own D cl tm ad cy A Ts nL) {x : Int32} {off : Int} (tgt : Nat) (hd : decode cc pc = .ok (.ifCond .eq off, 3)) (ht : (pc : Int) + off = (tgt : Int)) (kt : x.toInt = 0 → fm_W p l e R s m args below meth c Q D cl tm ad cy A V tgt ls rest) (kf : ¬ x.toInt = 0 → fm_W p l e R s m args below meth c Q D cl tm ad cy A V (pc + 3) ls rest) : fm_W p l e R s m args below meth c Q D cl tm ad cy A V pc ls (.int x :: rest) := fm_if_eq X hd ht (fun q => kt (by rw [q]; rfl)) (fun q => kf (fun w => q (zi_inj w)))
theorem fz_if_ne (X : fm_X p s m args c cc own D cl tm ad cy A Ts nL) {x : Int32} {off : Int} (tgt : Nat) (hd : decode cc pc = .ok (.ifCond .ne off, 3)) (ht : (pc : Int) + off = (tgt : Int)) (kt : ¬ x.toInt = 0 → fm_W p l e R s m args below meth c Q D cl tm ad cy A V tgt ls rest) (kf : x.toInt = 0 → fm_W p l e R s m args below meth c Q D cl tm ad cy A V (pc + 3) ls rest) : fm_W p l e R s m args below meth c Q D cl tm ad cy A V pc ls (.int x :: rest) := fm_if_ne X hd ht (fun q => kt (fun w => q (zi_inj w))) (fun q => kf (by rw [q]; rfl))
theorem fz_if_lt (X : fm_X p s m args c cc own D cl tm ad cy A Ts nL) {x : Int32} {off : Int} (tgt : Nat) (hd : decode cc pc = .ok (.ifCond .lt off, 3)) (ht : (pc : Int) + off = (tgt : Int)) (kt : x.toInt < 0 → fm_W p l e R s m args below meth c Q D cl tm ad cy A V tgt ls rest) (kf : ¬ x.toInt < 0 → fm_W p l e R s m args below meth c Q D cl tm ad cy A V (pc + 3) ls rest) : fm_W p l e R s m args below meth c Q D cl tm ad cy A V pc ls (.int x :: rest) := fm_if_lt X hd ht (fun q => kt (zi_lt.mp q)) (fun q => kf (fun w => q (zi_lt.mpr w)))
theorem fz_if_ge (X : fm_X p s m args c cc own D cl tm ad cy A Ts nL) {x : Int32} {off : Int} (tgt : Nat) (hd : decode cc pc = .ok (.ifCond .ge off, 3)) (ht : (pc : Int) + off = (tgt : Int)) (kt : 0 ≤ x.toInt → fm_W p l e R s m args below meth c Q D cl tm ad cy A V tgt ls rest) (kf : ¬ 0 ≤ x.toInt → fm_W p l e R s m args below meth c Q D cl tm ad cy A V (pc + 3) ls rest) : fm_W p l e R s m args below meth c Q D cl tm ad cy A V pc ls (.int x :: rest) := fm_if_ge X hd ht (fun q => kt (zi_le.mp q)) (fun q => kf (fun w => q (zi_le.mpr w)))
theorem fz_if_gt (X : fm_X p s m args c cc own D cl tm ad cy A Ts nL) {x : Int32} {off : Int} (tgt : Nat) (hd : decode cc pc = .ok (.ifCond .gt off, 3)) (ht : (pc : Int) + off = (tgt : Int)) (kt : 0 < x.toInt → fm_W p l e R s m args below meth c Q D cl tm ad cy A V tgt ls rest) (kf : ¬ 0 < x.toInt → fm_W p l e R s m args below meth c Q D cl tm ad cy A V (pc + 3) ls rest) : fm_W p l e R s m args below meth c Q D cl tm ad cy A V pc ls (.int x :: rest) := fm_if_gt X hd ht (fun q => kt (zi_lt.mp q)) (fun q => kf (fun w => q (zi_lt.mpr w)))
theorem fz_if_le (X : fm_X p s m args c cc own D cl tm ad cy A Ts nL) {x : Int32} {off : Int} (tgt : Nat) (hd : decode cc pc = .ok (.ifCond .le off, 3)) (ht : (pc : Int) + off = (tgt : Int)) (kt : x.toInt ≤ 0 → fm_W p l e R s m args below meth c Q D cl tm ad cy A V tgt ls rest) (kf : ¬ x.toInt ≤ 0 → fm_W p l e R s m args below meth c Q D cl tm ad cy A V (pc + 3) ls rest) : fm_W p l e R s m args below meth c Q D cl tm ad cy A V pc ls (.int x :: rest) := fm_if_le X hd ht (fun q => kt (zi_le.mp q)) (fun q => kf (fun w => q (zi_le.mpr w)))
theorem fz_icmp_eq (X : fm_X p s m args c cc own D cl tm ad cy A Ts nL) {x y : Int32} {off : Int} (tgt : Nat) (hd : decode cc pc = .ok (.if_icmp .eq off, 3)) (ht : (pc : Int) + off = (tgt : Int)) (kt : x.toInt = y.toInt → fm_W p l e R s m args below meth c Q D cl tm ad cy A V tgt ls rest) (kf : ¬ x.toInt = y.toInt → fm_W p l e R s m args below meth c Q D cl tm ad cy A V (pc + 3) ls rest) : fm_W p l e R s m args below meth c Q D cl tm ad cy A V pc ls (.int y :: .int x :: rest) := fm_icmp_eq X hd ht (fun q => kt (by rw [q])) (fun q => kf (fun w => q (zi_inj w)))
theorem fz_icmp_ne (X : fm_X p s m args c cc own D cl tm ad cy A Ts nL) {x y : Int32} {off : Int} (tgt : Nat) (hd : decode cc pc = .ok (.if_icmp .ne off, 3)) (ht : (pc : Int) + off = (tgt : Int)) (kt : ¬ x.toInt = y.toInt → fm_W p l e R s m args below meth c Q D cl tm ad cy A V tgt ls rest) (kf : x.toInt = y.toInt → fm_W p l e R s m args below meth c Q D cl tm ad cy A V (pc + 3) ls rest) : fm_W p l e R s m args below meth c Q D cl tm ad cy A V pc ls (.int y :: .int x :: rest) := fm_icmp_ne X hd ht (fun q => kt (fun w => q (zi_inj w))) (fun q => kf (by rw [q]))
theorem fz_icmp_lt (X : fm_X p s m args c cc own D cl tm ad cy A Ts nL) {x y : Int32} {off : Int} (tgt : Nat) (hd : decode cc pc = .ok (.if_icmp .lt off, 3)) (ht : (pc : Int) + off = (tgt : Int)) (kt : x.toInt < y.toInt → fm_W p l e R s m args below meth c Q D cl tm ad cy A V tgt ls rest) (kf : ¬ x.toInt < y.toInt → fm_W p l e R s m args below meth c Q D cl tm ad cy A V (pc + 3) ls rest) : fm_W p l e R s m args below meth c Q D cl tm ad cy A V pc ls (.int y :: .int x :: rest) := fm_icmp_lt X hd ht (fun q => kt (zi_lt.mp q)) (fun q => kf (fun w => q (zi_lt.mpr w)))
theorem fz_icmp_ge (X : fm_X p s m args c cc own D cl tm ad cy A Ts nL) {x y : Int32} {off : Int} (tgt : Nat) (hd : decode cc pc = .ok (.if_icmp .ge off, 3)) (ht : (pc : Int) + off = (tgt : Int)) (kt : y.toInt ≤ x.toInt → fm_W p l e R s m args below meth c Q D cl tm ad cy A V tgt ls rest) (kf : ¬ y.toInt ≤ x.toInt → fm_W p l e R s m args below meth c Q D cl tm ad cy A V (pc + 3) ls rest) : fm_W p l e R s m args below meth c Q D cl tm ad cy A V pc ls (.int y :: .int x :: rest) := fm_icmp_ge X hd ht (fun q => kt (zi_le.mp q)) (fun q => kf (fun w => q (zi_le.mpr w)))
theorem fz_icmp_gt (X : fm_X p s m args c cc own D cl tm ad cy A Ts nL) {x y : Int32} {off : Int} (tgt : Nat) (hd : decode cc pc = .ok (.if_icmp .gt off, 3)) (ht : (pc : Int) + off = (tgt : Int)) (kt : y.toInt < x.toInt → fm_W p l e R s m args below meth c Q D cl tm ad cy A V tgt ls rest) (kf : ¬ y.toInt < x.toInt → fm_W p l e R s m args below meth c Q D cl tm ad cy A V (pc + 3) ls rest) : fm_W p l e R s m args below meth c Q D cl tm ad cy A V pc ls (.int y :: .int x :: rest) := fm_icmp_gt X hd ht (fun q => kt (zi_lt.mp q)) (fun q => kf (fun w => q (zi_lt.mpr w)))
theorem fz_icmp_le (X : fm_X p s m args c cc own D cl tm ad cy A Ts nL) {x y : Int32} {off : Int} (tgt : Nat) (hd : decode cc pc = .ok (.if_icmp .le off, 3)) (ht : (pc : Int) + off = (tgt : Int)) (kt : x.toInt ≤ y.toInt → fm_W p l e R s m args below meth c Q D cl tm ad cy A V tgt ls rest) (kf : ¬ x.toInt ≤ y.toInt → fm_W p l e R s m args below meth c Q D cl tm ad cy A V (pc + 3) ls rest) : fm_W p l e R s m args below meth c Q D cl tm ad cy A V pc ls (.int y :: .int x :: rest) := fm_icmp_le X hd ht (fun q => kt (zi_le.mp q)) (fun q => kf (fun w => q (zi_le.mpr w)))
theorem fz_goto (X : fm_X p s m args c cc own D cl tm ad cy A Ts nL) {off : Int} (tgt : Nat) (hd : decode cc pc = .ok (.goto off, 3)) (ht : (pc : Int) + off = (tgt : Int)) (kk : fm_W p l e R s m args below meth c Q D cl tm ad cy A V tgt ls rest) : fm_W p l e R s m args below meth c Q D cl tm ad cy A V pc ls rest := fm_goto X hd ht kk
theorem fz_getI (X : fm_X p s m args c cc own D cl tm ad cy A Ts nL) {index ci k : Nat} (i : Nat) {ts : List fm_F} {r : Int × Int} (hd : decode cc pc = .ok (.getfield index, 3)) (hL : fm_Lk cl Ts own index ci k) (hi : tm[i]? = some (.inr (ci, ts))) (hk : ts[k]? = some (.inl r)) (kk : fm_W p l e R s m args below meth c Q D cl tm ad cy A V (pc + 3) ls (.int (V i k) :: rest)) : fm_W p l e R s m args below meth c Q D cl tm ad cy A V pc ls (.ref (ad i) :: rest) := fm_get X hL hi hk hd kk
theorem fz_getR (X : fm_X p s m args c cc own D cl tm ad cy A Ts nL) {index ci k j : Nat} (i : Nat) {ts : List fm_F} (hd : decode cc pc = .ok (.getfield index, 3)) (hL : fm_Lk cl Ts own index ci k) (hi : tm[i]? = some (.inr (ci, ts))) (hk : ts[k]? = some (.inr j)) (kk : fm_W p l e R s m args below meth c Q D cl tm ad cy A V (pc + 3) ls (.ref (ad j) :: rest)) : fm_W p l e R s m args below meth c Q D cl tm ad cy A V pc ls (.ref (ad i) :: rest) := fm_get X hL hi hk hd kk
theorem fz_put (X : fm_X p s m args c cc own D cl tm ad cy A Ts nL) {index ci k t : Nat} (i : Nat) {ts : List fm_F} {r : Int × Int} {x : Int32} (hd : decode cc pc = .ok (.putfield index, 3)) (hL : fm_Lk cl Ts own index ci k) (hC : fm_Cl cl ci ∧ ∀ (C : String) (T : u_T) (N : Nat), cl[ci]? = some (C, T, N) → (T k).2.2.2 = false ∧ parseFieldDescriptor (T k).2.2.1 = some (if t = 0 then .int else .boolean)) (hi : tm[i]? = some (.inr (ci, ts))) (hk : ts[k]? = some (.inl r)) (hx : t = 0 ∨ (0 ≤ x.toInt ∧ x.toInt ≤ 1)) (kk : ∀ V2 : fm_V, V2 = fm_up V i k x → fm_W p l e R s m args below meth c Q D cl tm ad cy A V2 (pc + 3) ls rest) : fm_W p l e R s m args below meth c Q D cl tm ad cy A V pc ls (.int x :: .ref (ad i) :: rest) := by
  refine fm_put X hL hC.1 (fun C T N h => ⟨(hC.2 C T N h).1, _, (hC.2 C T N h).2, ?_, ?_⟩) hi hk hd (kk _ rfl)
  · by_cases c4 : t = 0
    · rw [if_pos c4]; rfl
    · rw [if_neg c4]; rcases zi_bit (x := x) (by omega) (by omega) with rfl | rfl <;> rfl
  · by_cases c4 : t = 0
    · rw [if_pos c4]; rfl
    · rw [if_neg c4]; rcases zi_bit (x := x) (by omega) (by omega) with rfl | rfl <;> rfl
theorem fz_ialoadZ (X : fm_X p s m args c cc own D cl tm ad cy A Ts nL) (i : Nat) {n : Nat} {lo hi : Int} {j : Int32} (hd : decode cc pc = .ok (.iaload, 1)) (hi0 : tm[i]? = some (.inl (0, n, lo, hi))) (hin : 0 ≤ j.toInt ∧ j.toInt < n) (kk : fm_W p l e R s m args below meth c Q D cl tm ad cy A V (pc + 1) ls (.int (V i j.toInt.toNat) :: rest)) : fm_W p l e R s m args below meth c Q D cl tm ad cy A V pc ls (.int j :: .ref (ad i) :: rest) := fm_ald0 X hi0 (zi_in hin.1 hin.2) hd kk
theorem fz_baloadB (X : fm_X p s m args c cc own D cl tm ad cy A Ts nL) (i : Nat) {n : Nat} {lo hi : Int} {j : Int32} (hd : decode cc pc = .ok (.baload, 1)) (hi0 : tm[i]? = some (.inl (1, n, lo, hi))) (hin : 0 ≤ j.toInt ∧ j.toInt < n) (kk : fm_W p l e R s m args below meth c Q D cl tm ad cy A V (pc + 1) ls (.int (V i j.toInt.toNat) :: rest)) : fm_W p l e R s m args below meth c Q D cl tm ad cy A V pc ls (.int j :: .ref (ad i) :: rest) := fm_ald1 X hi0 (zi_in hin.1 hin.2) hd kk
theorem fz_baloadZ (X : fm_X p s m args c cc own D cl tm ad cy A Ts nL) (i : Nat) {n : Nat} {lo hi : Int} {j : Int32} (hd : decode cc pc = .ok (.baload, 1)) (hi0 : tm[i]? = some (.inl (2, n, lo, hi))) (hin : 0 ≤ j.toInt ∧ j.toInt < n) (kk : fm_W p l e R s m args below meth c Q D cl tm ad cy A V (pc + 1) ls (.int (V i j.toInt.toNat) :: rest)) : fm_W p l e R s m args below meth c Q D cl tm ad cy A V pc ls (.int j :: .ref (ad i) :: rest) := fm_ald2 X hi0 (zi_in hin.1 hin.2) hd kk
theorem fz_iastore (X : fm_X p s m args c cc own D cl tm ad cy A Ts nL) (i : Nat) {n : Nat} {lo hi : Int} {j x : Int32} (hd : decode cc pc = .ok (.iastore, 1)) (hi0 : tm[i]? = some (.inl (0, n, lo, hi))) (hin : 0 ≤ j.toInt ∧ j.toInt < n) (kk : ∀ V2 : fm_V, V2 = fm_up V i j.toInt.toNat x → fm_W p l e R s m args below meth c Q D cl tm ad cy A V2 (pc + 1) ls rest) : fm_W p l e R s m args below meth c Q D cl tm ad cy A V pc ls (.int x :: .int j :: .ref (ad i) :: rest) := fm_ast0 X hi0 (zi_in hin.1 hin.2) hd (kk _ rfl)
theorem fz_zastore (X : fm_X p s m args c cc own D cl tm ad cy A Ts nL) (i : Nat) {n : Nat} {lo hi : Int} {j x : Int32} (hd : decode cc pc = .ok (.bastore, 1)) (hi0 : tm[i]? = some (.inl (2, n, lo, hi))) (hin : 0 ≤ j.toInt ∧ j.toInt < n) (hx : 0 ≤ x.toInt ∧ x.toInt ≤ 1) (kk : ∀ V2 : fm_V, V2 = fm_up V i j.toInt.toNat x → fm_W p l e R s m args below meth c Q D cl tm ad cy A V2 (pc + 1) ls rest) : fm_W p l e R s m args below meth c Q D cl tm ad cy A V pc ls (.int x :: .int j :: .ref (ad i) :: rest) := by
  refine fm_ast2 X hi0 (zi_in hin.1 hin.2) hd ?_
  rw [zi_nz hx.1 hx.2]
  exact kk _ rfl
variable {nt : fm_Nt} {Z : State → Heap → Prop} {V0 : fm_V} {avs : List Value} {po : Option Value → fm_V → Prop}
/-- a contract at one world and one row of arguments -/
def gm_M (l : Launch) (D : va_G) (cl : List vw_C) (tm : List fm_C) (ad : Nat → Nat) (cy : Nat → ClassId) (nt : fm_Nt) (Z : State → Heap → Prop) (y : MethodName) (ws : List Jvm.Cond) (rm : Room) (V : fm_V) (avs : List Value) (po : Option Value → fm_V → Prop) : Prop := Met l y ws rm (rv_Pc D cl tm ad cy nt Z V avs) (rv_Qc D cl tm ad cy nt Z po) 0 0 (fm_A tm ad)
/-- a body's walk gives it -/
theorem gm_at {y : MethodName} {bytes : ByteArray} {ret : Option FieldType} {rm : Room} (hAd : fm_Ad tm ad) (hZ : fm_Zk (fm_A tm ad) Z) (hy : plainName y.cls = true) (hlen : (lg_sl avs).length ≤ nL)
    (hbody : ∀ (p : Program) (e : Env) (s : State) (m : MethodId) (args : Array Value) (below : List Frame) (meth : Method) (c : Code) (ls : Array Slot), meth.sig.returnType = ret → meth.locks = false → fm_X p s m args c bytes y.cls D cl tm ad cy (fm_A tm ad) Ts nL → fm_Y s nt Z tm ad (fm_A tm ad) → lv_has ls nL (lv_args 0 avs) → fm_W p l e rm s m args below meth c (MQ below (rv_Qc D cl tm ad cy nt Z po) args s 0 0 (fm_A tm ad)) D cl tm ad cy (fm_A tm ad) V 0 ls []) :
    gm_M l D cl tm ad cy nt Z y (.code y bytes nL ret :: Ts) rm V avs po := by
  refine Met.ofW (cc := bytes) (maxL := nL) (ret := ret) hy rfl ?_
  intro p e s m args below meth c s₁ B hml hv
  obtain ⟨rfl, hP, hK, hN, hZ0⟩ := hv
  have hts := atoms_spec (ws := Jvm.Cond.code y bytes nL ret :: Ts) B.pre
  have hown : s.vm.findClass y.cls = some m.cls := findClass_of_methodNamed B.named
  have X : fm_X p s m avs.toArray c bytes y.cls D cl tm ad cy (fm_A tm ad) Ts nL := ⟨B.exec, B.bytes, hown, fun w hw => hts w (List.mem_cons_of_mem _ hw), hK, fun V => fm_D hAd cy V, hml⟩
  have Y : fm_Y s nt Z tm ad (fm_A tm ad) := ⟨hZ, fun q _ h => h, fun q h => h, hN, hZ0⟩
  have hl := lv_entry avs (n := nL) hlen
  rw [lg_entry_eq]
  generalize (lg_sl avs ++ List.replicate (nL - (lg_sl avs).length) Slot.unset).toArray = ls at hl ⊢
  exact hbody p e s m avs.toArray below meth c ls B.returns B.notSynchronized X Y hl s.heap [] hP va_S.rf
theorem gm_iret (X : fm_X p s m args c cc own D cl tm ad cy (fm_A tm ad) Ts nL) (Y : fm_Y s nt Z tm ad (fm_A tm ad)) (hr : meth.sig.returnType = some .int) (hlocks : meth.locks = false) {v : Int32} (hd : decode cc pc = .ok (.ireturn, 1)) (hp : po (some (.int v)) V) :
    fm_W p l e R s m args below meth c (MQ below (rv_Qc D cl tm ad cy nt Z po) args s 0 0 (fm_A tm ad)) D cl tm ad cy (fm_A tm ad) V pc ls [.int v] := by
  obtain ⟨hx, hb, hown, hts, hKk, hD, hml⟩ := X
  obtain ⟨hZ, hAA, hA, hN, hZ0⟩ := Y
  intro H locs hP hS
  exact W.iret (v := v) hx hb hr (fun t ht hW => ⟨⟨_, V, rfl, hp, fm_Wd_of hZ hAA hKk hN hZ0 hP hS ht hW⟩, hS.F ht⟩) hS.2.2 hd hlocks
theorem gm_zret (X : fm_X p s m args c cc own D cl tm ad cy (fm_A tm ad) Ts nL) (Y : fm_Y s nt Z tm ad (fm_A tm ad)) (hr : meth.sig.returnType = some .boolean) (hlocks : meth.locks = false) {v : Int32} (hv : v = 0 ∨ v = 1) (hd : decode cc pc = .ok (.ireturn, 1)) (hp : po (some (.int v)) V) :
    fm_W p l e R s m args below meth c (MQ below (rv_Qc D cl tm ad cy nt Z po) args s 0 0 (fm_A tm ad)) D cl tm ad cy (fm_A tm ad) V pc ls [.int v] := by
  obtain ⟨hx, hb, hown, hts, hKk, hD, hml⟩ := X
  obtain ⟨hZ, hAA, hA, hN, hZ0⟩ := Y
  intro H locs hP hS
  exact W.zret (v := v) (ty := .boolean) hx hb hr (by rcases hv with rfl | rfl <;> rfl) (fun t ht hW => ⟨⟨_, V, rfl, hp, fm_Wd_of hZ hAA hKk hN hZ0 hP hS ht hW⟩, hS.F ht⟩) hS.2.2 hd hlocks
theorem gm_vret (X : fm_X p s m args c cc own D cl tm ad cy (fm_A tm ad) Ts nL) (Y : fm_Y s nt Z tm ad (fm_A tm ad)) (hr : meth.sig.returnType = none) (hlocks : meth.locks = false) (hd : decode cc pc = .ok (.return_, 1)) (hp : po none V) :
    fm_W p l e R s m args below meth c (MQ below (rv_Qc D cl tm ad cy nt Z po) args s 0 0 (fm_A tm ad)) D cl tm ad cy (fm_A tm ad) V pc ls [] := by
  obtain ⟨hx, hb, hown, hts, hKk, hD, hml⟩ := X
  obtain ⟨hZ, hAA, hA, hN, hZ0⟩ := Y
  intro H locs hP hS
  exact W.vret hx hb hr (fun t ht hW => ⟨⟨_, V, rfl, hp, fm_Wd_of hZ hAA hKk hN hZ0 hP hS ht hW⟩, hS.F ht⟩) hS.2.2 hd hlocks
theorem gm_callV (X : fm_X p s m args c cc own D cl tm ad cy A Ts nL) (Y : fm_Y s nt Z tm ad A) (hg : fm_Good Ts) {y : MethodName} {C : String} {idx maxL n : Nat} {bytes : ByteArray} {ret : Option FieldType} {rm : Room} (hd : decode cc pc = .ok (.invokevirtual idx, 3)) {i : Nat} {vs st0 : List Value} (hM : gm_M l D cl tm ad cy nt Z y (.code y bytes maxL ret :: Ts) rm V (.ref (ad i) :: vs) po)
    (hl : Jvm.Cond.methodLink own idx y ∈ Ts) (hw : Jvm.Cond.instanceMethod y ∈ Ts ∧ Jvm.Cond.selects C y y ∈ Ts ∧ Jvm.Cond.initialized C ∈ Ts ∧ Jvm.Cond.code y bytes maxL ret ∈ Ts) (hy : y.cls = C ∧ y.cls ≠ "java/lang/invoke/MethodHandle" ∧ y.cls ≠ "java/lang/invoke/VarHandle" ∧ (parseMethodDescriptor y.desc).map (fun d => d.parameters.length) = some n)
    (hrm : (rm.cells = 0 ∧ rm.slots = 0) ∧ rm.frames + 1 ≤ R.frames ∧ 8 + (maxL + 11) + rm.locals ≤ R.locals) {ci N : Nat} {T : u_T} {ts : List fm_F} (hci : tm[i]? = some (.inr (ci, ts)) ∧ cl[ci]? = some (C, T, N)) (hst : st0 = vs.reverse ++ .ref (ad i) :: rest) (hlen : vs.length = n) (hls : ls.size = nL) (hcat : (rest.map fun v => v.category).sum ≤ 8)
    (kk : ∀ r V', po r V' → fm_W p l e R s m args below meth c Q D cl tm ad cy A V' (pc + 3) ls (r.toList ++ rest)) : fm_W p l e R s m args below meth c Q D cl tm ad cy A V pc ls st0 := by
  obtain ⟨hx, hb, hown, hts, hKk, hD, hml⟩ := id X
  obtain ⟨hZ, hAA, hA, hN, hZ0⟩ := Y
  subst hst
  intro H locs hP hS
  refine fm_callW (a := (Value.ref (ad i) :: vs).toArray) (rest := rest) (va_runV (As := vs) (rest := rest) (C := C) (n := n) ⟨hx, hb, hml, hown, hts⟩ hM (cwV n hts (hg.of (fun w hw' => ?_)) rfl hrm.1.1 hrm.1.2 hy hrm.2) ⟨rv_Pc_blind hZ, va_recv hKk hP hci.2 (fm_ws_get (ad := ad) (cy := cy) (V := V) hci.1), fun U hU hW => ⟨rfl, fm_Wd_of hZ hAA hKk hN hZ0 hP hS hU hW⟩⟩ rfl hlen hls rfl (lv_room hcat) hd ⟨Nat.zero_le _, Nat.zero_le _⟩) hS hA kk
  unfold wsV at hw'
  rcases List.mem_append.mp hw' with hw' | hw'
  · simp only [List.mem_cons, List.not_mem_nil, or_false] at hw'
    rcases hw' with rfl | rfl | rfl | rfl
    · exact hl
    · exact hw.1
    · exact hw.2.1
    · exact hw.2.2.1
  · rcases List.mem_cons.mp hw' with rfl | hw'
    · exact hw.2.2.2
    · exact hw'
theorem gm_callS (X : fm_X p s m args c cc own D cl tm ad cy A Ts nL) (Y : fm_Y s nt Z tm ad A) (hg : fm_Good Ts) {y : MethodName} {idx maxL n : Nat} {bytes : ByteArray} {ret : Option FieldType} {rm : Room} (hd : decode cc pc = .ok (.invokestatic idx, 3)) {vs st0 : List Value} (hM : gm_M l D cl tm ad cy nt Z y (.code y bytes maxL ret :: Ts) rm V vs po)
    (hl : Jvm.Cond.methodLink own idx y ∈ Ts) (hw : Jvm.Cond.static y ∈ Ts ∧ Jvm.Cond.initialized y.cls ∈ Ts ∧ Jvm.Cond.code y bytes maxL ret ∈ Ts) (hy : y.cls ≠ "java/lang/invoke/MethodHandle" ∧ y.cls ≠ "java/lang/invoke/VarHandle" ∧ (parseMethodDescriptor y.desc).map (fun d => d.parameters.length) = some n)
    (hrm : (rm.cells = 0 ∧ rm.slots = 0) ∧ rm.frames + 1 ≤ R.frames ∧ 8 + (maxL + 11) + rm.locals ≤ R.locals) (hst : st0 = vs.reverse ++ rest) (hlen : vs.length = n) (hls : ls.size = nL) (hcat : (rest.map fun v => v.category).sum ≤ 8)
    (kk : ∀ r V', po r V' → fm_W p l e R s m args below meth c Q D cl tm ad cy A V' (pc + 3) ls (r.toList ++ rest)) : fm_W p l e R s m args below meth c Q D cl tm ad cy A V pc ls st0 := by
  obtain ⟨hx, hb, hown, hts, hKk, hD, hml⟩ := id X
  obtain ⟨hZ, hAA, hA, hN, hZ0⟩ := Y
  subst hst
  intro H locs hP hS
  refine fm_callW (a := vs.toArray) (rest := rest) (va_runS (As := vs) (rest := rest) (n := n) ⟨hx, hb, hml, hown, hts⟩ hM (va_cwS n hts (hg.of (fun w hw' => ?_)) rfl hrm.1.1 hrm.1.2 hy hrm.2) ⟨rv_Pc_blind hZ, fun U hU hW => ⟨rfl, fm_Wd_of hZ hAA hKk hN hZ0 hP hS hU hW⟩⟩ rfl hlen hls rfl (lv_room hcat) hd ⟨Nat.zero_le _, Nat.zero_le _⟩) hS hA kk
  unfold va_wsS at hw'
  rcases List.mem_append.mp hw' with hw' | hw'
  · simp only [List.mem_cons, List.not_mem_nil, or_false] at hw'
    rcases hw' with rfl | rfl | rfl
    · exact hl
    · exact hw.1
    · exact hw.2.1
  · rcases List.mem_cons.mp hw' with rfl | hw'
    · exact hw.2.2
    · exact hw'

end HAND
