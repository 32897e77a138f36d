/-! THE REFERENCE'S READER OF LAWS: what holds in it, in numbers -/
section PZR
variable {p : Program} {l : Launch} {e : Env} {R : Room} {s : State} {m : MethodId} {args : Array Value} {below : List Frame} {meth : Method} {c : Code} {Q : State → Prop} {cc : ByteArray} {own : String} {D : va_G} {cl : List vw_C} {tm : List fm_C} {ad : Nat → Nat} {cy : Nat → ClassId} {A : Nat → Prop} {Ts : List Jvm.Cond} {nL : Nat}
variable {pc : Nat} {ls : Array Slot} {rest : List Value} {V : fm_V}
theorem fz_i2l (X : fm_X p s m args c cc own D cl tm ad cy A Ts nL) {x : Int32} (hd : decode cc pc = .ok (.i2l, 1)) (kk : ∀ z : Int64, z.toInt = x.toInt → fm_W p l e R s m args below meth c Q D cl tm ad cy A V (pc + 1) ls (.long z :: rest)) : fm_W p l e R s m args below meth c Q D cl tm ad cy A V pc ls (.int x :: rest) := by
  obtain ⟨hx, hb, hown, hts, -⟩ := X
  intro H locs hP hS
  exact lv_i2l hx hb hd rfl (kk _ (zi_i64 x) H locs hP hS)
theorem fz_lconst (X : fm_X p s m args c cc own D cl tm ad cy A Ts nL) {n : Fin 2} (hd : decode cc pc = .ok (.lconst n, 1)) (kk : ∀ z : Int64, z.toInt = ((n : Nat) : Int) → fm_W p l e R s m args below meth c Q D cl tm ad cy A V (pc + 1) ls (.long z :: rest)) : fm_W p l e R s m args below meth c Q D cl tm ad cy A V pc ls rest := by
  obtain ⟨hx, hb, hown, hts, -⟩ := X
  intro H locs hP hS
  have e : (Int64.ofNat (n : Nat)).toInt = ((n : Nat) : Int) := by
    match n with
    | 0 => rfl
    | 1 => rfl
  exact lv_lconst (v := Int64.ofNat (n : Nat)) hx hb hd rfl (kk _ e H locs hP hS)
theorem fz_ldc2 (X : fm_X p s m args c cc own D cl tm ad cy A Ts nL) {i : Nat} {n : Int} (hd : decode cc pc = .ok (.ldc2_w i, 3)) (hk : (-2147483648 ≤ n ∧ n ≤ 2147483647) ∧ Jvm.Cond.constantLong own i (Int64.ofInt n) ∈ Ts) (kk : ∀ z : Int64, z.toInt = n → fm_W p l e R s m args below meth c Q D cl tm ad cy A V (pc + 3) ls (.long z :: rest)) : fm_W p l e R s m args below meth c Q D cl tm ad cy A V pc ls rest := by
  obtain ⟨hx, hb, hown, hts, -⟩ := X
  intro H locs hP hS
  exact lv_ldc2 hx hb hown (hts _ hk.2) hd (kk _ (Int64.toInt_ofInt_of_le (by omega) (by omega)) H locs hP hS)
end PZR
/-- the byte under the reader, 0 behind the end -/
def hr_ (V : fm_V) : Int := if (V 80 33).toInt < (V 80 34).toInt then (V 81 (V 80 33).toInt.toNat &&& 255).toInt else 0
theorem hr_pos {V : fm_V} (h : hr_ V ≠ 0) : (V 80 33).toInt < (V 80 34).toInt := by
  unfold hr_ at h
  by_cases c : (V 80 33).toInt < (V 80 34).toInt
  · exact c
  · rw [if_neg c] at h; exact absurd rfl h
theorem hr_eq {V V2 : fm_V} (h1 : V2 80 33 = V 80 33) (h2 : V2 80 34 = V 80 34) (h3 : V2 81 = V 81) : hr_ V2 = hr_ V := by unfold hr_; rw [h1, h2, h3]
/-- the stack's top, 0 if it is empty -/
def tp_ (V : fm_V) : Int := if 0 < (V 80 39).toInt then (V 107 ((V 80 39).toInt - 1).toNat).toInt else 0
def bo_ (x : Int) : Bool := decide (x = 42) || decide (x = 47) || decide (x = 37) || decide (x = 43) || decide (x = 45) || decide (x = 60) || decide (x = 62) || decide (x = 61) || decide (x = 38) || decide (x = 124)
/-- how many that take two lie among the first n -/
def cn_ (f : Nat → Int32) : Nat → Nat
  | 0 => 0
  | n + 1 => cn_ f n + (if bo_ (f n).toInt = true then 1 else 0)
theorem cn_s (f : Nat → Int32) (n : Nat) : cn_ f (n + 1) = cn_ f n + (if bo_ (f n).toInt = true then 1 else 0) := rfl
theorem cn_eq {f g : Nat → Int32} : ∀ {n : Nat}, (∀ k, k < n → f k = g k) → cn_ f n = cn_ g n := by
  intro n
  induction n with
  | zero => intro _; rfl
  | succ n ih => intro h; unfold cn_; rw [ih (fun k hk => h k (by omega)), h n (by omega)]
theorem dp_eq {f g : Nat → Int32} {a : Nat} : ∀ {n : Nat}, (∀ k, k < a + n → f k = g k) → dp_ f a n = dp_ g a n := by
  intro n
  induction n with
  | zero => intro _; rfl
  | succ n ih => intro h; unfold dp_; rw [ih (fun k hk => h k (by omega)), h (a + n) (by omega)]
theorem dp_push {f f' : Nat → Int32} {a n d : Nat} (h : dp_ f a n = some d) (he : ∀ k, k < a + n → f' k = f k) : dp_ f' a (n + 1) = if 2 < (f' (a + n)).toInt then (if 2 ≤ d then some (d - 1) else none) else if (f' (a + n)).toInt = 2 then (if 1 ≤ d then some d else none) else some (d + 1) := by
  show (match dp_ f' a n with
    | none => none
    | some d => if 2 < (f' (a + n)).toInt then (if 2 ≤ d then some (d - 1) else none) else if (f' (a + n)).toInt = 2 then (if 1 ≤ d then some d else none) else some (d + 1)) = _
  rw [dp_eq he, h]
/-- bounds of the reader's numbers -/
def pz_B (V : fm_V) : Prop := 0 ≤ (V 80 33).toInt ∧ (V 80 33).toInt ≤ (V 80 34).toInt ∧ (V 80 34).toInt ≤ 200 ∧ 0 ≤ (V 80 37).toInt ∧ 0 ≤ (V 80 39).toInt ∧ (V 80 37).toInt + (V 80 39).toInt ≤ (V 80 33).toInt ∧ (V 80 35).toInt ≤ 0
def pz_M : List (Nat × Nat) := [(80, 33), (80, 35), (80, 37), (80, 38), (80, 39), (80, 40), (80, 41), (105, 9999), (106, 9999), (107, 9999)]
/-- behind V0, above level h of the stack: what lies there is of S; the codes from g on can be worked, and leave what the stack waits for and b more -/
def pz_I (V0 V : fm_V) (h : Nat) (S : Int → Prop) (g b : Nat) : Prop := (pz_F pz_M V0 V) ∧ (pz_B V) ∧ ((V0 80 33).toInt ≤ (V 80 33).toInt) ∧ ((V0 80 37).toInt ≤ (V 80 37).toInt) ∧ ((h : Int) ≤ (V 80 39).toInt) ∧ (∀ k : Nat, (k : Int) < (V0 80 37).toInt → V 105 k = V0 105 k) ∧ (∀ k : Nat, k < h → V 107 k = V0 107 k) ∧ ((V 80 35).toInt = 0 → (∀ k : Nat, h ≤ k → (k : Int) < (V 80 39).toInt → S (V 107 k).toInt) ∧ (g : Int) ≤ (V 80 37).toInt ∧ dp_ (V 105) g ((V 80 37).toInt.toNat - g) = some (cn_ (V 107) (V 80 39).toInt.toNat + b))
theorem pz_I.fr {V0 V : fm_V} {h : Nat} {S : Int → Prop} {g b : Nat} (I : pz_I V0 V h S g b) : pz_F pz_M V0 V := I.1
theorem pz_I.B {V0 V : fm_V} {h : Nat} {S : Int → Prop} {g b : Nat} (I : pz_I V0 V h S g b) : pz_B V := I.2.1
theorem pz_I.pl {V0 V : fm_V} {h : Nat} {S : Int → Prop} {g b : Nat} (I : pz_I V0 V h S g b) : (V0 80 33).toInt ≤ (V 80 33).toInt := I.2.2.1
theorem pz_I.c0 {V0 V : fm_V} {h : Nat} {S : Int → Prop} {g b : Nat} (I : pz_I V0 V h S g b) : (V0 80 37).toInt ≤ (V 80 37).toInt := I.2.2.2.1
theorem pz_I.hk {V0 V : fm_V} {h : Nat} {S : Int → Prop} {g b : Nat} (I : pz_I V0 V h S g b) : (h : Int) ≤ (V 80 39).toInt := I.2.2.2.2.1
theorem pz_I.cd {V0 V : fm_V} {h : Nat} {S : Int → Prop} {g b : Nat} (I : pz_I V0 V h S g b) : ∀ k : Nat, (k : Int) < (V0 80 37).toInt → V 105 k = V0 105 k := I.2.2.2.2.2.1
theorem pz_I.sk {V0 V : fm_V} {h : Nat} {S : Int → Prop} {g b : Nat} (I : pz_I V0 V h S g b) : ∀ k : Nat, k < h → V 107 k = V0 107 k := I.2.2.2.2.2.2.1
theorem pz_I.gd {V0 V : fm_V} {h : Nat} {S : Int → Prop} {g b : Nat} (I : pz_I V0 V h S g b) : (V 80 35).toInt = 0 → (∀ k : Nat, h ≤ k → (k : Int) < (V 80 39).toInt → S (V 107 k).toInt) ∧ (g : Int) ≤ (V 80 37).toInt ∧ dp_ (V 105) g ((V 80 37).toInt.toNat - g) = some (cn_ (V 107) (V 80 39).toInt.toNat + b) := I.2.2.2.2.2.2.2
theorem pz_I.weak {V0 V : fm_V} {h g b : Nat} {S : Int → Prop} (I : pz_I V0 V h S g b) : pz_I V0 V 0 (fun _ => True) g b := ⟨I.fr, I.B, I.pl, I.c0, I.B.2.2.2.2.1, I.cd, fun k hk => by omega, fun z => ⟨fun _ _ _ => trivial, (I.gd z).2⟩⟩
theorem pz_I.any {V0 V : fm_V} {h g b b' : Nat} {S S' : Int → Prop} (I : pz_I V0 V h S g b) (hb : (V 80 35).toInt ≠ 0) : pz_I V0 V h S' g b' := ⟨I.fr, I.B, I.pl, I.c0, I.hk, I.cd, I.sk, fun z => absurd z hb⟩
/-- a mark of wrong -/
theorem pz_I.bad {V0 V : fm_V} {h g b b' : Nat} {S S' : Int → Prop} {y : Int32} (I : pz_I V0 V h S g b) (hy : y.toInt < 0) : pz_I V0 (fm_up V 80 35 y) h S' g b' := by
  obtain ⟨b1, b2, b3, b4, b5, b6, b7⟩ := I.B
  have e : ∀ k, k ≠ 35 → fm_up V 80 35 y 80 k = V 80 k := fun k hk => fm_up_ne (fun q => hk q.2)
  have e2 : ∀ i k, i ≠ 80 → fm_up V 80 35 y i k = V i k := fun i k hi => fm_up_ne (fun q => hi q.1)
  refine ⟨pz_Fo I.fr rfl rfl rfl (zi_rng y) (by decide), ?_, ?_, ?_, ?_, fun k hk => ?_, fun k hk => ?_, fun z => ?_⟩
  · unfold pz_B
    rw [e 33 (by decide), e 34 (by decide), e 37 (by decide), e 39 (by decide), fm_up_self]
    omega
  · rw [e 33 (by decide)]; exact I.pl
  · rw [e 37 (by decide)]; exact I.c0
  · rw [e 39 (by decide)]; exact I.hk
  · rw [e2 105 k (by decide)]; exact I.cd k hk
  · rw [e2 107 k (by decide)]; exact I.sk k hk
  · rw [fm_up_self] at z; omega
/-- another field: open, isOver, isBehind -/
theorem pz_I.fld {V0 V : fm_V} {h g b f : Nat} {S : Int → Prop} {y : Int32} (I : pz_I V0 V h S g b) (hf : f = 38 ∨ ((f = 40 ∨ f = 41) ∧ (0 ≤ y.toInt ∧ y.toInt ≤ 1))) : pz_I V0 (fm_up V 80 f y) h S g b := by
  have hfr : pz_F pz_M V0 (fm_up V 80 f y) := by
    rcases hf with rfl | ⟨rfl | rfl, hy⟩
    · exact pz_Fo I.fr rfl rfl rfl (zi_rng y) (by decide)
    · exact pz_Fo I.fr rfl rfl rfl hy (by decide)
    · exact pz_Fo I.fr rfl rfl rfl hy (by decide)
  have e : ∀ k, k ≠ f → fm_up V 80 f y 80 k = V 80 k := fun k hk => fm_up_ne (fun q => hk q.2)
  have e2 : ∀ i, i ≠ 80 → fm_up V 80 f y i = V i := fun i hi => funext fun k => fm_up_ne (fun q => hi q.1)
  have c33 := e 33 (by omega)
  have c34 := e 34 (by omega)
  have c35 := e 35 (by omega)
  have c37 := e 37 (by omega)
  have c39 := e 39 (by omega)
  refine ⟨hfr, ?_, ?_, ?_, ?_, fun k hk => ?_, fun k hk => ?_, fun z => ?_⟩
  · unfold pz_B
    rw [c33, c34, c35, c37, c39]
    exact I.B
  · rw [c33]; exact I.pl
  · rw [c37]; exact I.c0
  · rw [c39]; exact I.hk
  · rw [e2 105 (by decide)]; exact I.cd k hk
  · rw [e2 107 (by decide)]; exact I.sk k hk
  · rw [c35] at z
    rw [c37, c39, e2 105 (by decide), e2 107 (by decide)]
    exact I.gd z
def u_emit (V : fm_V) (c a y : Int32) : fm_V := fm_up (fm_up (fm_up V 105 (V 80 37).toInt.toNat c) 106 (V 80 37).toInt.toNat a) 80 37 y
def u_puts (V : fm_V) (c y z : Int32) : fm_V := fm_up (fm_up (fm_up V 107 (V 80 39).toInt.toNat c) 80 39 y) 80 33 z
theorem u_emit_f (V : fm_V) (c a y : Int32) (k : Nat) : u_emit V c a y 80 k = if k = 37 then y else V 80 k := by
  unfold u_emit fm_up
  by_cases h : k = 37 <;> simp [h]
theorem u_emit_c (V : fm_V) (c a y : Int32) (k : Nat) : u_emit V c a y 105 k = if k = (V 80 37).toInt.toNat then c else V 105 k := by
  unfold u_emit fm_up
  simp
theorem u_emit_o (V : fm_V) (c a y : Int32) (i k : Nat) (h : i ≠ 80 ∧ i ≠ 105 ∧ i ≠ 106) : u_emit V c a y i k = V i k := by
  unfold u_emit fm_up
  simp [h.1, h.2.1, h.2.2]
theorem u_emit_F {V0 V : fm_V} {c a y : Int32} (h : pz_F pz_M V0 V) : pz_F pz_M V0 (u_emit V c a y) := by
  unfold u_emit
  exact pz_Fo (pz_Fa (pz_Fa h rfl (i := 105) rfl (zi_rng _) (by simp [rv_in, pz_M])) rfl (i := 106) rfl (zi_rng _) (by simp [rv_in, pz_M])) rfl rfl rfl (zi_rng y) (by decide)
theorem u_puts_f (V : fm_V) (c y z : Int32) (k : Nat) : u_puts V c y z 80 k = if k = 33 then z else if k = 39 then y else V 80 k := by
  unfold u_puts fm_up
  by_cases h : k = 33 <;> by_cases h2 : k = 39 <;> simp [h, h2]
theorem u_puts_s (V : fm_V) (c y z : Int32) (k : Nat) : u_puts V c y z 107 k = if k = (V 80 39).toInt.toNat then c else V 107 k := by
  unfold u_puts fm_up
  simp
theorem u_puts_o (V : fm_V) (c y z : Int32) (i k : Nat) (h : i ≠ 80 ∧ i ≠ 107) : u_puts V c y z i k = V i k := by
  unfold u_puts fm_up
  simp [h.1, h.2]
theorem u_puts_F {V0 V : fm_V} {c y z : Int32} (h : pz_F pz_M V0 V) : pz_F pz_M V0 (u_puts V c y z) := by
  unfold u_puts
  exact pz_Fo (pz_Fo (pz_Fa h rfl (i := 107) rfl (zi_rng _) (by simp [rv_in, pz_M])) rfl rfl rfl (zi_rng y) (by decide)) rfl rfl rfl (zi_rng z) (by decide)
/-- one more lies on the stack: an operator (b' = 0 behind b = 1), or what opens (b' = b) -/
theorem pz_I.puts {V0 V : fm_V} {h g b b' : Nat} {S : Int → Prop} {c y z : Int32} (I : pz_I V0 V h S g b) (hp : (V 80 33).toInt < (V 80 34).toInt) (hy : y.toInt = (V 80 39).toInt + 1) (hz : z.toInt = (V 80 33).toInt + 1) (hS : (V 80 35).toInt = 0 → S c.toInt) (hb : b = b' + (if bo_ c.toInt = true then 1 else 0)) : pz_I V0 (u_puts V c y z) h S g b' := by
  obtain ⟨b1, b2, b3, b4, b5, b6, b7⟩ := I.B
  have f33 : u_puts V c y z 80 33 = z := by rw [u_puts_f]; rfl
  have f34 : u_puts V c y z 80 34 = V 80 34 := by rw [u_puts_f]; rfl
  have f35 : u_puts V c y z 80 35 = V 80 35 := by rw [u_puts_f]; rfl
  have f37 : u_puts V c y z 80 37 = V 80 37 := by rw [u_puts_f]; rfl
  have f39 : u_puts V c y z 80 39 = y := by rw [u_puts_f]; rfl
  have hk := I.hk
  have hpl := I.pl
  have e105 : u_puts V c y z 105 = V 105 := funext fun k => u_puts_o V c y z 105 k (by decide)
  refine ⟨u_puts_F I.fr, ?_, ?_, ?_, ?_, fun k hk => ?_, fun k hk => ?_, fun w => ?_⟩
  · unfold pz_B
    rw [f33, f34, f35, f37, f39]
    omega
  · rw [f33]; omega
  · rw [f37]; exact I.c0
  · rw [f39]; omega
  · rw [e105]; exact I.cd k hk
  · rw [u_puts_s, if_neg (by omega)]; exact I.sk k hk
  · rw [f35] at w
    obtain ⟨g1, g2, g3⟩ := I.gd w
    rw [f37, f39, e105]
    refine ⟨fun k k1 k2 => ?_, g2, ?_⟩
    · rw [u_puts_s]
      by_cases q : k = (V 80 39).toInt.toNat
      · rw [if_pos q]; exact hS w
      · rw [if_neg q]; exact g1 k k1 (by omega)
    · rw [g3]
      have e : y.toInt.toNat = (V 80 39).toInt.toNat + 1 := by omega
      rw [e, cn_s, cn_eq (f := u_puts V c y z 107) (g := V 107) (fun k hk => by rw [u_puts_s, if_neg (by omega)]), u_puts_s, if_pos rfl]
      congr 1
      omega
/-- one operand more -/
theorem pz_I.operand {V0 V : fm_V} {h g : Nat} {S : Int → Prop} {c a y : Int32} (I : pz_I V0 V h S g 0) (hg : (V 80 35).toInt = 0) (hp : (V 80 37).toInt + (V 80 39).toInt < (V 80 33).toInt) (hy : y.toInt = (V 80 37).toInt + 1) (hc : c.toInt < 2) (hcd : (V0 80 37).toInt ≤ (V 80 37).toInt) : pz_I V0 (u_emit V c a y) h S g 1 := by
  obtain ⟨b1, b2, b3, b4, b5, b6, b7⟩ := I.B
  have f33 : u_emit V c a y 80 33 = V 80 33 := by rw [u_emit_f]; rfl
  have f34 : u_emit V c a y 80 34 = V 80 34 := by rw [u_emit_f]; rfl
  have f35 : u_emit V c a y 80 35 = V 80 35 := by rw [u_emit_f]; rfl
  have f37 : u_emit V c a y 80 37 = y := by rw [u_emit_f]; rfl
  have f39 : u_emit V c a y 80 39 = V 80 39 := by rw [u_emit_f]; rfl
  have e107 : u_emit V c a y 107 = V 107 := funext fun k => u_emit_o V c a y 107 k (by decide)
  refine ⟨u_emit_F I.fr, ?_, ?_, ?_, ?_, fun k hk => ?_, fun k hk => ?_, fun w => ?_⟩
  · unfold pz_B
    rw [f33, f34, f35, f37, f39]
    omega
  · rw [f33]; exact I.pl
  · rw [f37]; omega
  · rw [f39]; exact I.hk
  · rw [u_emit_c, if_neg (by omega)]; exact I.cd k hk
  · rw [e107]; exact I.sk k hk
  · obtain ⟨g1, g2, g3⟩ := I.gd hg
    rw [f37, f39, e107]
    refine ⟨g1, by omega, ?_⟩
    have e : y.toInt.toNat - g = ((V 80 37).toInt.toNat - g) + 1 := by omega
    rw [e, dp_push g3 (fun k hk => by rw [u_emit_c, if_neg (by omega)])]
    have e2 : u_emit V c a y 105 (g + ((V 80 37).toInt.toNat - g)) = c := by rw [u_emit_c, if_pos (by omega)]
    rw [e2, if_neg (by omega), if_neg (by omega)]
/-- one operator goes from the stack to the codes: one that takes two, or a not -/
theorem pz_I.out {V0 V : fm_V} {h g : Nat} {S : Int → Prop} {c a y z : Int32} (I : pz_I V0 V h S g 1) (hg : (V 80 35).toInt = 0) (hy : y.toInt = (V 80 37).toInt + 1) (hz : z.toInt = (V 80 39).toInt - 1) (hh : (h : Int) < (V 80 39).toInt) (hc : (bo_ (tp_ V) = true ∧ c.toInt = tp_ V) ∨ (bo_ (tp_ V) = false ∧ c.toInt = 2)) : pz_I V0 (fm_up (u_emit V c a y) 80 39 z) h S g 1 := by
  obtain ⟨b1, b2, b3, b4, b5, b6, b7⟩ := I.B
  have hc0 := I.c0
  have ek : ∀ k, k ≠ 39 → fm_up (u_emit V c a y) 80 39 z 80 k = u_emit V c a y 80 k := fun k hk => fm_up_ne (fun q => hk q.2)
  have eo : ∀ i, i ≠ 80 → fm_up (u_emit V c a y) 80 39 z i = u_emit V c a y i := fun i hi => funext fun k => fm_up_ne (fun q => hi q.1)
  have f33 : fm_up (u_emit V c a y) 80 39 z 80 33 = V 80 33 := by rw [ek _ (by decide), u_emit_f]; rfl
  have f34 : fm_up (u_emit V c a y) 80 39 z 80 34 = V 80 34 := by rw [ek _ (by decide), u_emit_f]; rfl
  have f35 : fm_up (u_emit V c a y) 80 39 z 80 35 = V 80 35 := by rw [ek _ (by decide), u_emit_f]; rfl
  have f37 : fm_up (u_emit V c a y) 80 39 z 80 37 = y := by rw [ek _ (by decide), u_emit_f]; rfl
  have f39 : fm_up (u_emit V c a y) 80 39 z 80 39 = z := fm_up_self
  have e107 : fm_up (u_emit V c a y) 80 39 z 107 = V 107 := by rw [eo _ (by decide)]; exact funext fun k => u_emit_o V c a y 107 k (by decide)
  have e105 : fm_up (u_emit V c a y) 80 39 z 105 = u_emit V c a y 105 := eo _ (by decide)
  refine ⟨pz_Fo (u_emit_F I.fr) rfl rfl rfl (zi_rng z) (by decide), ?_, ?_, ?_, ?_, fun k hk => ?_, fun k hk => ?_, fun w => ?_⟩
  · unfold pz_B
    rw [f33, f34, f35, f37, f39]
    omega
  · rw [f33]; exact I.pl
  · rw [f37]; omega
  · rw [f39]; omega
  · rw [e105, u_emit_c, if_neg (by omega)]; exact I.cd k hk
  · rw [e107]; exact I.sk k hk
  · obtain ⟨g1, g2, g3⟩ := I.gd hg
    rw [f37, f39, e107, e105]
    refine ⟨fun k k1 k2 => g1 k k1 (by omega), by omega, ?_⟩
    have e : y.toInt.toNat - g = ((V 80 37).toInt.toNat - g) + 1 := by omega
    rw [e, dp_push g3 (fun k hk => by rw [u_emit_c, if_neg (by omega)])]
    have e2 : u_emit V c a y 105 (g + ((V 80 37).toInt.toNat - g)) = c := by rw [u_emit_c, if_pos (by omega)]
    rw [e2]
    have e3 : (V 80 39).toInt.toNat = z.toInt.toNat + 1 := by omega
    have e4 : tp_ V = (V 107 z.toInt.toNat).toInt := by
      unfold tp_
      rw [if_pos (by omega), show ((V 80 39).toInt - 1).toNat = z.toInt.toNat by omega]
    rw [e3, cn_s, ← e4]
    rcases hc with ⟨h1, h2⟩ | ⟨h1, h2⟩
    · have h3 : 2 < c.toInt := by
        rw [h2]
        unfold bo_ at h1
        simp only [Bool.or_eq_true, decide_eq_true_eq] at h1
        omega
      rw [if_pos h3, if_pos h1, if_pos (by omega)]
      congr 1
    · rw [if_neg (by omega), if_pos h2, h1, if_pos (by omega)]
      congr 1
/-- the top, that takes none, goes, and the reader goes on -/
theorem pz_I.close {V0 V : fm_V} {h g b : Nat} {S : Int → Prop} {q y z : Int32} (I : pz_I V0 V h S g b) (hg : (V 80 35).toInt = 0) (hp : (V 80 33).toInt < (V 80 34).toInt) (hy : y.toInt = (V 80 39).toInt - 1) (hz : z.toInt = (V 80 33).toInt + 1) (hh : (h : Int) < (V 80 39).toInt) (hc : bo_ (tp_ V) = false) : pz_I V0 (fm_up (fm_up (fm_up V 80 39 y) 80 38 q) 80 33 z) h S g b := by
  obtain ⟨b1, b2, b3, b4, b5, b6, b7⟩ := I.B
  have hpl := I.pl
  have ek : ∀ k, k ≠ 39 → k ≠ 38 → k ≠ 33 → fm_up (fm_up (fm_up V 80 39 y) 80 38 q) 80 33 z 80 k = V 80 k := fun k h1 h2 h3 => by rw [fm_up_ne (fun q => h3 q.2), fm_up_ne (fun q => h2 q.2), fm_up_ne (fun q => h1 q.2)]
  have eo : ∀ i, i ≠ 80 → fm_up (fm_up (fm_up V 80 39 y) 80 38 q) 80 33 z i = V i := fun i hi => funext fun k => by rw [fm_up_ne (fun q => hi q.1), fm_up_ne (fun q => hi q.1), fm_up_ne (fun q => hi q.1)]
  have f33 : fm_up (fm_up (fm_up V 80 39 y) 80 38 q) 80 33 z 80 33 = z := fm_up_self
  have f34 := ek 34 (by decide) (by decide) (by decide)
  have f35 := ek 35 (by decide) (by decide) (by decide)
  have f37 := ek 37 (by decide) (by decide) (by decide)
  have f39 : fm_up (fm_up (fm_up V 80 39 y) 80 38 q) 80 33 z 80 39 = y := by rw [fm_up_ne (by decide), fm_up_ne (by decide), fm_up_self]
  refine ⟨pz_Fo (pz_Fo (pz_Fo I.fr rfl rfl rfl (zi_rng y) (by decide)) rfl rfl rfl (zi_rng q) (by decide)) rfl rfl rfl (zi_rng z) (by decide), ?_, ?_, ?_, ?_, fun k hk => ?_, fun k hk => ?_, fun w => ?_⟩
  · unfold pz_B
    rw [f33, f34, f35, f37, f39]
    omega
  · rw [f33]; omega
  · rw [f37]; exact I.c0
  · rw [f39]; omega
  · rw [eo _ (by decide)]; exact I.cd k hk
  · rw [eo _ (by decide)]; exact I.sk k hk
  · obtain ⟨g1, g2, g3⟩ := I.gd hg
    rw [f37, f39, eo _ (by decide), eo _ (by decide)]
    refine ⟨fun k k1 k2 => g1 k k1 (by omega), g2, ?_⟩
    rw [g3]
    have e3 : (V 80 39).toInt.toNat = y.toInt.toNat + 1 := by omega
    have e4 : tp_ V = (V 107 y.toInt.toNat).toInt := by
      unfold tp_
      rw [if_pos (by omega), show ((V 80 39).toInt - 1).toNat = y.toInt.toNat by omega]
    rw [e3]
    show some (cn_ (V 107) y.toInt.toNat + (if bo_ (V 107 y.toInt.toNat).toInt = true then 1 else 0) + b) = _
    rw [← e4, hc]
    rfl
/-- the reader goes on, or finds wrong: nothing else changes -/
theorem pz_I.move {V0 V V2 : fm_V} {h g b : Nat} {S : Int → Prop} (I : pz_I V0 V h S g b) (hF : pz_F [(80, 33), (80, 35)] V V2) (h1 : (V 80 33).toInt ≤ (V2 80 33).toInt) (h2 : (V2 80 33).toInt ≤ (V 80 34).toInt) (h3 : (V2 80 35).toInt ≤ 0) (h4 : (V 80 35).toInt = 0) : pz_I V0 V2 h S g b := by
  obtain ⟨b1, b2, b3, b4, b5, b6, b7⟩ := I.B
  have hpl := I.pl
  have f34 : V2 80 34 = V 80 34 := hF.2 _ _ (by decide)
  have f37 : V2 80 37 = V 80 37 := hF.2 _ _ (by decide)
  have f39 : V2 80 39 = V 80 39 := hF.2 _ _ (by decide)
  have eo : ∀ i, i ≠ 80 → V2 i = V i := fun i hi => funext fun k => hF.2 _ _ (by simp [rv_in, Ne.symm hi])
  refine ⟨pz_Ft I.fr hF (by decide), ?_, by omega, ?_, ?_, fun k hk => ?_, fun k hk => ?_, fun w => ?_⟩
  · unfold pz_B
    rw [f34, f37, f39]
    omega
  · rw [f37]; exact I.c0
  · rw [f39]; exact I.hk
  · rw [eo _ (by decide)]; exact I.cd k hk
  · rw [eo _ (by decide)]; exact I.sk k hk
  · rw [f37, f39, eo _ (by decide), eo _ (by decide)]
    exact I.gd h4
/-- place alone -/
theorem pz_I.step {V0 V : fm_V} {h g b : Nat} {S : Int → Prop} {z : Int32} (I : pz_I V0 V h S g b) (hp : (V 80 33).toInt < (V 80 34).toInt) (hz : z.toInt = (V 80 33).toInt + 1) : pz_I V0 (fm_up V 80 33 z) h S g b := by
  obtain ⟨b1, b2, b3, b4, b5, b6, b7⟩ := I.B
  have hpl := I.pl
  have ek : ∀ k, k ≠ 33 → fm_up V 80 33 z 80 k = V 80 k := fun k h3 => fm_up_ne (fun q => h3 q.2)
  have eo : ∀ i, i ≠ 80 → fm_up V 80 33 z i = V i := fun i hi => funext fun k => fm_up_ne (fun q => hi q.1)
  have f33 : fm_up V 80 33 z 80 33 = z := fm_up_self
  have f34 := ek 34 (by decide)
  have f35 := ek 35 (by decide)
  have f37 := ek 37 (by decide)
  have f39 := ek 39 (by decide)
  refine ⟨pz_Fo I.fr rfl rfl rfl (zi_rng z) (by decide), ?_, ?_, ?_, ?_, fun k hk => ?_, fun k hk => ?_, fun w => ?_⟩
  · unfold pz_B
    rw [f33, f34, f35, f37, f39]
    omega
  · rw [f33]; omega
  · rw [f37]; exact I.c0
  · rw [f39]; exact I.hk
  · rw [eo _ (by decide)]; exact I.cd k hk
  · rw [eo _ (by decide)]; exact I.sk k hk
  · rw [f35] at w
    rw [f37, f39, eo _ (by decide), eo _ (by decide)]
    exact I.gd w
/-- a value within: nothing of it is left on the stack -/
theorem pz_I.comp {V0 V V1 : fm_V} {h h1 g b b1 : Nat} {S S1 : Int → Prop} (I : pz_I V0 V h S g b) (J : pz_I V V1 h1 S1 g b1) (e1 : (h1 : Int) = (V 80 39).toInt) (e2 : (V1 80 35).toInt = 0 → (V1 80 39).toInt = (V 80 39).toInt) (e0 : (V 80 35).toInt = 0) : pz_I V0 V1 h S g b1 := by
  have hk := I.hk
  have hk1 := J.hk
  have c0 := I.c0
  have c1 := J.c0
  have p0 := I.pl
  have p1 := J.pl
  refine ⟨⟨J.fr.1, fun i f hf => (J.fr.2 i f hf).trans (I.fr.2 i f hf)⟩, J.B, by omega, by omega, by omega, fun k hk => ?_, fun k hk => ?_, fun w => ?_⟩
  · rw [J.cd k (by omega)]; exact I.cd k hk
  · rw [J.sk k (by omega)]; exact I.sk k hk
  · obtain ⟨g1, g2, g3⟩ := I.gd e0
    obtain ⟨j1, j2, j3⟩ := J.gd w
    refine ⟨fun k k1 k2 => ?_, j2, j3⟩
    rw [e2 w] at k2
    rw [J.sk k (by omega)]
    exact g1 k k1 k2
theorem pz_I.refl {V : fm_V} {g : Nat} {S : Int → Prop} {b : Nat} (hT : fm_Tm fm_tm V) (hB : pz_B V) {h : Nat} (hh : (h : Int) = (V 80 39).toInt) (hd : (V 80 35).toInt = 0 → (g : Int) ≤ (V 80 37).toInt ∧ dp_ (V 105) g ((V 80 37).toInt.toNat - g) = some (cn_ (V 107) (V 80 39).toInt.toNat + b)) : pz_I V V h S g b :=
  ⟨pz_Fr hT, hB, Int.le_refl _, Int.le_refl _, by omega, fun _ _ => rfl, fun _ _ => rfl, fun w => ⟨fun k k1 k2 => by omega, hd w⟩⟩
def ar_ (x : Int) : Prop := x = 42 ∨ x = 47 ∨ x = 37 ∨ x = 43 ∨ x = 45
def vS_ (x : Int) : Prop := ar_ x ∨ x = 91
def cS_ (x : Int) : Prop := x = 40 ∨ x = 33 ∨ x = 38 ∨ x = 124
theorem hr_teq {V V2 : fm_V} (h1 : (V2 80 33).toInt = (V 80 33).toInt) (h2 : (V2 80 34).toInt = (V 80 34).toInt) (h3 : V2 81 = V 81) : hr_ V2 = hr_ V := by unfold hr_; rw [h1, h2, h3]
theorem pz_I.en {V0 V : fm_V} {h g b : Nat} {S : Int → Prop} (I : pz_I V0 V h S g b) : (V 80 34).toInt = (V0 80 34).toInt := by rw [I.fr.2 80 34 (by decide)]
theorem pz_I.tape {V0 V : fm_V} {h g b : Nat} {S : Int → Prop} (I : pz_I V0 V h S g b) : V 81 = V0 81 := funext fun k => I.fr.2 81 k (by simp [rv_in, pz_M])
theorem hr_same {V0 V V2 : fm_V} {h g b h' g' b' : Nat} {S S' : Int → Prop} (I : pz_I V0 V h S g b) (J : pz_I V0 V2 h' S' g' b') (hp : (V2 80 33).toInt = (V 80 33).toInt) : hr_ V2 = hr_ V := hr_teq hp (by rw [I.en, J.en]) (by rw [I.tape, J.tape])
/-- the top is above the level, if what lies under it is of another kind -/
theorem pz_I.above {V0 V : fm_V} {h g b : Nat} {S : Int → Prop} (I : pz_I V0 V h S g b) {P : Int → Prop} (hs : 0 < h → ¬ P (V0 107 (h - 1)).toInt) (hP : P (tp_ V)) (h0 : ¬ P 0) : (h : Int) < (V 80 39).toInt := by
  have hk := I.hk
  unfold tp_ at hP
  by_cases c : 0 < (V 80 39).toInt
  · rw [if_pos c] at hP
    by_cases d : (h : Int) = (V 80 39).toInt
    · rw [show ((V 80 39).toInt - 1).toNat = h - 1 by omega, I.sk (h - 1) (by omega)] at hP
      exact absurd hP (hs (by omega))
    · omega
  · rw [if_neg c] at hP
    exact absurd hP h0
theorem pz_I.topS {V0 V : fm_V} {h g b : Nat} {S : Int → Prop} (I : pz_I V0 V h S g b) (hg : (V 80 35).toInt = 0) (hh : (h : Int) < (V 80 39).toInt) : S (tp_ V) := by
  unfold tp_
  rw [if_pos (by omega)]
  exact (I.gd hg).1 _ (by omega) (by omega)
theorem pz_I.mono {V0 V : fm_V} {h g b : Nat} {S S' : Int → Prop} (I : pz_I V0 V h S g b) (hS : (V 80 35).toInt = 0 → ∀ k : Nat, h ≤ k → (k : Int) < (V 80 39).toInt → S' (V 107 k).toInt) : pz_I V0 V h S' g b := ⟨I.fr, I.B, I.pl, I.c0, I.hk, I.cd, I.sk, fun z => ⟨hS z, (I.gd z).2⟩⟩
theorem pz_I.cw {V0 V V1 : fm_V} {h g b b1 : Nat} {S S1 : Int → Prop} (I : pz_I V0 V 0 S g b) (J : pz_I V V1 h S1 g b1) : pz_I V0 V1 0 (fun _ => True) g b1 := by
  have c0 := I.c0
  have c1 := J.c0
  have p0 := I.pl
  have p1 := J.pl
  refine ⟨⟨J.fr.1, fun i f hf => (J.fr.2 i f hf).trans (I.fr.2 i f hf)⟩, J.B, by omega, by omega, J.B.2.2.2.2.1, fun k hk => ?_, fun k hk => by omega, fun w => ⟨fun _ _ _ => trivial, (J.gd w).2⟩⟩
  rw [J.cd k (by omega)]
  exact I.cd k hk
theorem bo_ar {x : Int} (h : ar_ x) : bo_ x = true := by
  unfold bo_ ar_ at *
  simp only [Bool.or_eq_true, decide_eq_true_eq]
  omega
