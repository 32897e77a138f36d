/-! WHAT A PROGRAM KNOWS OF A PLACE IN A METHOD: locals, stack and some places of the world, by bounds. -/
/-- a variable: a local, or a place of the world (cell, index; an index from 5000 on: that of the local index - 5000) -/
abbrev rv_U : Type := Nat ⊕ (Nat × Nat)
/-- a value: 1 a number (1: not 0; bounds; variable + offset that it is; what holds if it isn't 0), 2 a reference to a cell, 3 a long -/
abbrev rv_A : Type := Nat × Nat × Int × Int × List (rv_U × Int) × List (rv_U × Int × Int)
/-- a fact of a place: bounds; bounds of its difference to what a place held at the method's start -/
abbrev rv_Fa : Type := (Nat × Nat) × Int × Int × List ((Nat × Nat) × Int × Int)
abbrev rv_S : Type := List rv_A × List rv_A × List rv_Fa
def rv_lx (ls : Array Slot) (k : Nat) : Int := match ls[k]? with
  | some (.val (.int y)) => y.toInt
  | _ => 0
def rv_ix (ls : Array Slot) (f : Nat) : Nat := if f < 5000 then f else (rv_lx ls (f - 5000)).toNat
def rv_uv (V : fm_V) (ls : Array Slot) (u : rv_U) : Int := match u with
  | .inl k => rv_lx ls k
  | .inr q => (V q.1 (rv_ix ls q.2)).toInt
theorem rv_lx_rng (ls : Array Slot) (k : Nat) : -2147483648 ≤ rv_lx ls k ∧ rv_lx ls k ≤ 2147483647 := by
  unfold rv_lx
  split
  · exact zi_rng _
  · omega
theorem rv_uv_rng (V : fm_V) (ls : Array Slot) (u : rv_U) : -2147483648 ≤ rv_uv V ls u ∧ rv_uv V ls u ≤ 2147483647 := by
  cases u with
  | inl k => exact rv_lx_rng ls k
  | inr q => exact zi_rng _
theorem rv_lx_at {ls : Array Slot} {k : Nat} {y : Int32} (h : ls[k]? = some (.val (.int y))) : rv_lx ls k = y.toInt := by
  unfold rv_lx
  rw [h]
def rv_l (a : rv_A) : Int := a.2.2.1
def rv_h (a : rv_A) : Int := a.2.2.2.1
def rv_al (a : rv_A) : List (rv_U × Int) := a.2.2.2.2.1
def rv_cs (a : rv_A) : List (rv_U × Int × Int) := a.2.2.2.2.2
def rv_oI (V : fm_V) (ls : Array Slot) (a : rv_A) (v : Value) : Prop := ∃ x : Int32, v = .int x ∧ rv_l a ≤ x.toInt ∧ x.toInt ≤ rv_h a ∧ (a.2.1 = 1 → x.toInt ≠ 0) ∧ (∀ q ∈ rv_al a, ∃ k : Int, x.toInt = rv_uv V ls q.1 + q.2 + 4294967296 * k) ∧ (x.toInt ≠ 0 → ∀ q ∈ rv_cs a, q.2.1 ≤ rv_uv V ls q.1 ∧ rv_uv V ls q.1 ≤ q.2.2)
def rv_oL (V : fm_V) (ls : Array Slot) (a : rv_A) (v : Value) : Prop := ∃ x : Int64, v = .long x ∧ rv_l a ≤ x.toInt ∧ x.toInt ≤ rv_h a ∧ (∀ q ∈ rv_al a, ∃ k : Int, x.toInt = rv_uv V ls q.1 + q.2 + 4294967296 * k)
def rv_ok (ad : Nat → Nat) (V : fm_V) (ls : Array Slot) (a : rv_A) (v : Value) : Prop := if a.1 = 1 then rv_oI V ls a v else if a.1 = 2 then v = .ref (ad a.2.1) else if a.1 = 3 then rv_oL V ls a v else False
def rv_lok (ad : Nat → Nat) (ls : Array Slot) (k : Nat) (a : rv_A) : Prop := if a.1 = 1 then ∃ y : Int32, ls[k]? = some (.val (.int y)) ∧ rv_l a ≤ y.toInt ∧ y.toInt ≤ rv_h a ∧ (a.2.1 = 1 → y.toInt ≠ 0) else if a.1 = 2 then ls[k]? = some (.val (.ref (ad a.2.1))) else True
def rv_fok (V0 V : fm_V) (ls : Array Slot) (q : rv_Fa) : Prop := (q.2.1 ≤ rv_uv V ls (.inr q.1) ∧ rv_uv V ls (.inr q.1) ≤ q.2.2.1) ∧ ∀ r ∈ q.2.2.2, r.2.1 ≤ rv_uv V ls (.inr q.1) - (V0 r.1.1 r.1.2).toInt ∧ rv_uv V ls (.inr q.1) - (V0 r.1.1 r.1.2).toInt ≤ r.2.2
def rv_sk (P : rv_A → Value → Prop) : List rv_A → List Value → Prop
  | [], [] => True
  | a :: as, v :: vs => P a v ∧ rv_sk P as vs
  | _, _ => False
theorem rv_sk_cons {P : rv_A → Value → Prop} {a : rv_A} {as : List rv_A} {st : List Value} (h : rv_sk P (a :: as) st) : ∃ v vs, st = v :: vs ∧ P a v ∧ rv_sk P as vs := by
  cases st with
  | nil => exact absurd h (by simp [rv_sk])
  | cons v vs => exact ⟨v, vs, rfl, h.1, h.2⟩
theorem rv_sk_nil {P : rv_A → Value → Prop} {st : List Value} (h : rv_sk P [] st) : st = [] := by
  cases st with
  | nil => rfl
  | cons v vs => exact absurd h (by simp [rv_sk])
theorem rv_sk_map {P P' : rv_A → Value → Prop} (f : rv_A → rv_A) (h : ∀ a v, P a v → P' (f a) v) : ∀ {as : List rv_A} {st : List Value}, rv_sk P as st → rv_sk P' (as.map f) st := by
  intro as
  induction as with
  | nil => intro st hs; rw [rv_sk_nil hs]; exact trivial
  | cons a as ih =>
    intro st hs
    obtain ⟨v, vs, rfl, h1, h2⟩ := rv_sk_cons hs
    exact ⟨h a v h1, ih h2⟩
theorem rv_sk_len {P : rv_A → Value → Prop} : ∀ {as : List rv_A} {st : List Value}, rv_sk P as st → st.length = as.length := by
  intro as
  induction as with
  | nil => intro st hs; rw [rv_sk_nil hs]; rfl
  | cons a as ih =>
    intro st hs
    obtain ⟨v, vs, rfl, h1, h2⟩ := rv_sk_cons hs
    simp [ih h2]
/-- what is known holds -/
def rv_G (ad : Nat → Nat) (V0 V : fm_V) (ls : Array Slot) (st : List Value) (G : rv_S) : Prop := (∀ (k : Nat) (a : rv_A), G.1[k]? = some a → rv_lok ad ls k a) ∧ rv_sk (rv_ok ad V ls) G.2.1 st ∧ ∀ q ∈ G.2.2, rv_fok V0 V ls q
theorem rv_okI {ad : Nat → Nat} {V : fm_V} {ls : Array Slot} {a : rv_A} {v : Value} (h1 : a.1 = 1) (h : rv_ok ad V ls a v) : rv_oI V ls a v := by
  unfold rv_ok at h
  rw [if_pos h1] at h
  exact h
theorem rv_okR {ad : Nat → Nat} {V : fm_V} {ls : Array Slot} {a : rv_A} {v : Value} (h1 : a.1 = 2) (h : rv_ok ad V ls a v) : v = .ref (ad a.2.1) := by
  unfold rv_ok at h
  rw [if_neg (by omega), if_pos h1] at h
  exact h
theorem rv_okL {ad : Nat → Nat} {V : fm_V} {ls : Array Slot} {a : rv_A} {v : Value} (h1 : a.1 = 3) (h : rv_ok ad V ls a v) : rv_oL V ls a v := by
  unfold rv_ok at h
  rw [if_neg (by omega), if_neg (by omega), if_pos h1] at h
  exact h
theorem rv_okI' {ad : Nat → Nat} {V : fm_V} {ls : Array Slot} {a : rv_A} {v : Value} (h1 : a.1 = 1) (h : rv_oI V ls a v) : rv_ok ad V ls a v := by
  unfold rv_ok
  rw [if_pos h1]
  exact h
theorem rv_okR' {ad : Nat → Nat} {V : fm_V} {ls : Array Slot} {a : rv_A} {v : Value} (h1 : a.1 = 2) (h : v = .ref (ad a.2.1)) : rv_ok ad V ls a v := by
  unfold rv_ok
  rw [if_neg (by omega), if_pos h1]
  exact h
theorem rv_okL' {ad : Nat → Nat} {V : fm_V} {ls : Array Slot} {a : rv_A} {v : Value} (h1 : a.1 = 3) (h : rv_oL V ls a v) : rv_ok ad V ls a v := by
  unfold rv_ok
  rw [if_neg (by omega), if_neg (by omega), if_pos h1]
  exact h
/-- a bare number -/
theorem rv_okB {ad : Nat → Nat} {V : fm_V} {ls : Array Slot} {lo hi : Int} {x : Int32} (h1 : lo ≤ x.toInt) (h2 : x.toInt ≤ hi) : rv_ok ad V ls (1, 0, lo, hi, [], []) (.int x) :=
  rv_okI' rfl ⟨x, rfl, h1, h2, fun h => absurd (show (0 : Nat) = 1 from h) (by decide), fun q h => absurd h List.not_mem_nil, fun _ q h => absurd h List.not_mem_nil⟩
theorem rv_ok_cat {ad : Nat → Nat} {V : fm_V} {ls : Array Slot} {a : rv_A} {v : Value} (h : rv_ok ad V ls a v) : v.category = if a.1 = 3 then 2 else 1 := by
  unfold rv_ok at h
  by_cases c1 : a.1 = 1
  · rw [if_pos c1] at h
    obtain ⟨x, rfl, -⟩ := h
    rw [if_neg (by omega)]
    rfl
  · rw [if_neg c1] at h
    by_cases c2 : a.1 = 2
    · rw [if_pos c2] at h
      rw [h, if_neg (by omega)]
      rfl
    · rw [if_neg c2] at h
      by_cases c3 : a.1 = 3
      · rw [if_pos c3] at h
        obtain ⟨x, rfl, -⟩ := h
        rw [if_pos c3]
        rfl
      · rw [if_neg c3] at h
        exact h.elim
/-! bounds of a number -/
def rv_nm (lo hi : Int) : Int × Int := if -2147483648 ≤ lo ∧ hi ≤ 2147483647 then (lo, hi) else (-2147483648, 2147483647)
theorem rv_nm_ok {lo hi z : Int} {w : Int32} {k : Int} (h1 : lo ≤ z) (h2 : z ≤ hi) (hw : w.toInt = z + 4294967296 * k) : (rv_nm lo hi).1 ≤ w.toInt ∧ w.toInt ≤ (rv_nm lo hi).2 := by
  have hr := zi_rng w
  unfold rv_nm
  by_cases c : -2147483648 ≤ lo ∧ hi ≤ 2147483647
  · rw [if_pos c]
    dsimp only
    omega
  · rw [if_neg c]
    exact hr
def rv_full : rv_A := (1, 0, -2147483648, 2147483647, [], [])
theorem rv_full_ok {ad : Nat → Nat} {V : fm_V} {ls : Array Slot} (x : Int32) : rv_ok ad V ls rv_full (.int x) := rv_okB (zi_rng x).1 (zi_rng x).2
def rv_mv (al : List (rv_U × Int)) (n : Int) : List (rv_U × Int) := al.map (fun q => (q.1, q.2 + n))
/-- two numbers: 0 add, 1 sub, 2 mul, 3 and, 4 or, 5 any other, from 6 on: one that wants the second not to be 0 -/
def rv_bin (op : Nat) (a b : rv_A) : Option rv_A :=
  if a.1 = 1 ∧ b.1 = 1 then
    match op with
    | 0 => some (1, 0, (rv_nm (rv_l a + rv_l b) (rv_h a + rv_h b)).1, (rv_nm (rv_l a + rv_l b) (rv_h a + rv_h b)).2, (if rv_l b = rv_h b then rv_mv (rv_al a) (rv_l b) else if rv_l a = rv_h a then rv_mv (rv_al b) (rv_l a) else []), [])
    | 1 => some (1, 0, (rv_nm (rv_l a - rv_h b) (rv_h a - rv_l b)).1, (rv_nm (rv_l a - rv_h b) (rv_h a - rv_l b)).2, (if rv_l b = rv_h b then rv_mv (rv_al a) (-rv_l b) else []), [])
    | 2 => if rv_l b = rv_h b ∧ 0 ≤ rv_l b then some (1, 0, (rv_nm (rv_l a * rv_l b) (rv_h a * rv_l b)).1, (rv_nm (rv_l a * rv_l b) (rv_h a * rv_l b)).2, [], [])
      else if rv_l a = rv_h a ∧ 0 ≤ rv_l a then some (1, 0, (rv_nm (rv_l b * rv_l a) (rv_h b * rv_l a)).1, (rv_nm (rv_l b * rv_l a) (rv_h b * rv_l a)).2, [], [])
      else some rv_full
    | 3 => if 0 ≤ rv_l b then some (1, 0, 0, rv_h b, [], []) else if 0 ≤ rv_l a then some (1, 0, 0, rv_h a, [], []) else some rv_full
    | 4 => if (0 ≤ rv_l a ∧ rv_h a ≤ 1) ∧ 0 ≤ rv_l b ∧ rv_h b ≤ 1 then some (1, 0, 0, 1, [], []) else some rv_full
    | 5 => some rv_full
    | _ => if b.2.1 = 1 ∨ 0 < rv_l b ∨ rv_h b < 0 then some rv_full else none
  else none
def rv_rel (op : Nat) (x y z : Int32) : Prop := match op with
  | 0 => z = x + y
  | 1 => z = x - y
  | 2 => z = x * y
  | 3 => z = x &&& y
  | 4 => z = x ||| y
  | _ => True
theorem rv_mul_bd {a b c z : Int} (h0 : 0 ≤ c) (h1 : a ≤ z) (h2 : z ≤ b) : a * c ≤ z * c ∧ z * c ≤ b * c := ⟨Int.mul_le_mul_of_nonneg_right h1 h0, Int.mul_le_mul_of_nonneg_right h2 h0⟩
theorem rv_bin_ok {ad : Nat → Nat} {V : fm_V} {ls : Array Slot} {op : Nat} {a b r : rv_A} {va vb : Value} (h : rv_bin op a b = some r) (ha : rv_ok ad V ls a va) (hb : rv_ok ad V ls b vb) : ∃ x y : Int32, va = .int x ∧ vb = .int y ∧ (6 ≤ op → ¬ y = 0) ∧ ∀ z : Int32, rv_rel op x y z → rv_ok ad V ls r (.int z) := by
  unfold rv_bin at h
  by_cases c : a.1 = 1 ∧ b.1 = 1
  · rw [if_pos c] at h
    obtain ⟨x, rfl, x1, x2, x3, x4, x5⟩ := rv_okI c.1 ha
    obtain ⟨y, rfl, y1, y2, y3, y4, y5⟩ := rv_okI c.2 hb
    refine ⟨x, y, rfl, rfl, ?_, ?_⟩
    · intro h6
      match op, h6, h with
      | n + 6, _, h =>
        by_cases d : b.2.1 = 1 ∨ 0 < rv_l b ∨ rv_h b < 0
        · intro e
          have e0 : y.toInt = 0 := by rw [e]; rfl
          rcases d with d | d | d
          · exact y3 d e0
          · omega
          · omega
        · rw [if_neg d] at h
          cases h
    · intro z hz
      match op, h, hz with
      | 0, h, hz =>
        cases h
        obtain ⟨k, hk⟩ := zi_add x y
        have hz' : z.toInt = x.toInt + y.toInt + 4294967296 * k := by rw [show z = x + y from hz]; exact hk
        obtain ⟨b1, b2⟩ := rv_nm_ok (lo := rv_l a + rv_l b) (hi := rv_h a + rv_h b) (by omega) (by omega) hz'
        refine rv_okI' rfl ⟨z, rfl, b1, b2, fun q => absurd (show (0 : Nat) = 1 from q) (by decide), fun q hq => ?_, fun _ q hq => absurd hq List.not_mem_nil⟩
        simp only [rv_al] at hq
        by_cases d : rv_l b = rv_h b
        · rw [if_pos d] at hq
          obtain ⟨q0, hq0, rfl⟩ := List.mem_map.mp hq
          obtain ⟨k0, e0⟩ := x4 q0 hq0
          exact ⟨k + k0, by dsimp only; omega⟩
        · rw [if_neg d] at hq
          by_cases d2 : rv_l a = rv_h a
          · rw [if_pos d2] at hq
            obtain ⟨q0, hq0, rfl⟩ := List.mem_map.mp hq
            obtain ⟨k0, e0⟩ := y4 q0 hq0
            exact ⟨k + k0, by dsimp only; omega⟩
          · rw [if_neg d2] at hq
            cases hq
      | 1, h, hz =>
        cases h
        obtain ⟨k, hk⟩ := zi_sub x y
        have hz' : z.toInt = x.toInt - y.toInt + 4294967296 * k := by rw [show z = x - y from hz]; exact hk
        obtain ⟨b1, b2⟩ := rv_nm_ok (lo := rv_l a - rv_h b) (hi := rv_h a - rv_l b) (by omega) (by omega) hz'
        refine rv_okI' rfl ⟨z, rfl, b1, b2, fun q => absurd (show (0 : Nat) = 1 from q) (by decide), fun q hq => ?_, fun _ q hq => absurd hq List.not_mem_nil⟩
        simp only [rv_al] at hq
        by_cases d : rv_l b = rv_h b
        · rw [if_pos d] at hq
          obtain ⟨q0, hq0, rfl⟩ := List.mem_map.mp hq
          obtain ⟨k0, e0⟩ := x4 q0 hq0
          exact ⟨k + k0, by dsimp only; omega⟩
        · rw [if_neg d] at hq
          cases hq
      | 2, h, hz =>
        obtain ⟨k, hk⟩ := zi_mul x y
        have hz' : z.toInt = x.toInt * y.toInt + 4294967296 * k := by rw [show z = x * y from hz]; exact hk
        by_cases d : rv_l b = rv_h b ∧ 0 ≤ rv_l b
        · rw [if_pos d] at h
          cases h
          have ey : y.toInt = rv_l b := by omega
          rw [ey] at hz'
          obtain ⟨m1, m2⟩ := rv_mul_bd d.2 x1 x2
          obtain ⟨b1, b2⟩ := rv_nm_ok m1 m2 hz'
          exact rv_okB b1 b2
        · rw [if_neg d] at h
          by_cases d2 : rv_l a = rv_h a ∧ 0 ≤ rv_l a
          · rw [if_pos d2] at h
            cases h
            have ex : x.toInt = rv_l a := by omega
            rw [ex, Int.mul_comm] at hz'
            obtain ⟨m1, m2⟩ := rv_mul_bd d2.2 y1 y2
            obtain ⟨b1, b2⟩ := rv_nm_ok m1 m2 hz'
            exact rv_okB b1 b2
          · rw [if_neg d2] at h
            cases h
            exact rv_full_ok z
      | 3, h, hz =>
        have hz' : z = x &&& y := hz
        by_cases d : 0 ≤ rv_l b
        · rw [if_pos d] at h
          cases h
          obtain ⟨b1, b2⟩ := zi_and (x := x) (y := y) (by omega)
          rw [hz']
          exact rv_okB b1 (by omega)
        · rw [if_neg d] at h
          by_cases d2 : 0 ≤ rv_l a
          · rw [if_pos d2] at h
            cases h
            obtain ⟨b1, b2⟩ := zi_and' (x := x) (y := y) (by omega)
            rw [hz']
            exact rv_okB b1 (by omega)
          · rw [if_neg d2] at h
            cases h
            exact rv_full_ok z
      | 4, h, hz =>
        have hz' : z = x ||| y := hz
        by_cases d : (0 ≤ rv_l a ∧ rv_h a ≤ 1) ∧ 0 ≤ rv_l b ∧ rv_h b ≤ 1
        · rw [if_pos d] at h
          cases h
          obtain ⟨b1, b2⟩ := zi_or (x := x) (y := y) (by omega) (by omega) (by omega) (by omega)
          rw [hz']
          exact rv_okB b1 b2
        · rw [if_neg d] at h
          cases h
          exact rv_full_ok z
      | 5, h, hz =>
        cases h
        exact rv_full_ok z
      | n + 6, h, hz =>
        by_cases d : b.2.1 = 1 ∨ 0 < rv_l b ∨ rv_h b < 0
        · rw [if_pos d] at h
          cases h
          exact rv_full_ok z
        · rw [if_neg d] at h
          cases h
  · rw [if_neg c] at h
    cases h
