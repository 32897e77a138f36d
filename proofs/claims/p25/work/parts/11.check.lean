/-! THE CHECK OF A BODY: nodes with what is known there, successors, a rank that falls. -/
def rv_ev (ls : Array Slot) : List (Nat × Int) → Int
  | [] => 0
  | q :: cs => q.2 * rv_lx ls q.1 + rv_ev ls cs
def rv_bl (L : List rv_A) (k : Nat) : Int × Int := match L[k]? with
  | some a => if a.1 = 1 then (rv_l a, rv_h a) else (-2147483648, 2147483647)
  | none => (-2147483648, 2147483647)
def rv_lw (c : Int) (b : Int × Int) : Int := if 0 ≤ c then c * b.1 else c * b.2
theorem rv_lw_ok {c x : Int} {b : Int × Int} (h1 : b.1 ≤ x) (h2 : x ≤ b.2) : rv_lw c b ≤ c * x := by
  unfold rv_lw
  by_cases h : 0 ≤ c
  · rw [if_pos h]
    exact Int.mul_le_mul_of_nonneg_left h1 h
  · rw [if_neg h]
    exact Int.mul_le_mul_of_nonpos_left (by omega) h2
theorem rv_bl_ok {ad : Nat → Nat} {ls : Array Slot} {L : List rv_A} (hL : ∀ (k : Nat) (a : rv_A), L[k]? = some a → rv_lok ad ls k a) (k : Nat) : (rv_bl L k).1 ≤ rv_lx ls k ∧ rv_lx ls k ≤ (rv_bl L k).2 := by
  have hr := rv_lx_rng ls k
  unfold rv_bl
  cases ha : L[k]? with
  | none => exact hr
  | some a =>
    dsimp only
    by_cases c : a.1 = 1
    · rw [if_pos c]
      have h := hL k a ha
      unfold rv_lok at h
      rw [if_pos c] at h
      obtain ⟨y, y1, y2, y3, -⟩ := h
      rw [rv_lx_at y1]
      exact ⟨y2, y3⟩
    · rw [if_neg c]
      exact hr
def rv_pr (t : Option (Nat × Option Int)) (L : List rv_A) : List (Nat × Int) → Int × List (Nat × Int)
  | [] => (0, [])
  | q :: cs => match t with
    | none => ((rv_pr t L cs).1, q :: (rv_pr t L cs).2)
    | some (k, o) => if q.1 = k then (match o with
      | some n => ((rv_pr t L cs).1 - q.2 * n, q :: (rv_pr t L cs).2)
      | none => ((rv_pr t L cs).1 + rv_lw q.2 (rv_bl L q.1), (rv_pr t L cs).2)) else ((rv_pr t L cs).1, q :: (rv_pr t L cs).2)
theorem rv_pr_ok {ad : Nat → Nat} {ls ls' : Array Slot} {L : List rv_A} {t : Option (Nat × Option Int)} (hL : ∀ (k : Nat) (a : rv_A), L[k]? = some a → rv_lok ad ls k a) (hR : rv_Rl t ls ls') : ∀ cs, (rv_pr t L cs).1 + rv_ev ls' (rv_pr t L cs).2 ≤ rv_ev ls cs := by
  intro cs
  induction cs with
  | nil => exact Int.le_refl _
  | cons q cs ih =>
    unfold rv_pr
    match t, hR, ih with
    | none, hR, ih =>
      have hR : ∀ j, rv_lx ls' j = rv_lx ls j := hR
      dsimp only
      simp only [rv_ev, hR q.1]
      omega
    | some (k, o), hR, ih =>
      dsimp only
      by_cases c : q.1 = k
      · rw [if_pos c]
        match o, hR, ih with
        | some n, hR, ih =>
          have hR : (∀ j, j ≠ k → rv_lx ls' j = rv_lx ls j) ∧ rv_lx ls' k = rv_lx ls k + n := hR
          dsimp only
          simp only [rv_ev]
          rw [c, hR.2, Int.mul_add]
          omega
        | none, hR, ih =>
          dsimp only
          have h1 := rv_bl_ok hL q.1
          have h2 := rv_lw_ok (c := q.2) h1.1 h1.2
          simp only [rv_ev]
          omega
      · rw [if_neg c]
        have e : rv_lx ls' q.1 = rv_lx ls q.1 := by
          match o, hR with
          | some n, hR => exact hR.1 q.1 c
          | none, hR => exact hR q.1 c
        simp only [rv_ev, e]
        omega
def rv_ca (k : Nat) (c : Int) : List (Nat × Int) → List (Nat × Int)
  | [] => [(k, c)]
  | q :: l => if q.1 = k then (k, q.2 + c) :: l else q :: rv_ca k c l
theorem rv_ca_ok {ls : Array Slot} {k : Nat} {c : Int} : ∀ l, rv_ev ls (rv_ca k c l) = rv_ev ls l + c * rv_lx ls k := by
  intro l
  induction l with
  | nil => simp [rv_ca, rv_ev]
  | cons q l ih =>
    unfold rv_ca
    by_cases h : q.1 = k
    · rw [if_pos h]
      simp only [rv_ev, h, Int.add_mul]
      omega
    · rw [if_neg h]
      simp only [rv_ev, ih]
      omega
def rv_sb : List (Nat × Int) → List (Nat × Int) → List (Nat × Int)
  | l, [] => l
  | l, q :: cs => rv_sb (rv_ca q.1 (-q.2) l) cs
theorem rv_sb_ok {ls : Array Slot} : ∀ cs l, rv_ev ls (rv_sb l cs) = rv_ev ls l - rv_ev ls cs := by
  intro cs
  induction cs with
  | nil => intro l; simp [rv_sb, rv_ev]
  | cons q cs ih =>
    intro l
    unfold rv_sb
    rw [ih, rv_ca_ok]
    simp only [rv_ev, Int.neg_mul]
    omega
def rv_mi (L : List rv_A) : List (Nat × Int) → Int
  | [] => 0
  | q :: cs => rv_lw q.2 (rv_bl L q.1) + rv_mi L cs
theorem rv_mi_ok {ad : Nat → Nat} {ls : Array Slot} {L : List rv_A} (hL : ∀ (k : Nat) (a : rv_A), L[k]? = some a → rv_lok ad ls k a) : ∀ cs, rv_mi L cs ≤ rv_ev ls cs := by
  intro cs
  induction cs with
  | nil => exact Int.le_refl _
  | cons q cs ih =>
    have h1 := rv_bl_ok hL q.1
    have h2 := rv_lw_ok (c := q.2) h1.1 h1.2
    simp only [rv_mi, rv_ev]
    omega
/-- a node: its instruction's place in the listing, what is known, successors, rank, contract -/
abbrev rv_N : Type := Nat × rv_S × List Nat × Int × List (Nat × Int) × List Nat
/-- the calls of a body: the instruction's place in the listing, a contract -/
def rv_kx (ct : List (Nat × rv_K)) (ci : Nat) (is : List Nat) : List rv_K := is.filterMap (fun i => match ct[i]? with
  | some t => if t.1 = ci then some t.2 else none
  | none => none)
theorem rv_kx_mem {ct : List (Nat × rv_K)} {ci : Nat} {is : List Nat} {K : rv_K} (h : K ∈ rv_kx ct ci is) : ∃ t ∈ ct, t.1 = ci ∧ t.2 = K := by
  obtain ⟨i, -, hi⟩ := List.mem_filterMap.mp h
  cases ht : ct[i]? with
  | none => rw [ht] at hi; cases hi
  | some t =>
    rw [ht] at hi
    dsimp only at hi
    by_cases c : t.1 = ci
    · rw [if_pos c] at hi
      exact ⟨t, List.mem_of_getElem? ht, c, Option.some.inj hi⟩
    · rw [if_neg c] at hi
      cases hi
def rv_edge (tm : List fm_C) (cd : List (Nat × Instr × Nat)) (nodes : List rv_N) (d : Int) (cs : List (Nat × Int)) (o : Nat × rv_S) (id : Nat) : Bool := match nodes[id]? with
  | some n => (match cd[n.1]? with
    | some q => decide (q.1 = o.1) && rv_le tm o.2 n.2.1 && decide (1 ≤ d - n.2.2.2.1 + rv_mi o.2.1 (rv_sb cs n.2.2.2.2.1))
    | none => false)
  | none => false
def rv_rc (tm : List fm_C) (K : rv_K) (P : List Nat) (G : rv_S) (c : rv_U × Int × Int) : Bool := match c.1 with
  | .inl j => P.any (fun i => decide (i = j)) && (match K.1[j]?, G.1[j]? with
    | some k, some a => decide (k.1 = 1) && decide (a.1 = 1) && decide (c.2.1 ≤ rv_l a) && decide (rv_h a ≤ c.2.2)
    | _, _ => false)
  | .inr q => (decide (q.2 < 5000) || (P.any (fun i => decide (i = q.2 - 5000)) && (match K.1[q.2 - 5000]? with
    | some k => decide (k.1 = 1)
    | none => false))) && rv_leF tm G.2.2 (q, c.2.1, c.2.2, [])
def rv_pk (tm : List fm_C) (K : rv_K) (G : rv_S) : Bool := K.2.2.2.2.2.all (fun f => decide (f.1.2 < 5000) && rv_leF tm G.2.2 f)
def rv_rI (tm : List fm_C) (K : rv_K) (P : List Nat) (G : rv_S) : Bool := match G.2.1, K.2.2.2.1 with
  | [a], q :: _ => decide (a.1 = 1) && decide (q.2.1 ≤ rv_l a) && decide (rv_h a ≤ q.2.2) && (decide (q.1 ≠ 1) || decide (a.2.1 = 1) || decide (0 < rv_l a) || decide (rv_h a < 0)) && (decide (rv_l a = 0 ∧ rv_h a = 0) || K.2.2.2.2.1.all (rv_rc tm K P (rv_rfC (rv_cs a) (G.1, [], G.2.2)))) && rv_pk tm K G
  | _, _ => false
def rv_rV (tm : List fm_C) (K : rv_K) (G : rv_S) : Bool := match G.2.1, K.2.2.2.1 with
  | [], [] => rv_pk tm K G
  | _, _ => false
def rv_chk (E : rv_E) (ct : List (Nat × rv_K)) (cd : List (Nat × Instr × Nat)) (nodes : List rv_N) (K : rv_K) (n : rv_N) : Bool := decide (0 ≤ n.2.2.2.1 + rv_mi n.2.1.1 n.2.2.2.2.1) && (match cd[n.1]? with
  | none => false
  | some q => match q.2.1, q.2.2 with
    | .ireturn, 1 => rv_rI E.1 K E.2.2.2.2.2.2.1 n.2.1
    | .return_, 1 => rv_rV E.1 K n.2.1
    | _, _ => match rv_tr E q.1 q.2.1 q.2.2 n.2.1 (rv_kx ct n.1 n.2.2.2.2.2) with
      | none => false
      | some outs => outs.all (fun o => n.2.2.1.any (rv_edge E.1 cd nodes (n.2.2.2.1 + (rv_pr (rv_tch q.2.1 n.2.1) n.2.1.1 n.2.2.2.2.1).1) (rv_pr (rv_tch q.2.1 n.2.1) n.2.1.1 n.2.2.2.2.1).2 o)))
def rv_all (E : rv_E) (ct : List (Nat × rv_K)) (cd : List (Nat × Instr × Nat)) (nodes : List rv_N) (K : rv_K) (xs : List Nat) : Nat → List rv_N → Bool
  | _, [] => true
  | id, n :: ns => (xs.any (fun x => decide (x = id)) || rv_chk E ct cd nodes K n) && rv_all E ct cd nodes K xs (id + 1) ns
theorem rv_all_ok {E : rv_E} {ct : List (Nat × rv_K)} {cd : List (Nat × Instr × Nat)} {nodes : List rv_N} {K : rv_K} {xs : List Nat} : ∀ {ns : List rv_N} {id : Nat}, rv_all E ct cd nodes K xs id ns = true → ∀ {k : Nat} {n : rv_N}, ns[k]? = some n → id + k ∈ xs ∨ rv_chk E ct cd nodes K n = true := by
  intro ns
  induction ns with
  | nil => intro id _ k n h; simp at h
  | cons n0 ns ih =>
    intro id h k n hk
    unfold rv_all at h
    simp only [Bool.and_eq_true, Bool.or_eq_true, List.any_eq_true, decide_eq_true_eq] at h
    cases k with
    | zero =>
      simp only [List.getElem?_cons_zero, Option.some.injEq] at hk
      subst hk
      rcases h.1 with ⟨x, x1, x2⟩ | h1
      · exact Or.inl (by rw [← show x = id + 0 by omega]; exact x1)
      · exact Or.inr h1
    | succ k =>
      have := ih h.2 (k := k) (n := n) (by simpa using hk)
      rw [show id + (k + 1) = id + 1 + k by omega]
      exact this
