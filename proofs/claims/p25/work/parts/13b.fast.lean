/-! the same check, with quicker ways to find a node and an instruction -/
noncomputable def rv_at {α : Type} (l : List α) : Nat → Option α := List.rec (motive := fun _ => Nat → Option α) (fun _ => none) (fun a _ ih i => Nat.rec (motive := fun _ => Option α) (some a) (fun k _ => ih k) i) l
theorem rv_at_eq {α : Type} : ∀ (l : List α) (i : Nat), l[i]? = rv_at l i := by
  intro l
  induction l with
  | nil => intro i; exact List.getElem?_nil
  | cons a l ih =>
    intro i
    cases i with
    | zero => rfl
    | succ k => exact List.getElem?_cons_succ.trans (ih k)
noncomputable def rv_ap {α : Type} (c : Nat) (f g : Nat → Option α) (i : Nat) : Option α := bif Nat.ble c i then g (Nat.sub i c) else f i
theorem rv_ap_eq {α : Type} {l m : List α} {g : Nat → Option α} {c : Nat} (hg : ∀ i : Nat, m[i]? = g i) (hc : l.length = c) (i : Nat) : (l ++ m)[i]? = rv_ap c (rv_at l) g i := by
  subst hc
  have e : rv_ap l.length (rv_at l) g i = bif Nat.ble l.length i then g (Nat.sub i l.length) else rv_at l i := rfl
  rw [e]
  cases h : Nat.ble l.length i with
  | true => exact (List.getElem?_append_right (Nat.le_of_ble_eq_true h)).trans (hg (i - l.length))
  | false => exact (List.getElem?_append_left (Nat.lt_of_not_le (fun q => by rw [Nat.ble_eq_true_of_le q] at h; cases h))).trans (rv_at_eq l i)
def rv_edgeG (gN : Nat → Option rv_N) (gC : Nat → Option (Nat × Instr × Nat)) (tm : List fm_C) (d : Int) (cs : List (Nat × Int)) (o : Nat × rv_S) (id : Nat) : Bool := match gN id with
  | some n => (match gC n.1 with
    | some q => decide (q.1 = o.1) && rv_le tm o.2 n.2.1 && decide (1 ≤ d - n.2.2.2.1 + rv_mi o.2.1 (rv_sb cs n.2.2.2.2.1))
    | none => false)
  | none => false
def rv_chkG (gN : Nat → Option rv_N) (gC : Nat → Option (Nat × Instr × Nat)) (E : rv_E) (ct : List (Nat × rv_K)) (K : rv_K) (n : rv_N) : Bool := decide (0 ≤ n.2.2.2.1 + rv_mi n.2.1.1 n.2.2.2.2.1) && (match gC n.1 with
  | none => false
  | some q => match q.2.1, q.2.2 with
    | .ireturn, 1 => rv_rI E.1 K E.2.2.2.2.2.2.1 n.2.1
    | .return_, 1 => rv_rV E.1 K n.2.1
    | _, _ => match rv_tr E q.1 q.2.1 q.2.2 n.2.1 (rv_kx ct n.1 n.2.2.2.2.2) with
      | none => false
      | some outs => outs.all (fun o => n.2.2.1.any (rv_edgeG gN gC E.1 (n.2.2.2.1 + (rv_pr (rv_tch q.2.1 n.2.1) n.2.1.1 n.2.2.2.2.1).1) (rv_pr (rv_tch q.2.1 n.2.1) n.2.1.1 n.2.2.2.2.1).2 o)))
def rv_allG (gN : Nat → Option rv_N) (gC : Nat → Option (Nat × Instr × Nat)) (E : rv_E) (ct : List (Nat × rv_K)) (K : rv_K) (xs : List Nat) : Nat → List rv_N → Bool
  | _, [] => true
  | id, n :: ns => (xs.any (fun x => decide (x = id)) || rv_chkG gN gC E ct K n) && rv_allG gN gC E ct K xs (id + 1) ns
theorem rv_chkG_eq {E : rv_E} {ct : List (Nat × rv_K)} {cd : List (Nat × Instr × Nat)} {nodes : List rv_N} {K : rv_K} {n : rv_N} : rv_chkG (fun i => nodes[i]?) (fun i => cd[i]?) E ct K n = rv_chk E ct cd nodes K n := rfl
theorem rv_fast {E : rv_E} {ct : List (Nat × rv_K)} {cd : List (Nat × Instr × Nat)} {nodes : List rv_N} {K : rv_K} {xs : List Nat} {gN : Nat → Option rv_N} {gC : Nat → Option (Nat × Instr × Nat)} (hN : ∀ i : Nat, nodes[i]? = gN i) (hC : ∀ i : Nat, cd[i]? = gC i) : ∀ {ns : List rv_N} {id : Nat}, rv_allG gN gC E ct K xs id ns = true → rv_all E ct cd nodes K xs id ns = true := by
  obtain rfl : gN = fun i => nodes[i]? := funext fun i => (hN i).symm
  obtain rfl : gC = fun i => cd[i]? := funext fun i => (hC i).symm
  intro ns
  induction ns with
  | nil => intro id _; rfl
  | cons n ns ih =>
    intro id h
    unfold rv_allG at h
    unfold rv_all
    rw [rv_chkG_eq] at h
    rw [Bool.and_eq_true] at h ⊢
    exact ⟨h.1, ih h.2⟩
