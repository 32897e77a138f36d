/-! the step is right: fields, arrays, and all of them together -/
section STEPOK
variable {p : Program} {l : Launch} {e : Env} {R : Room} {s : State} {m : MethodId} {args : Array Value} {below : List Frame} {meth : Method} {c : Code} {Q : State → Prop} {cc : ByteArray} {own : String} {D : va_G} {cl : List vw_C} {tm : List fm_C} {ad : Nat → Nat} {cy : Nat → ClassId} {A : Nat → Prop} {Ts : List Jvm.Cond} {nL : Nat}
variable {pc : Nat} {ls : Array Slot} {st : List Value} {V0 V : fm_V} {fl wr : List (Nat × Nat × Nat)} {kc kl : List (Nat × Int)} {M : List (Nat × Nat)} {P : List Nat} {avs : List Value} {Gp : fm_V → Prop}
theorem rv_gf_ok {i : Nat} {G G' : rv_S} (hE : rv_Ev cl Ts own fl wr kc kl) (hT : fm_Tm tm V) (h : rv_gf tm fl i G = some G') (hG : rv_G ad V0 V ls st G) :
    ∃ (j : Nat) (rest : List Value) (ci k : Nat) (ts : List fm_F) (t : fm_F), st = .ref (ad j) :: rest ∧ fm_Lk cl Ts own i ci k ∧ tm[j]? = some (.inr (ci, ts)) ∧ ts[k]? = some t ∧ rv_G ad V0 V ls (fm_val ad (V j k) t :: rest) G' := by
  unfold rv_gf at h
  cases hq : fl.find? (fun q => decide (q.1 = i)) with
  | none => rw [hq] at h; cases h
  | some q =>
    have q1 := List.mem_of_find?_eq_some hq
    have q2 : q.1 = i := by simpa using List.find?_some hq
    rw [hq] at h
    cases hs : G.2.1 with
    | nil => rw [hs] at h; cases h
    | cons a S =>
      rw [hs] at h
      dsimp only at h
      by_cases c1 : a.1 = 2 ∧ q.2.2 < 5000
      · rw [if_pos c1] at h
        have hS := hG.2.1
        rw [hs] at hS
        obtain ⟨v, vs, rfl, h1, h2⟩ := rv_sk_cons hS
        have hv := rv_okR c1.1 h1
        have hL := hE.1 q q1
        rw [q2] at hL
        cases ht : tm[a.2.1]? with
        | none => rw [ht] at h; cases h
        | some t =>
          rw [ht] at h
          cases t with
          | inl t => cases h
          | inr o =>
            obtain ⟨ci, ts⟩ := o
            dsimp only at h
            by_cases c2 : ci = q.2.1
            · rw [if_pos c2] at h
              cases hk : ts[q.2.2]? with
              | none => rw [hk] at h; cases h
              | some t =>
                rw [hk] at h
                refine ⟨a.2.1, vs, ci, q.2.2, ts, t, by rw [hv], by rw [c2]; exact hL, ht, hk, ?_⟩
                cases t with
                | inr j =>
                  cases h
                  exact ⟨hG.1, ⟨rv_okR' rfl rfl, h2⟩, hG.2.2⟩
                | inl b =>
                  obtain ⟨lo, hi⟩ := b
                  cases h
                  have hb := hT.2 a.2.1 ci ts q.2.2 lo hi ht hk
                  refine ⟨hG.1, ⟨rv_rd_ok hG.2.2 ?_ hb.1 hb.2, h2⟩, hG.2.2⟩
                  show V a.2.1 q.2.2 = V a.2.1 (rv_ix ls q.2.2)
                  have : rv_ix ls q.2.2 = q.2.2 := by unfold rv_ix; rw [if_pos c1.2]
                  rw [this]
            · rw [if_neg c2] at h
              cases h
      · rw [if_neg c1] at h
        cases h
theorem rv_pfd_ok {i : Nat} {G G' : rv_S} (hE : rv_Ev cl Ts own fl wr kc kl) (h : rv_pfd tm fl wr M i G = some G') (hG : rv_G ad V0 V ls st G) :
    ∃ (j : Nat) (rest : List Value) (ci k : Nat) (ts : List fm_F) (lo hi : Int) (x : Int32), st = .int x :: .ref (ad j) :: rest ∧ fm_Lk cl Ts own i ci k ∧ fm_Cl cl ci ∧ (∀ (C : String) (T : u_T) (N : Nat), cl[ci]? = some (C, T, N) → (T k).2.2.2 = false ∧ ∃ ty, parseFieldDescriptor (T k).2.2.1 = some ty ∧ narrow ty (.int x) = .int x ∧ fits ty (.int x) = true) ∧ tm[j]? = some (.inr (ci, ts)) ∧ ts[k]? = some (.inl (lo, hi)) ∧ lo ≤ x.toInt ∧ x.toInt ≤ hi ∧ rv_in M j k = true ∧ rv_G ad V0 (fm_up V j k x) ls rest G' := by
  unfold rv_pfd at h
  cases hq : fl.find? (fun q => decide (q.1 = i)) with
  | none => rw [hq] at h; cases h
  | some q =>
    have q1 := List.mem_of_find?_eq_some hq
    have q2 : q.1 = i := by simpa using List.find?_some hq
    rw [hq] at h
    match hs : G.2.1, h with
    | [], h => cases h
    | [_], h => cases h
    | v :: a :: S, h =>
      dsimp only at h
      by_cases c1 : a.1 = 2 ∧ v.1 = 1 ∧ q.2.2 < 5000 ∧ rv_in M a.2.1 q.2.2 = true
      · rw [if_pos c1] at h
        have hS := hG.2.1
        rw [hs] at hS
        obtain ⟨vv, vs, rfl, h1, h2⟩ := rv_sk_cons hS
        obtain ⟨va, vs, rfl, h3, h4⟩ := rv_sk_cons h2
        have hv := rv_okR c1.1 h3
        have hx := rv_okI c1.2.1 h1
        obtain ⟨x, rfl, x1, x2, -⟩ := id hx
        have hL := hE.1 q q1
        rw [q2] at hL
        cases ht : tm[a.2.1]? with
        | none => rw [ht] at h; cases h
        | some t =>
          rw [ht] at h
          cases t with
          | inl t => cases h
          | inr o =>
            obtain ⟨ci, ts⟩ := o
            cases hw : wr.find? (fun w => decide (w.1 = q.2.1) && decide (w.2.1 = q.2.2)) with
            | none => rw [hw] at h; cases h
            | some w =>
              rw [hw] at h
              have w1 := List.mem_of_find?_eq_some hw
              have w2 : w.1 = q.2.1 ∧ w.2.1 = q.2.2 := by simpa using List.find?_some hw
              dsimp only at h
              by_cases c2 : ci = q.2.1
              · rw [if_pos c2] at h
                cases hk : ts[q.2.2]? with
                | none => rw [hk] at h; cases h
                | some t =>
                  rw [hk] at h
                  cases t with
                  | inr j => cases h
                  | inl b =>
                    obtain ⟨lo, hi⟩ := b
                    dsimp only at h
                    by_cases c3 : lo ≤ rv_l v ∧ rv_h v ≤ hi ∧ (w.2.2 = 0 ∨ (0 ≤ lo ∧ hi ≤ 1))
                    · rw [if_pos c3] at h
                      cases h
                      obtain ⟨g1, g2⟩ := hE.2.1 w w1
                      rw [w2.1, ← c2] at g1 g2
                      rw [w2.2] at g2
                      refine ⟨a.2.1, vs, ci, q.2.2, ts, lo, hi, x, by rw [hv], by rw [c2]; exact hL, g1, fun C T N hc => ⟨(g2 C T N hc).1, _, (g2 C T N hc).2, ?_, ?_⟩, ht, hk, by omega, by omega, c1.2.2.2, rv_pt_ok c1.2.2.1 hx ⟨hG.1, h4, hG.2.2⟩⟩
                      · by_cases c4 : w.2.2 = 0
                        · rw [if_pos c4]
                          rfl
                        · rw [if_neg c4]
                          rcases zi_bit (x := x) (by omega) (by omega) with rfl | rfl <;> rfl
                      · by_cases c4 : w.2.2 = 0
                        · rw [if_pos c4]
                          rfl
                        · rw [if_neg c4]
                          rcases zi_bit (x := x) (by omega) (by omega) with rfl | rfl <;> rfl
                    · rw [if_neg c3] at h
                      cases h
              · rw [if_neg c2] at h
                cases h
      · rw [if_neg c1] at h
        cases h
theorem rv_xl_ok {b8 : Bool} {G G' : rv_S} (hT : fm_Tm tm V) (h : rv_xl tm b8 G = some G') (hG : rv_G ad V0 V ls st G) :
    ∃ (j : Nat) (rest : List Value) (t n : Nat) (lo hi : Int) (x : Int32), st = .int x :: .ref (ad j) :: rest ∧ tm[j]? = some (.inl (t, n, lo, hi)) ∧ (if b8 = true then t = 1 ∨ t = 2 else t = 0) ∧ vp_in x n ∧ rv_G ad V0 V ls (.int (V j x.toNatClampNeg) :: rest) G' := by
  unfold rv_xl at h
  match hs : G.2.1, h with
  | [], h => cases h
  | [_], h => cases h
  | b :: a :: S, h =>
    dsimp only at h
    by_cases c1 : a.1 = 2 ∧ b.1 = 1
    · rw [if_pos c1] at h
      have hS := hG.2.1
      rw [hs] at hS
      obtain ⟨vv, vs, rfl, h1, h2⟩ := rv_sk_cons hS
      obtain ⟨va, vs, rfl, h3, h4⟩ := rv_sk_cons h2
      have hv := rv_okR c1.1 h3
      have hx := rv_okI c1.2 h1
      obtain ⟨x, rfl, x1, x2, -⟩ := id hx
      cases ht : tm[a.2.1]? with
      | none => rw [ht] at h; cases h
      | some t =>
        rw [ht] at h
        cases t with
        | inr o => cases h
        | inl o =>
          obtain ⟨t, n, lo, hi⟩ := o
          dsimp only at h
          by_cases c2 : (if b8 = true then t = 1 ∨ t = 2 else t = 0) ∧ 0 ≤ rv_l b ∧ rv_h b < n
          · rw [if_pos c2] at h
            have hin : x.toInt.toNat < n := by omega
            have hb := hT.1 a.2.1 t n lo hi x.toInt.toNat ht hin
            refine ⟨a.2.1, vs, t, n, lo, hi, x, by rw [hv], ht, c2.1, zi_in (by omega) (by omega), ?_⟩
            rw [zi_clamp]
            cases hf : rv_ip b with
            | none =>
              rw [hf] at h
              cases h
              exact ⟨hG.1, ⟨rv_okB hb.1 hb.2, h4⟩, hG.2.2⟩
            | some f =>
              rw [hf] at h
              cases h
              refine ⟨hG.1, ⟨rv_rd_ok hG.2.2 ?_ hb.1 hb.2, h4⟩, hG.2.2⟩
              show V a.2.1 x.toInt.toNat = V a.2.1 (rv_ix ls f)
              rw [rv_ip_ok hx hf]
          · rw [if_neg c2] at h
            cases h
    · rw [if_neg c1] at h
      cases h
theorem rv_xs_ok {b8 : Bool} {G G' : rv_S} (hT : fm_Tm tm V) (h : rv_xs tm M b8 G = some G') (hG : rv_G ad V0 V ls st G) :
    ∃ (j : Nat) (rest : List Value) (t n : Nat) (lo hi : Int) (x y : Int32), st = .int y :: .int x :: .ref (ad j) :: rest ∧ tm[j]? = some (.inl (t, n, lo, hi)) ∧ (if b8 = true then (t = 1 ∧ -128 ≤ lo ∧ hi ≤ 127) ∨ (t = 2 ∧ 0 ≤ lo ∧ hi ≤ 1) else t = 0) ∧ vp_in x n ∧ lo ≤ y.toInt ∧ y.toInt ≤ hi ∧ rv_in M j x.toNatClampNeg = true ∧ rv_G ad V0 (fm_up V j x.toNatClampNeg y) ls rest G' := by
  unfold rv_xs at h
  match hs : G.2.1, h with
  | [], h => cases h
  | [_], h => cases h
  | [_, _], h => cases h
  | v :: b :: a :: S, h =>
    dsimp only at h
    by_cases c1 : a.1 = 2 ∧ b.1 = 1 ∧ v.1 = 1
    · rw [if_pos c1] at h
      have hS := hG.2.1
      rw [hs] at hS
      obtain ⟨vy, vs, rfl, h5, h6⟩ := rv_sk_cons hS
      obtain ⟨vv, vs, rfl, h1, h2⟩ := rv_sk_cons h6
      obtain ⟨va, vs, rfl, h3, h4⟩ := rv_sk_cons h2
      have hv := rv_okR c1.1 h3
      have hx := rv_okI c1.2.1 h1
      obtain ⟨x, rfl, x1, x2, -⟩ := id hx
      have hy := rv_okI c1.2.2 h5
      obtain ⟨y, rfl, y1, y2, -⟩ := id hy
      cases ht : tm[a.2.1]? with
      | none => rw [ht] at h; cases h
      | some t =>
        rw [ht] at h
        cases t with
        | inr o => cases h
        | inl o =>
          obtain ⟨t, n, lo, hi⟩ := o
          dsimp only at h
          by_cases c2 : (if b8 = true then (t = 1 ∧ -128 ≤ lo ∧ hi ≤ 127) ∨ (t = 2 ∧ 0 ≤ lo ∧ hi ≤ 1) else t = 0) ∧ 0 ≤ rv_l b ∧ rv_h b < n ∧ lo ≤ rv_l v ∧ rv_h v ≤ hi
          · rw [if_pos c2] at h
            refine ⟨a.2.1, vs, t, n, lo, hi, x, y, by rw [hv], ht, c2.1, zi_in (by omega) (by omega), by omega, by omega, ?_⟩
            rw [zi_clamp]
            by_cases c3 : rv_l b = rv_h b ∧ rv_l b < 5000
            · rw [if_pos c3] at h
              have e : x.toInt.toNat = (rv_l b).toNat := by congr 1; omega
              rw [e]
              by_cases c4 : rv_in M a.2.1 (rv_l b).toNat = true
              · rw [if_pos c4] at h
                cases h
                exact ⟨c4, rv_pt_ok (by omega) hy ⟨hG.1, h4, hG.2.2⟩⟩
              · rw [if_neg c4] at h
                cases h
            · rw [if_neg c3] at h
              by_cases c4 : rv_in M a.2.1 9999 = true
              · rw [if_pos c4] at h
                cases h
                refine ⟨?_, rv_pc_ok ⟨hG.1, h4, hG.2.2⟩⟩
                simp only [rv_in, List.any_eq_true, Bool.and_eq_true, Bool.or_eq_true, decide_eq_true_eq] at c4 ⊢
                obtain ⟨q, q1, q2, q3⟩ := c4
                exact ⟨q, q1, q2, Or.inr (q3.elim id id)⟩
              · rw [if_neg c4] at h
                cases h
          · rw [if_neg c2] at h
            cases h
    · rw [if_neg c1] at h
      cases h
theorem rv_I_up {j k : Nat} {x : Int32} (h : rv_I tm M P nL V0 avs V ls) (hT : fm_Tm tm (fm_up V j k x)) (hM : rv_in M j k = true) : rv_I tm M P nL V0 avs (fm_up V j k x) ls := by
  obtain ⟨h1, h2, h3⟩ := h
  refine ⟨hT, fun i f hif => ?_, h3⟩
  rw [fm_up_ne (fun q => by rw [q.1, q.2, hM] at hif; cases hif)]
  exact h2 i f hif
end STEPOK
