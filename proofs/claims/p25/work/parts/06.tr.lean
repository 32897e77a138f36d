/-! ONE INSTRUCTION, by what is known. -/
abbrev rv_K : Type := List rv_A × List rv_Fa × List (Nat × Nat) × List (Nat × Int × Int) × List (rv_U × Int × Int) × List rv_Fa
/-- template; rows of the pool (index, class, field); fields that may be written (class, field, 0 int 2 boolean); constants; long constants; places that may be changed; locals that stay; locals -/
abbrev rv_E : Type := List fm_C × List (Nat × Nat × Nat) × List (Nat × Nat × Nat) × List (Nat × Int) × List (Nat × Int) × List (Nat × Nat) × List Nat × Nat
def rv_in (M : List (Nat × Nat)) (i f : Nat) : Bool := M.any (fun q => decide (q.1 = i) && (decide (q.2 = f) || decide (q.2 = 9999)))
def rv_av (avs : List Value) (j : Nat) : Int := match avs[j]? with
  | some (.int y) => y.toInt
  | some (.long y) => y.toInt
  | _ => 0
def rv_ua (V : fm_V) (avs : List Value) (u : rv_U) : Int := match u with
  | .inl j => rv_av avs j
  | .inr q => (V q.1 (if q.2 < 5000 then q.2 else (rv_av avs (q.2 - 5000)).toNat)).toInt
def rv_Pre (tm : List fm_C) (Gp : fm_V → Prop) (ad : Nat → Nat) (K : rv_K) (V : fm_V) (avs : List Value) : Prop := fm_Tm tm V ∧ Gp V ∧ rv_sk (rv_ok ad V #[]) (K.1.map rv_bare) avs ∧ ∀ f ∈ K.2.1, f.2.1 ≤ rv_ua V avs (.inr f.1) ∧ rv_ua V avs (.inr f.1) ≤ f.2.2.1
def rv_Res (K : rv_K) (V' : fm_V) (avs : List Value) (r : Option Value) : Prop := match K.2.2.2.1 with
  | [] => r = none
  | q :: _ => ∃ x : Int32, r = some (.int x) ∧ q.2.1 ≤ x.toInt ∧ x.toInt ≤ q.2.2 ∧ (q.1 = 1 → x.toInt ≠ 0) ∧ (x.toInt ≠ 0 → ∀ c ∈ K.2.2.2.2.1, c.2.1 ≤ rv_ua V' avs c.1 ∧ rv_ua V' avs c.1 ≤ c.2.2)
def rv_pok (V V' : fm_V) (f : rv_Fa) : Prop := (f.2.1 ≤ (V' f.1.1 f.1.2).toInt ∧ (V' f.1.1 f.1.2).toInt ≤ f.2.2.1) ∧ ∀ r ∈ f.2.2.2, r.2.1 ≤ (V' f.1.1 f.1.2).toInt - (V r.1.1 r.1.2).toInt ∧ (V' f.1.1 f.1.2).toInt - (V r.1.1 r.1.2).toInt ≤ r.2.2
def rv_Post (tm : List fm_C) (K : rv_K) (V : fm_V) (avs : List Value) (r : Option Value) (V' : fm_V) : Prop := fm_Tm tm V' ∧ (∀ i f, rv_in K.2.2.1 i f = false → V' i f = V i f) ∧ rv_Res K V' avs r ∧ ∀ f ∈ K.2.2.2.2.2, rv_pok V V' f
/-! a call -/
def rv_dm (M : List (Nat × Nat)) (u : rv_U) : Bool := match u with
  | .inl _ => false
  | .inr q => M.any (fun p => decide (p.1 = q.1) && (decide (p.2 = q.2) || decide (p.2 = 9999) || decide (5000 ≤ q.2)))
theorem rv_dm_ok {V V' : fm_V} {ls : Array Slot} {M : List (Nat × Nat)} (h : ∀ i f, rv_in M i f = false → V' i f = V i f) : ∀ u, rv_dm M u = false → rv_uv V' ls u = rv_uv V ls u := by
  intro u hu
  cases u with
  | inl k => rfl
  | inr q =>
    show (V' q.1 (rv_ix ls q.2)).toInt = (V q.1 (rv_ix ls q.2)).toInt
    rw [h]
    simp only [rv_dm, List.any_eq_false, Bool.and_eq_true, Bool.or_eq_true, decide_eq_true_eq] at hu
    simp only [rv_in, List.any_eq_false, Bool.and_eq_true, Bool.or_eq_true, decide_eq_true_eq]
    intro p hp c
    refine hu p hp ⟨c.1, ?_⟩
    by_cases c5 : 5000 ≤ q.2
    · exact Or.inr c5
    · have e : rv_ix ls q.2 = q.2 := by unfold rv_ix; rw [if_pos (by omega)]
      rw [e] at c
      exact Or.inl c.2
def rv_ro (F : List rv_Fa) (q : Nat × Nat) : List ((Nat × Nat) × Int × Int) := match F.find? (fun f => decide (f.1 = q)) with
  | some f => f.2.2.2
  | none => []
theorem rv_ro_ok {V0 V : fm_V} {ls : Array Slot} {F : List rv_Fa} {q : Nat × Nat} (hF : ∀ f ∈ F, rv_fok V0 V ls f) : ∀ r ∈ rv_ro F q, r.2.1 ≤ rv_uv V ls (.inr q) - (V0 r.1.1 r.1.2).toInt ∧ rv_uv V ls (.inr q) - (V0 r.1.1 r.1.2).toInt ≤ r.2.2 := by
  intro r hr
  unfold rv_ro at hr
  cases hf : F.find? (fun f => decide (f.1 = q)) with
  | none => rw [hf] at hr; cases hr
  | some f =>
    rw [hf] at hr
    obtain ⟨g1, g2⟩ := rv_find hf
    have h3 := (hF f g1).2 r hr
    rw [g2] at h3
    exact h3
def rv_pf (tm : List fm_C) (F : List rv_Fa) (f : rv_Fa) : rv_Fa := match f.2.2.2 with
  | [] => f
  | r :: _ => if r.1.2 < 5000 then (f.1, rv_mx f.2.1 ((rv_fg F r.1 (rv_tb tm r.1).1 (rv_tb tm r.1).2).1 + r.2.1), rv_mn f.2.2.1 ((rv_fg F r.1 (rv_tb tm r.1).1 (rv_tb tm r.1).2).2 + r.2.2), (rv_ro F r.1).map (fun s => (s.1, s.2.1 + r.2.1, s.2.2 + r.2.2))) else (f.1, f.2.1, f.2.2.1, [])
theorem rv_pf_ok {tm : List fm_C} {V0 V V' : fm_V} {ls : Array Slot} {F : List rv_Fa} {f : rv_Fa} (hT : fm_Tm tm V) (hF : ∀ f ∈ F, rv_fok V0 V ls f) (hf5 : f.1.2 < 5000) (h : rv_pok V V' f) : rv_fok V0 V' ls (rv_pf tm F f) := by
  have e : ∀ (W : fm_V) (q : Nat × Nat), q.2 < 5000 → rv_uv W ls (.inr q) = (W q.1 q.2).toInt := fun W q hq => by
    show (W q.1 (rv_ix ls q.2)).toInt = _
    have : rv_ix ls q.2 = q.2 := by unfold rv_ix; rw [if_pos hq]
    rw [this]
  obtain ⟨q, lo, hi, rel⟩ := f
  obtain ⟨h1, h2⟩ := h
  dsimp only at h1 h2 hf5
  cases rel with
  | nil =>
    unfold rv_pf rv_fok
    dsimp only
    rw [e V' q hf5]
    exact ⟨h1, fun r hr => absurd hr List.not_mem_nil⟩
  | cons r rel =>
    unfold rv_pf
    dsimp only
    by_cases c : r.1.2 < 5000
    · rw [if_pos c]
      have h3 := h2 r List.mem_cons_self
      obtain ⟨b1, b2⟩ := rv_fg_ok (F := F) (q := r.1) hF (rv_tb_ok (ls := ls) (q := r.1) hT).1 (rv_tb_ok (ls := ls) (q := r.1) hT).2
      rw [e V r.1 c] at b1 b2
      unfold rv_fok
      dsimp only
      rw [e V' q hf5]
      refine ⟨⟨rv_mx_le h1.1 (by omega), rv_le_mn h1.2 (by omega)⟩, fun s hs => ?_⟩
      obtain ⟨s0, hs0, rfl⟩ := List.mem_map.mp hs
      have h4 := rv_ro_ok hF s0 hs0
      rw [e V r.1 c] at h4
      dsimp only
      omega
    · rw [if_neg c]
      unfold rv_fok
      dsimp only
      rw [e V' q hf5]
      exact ⟨h1, fun s hs => absurd hs List.not_mem_nil⟩
/-- what an answer says of the caller's variables -/
def rv_tc (as : List rv_A) (c : rv_U × Int × Int) : List (rv_U × Int × Int) := match c.1 with
  | .inl j => match as[j]? with
    | some a => if a.1 = 1 ∨ a.1 = 3 then ((rv_al a).filter (fun q => decide (-2147483648 ≤ c.2.1 - q.2) && decide (c.2.2 - q.2 ≤ 2147483647))).map (fun q => (q.1, c.2.1 - q.2, c.2.2 - q.2)) else []
    | none => []
  | .inr q => if q.2 < 5000 then [c] else match as[q.2 - 5000]? with
    | some a => if a.1 = 1 then (match rv_ip a with
      | some g => [(.inr (q.1, g), c.2.1, c.2.2)]
      | none => []) else []
    | none => []
theorem rv_sk_get {P : rv_A → Value → Prop} : ∀ {as : List rv_A} {vs : List Value}, rv_sk P as vs → ∀ {j : Nat} {a : rv_A}, as[j]? = some a → ∃ v, vs[j]? = some v ∧ P a v := by
  intro as
  induction as with
  | nil => intro vs _ j a h; simp at h
  | cons b as ih =>
    intro vs h j a hj
    obtain ⟨v, vs', rfl, h1, h2⟩ := rv_sk_cons h
    cases j with
    | zero =>
      simp only [List.getElem?_cons_zero, Option.some.injEq] at hj
      subst hj
      exact ⟨v, by simp, h1⟩
    | succ j =>
      obtain ⟨w, w1, w2⟩ := ih h2 (j := j) (a := a) (by simpa using hj)
      exact ⟨w, by simpa using w1, w2⟩
theorem rv_tc_ok {ad : Nat → Nat} {V V' : fm_V} {ls : Array Slot} {as : List rv_A} {avs : List Value} {c : rv_U × Int × Int} (hs : rv_sk (rv_ok ad V ls) as avs) (hc : c.2.1 ≤ rv_ua V' avs c.1 ∧ rv_ua V' avs c.1 ≤ c.2.2) (d : rv_U → Bool) (hd : ∀ u, d u = false → rv_uv V' ls u = rv_uv V ls u) :
    ∀ q ∈ rv_tc as c, (∀ j, c.1 = .inl j → d q.1 = false) → q.2.1 ≤ rv_uv V' ls q.1 ∧ rv_uv V' ls q.1 ≤ q.2.2 := by
  obtain ⟨u, lo, hi⟩ := c
  dsimp only at hc
  intro q hq hdq
  cases u with
  | inl j =>
    have hdq := hdq j rfl
    unfold rv_tc at hq
    dsimp only at hq
    cases ha : as[j]? with
    | none => rw [ha] at hq; cases hq
    | some a =>
      rw [ha] at hq
      dsimp only at hq
      by_cases c1 : a.1 = 1 ∨ a.1 = 3
      · rw [if_pos c1] at hq
        obtain ⟨q0, hq0, rfl⟩ := List.mem_map.mp hq
        obtain ⟨q1, q2⟩ := List.mem_filter.mp hq0
        simp only [Bool.and_eq_true, decide_eq_true_eq] at q2
        obtain ⟨v, v1, v2⟩ := rv_sk_get hs ha
        have hr := rv_uv_rng V ls q0.1
        have key : ∃ k : Int, rv_av avs j = rv_uv V ls q0.1 + q0.2 + 4294967296 * k := by
          rcases c1 with c1 | c1
          · obtain ⟨x, rfl, x1, x2, x3, x4, x5⟩ := rv_okI c1 v2
            obtain ⟨k, hk⟩ := x4 q0 q1
            exact ⟨k, by unfold rv_av; rw [v1]; exact hk⟩
          · obtain ⟨x, rfl, x1, x2, x4⟩ := rv_okL c1 v2
            obtain ⟨k, hk⟩ := x4 q0 q1
            exact ⟨k, by unfold rv_av; rw [v1]; exact hk⟩
        obtain ⟨k, hk⟩ := key
        have e : rv_ua V' avs (.inl j) = rv_av avs j := rfl
        rw [e] at hc
        dsimp only at hdq ⊢
        rw [hd q0.1 hdq]
        omega
      · rw [if_neg c1] at hq
        cases hq
  | inr p =>
    unfold rv_tc at hq
    dsimp only at hq
    by_cases c5 : p.2 < 5000
    · rw [if_pos c5] at hq
      rw [List.mem_singleton.mp hq]
      dsimp only
      have e : rv_ua V' avs (.inr p) = rv_uv V' ls (.inr p) := by
        show (V' p.1 (if p.2 < 5000 then p.2 else _)).toInt = (V' p.1 (rv_ix ls p.2)).toInt
        unfold rv_ix
        rw [if_pos c5, if_pos c5]
      rw [← e]
      exact hc
    · rw [if_neg c5] at hq
      cases ha : as[p.2 - 5000]? with
      | none => rw [ha] at hq; cases hq
      | some a =>
        rw [ha] at hq
        dsimp only at hq
        by_cases c1 : a.1 = 1
        · rw [if_pos c1] at hq
          cases hg : rv_ip a with
          | none => rw [hg] at hq; cases hq
          | some g =>
            rw [hg] at hq
            rw [List.mem_singleton.mp hq]
            obtain ⟨v, v1, v2⟩ := rv_sk_get hs ha
            have v3 := rv_okI c1 v2
            obtain ⟨x, rfl, -⟩ := id v3
            have e1 := rv_ip_ok v3 hg
            have e : rv_ua V' avs (.inr p) = rv_uv V' ls (.inr (p.1, g)) := by
              show (V' p.1 (if p.2 < 5000 then p.2 else (rv_av avs (p.2 - 5000)).toNat)).toInt = (V' p.1 (rv_ix ls g)).toInt
              rw [if_neg c5, e1]
              have : rv_av avs (p.2 - 5000) = x.toInt := by
                unfold rv_av
                rw [v1]
              rw [this]
            dsimp only
            rw [← e]
            exact hc
        · rw [if_neg c1] at hq
          cases hq
def rv_cw (as : List rv_A) : Nat := (as.map (fun a => if a.1 = 3 then 2 else 1)).sum
theorem rv_cw_ok {ad : Nat → Nat} {V : fm_V} {ls : Array Slot} : ∀ {as : List rv_A} {st : List Value}, rv_sk (rv_ok ad V ls) as st → (st.map fun v => v.category).sum = rv_cw as := by
  intro as
  induction as with
  | nil => intro st h; rw [rv_sk_nil h]; rfl
  | cons a as ih =>
    intro st h
    obtain ⟨v, vs, rfl, h1, h2⟩ := rv_sk_cons h
    have h3 := ih h2
    have h4 := rv_ok_cat h1
    unfold rv_cw at h3 ⊢
    simp only [List.map_cons, List.sum_cons, h3, h4]
theorem rv_sk_app {P : rv_A → Value → Prop} : ∀ {as bs : List rv_A} {st : List Value}, rv_sk P (as ++ bs) st → ∃ s1 s2, st = s1 ++ s2 ∧ rv_sk P as s1 ∧ rv_sk P bs s2 := by
  intro as
  induction as with
  | nil => intro bs st h; exact ⟨[], st, rfl, trivial, h⟩
  | cons a as ih =>
    intro bs st h
    obtain ⟨v, vs, rfl, h1, h2⟩ := rv_sk_cons (a := a) (as := as ++ bs) h
    obtain ⟨s1, s2, rfl, h3, h4⟩ := ih h2
    exact ⟨v :: s1, s2, rfl, ⟨h1, h3⟩, h4⟩
theorem rv_sk_snoc {P : rv_A → Value → Prop} : ∀ {as : List rv_A} {vs : List Value} {a : rv_A} {v : Value}, rv_sk P as vs → P a v → rv_sk P (as ++ [a]) (vs ++ [v]) := by
  intro as
  induction as with
  | nil => intro vs a v h ha; rw [rv_sk_nil h]; exact ⟨ha, trivial⟩
  | cons b as ih =>
    intro vs a v h ha
    obtain ⟨w, ws, rfl, h1, h2⟩ := rv_sk_cons h
    exact ⟨h1, ih h2 ha⟩
theorem rv_sk_rev {P : rv_A → Value → Prop} : ∀ {as : List rv_A} {vs : List Value}, rv_sk P as vs → rv_sk P as.reverse vs.reverse := by
  intro as
  induction as with
  | nil => intro vs h; rw [rv_sk_nil h]; exact trivial
  | cons a as ih =>
    intro vs h
    obtain ⟨w, ws, rfl, h1, h2⟩ := rv_sk_cons h
    rw [List.reverse_cons, List.reverse_cons]
    exact rv_sk_snoc (ih h2) h1
/-- a fact that a callee wants: its place in the caller's words -/
def rv_wf (tm : List fm_C) (F : List rv_Fa) (as : List rv_A) (f : rv_Fa) : Bool := if f.1.2 < 5000 then rv_leF tm F (f.1, f.2.1, f.2.2.1, []) else match as[f.1.2 - 5000]? with
  | some a => if a.1 = 1 then (match rv_ip a with
    | some g => rv_leF tm F ((f.1.1, g), f.2.1, f.2.2.1, [])
    | none => false) else false
  | none => false
theorem rv_wf_ok {tm : List fm_C} {ad : Nat → Nat} {V0 V : fm_V} {ls : Array Slot} {F : List rv_Fa} {as : List rv_A} {avs : List Value} {f : rv_Fa} (hT : fm_Tm tm V) (hF : ∀ f ∈ F, rv_fok V0 V ls f) (hs : rv_sk (rv_ok ad V ls) as avs) (h : rv_wf tm F as f = true) : f.2.1 ≤ rv_ua V avs (.inr f.1) ∧ rv_ua V avs (.inr f.1) ≤ f.2.2.1 := by
  unfold rv_wf at h
  by_cases c5 : f.1.2 < 5000
  · rw [if_pos c5] at h
    have h1 := (rv_leF_ok hT hF h).1
    have e : rv_ua V avs (.inr f.1) = rv_uv V ls (.inr f.1) := by
      show (V f.1.1 (if f.1.2 < 5000 then f.1.2 else _)).toInt = (V f.1.1 (rv_ix ls f.1.2)).toInt
      unfold rv_ix
      rw [if_pos c5, if_pos c5]
    rw [e]
    exact h1
  · rw [if_neg c5] at h
    cases ha : as[f.1.2 - 5000]? with
    | none => rw [ha] at h; cases h
    | some a =>
      rw [ha] at h
      dsimp only at h
      by_cases c1 : a.1 = 1
      · rw [if_pos c1] at h
        cases hg : rv_ip a with
        | none => rw [hg] at h; cases h
        | some g =>
          rw [hg] at h
          have h1 := (rv_leF_ok hT hF h).1
          obtain ⟨v, v1, v2⟩ := rv_sk_get hs ha
          have v3 := rv_okI c1 v2
          obtain ⟨x, rfl, -⟩ := id v3
          have e1 := rv_ip_ok v3 hg
          have e : rv_ua V avs (.inr f.1) = rv_uv V ls (.inr (f.1.1, g)) := by
            show (V f.1.1 (if f.1.2 < 5000 then f.1.2 else (rv_av avs (f.1.2 - 5000)).toNat)).toInt = (V f.1.1 (rv_ix ls g)).toInt
            rw [if_neg c5, e1]
            have : rv_av avs (f.1.2 - 5000) = x.toInt := by
              unfold rv_av
              rw [v1]
            rw [this]
          rw [e]
          exact h1
      · rw [if_neg c1] at h
        cases h
/-- behind a call by a contract -/
def rv_call (tm : List fm_C) (M : List (Nat × Nat)) (K : rv_K) (G : rv_S) : Option rv_S :=
  if K.1.length ≤ G.2.1.length ∧ rv_leS (G.2.1.take K.1.length).reverse (K.1.map rv_bare) = true ∧ K.2.1.all (rv_wf tm G.2.2 (G.2.1.take K.1.length).reverse) = true ∧ K.2.2.1.all (fun q => M.any (fun p => decide (p.1 = q.1) && (decide (p.2 = q.2) || decide (p.2 = 9999)))) = true ∧ K.2.2.2.2.2.all (fun f => decide (f.1.2 < 5000)) = true ∧ rv_cw (G.2.1.drop K.1.length) ≤ 8
  then some (G.1,
    (match K.2.2.2.1 with
      | [] => []
      | q :: _ => [(1, q.1, q.2.1, q.2.2, [], K.2.2.2.2.1.flatMap (fun c => (rv_tc (G.2.1.take K.1.length).reverse c).filter (fun z => match c.1 with | .inl _ => !rv_dm K.2.2.1 z.1 | .inr _ => true)))]) ++ (G.2.1.drop K.1.length).map (rv_dA (rv_dm K.2.2.1)),
    K.2.2.2.2.2.map (rv_pf tm G.2.2) ++ rv_dF (rv_dm K.2.2.1) G.2.2)
  else none
theorem rv_bare_ls {ad : Nat → Nat} {V V' : fm_V} {ls ls' : Array Slot} {a : rv_A} {v : Value} (h : rv_ok ad V ls (rv_bare a) v) : rv_ok ad V' ls' (rv_bare a) v := by
  by_cases c1 : (rv_bare a).1 = 1
  · obtain ⟨x, rfl, x1, x2, x3, -⟩ := rv_okI c1 h
    exact rv_okI' c1 ⟨x, rfl, x1, x2, x3, fun q hq => absurd hq List.not_mem_nil, fun _ q hq => absurd hq List.not_mem_nil⟩
  · by_cases c2 : (rv_bare a).1 = 2
    · exact rv_okR' c2 (rv_okR c2 h)
    · by_cases c3 : (rv_bare a).1 = 3
      · obtain ⟨x, rfl, x1, x2, -⟩ := rv_okL c3 h
        exact rv_okL' c3 ⟨x, rfl, x1, x2, fun q hq => absurd hq List.not_mem_nil⟩
      · unfold rv_ok at h
        rw [if_neg c1, if_neg c2, if_neg c3] at h
        exact h.elim
theorem rv_bares_ls {ad : Nat → Nat} {V V' : fm_V} {ls ls' : Array Slot} : ∀ {as : List rv_A} {vs : List Value}, rv_sk (rv_ok ad V ls) (as.map rv_bare) vs → rv_sk (rv_ok ad V' ls') (as.map rv_bare) vs := by
  intro as
  induction as with
  | nil => intro vs h; rw [rv_sk_nil (show rv_sk _ [] vs from h)]; exact trivial
  | cons a as ih =>
    intro vs h
    obtain ⟨v, vs, rfl, h1, h2⟩ := rv_sk_cons (a := rv_bare a) (as := as.map rv_bare) h
    exact ⟨rv_bare_ls h1, ih h2⟩
theorem rv_call_ok {tm : List fm_C} {ad : Nat → Nat} {V0 V : fm_V} {ls : Array Slot} {st : List Value} {M : List (Nat × Nat)} {K : rv_K} {G G' : rv_S} (h : rv_call tm M K G = some G') (hT : fm_Tm tm V) (hG : rv_G ad V0 V ls st G) :
    ∃ avs rest, st = avs.reverse ++ rest ∧ rv_sk (rv_ok ad V #[]) (K.1.map rv_bare) avs ∧ (∀ f ∈ K.2.1, f.2.1 ≤ rv_ua V avs (.inr f.1) ∧ rv_ua V avs (.inr f.1) ≤ f.2.2.1) ∧ (rest.map fun v => v.category).sum ≤ 8 ∧ ∀ r V', rv_Post tm K V avs r V' → rv_G ad V0 V' ls (r.toList ++ rest) G' ∧ ∀ i f, rv_in M i f = false → V' i f = V i f := by
  unfold rv_call at h
  by_cases c : K.1.length ≤ G.2.1.length ∧ rv_leS (G.2.1.take K.1.length).reverse (K.1.map rv_bare) = true ∧ K.2.1.all (rv_wf tm G.2.2 (G.2.1.take K.1.length).reverse) = true ∧ K.2.2.1.all (fun q => M.any (fun p => decide (p.1 = q.1) && (decide (p.2 = q.2) || decide (p.2 = 9999)))) = true ∧ K.2.2.2.2.2.all (fun f => decide (f.1.2 < 5000)) = true ∧ rv_cw (G.2.1.drop K.1.length) ≤ 8
  · rw [if_pos c] at h
    obtain ⟨c1, c2, c3, c4, c5, c6⟩ := c
    have h := Option.some.inj h
    obtain ⟨hL, hS, hF⟩ := hG
    rw [← List.take_append_drop K.1.length G.2.1] at hS
    obtain ⟨s1, rest, rfl, hs1, hs2⟩ := rv_sk_app hS
    have hs1r := rv_sk_rev hs1
    refine ⟨s1.reverse, rest, by rw [List.reverse_reverse], rv_bares_ls (rv_leS_ok c2 hs1r), fun f hf => rv_wf_ok hT hF hs1r (List.all_eq_true.mp c3 f hf), ?_, fun r V' hp => ?_⟩
    · rw [rv_cw_ok hs2]
      exact c6
    · obtain ⟨p1, p2, p3, p4⟩ := hp
      have hd := rv_dm_ok (ls := ls) p2
      refine ⟨?_, fun i f hif => p2 i f ?_⟩
      · rw [← h]
        refine ⟨hL, ?_, fun g hg => ?_⟩
        · have hrest := rv_sk_map _ (rv_dA_ok (ad := ad) hd) hs2
          unfold rv_Res at p3
          dsimp only
          cases hk : K.2.2.2.1 with
          | nil =>
            rw [hk] at p3
            dsimp only at p3
            rw [p3]
            exact hrest
          | cons q qs =>
            rw [hk] at p3
            dsimp only at p3
            obtain ⟨x, rfl, x1, x2, x3, x4⟩ := p3
            refine ⟨rv_okI' rfl ⟨x, rfl, x1, x2, x3, fun q hq => absurd hq List.not_mem_nil, fun hx z hz => ?_⟩, hrest⟩
            obtain ⟨c, hc, hz⟩ := List.mem_flatMap.mp hz
            obtain ⟨z1, z2⟩ := List.mem_filter.mp hz
            refine rv_tc_ok hs1r (x4 hx c hc) (rv_dm K.2.2.1) hd z z1 (fun j hj => ?_)
            rw [hj] at z2
            simpa using z2
        · rcases List.mem_append.mp hg with hg | hg
          · obtain ⟨f, hf, rfl⟩ := List.mem_map.mp hg
            exact rv_pf_ok hT hF (of_decide_eq_true (List.all_eq_true.mp c5 f hf)) (p4 f hf)
          · exact rv_dF_ok hd hF g hg
      · cases hb : rv_in K.2.2.1 i f with
        | false => rfl
        | true =>
          simp only [rv_in, List.any_eq_true, Bool.and_eq_true, Bool.or_eq_true, decide_eq_true_eq] at hb
          obtain ⟨q, hq, e1, e2⟩ := hb
          have h4 := List.all_eq_true.mp c4 q hq
          simp only [List.any_eq_true, Bool.and_eq_true, Bool.or_eq_true, decide_eq_true_eq] at h4
          obtain ⟨p, hp, g1, g2⟩ := h4
          simp only [rv_in, List.any_eq_false, Bool.and_eq_true, Bool.or_eq_true, decide_eq_true_eq] at hif
          exact absurd ⟨by omega, by omega⟩ (hif p hp)
  · rw [if_neg c] at h
    cases h
