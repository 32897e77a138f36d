/-! Narrowing what is known, and what stays known behind a store. -/
def rv_mx (a b : Int) : Int := if a ≤ b then b else a
def rv_mn (a b : Int) : Int := if a ≤ b then a else b
theorem rv_mx_le {a b z : Int} (h1 : a ≤ z) (h2 : b ≤ z) : rv_mx a b ≤ z := by
  unfold rv_mx
  split <;> assumption
theorem rv_le_mn {a b z : Int} (h1 : z ≤ a) (h2 : z ≤ b) : z ≤ rv_mn a b := by
  unfold rv_mn
  split <;> assumption
def rv_frf (q : Nat × Nat) (lo hi : Int) : List rv_Fa → List rv_Fa
  | [] => [(q, lo, hi, [])]
  | f :: F => if f.1 = q then (q, rv_mx f.2.1 lo, rv_mn f.2.2.1 hi, f.2.2.2) :: F else f :: rv_frf q lo hi F
theorem rv_frf_ok {V0 V : fm_V} {ls : Array Slot} {q : Nat × Nat} {lo hi : Int} (h1 : lo ≤ rv_uv V ls (.inr q)) (h2 : rv_uv V ls (.inr q) ≤ hi) : ∀ {F : List rv_Fa}, (∀ f ∈ F, rv_fok V0 V ls f) → ∀ f ∈ rv_frf q lo hi F, rv_fok V0 V ls f := by
  intro F
  induction F with
  | nil =>
    intro _ f hf
    rw [List.mem_singleton.mp (show f ∈ [(q, lo, hi, [])] from hf)]
    exact ⟨⟨h1, h2⟩, fun r hr => absurd hr List.not_mem_nil⟩
  | cons g F ih =>
    intro hF f hf
    unfold rv_frf at hf
    have hg := hF g List.mem_cons_self
    have hF' : ∀ f ∈ F, rv_fok V0 V ls f := fun f h => hF f (List.mem_cons_of_mem _ h)
    by_cases c : g.1 = q
    · rw [if_pos c] at hf
      rcases List.mem_cons.mp hf with e | h
      · rw [e]
        have hg2 := hg.2
        have hg1 := hg.1
        rw [c] at hg1 hg2
        exact ⟨⟨rv_mx_le hg1.1 h1, rv_le_mn hg1.2 h2⟩, hg2⟩
      · exact hF' f h
    · rw [if_neg c] at hf
      rcases List.mem_cons.mp hf with e | h
      · rw [e]; exact hg
      · exact ih hF' f h
def rv_rf (G : rv_S) (u : rv_U) (lo hi : Int) (nz : Bool) : rv_S := match u with
  | .inl k => match G.1[k]? with
    | some a => if a.1 = 1 then (G.1.set k (1, (if nz = true then 1 else a.2.1), rv_mx (rv_l a) lo, rv_mn (rv_h a) hi, [], []), G.2) else G
    | none => G
  | .inr q => (G.1, G.2.1, rv_frf q lo hi G.2.2)
theorem rv_rf_ok {ad : Nat → Nat} {V0 V : fm_V} {ls : Array Slot} {st : List Value} {G : rv_S} {u : rv_U} {lo hi : Int} {nz : Bool} (h : rv_G ad V0 V ls st G) (h1 : lo ≤ rv_uv V ls u) (h2 : rv_uv V ls u ≤ hi) (h3 : nz = true → rv_uv V ls u ≠ 0) : rv_G ad V0 V ls st (rv_rf G u lo hi nz) := by
  cases u with
  | inr q => exact ⟨h.1, h.2.1, rv_frf_ok h1 h2 h.2.2⟩
  | inl k =>
    show rv_G ad V0 V ls st (match G.1[k]? with
      | some a => if a.1 = 1 then (G.1.set k (1, (if nz = true then 1 else a.2.1), rv_mx (rv_l a) lo, rv_mn (rv_h a) hi, [], []), G.2) else G
      | none => G)
    cases hk : G.1[k]? with
    | none => exact h
    | some a =>
      dsimp only
      by_cases c : a.1 = 1
      · rw [if_pos c]
        refine ⟨fun j b hb => ?_, h.2.1, h.2.2⟩
        dsimp only at hb
        rw [List.getElem?_set] at hb
        by_cases hj : k = j
        · subst hj
          rw [if_pos rfl, if_pos (List.getElem?_eq_some_iff.mp hk).1] at hb
          cases hb
          have ha := h.1 k a hk
          unfold rv_lok at ha ⊢
          rw [if_pos c] at ha
          rw [if_pos rfl]
          obtain ⟨y, y1, y2, y3, y4⟩ := ha
          have ey : rv_uv V ls (.inl k) = y.toInt := rv_lx_at y1
          rw [ey] at h1 h2 h3
          refine ⟨y, y1, rv_mx_le y2 h1, rv_le_mn y3 h2, fun q => ?_⟩
          cases nz with
          | true => exact h3 rfl
          | false => exact y4 q
        · rw [if_neg hj] at hb
          exact h.1 j b hb
      · rw [if_neg c]
        exact h
def rv_rfA (nl nh : Int) (nz : Bool) : List (rv_U × Int) → rv_S → rv_S
  | [], G => G
  | q :: al, G => rv_rfA nl nh nz al (if -2147483648 ≤ nl - q.2 ∧ nh - q.2 ≤ 2147483647 then rv_rf G q.1 (nl - q.2) (nh - q.2) (nz && decide (q.2 = 0)) else G)
theorem rv_rfA_ok {ad : Nat → Nat} {V0 V : fm_V} {ls : Array Slot} {st : List Value} {nl nh z : Int} {nz : Bool} (h1 : nl ≤ z) (h2 : z ≤ nh) (h3 : nz = true → z ≠ 0) : ∀ {al : List (rv_U × Int)} {G : rv_S}, (∀ q ∈ al, ∃ k : Int, z = rv_uv V ls q.1 + q.2 + 4294967296 * k) → rv_G ad V0 V ls st G → rv_G ad V0 V ls st (rv_rfA nl nh nz al G) := by
  intro al
  induction al with
  | nil => intro G _ h; exact h
  | cons q al ih =>
    intro G hal h
    unfold rv_rfA
    refine ih (fun q hq => hal q (List.mem_cons_of_mem _ hq)) ?_
    by_cases c : -2147483648 ≤ nl - q.2 ∧ nh - q.2 ≤ 2147483647
    · rw [if_pos c]
      obtain ⟨k, hk⟩ := hal q List.mem_cons_self
      have hr := rv_uv_rng V ls q.1
      have e : rv_uv V ls q.1 = z - q.2 := by omega
      refine rv_rf_ok h (by omega) (by omega) (fun hz => ?_)
      simp only [Bool.and_eq_true, decide_eq_true_eq] at hz
      have := h3 hz.1
      omega
    · rw [if_neg c]
      exact h
def rv_rfC : List (rv_U × Int × Int) → rv_S → rv_S
  | [], G => G
  | q :: cs, G => rv_rfC cs (rv_rf G q.1 q.2.1 q.2.2 false)
theorem rv_rfC_ok {ad : Nat → Nat} {V0 V : fm_V} {ls : Array Slot} {st : List Value} : ∀ {cs : List (rv_U × Int × Int)} {G : rv_S}, (∀ q ∈ cs, q.2.1 ≤ rv_uv V ls q.1 ∧ rv_uv V ls q.1 ≤ q.2.2) → rv_G ad V0 V ls st G → rv_G ad V0 V ls st (rv_rfC cs G) := by
  intro cs
  induction cs with
  | nil => intro G _ h; exact h
  | cons q cs ih =>
    intro G hcs h
    unfold rv_rfC
    have hq := hcs q List.mem_cons_self
    exact ih (fun q hq => hcs q (List.mem_cons_of_mem _ hq)) (rv_rf_ok h hq.1 hq.2 (fun e => by cases e))
def rv_cmp (c : Nat) (l1 h1 l2 h2 : Int) : Int × Int × Int × Int := match c with
  | 0 => (rv_mx l1 l2, rv_mn h1 h2, rv_mx l1 l2, rv_mn h1 h2)
  | 1 => ((if l2 = h2 ∧ l1 = l2 then l1 + 1 else l1), (if l2 = h2 ∧ h1 = l2 then h1 - 1 else h1), (if l1 = h1 ∧ l2 = l1 then l2 + 1 else l2), (if l1 = h1 ∧ h2 = l1 then h2 - 1 else h2))
  | 2 => (l1, rv_mn h1 (h2 - 1), rv_mx l2 (l1 + 1), h2)
  | 3 => (rv_mx l1 l2, h1, l2, rv_mn h2 h1)
  | 4 => (rv_mx l1 (l2 + 1), h1, l2, rv_mn h2 (h1 - 1))
  | _ => (l1, rv_mn h1 h2, rv_mx l2 l1, h2)
def rv_cR (c : Nat) (x y : Int) : Prop := match c with
  | 0 => x = y
  | 1 => ¬ x = y
  | 2 => x < y
  | 3 => y ≤ x
  | 4 => y < x
  | _ => x ≤ y
theorem rv_cmp_ok {c : Nat} {l1 h1 l2 h2 x y : Int} (a1 : l1 ≤ x) (a2 : x ≤ h1) (b1 : l2 ≤ y) (b2 : y ≤ h2) (hc : rv_cR c x y) : ((rv_cmp c l1 h1 l2 h2).1 ≤ x ∧ x ≤ (rv_cmp c l1 h1 l2 h2).2.1) ∧ (rv_cmp c l1 h1 l2 h2).2.2.1 ≤ y ∧ y ≤ (rv_cmp c l1 h1 l2 h2).2.2.2 := by
  match c, hc with
  | 0, hc =>
    have hc : x = y := hc
    subst hc
    exact ⟨⟨rv_mx_le a1 b1, rv_le_mn a2 b2⟩, rv_mx_le a1 b1, rv_le_mn a2 b2⟩
  | 1, hc =>
    have hc : ¬ x = y := hc
    simp only [rv_cmp]
    refine ⟨⟨?_, ?_⟩, ?_, ?_⟩ <;> split <;> omega
  | 2, hc =>
    have hc : x < y := hc
    exact ⟨⟨a1, rv_le_mn a2 (by omega)⟩, rv_mx_le b1 (by omega), b2⟩
  | 3, hc =>
    have hc : y ≤ x := hc
    exact ⟨⟨rv_mx_le a1 (by omega), a2⟩, b1, rv_le_mn b2 (by omega)⟩
  | 4, hc =>
    have hc : y < x := hc
    exact ⟨⟨rv_mx_le a1 (by omega), a2⟩, b1, rv_le_mn b2 (by omega)⟩
  | n + 5, hc =>
    have hc : x ≤ y := hc
    exact ⟨⟨a1, rv_le_mn a2 (by omega)⟩, rv_mx_le b1 (by omega), b2⟩
/-- a local that can't have a value -/
def rv_emp (L : List rv_A) : Bool := L.any (fun a => decide (a.1 = 1) && decide (rv_h a < rv_l a))
theorem rv_emp_no {ad : Nat → Nat} {ls : Array Slot} {L : List rv_A} (h : ∀ (k : Nat) (a : rv_A), L[k]? = some a → rv_lok ad ls k a) : rv_emp L = false := by
  cases hb : rv_emp L with
  | false => rfl
  | true =>
    simp only [rv_emp, List.any_eq_true, Bool.and_eq_true, decide_eq_true_eq] at hb
    obtain ⟨a, a1, a2, a3⟩ := hb
    obtain ⟨k, hk⟩ := List.getElem?_of_mem a1
    have h1 := h k a hk
    unfold rv_lok at h1
    rw [if_pos a2] at h1
    obtain ⟨y, -, y2, y3, -⟩ := h1
    omega
def rv_br0 (c : Nat) (a b : rv_A) (G : rv_S) : rv_S := rv_rfA (rv_cmp c (rv_l a) (rv_h a) (rv_l b) (rv_h b)).2.2.1 (rv_cmp c (rv_l a) (rv_h a) (rv_l b) (rv_h b)).2.2.2 false (rv_al b)
    (rv_rfA (rv_cmp c (rv_l a) (rv_h a) (rv_l b) (rv_h b)).1 (rv_cmp c (rv_l a) (rv_h a) (rv_l b) (rv_h b)).2.1 (decide (c = 1 ∧ rv_l b = 0 ∧ rv_h b = 0)) (rv_al a)
      (if c = 1 ∧ rv_l b = 0 ∧ rv_h b = 0 then rv_rfC (rv_cs a) G else G))
/-- what is known where a comparison holds; none: it can't hold -/
def rv_br (c : Nat) (a b : rv_A) (G : rv_S) : Option rv_S :=
  if (rv_cmp c (rv_l a) (rv_h a) (rv_l b) (rv_h b)).1 ≤ (rv_cmp c (rv_l a) (rv_h a) (rv_l b) (rv_h b)).2.1 ∧ (rv_cmp c (rv_l a) (rv_h a) (rv_l b) (rv_h b)).2.2.1 ≤ (rv_cmp c (rv_l a) (rv_h a) (rv_l b) (rv_h b)).2.2.2
  then (if rv_emp (rv_br0 c a b G).1 = true then none else some (rv_br0 c a b G))
  else none
theorem rv_br_ok {ad : Nat → Nat} {V0 V : fm_V} {ls : Array Slot} {st : List Value} {G : rv_S} {c : Nat} {a b : rv_A} {va vb : Value} {x y : Int32} (ha : rv_oI V ls a (.int x)) (hb : rv_oI V ls b (.int y)) (hc : rv_cR c x.toInt y.toInt) (h : rv_G ad V0 V ls st G) : ∃ G', rv_br c a b G = some G' ∧ rv_G ad V0 V ls st G' := by
  obtain ⟨x', ex, x1, x2, x3, x4, x5⟩ := ha
  cases ex
  obtain ⟨y', ey, y1, y2, y3, y4, y5⟩ := hb
  cases ey
  obtain ⟨⟨b1, b2⟩, b3, b4⟩ := rv_cmp_ok x1 x2 y1 y2 hc
  have hG : rv_G ad V0 V ls st (rv_br0 c a b G) := by
    refine rv_rfA_ok b3 b4 (fun e => by cases e) y4 (rv_rfA_ok b1 b2 (fun e => ?_) x4 ?_)
    · have e := of_decide_eq_true e
      obtain ⟨rfl, e1, e2⟩ := e
      have hc : ¬ x.toInt = y.toInt := hc
      omega
    · by_cases d : c = 1 ∧ rv_l b = 0 ∧ rv_h b = 0
      · rw [if_pos d]
        obtain ⟨rfl, e1, e2⟩ := d
        have hc : ¬ x.toInt = y.toInt := hc
        exact rv_rfC_ok (x5 (by omega)) h
      · rw [if_neg d]
        exact h
  unfold rv_br
  rw [if_pos ⟨by omega, by omega⟩, rv_emp_no hG.1, if_neg (by decide)]
  exact ⟨_, rfl, hG⟩
/-- the ways in which a comparison holds: 'not equal' below and above apart -/
def rv_one (c : Nat) (a b : rv_A) (G : rv_S) : List rv_S := if c = 1 ∧ rv_l b = rv_h b ∧ rv_l b ≠ 0 then (rv_br 2 a b G).toList ++ (rv_br 4 a b G).toList else (rv_br c a b G).toList
theorem rv_one_ok {ad : Nat → Nat} {V0 V : fm_V} {ls : Array Slot} {st : List Value} {G : rv_S} {c : Nat} {a b : rv_A} {x y : Int32} (ha : rv_oI V ls a (.int x)) (hb : rv_oI V ls b (.int y)) (hc : rv_cR c x.toInt y.toInt) (h : rv_G ad V0 V ls st G) : ∃ G' ∈ rv_one c a b G, rv_G ad V0 V ls st G' := by
  unfold rv_one
  by_cases d : c = 1 ∧ rv_l b = rv_h b ∧ rv_l b ≠ 0
  · rw [if_pos d]
    obtain ⟨rfl, -, -⟩ := d
    have hc : ¬ x.toInt = y.toInt := hc
    rcases Int.lt_or_gt_of_ne hc with hl | hg
    · obtain ⟨g, g1, g2⟩ := rv_br_ok (c := 2) (va := .int x) (vb := .int y) ha hb hl h
      exact ⟨g, List.mem_append_left _ (by rw [g1]; exact List.mem_singleton.mpr rfl), g2⟩
    · obtain ⟨g, g1, g2⟩ := rv_br_ok (c := 4) (va := .int x) (vb := .int y) ha hb hg h
      exact ⟨g, List.mem_append_right _ (by rw [g1]; exact List.mem_singleton.mpr rfl), g2⟩
  · rw [if_neg d]
    obtain ⟨g, g1, g2⟩ := rv_br_ok (va := .int x) (vb := .int y) ha hb hc h
    exact ⟨g, by rw [g1]; exact List.mem_singleton.mpr rfl, g2⟩
/-! what is forgotten -/
def rv_dA (d : rv_U → Bool) (a : rv_A) : rv_A := (a.1, a.2.1, rv_l a, rv_h a, (rv_al a).filter (fun q => !d q.1), (rv_cs a).filter (fun q => !d q.1))
theorem rv_dA_ok {ad : Nat → Nat} {V V' : fm_V} {ls ls' : Array Slot} {d : rv_U → Bool} (hd : ∀ u, d u = false → rv_uv V' ls' u = rv_uv V ls u) (a : rv_A) (v : Value) (h : rv_ok ad V ls a v) : rv_ok ad V' ls' (rv_dA d a) v := by
  by_cases c1 : a.1 = 1
  · obtain ⟨x, rfl, x1, x2, x3, x4, x5⟩ := rv_okI c1 h
    refine rv_okI' c1 ⟨x, rfl, x1, x2, x3, fun q hq => ?_, fun hx q hq => ?_⟩
    · obtain ⟨q1, q2⟩ := List.mem_filter.mp hq
      rw [hd q.1 (by simpa using q2)]
      exact x4 q q1
    · obtain ⟨q1, q2⟩ := List.mem_filter.mp hq
      rw [hd q.1 (by simpa using q2)]
      exact x5 hx q q1
  · by_cases c2 : a.1 = 2
    · exact rv_okR' (a := rv_dA d a) c2 (show v = .ref (ad a.2.1) from rv_okR c2 h)
    · by_cases c3 : a.1 = 3
      · obtain ⟨x, rfl, x1, x2, x4⟩ := rv_okL c3 h
        refine rv_okL' c3 ⟨x, rfl, x1, x2, fun q hq => ?_⟩
        obtain ⟨q1, q2⟩ := List.mem_filter.mp hq
        rw [hd q.1 (by simpa using q2)]
        exact x4 q q1
      · unfold rv_ok at h
        rw [if_neg c1, if_neg c2, if_neg c3] at h
        exact h.elim
def rv_dF (d : rv_U → Bool) (F : List rv_Fa) : List rv_Fa := F.filter (fun f => !d (.inr f.1))
theorem rv_dF_ok {V0 V V' : fm_V} {ls ls' : Array Slot} {d : rv_U → Bool} (hd : ∀ u, d u = false → rv_uv V' ls' u = rv_uv V ls u) {F : List rv_Fa} (h : ∀ f ∈ F, rv_fok V0 V ls f) : ∀ f ∈ rv_dF d F, rv_fok V0 V' ls' f := by
  intro f hf
  obtain ⟨f1, f2⟩ := List.mem_filter.mp hf
  have e := hd (.inr f.1) (by simpa using f2)
  have h1 := h f f1
  unfold rv_fok at h1 ⊢
  rw [e]
  exact h1
/-- a local is stored -/
def rv_mk (k : Nat) (u : rv_U) : Bool := match u with
  | .inl j => decide (j = k)
  | .inr q => decide (q.2 = 5000 + k)
theorem rv_mk_ok {V : fm_V} {ls ls' : Array Slot} {k : Nat} (h : ∀ j, j ≠ k → rv_lx ls' j = rv_lx ls j) : ∀ u, rv_mk k u = false → rv_uv V ls' u = rv_uv V ls u := by
  intro u hu
  cases u with
  | inl j => exact h j (by simpa [rv_mk] using hu)
  | inr q =>
    have hq : q.2 ≠ 5000 + k := by simpa [rv_mk] using hu
    show (V q.1 (rv_ix ls' q.2)).toInt = (V q.1 (rv_ix ls q.2)).toInt
    have e : rv_ix ls' q.2 = rv_ix ls q.2 := by
      unfold rv_ix
      by_cases c : q.2 < 5000
      · rw [if_pos c, if_pos c]
      · rw [if_neg c, if_neg c, h _ (by omega)]
    rw [e]
def rv_bare (a : rv_A) : rv_A := (a.1, a.2.1, rv_l a, rv_h a, [], [])
def rv_st (k : Nat) (a : rv_A) (G : rv_S) : rv_S := (G.1.set k (rv_bare a), G.2.1.map (rv_dA (rv_mk k)), rv_dF (rv_mk k) G.2.2)
/-- the locals behind a store -/
def rv_sto (ls ls' : Array Slot) (i : Nat) (v : Value) : Prop := ls'.size = ls.size ∧ lv_wf ls' ∧ ls'[i]? = some (.val v) ∧ (∀ (k : Nat) (w : Value), k ≠ i → ls[k]? = some (.val w) → w.category = 1 → ls'[k]? = some (.val w)) ∧ ∀ j, j ≠ i → rv_lx ls' j = rv_lx ls j
theorem rv_sto_of {ls : Array Slot} {i : Nat} {v : Value} (hw : lv_wf ls) (hi : i < ls.size) (hc : v.category = 1) : ∃ ls', storeLocals ls i v = some ls' ∧ rv_sto ls ls' i v := by
  obtain ⟨l1, c1, c2, c3⟩ := lv_clean v hw hi
  obtain ⟨l2, d1, d2, d3⟩ := lv_set (l := l1) (i := i) (.val v) (by omega)
  have e1 : storeLocals ls i v = some l2 := by
    rw [c1]
    simp [storeSelf, hc, d1]
  obtain ⟨ls', e', f1, f2, f3, f4⟩ := fm_sto (nL := ls.size) rfl hw hi hc
  rw [e1] at e'
  cases e'
  refine ⟨l2, e1, f1, f2, f3, f4, fun j hj => ?_⟩
  have g : l2[j]? = l1[j]? := by rw [d3 j, if_neg hj]
  unfold rv_lx
  rw [g, c3 j]
  by_cases c : (j + 1 = i ∧ ls[i]? = some .second) ∨ (j = i + 1 ∧ ls[j]? = some .second)
  · rw [if_pos c]
    rcases c with ⟨q1, q2⟩ | ⟨q1, q2⟩
    · obtain ⟨j', w, r1, r2, r3⟩ := hw.2 i q2
      have : j' = j := by omega
      subst this
      rw [r2]
      cases w <;> first | rfl | (exact absurd r3 (by simp [Value.category]))
    · rw [q2]
  · rw [if_neg c]
theorem rv_st_ok {ad : Nat → Nat} {V0 V : fm_V} {ls ls' : Array Slot} {v : Value} {st : List Value} {G : rv_S} {k : Nat} {a : rv_A} (hs : rv_sto ls ls' k v) (ha : rv_ok ad V ls a v) (h3 : a.1 ≠ 3) (h : rv_G ad V0 V ls st G) : rv_G ad V0 V ls' st (rv_st k a G) := by
  obtain ⟨s1, s2, s3, s4, s5⟩ := hs
  have hd := rv_mk_ok (V := V) s5
  refine ⟨fun j b hb => ?_, rv_sk_map _ (rv_dA_ok hd) h.2.1, rv_dF_ok hd h.2.2⟩
  unfold rv_st at hb
  dsimp only at hb
  rw [List.getElem?_set] at hb
  by_cases hj : k = j
  · subst hj
    rw [if_pos rfl] at hb
    by_cases hl : k < G.1.length
    · rw [if_pos hl] at hb
      cases hb
      unfold rv_lok
      by_cases c1 : a.1 = 1
      · obtain ⟨x, rfl, x1, x2, x3, -⟩ := rv_okI c1 ha
        rw [if_pos (show (rv_bare a).1 = 1 from c1)]
        exact ⟨x, s3, x1, x2, x3⟩
      · rw [if_neg (show ¬ (rv_bare a).1 = 1 from c1)]
        by_cases c2 : a.1 = 2
        · rw [if_pos (show (rv_bare a).1 = 2 from c2), s3, rv_okR c2 ha]
          rfl
        · rw [if_neg (show ¬ (rv_bare a).1 = 2 from c2)]
          trivial
    · rw [if_neg hl] at hb
      cases hb
  · rw [if_neg hj] at hb
    have hb2 := h.1 j b hb
    unfold rv_lok at hb2 ⊢
    by_cases c1 : b.1 = 1
    · rw [if_pos c1] at hb2 ⊢
      obtain ⟨y, y1, y2⟩ := hb2
      exact ⟨y, s4 j _ (Ne.symm hj) y1 rfl, y2⟩
    · rw [if_neg c1] at hb2 ⊢
      by_cases c2 : b.1 = 2
      · rw [if_pos c2] at hb2 ⊢
        exact s4 j _ (Ne.symm hj) hb2 rfl
      · rw [if_neg c2]
        trivial
/-- iinc -/
def rv_sh (k : Nat) (n : Int) (a : rv_A) : rv_A := (a.1, a.2.1, rv_l a, rv_h a, ((rv_al a).filter (fun q => match q.1 with | .inl _ => true | .inr p => !decide (p.2 = 5000 + k))).map (fun q => if q.1 = .inl k then (q.1, q.2 - n) else q), (rv_cs a).filter (fun q => !rv_mk k q.1))
def rv_inc (k : Nat) (n : Int) (a : rv_A) (G : rv_S) : rv_S := (G.1.set k (1, 0, (rv_nm (rv_l a + n) (rv_h a + n)).1, (rv_nm (rv_l a + n) (rv_h a + n)).2, [], []), G.2.1.map (rv_sh k n), rv_dF (rv_mk k) G.2.2)
theorem rv_sh_ok {ad : Nat → Nat} {V : fm_V} {ls ls' : Array Slot} {k : Nat} {n m : Int} (h : ∀ j, j ≠ k → rv_lx ls' j = rv_lx ls j) (hk : rv_lx ls' k = rv_lx ls k + n + 4294967296 * m) (a : rv_A) (v : Value) (ha : rv_ok ad V ls a v) : rv_ok ad V ls' (rv_sh k n a) v := by
  have hd := rv_mk_ok (V := V) h
  have key : ∀ (z : Int), (∀ q ∈ rv_al a, ∃ k : Int, z = rv_uv V ls q.1 + q.2 + 4294967296 * k) → ∀ q ∈ rv_al (rv_sh k n a), ∃ k : Int, z = rv_uv V ls' q.1 + q.2 + 4294967296 * k := by
    intro z hz q hq
    obtain ⟨q0, hq0, rfl⟩ := List.mem_map.mp hq
    obtain ⟨q1, q2⟩ := List.mem_filter.mp hq0
    obtain ⟨k0, e0⟩ := hz q0 q1
    by_cases c : q0.1 = .inl k
    · rw [if_pos c]
      rw [c] at e0
      have e1 : rv_uv V ls (.inl k) = rv_lx ls k := rfl
      have e2 : rv_uv V ls' q0.1 = rv_lx ls' k := by rw [c]; rfl
      exact ⟨k0 - m, by dsimp only; rw [e2, hk]; rw [e1] at e0; omega⟩
    · rw [if_neg c]
      refine ⟨k0, ?_⟩
      rw [hd q0.1 ?_]
      · exact e0
      · obtain ⟨u, off⟩ := q0
        cases u with
        | inl j => simp only [rv_mk, decide_eq_false_iff_not]; intro e; exact c (by rw [e])
        | inr p => simpa [rv_mk] using q2
  by_cases c1 : a.1 = 1
  · obtain ⟨x, rfl, x1, x2, x3, x4, x5⟩ := rv_okI c1 ha
    refine rv_okI' c1 ⟨x, rfl, x1, x2, x3, key _ x4, fun hx q hq => ?_⟩
    obtain ⟨q1, q2⟩ := List.mem_filter.mp hq
    rw [hd q.1 (by simpa using q2)]
    exact x5 hx q q1
  · by_cases c2 : a.1 = 2
    · exact rv_okR' (a := rv_sh k n a) c2 (show v = .ref (ad a.2.1) from rv_okR c2 ha)
    · by_cases c3 : a.1 = 3
      · obtain ⟨x, rfl, x1, x2, x4⟩ := rv_okL c3 ha
        exact rv_okL' c3 ⟨x, rfl, x1, x2, key _ x4⟩
      · unfold rv_ok at ha
        rw [if_neg c1, if_neg c2, if_neg c3] at ha
        exact ha.elim
theorem rv_inc_ok {ad : Nat → Nat} {V0 V : fm_V} {ls ls' : Array Slot} {st : List Value} {G : rv_S} {k : Nat} {n : Int} {a : rv_A} {y : Int32} (hn : -2147483648 ≤ n ∧ n ≤ 2147483647) (hy : ls[k]? = some (.val (.int y))) (hs : rv_sto ls ls' k (.int (y + Int32.ofInt n))) (hy1 : rv_l a ≤ y.toInt) (hy2 : y.toInt ≤ rv_h a) (h : rv_G ad V0 V ls st G) : rv_G ad V0 V ls' st (rv_inc k n a G) := by
  obtain ⟨s1, s2, s3, s4, s5⟩ := hs
  have hd := rv_mk_ok (V := V) s5
  obtain ⟨m, hm⟩ := zi_add y (Int32.ofInt n)
  rw [zi_of hn.1 hn.2] at hm
  have hk : rv_lx ls' k = rv_lx ls k + n + 4294967296 * m := by rw [rv_lx_at s3, rv_lx_at hy]; exact hm
  refine ⟨fun j b hb => ?_, rv_sk_map _ (rv_sh_ok s5 hk) h.2.1, rv_dF_ok hd h.2.2⟩
  unfold rv_inc at hb
  dsimp only at hb
  rw [List.getElem?_set] at hb
  by_cases hj : k = j
  · subst hj
    rw [if_pos rfl] at hb
    by_cases hl : k < G.1.length
    · rw [if_pos hl] at hb
      cases hb
      unfold rv_lok
      rw [if_pos rfl]
      obtain ⟨b1, b2⟩ := rv_nm_ok (lo := rv_l a + n) (hi := rv_h a + n) (z := y.toInt + n) (by omega) (by omega) hm
      exact ⟨_, s3, b1, b2, fun e => absurd (show (0 : Nat) = 1 from e) (by decide)⟩
    · rw [if_neg hl] at hb
      cases hb
  · rw [if_neg hj] at hb
    have hb2 := h.1 j b hb
    unfold rv_lok at hb2 ⊢
    by_cases c1 : b.1 = 1
    · rw [if_pos c1] at hb2 ⊢
      obtain ⟨y, y1, y2⟩ := hb2
      exact ⟨y, s4 j _ (Ne.symm hj) y1 rfl, y2⟩
    · rw [if_neg c1] at hb2 ⊢
      by_cases c2 : b.1 = 2
      · rw [if_pos c2] at hb2 ⊢
        exact s4 j _ (Ne.symm hj) hb2 rfl
      · rw [if_neg c2]
        trivial
