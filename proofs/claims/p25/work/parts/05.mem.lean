/-! Places of the world: reads and stores. -/
/-- every number of the world lies in its template's bounds -/
def fm_Tm (tm : List fm_C) (V : fm_V) : Prop := (∀ (i t n : Nat) (lo hi : Int) (j : Nat), tm[i]? = some (.inl (t, n, lo, hi)) → j < n → lo ≤ (V i j).toInt ∧ (V i j).toInt ≤ hi) ∧ ∀ (i ci : Nat) (ts : List fm_F) (k : Nat) (lo hi : Int), tm[i]? = some (.inr (ci, ts)) → ts[k]? = some (.inl (lo, hi)) → lo ≤ (V i k).toInt ∧ (V i k).toInt ≤ hi
theorem fm_Tm_o {tm : List fm_C} {V : fm_V} {i ci k : Nat} {ts : List fm_F} {lo hi : Int} {x : Int32} (h : fm_Tm tm V) (hi0 : tm[i]? = some (.inr (ci, ts))) (hk : ts[k]? = some (.inl (lo, hi))) (h1 : lo ≤ x.toInt) (h2 : x.toInt ≤ hi) : fm_Tm tm (fm_up V i k x) := by
  refine ⟨fun i' t n lo' hi' j ht hj => ?_, fun i' ci' ts' k' lo' hi' ht hk' => ?_⟩
  · by_cases c : i' = i ∧ j = k
    · rw [c.1, hi0] at ht; cases ht
    · rw [fm_up_ne c]; exact h.1 i' t n lo' hi' j ht hj
  · by_cases c : i' = i ∧ k' = k
    · rw [c.1, hi0] at ht; cases ht
      rw [c.2, hk] at hk'; cases hk'
      rw [c.1, c.2, fm_up_self]
      exact ⟨h1, h2⟩
    · rw [fm_up_ne c]; exact h.2 i' ci' ts' k' lo' hi' ht hk'
theorem fm_Tm_a {tm : List fm_C} {V : fm_V} {i t n k : Nat} {lo hi : Int} {x : Int32} (h : fm_Tm tm V) (hi0 : tm[i]? = some (.inl (t, n, lo, hi))) (h1 : lo ≤ x.toInt) (h2 : x.toInt ≤ hi) : fm_Tm tm (fm_up V i k x) := by
  refine ⟨fun i' t' n' lo' hi' j ht hj => ?_, fun i' ci' ts' k' lo' hi' ht hk' => ?_⟩
  · by_cases c : i' = i ∧ j = k
    · rw [c.1, hi0] at ht; cases ht
      rw [c.1, c.2, fm_up_self]
      exact ⟨h1, h2⟩
    · rw [fm_up_ne c]; exact h.1 i' t' n' lo' hi' j ht hj
  · by_cases c : i' = i ∧ k' = k
    · rw [c.1, hi0] at ht; cases ht
    · rw [fm_up_ne c]; exact h.2 i' ci' ts' k' lo' hi' ht hk'
/-- a place's bounds out of the facts -/
def rv_fg (F : List rv_Fa) (q : Nat × Nat) (lo hi : Int) : Int × Int := match F.find? (fun f => decide (f.1 = q)) with
  | some f => (rv_mx lo f.2.1, rv_mn hi f.2.2.1)
  | none => (lo, hi)
theorem rv_find {F : List rv_Fa} {q : Nat × Nat} {f : rv_Fa} (h : F.find? (fun f => decide (f.1 = q)) = some f) : f ∈ F ∧ f.1 = q := ⟨List.mem_of_find?_eq_some h, by simpa using List.find?_some h⟩
theorem rv_fg_ok {V0 V : fm_V} {ls : Array Slot} {F : List rv_Fa} {q : Nat × Nat} {lo hi : Int} (hF : ∀ f ∈ F, rv_fok V0 V ls f) (h1 : lo ≤ rv_uv V ls (.inr q)) (h2 : rv_uv V ls (.inr q) ≤ hi) : (rv_fg F q lo hi).1 ≤ rv_uv V ls (.inr q) ∧ rv_uv V ls (.inr q) ≤ (rv_fg F q lo hi).2 := by
  unfold rv_fg
  cases hf : F.find? (fun f => decide (f.1 = q)) with
  | none => exact ⟨h1, h2⟩
  | some f =>
    obtain ⟨f1, f2⟩ := rv_find hf
    have h3 := (hF f f1).1
    rw [f2] at h3
    exact ⟨rv_mx_le h1 h3.1, rv_le_mn h2 h3.2⟩
def rv_rd (F : List rv_Fa) (q : Nat × Nat) (lo hi : Int) : rv_A := (1, 0, (rv_fg F q lo hi).1, (rv_fg F q lo hi).2, [(.inr q, 0)], [])
theorem rv_rd_ok {ad : Nat → Nat} {V0 V : fm_V} {ls : Array Slot} {F : List rv_Fa} {q : Nat × Nat} {lo hi : Int} {x : Int32} (hF : ∀ f ∈ F, rv_fok V0 V ls f) (hx : x = V q.1 (rv_ix ls q.2)) (h1 : lo ≤ x.toInt) (h2 : x.toInt ≤ hi) : rv_ok ad V ls (rv_rd F q lo hi) (.int x) := by
  have e : rv_uv V ls (.inr q) = x.toInt := by rw [hx]; rfl
  obtain ⟨b1, b2⟩ := rv_fg_ok (q := q) (lo := lo) (hi := hi) hF (by rw [e]; exact h1) (by rw [e]; exact h2)
  rw [e] at b1 b2
  refine rv_okI' rfl ⟨x, rfl, b1, b2, fun z => absurd (show (0 : Nat) = 1 from z) (by decide), fun r hr => ?_, fun _ r hr => absurd hr List.not_mem_nil⟩
  rw [List.mem_singleton.mp (show r ∈ [((.inr q : rv_U), (0 : Int))] from hr)]
  exact ⟨0, by dsimp only; omega⟩
/-- the place of an array that an index names, if it can be told -/
def rv_ipL : List (rv_U × Int) → Option Nat
  | [] => none
  | (.inl k, off) :: al => if off = 0 then some (5000 + k) else rv_ipL al
  | (.inr _, _) :: al => rv_ipL al
def rv_ip (b : rv_A) : Option Nat := if rv_l b = rv_h b ∧ 0 ≤ rv_l b ∧ rv_l b < 5000 then some (rv_l b).toNat else rv_ipL (rv_al b)
theorem rv_ipL_ok {V : fm_V} {ls : Array Slot} {z : Int} (hz : -2147483648 ≤ z ∧ z ≤ 2147483647) : ∀ {al : List (rv_U × Int)} {f : Nat}, (∀ q ∈ al, ∃ k : Int, z = rv_uv V ls q.1 + q.2 + 4294967296 * k) → rv_ipL al = some f → rv_ix ls f = z.toNat := by
  intro al
  induction al with
  | nil => intro f _ h; cases h
  | cons q al ih =>
    intro f hal h
    obtain ⟨u, off⟩ := q
    cases u with
    | inr p => exact ih (fun q hq => hal q (List.mem_cons_of_mem _ hq)) h
    | inl k =>
      unfold rv_ipL at h
      by_cases c : off = 0
      · rw [if_pos c] at h
        cases h
        obtain ⟨m, hm⟩ := hal _ List.mem_cons_self
        have e1 : rv_uv V ls (.inl k) = rv_lx ls k := rfl
        dsimp only at hm
        rw [e1] at hm
        have hr := rv_lx_rng ls k
        have e2 : rv_lx ls k = z := by omega
        unfold rv_ix
        rw [if_neg (by omega), show 5000 + k - 5000 = k by omega, e2]
      · rw [if_neg c] at h
        exact ih (fun q hq => hal q (List.mem_cons_of_mem _ hq)) h
theorem rv_ip_ok {V : fm_V} {ls : Array Slot} {b : rv_A} {f : Nat} {x : Int32} (hb : rv_oI V ls b (.int x)) (h : rv_ip b = some f) : rv_ix ls f = x.toInt.toNat := by
  obtain ⟨x', ex, x1, x2, -, x4, -⟩ := hb
  cases ex
  unfold rv_ip at h
  by_cases c : rv_l b = rv_h b ∧ 0 ≤ rv_l b ∧ rv_l b < 5000
  · rw [if_pos c] at h
    cases h
    unfold rv_ix
    rw [if_pos (by omega)]
    congr 1
    omega
  · rw [if_neg c] at h
    exact rv_ipL_ok (zi_rng x) x4 h
/-- a store at a place, or anywhere in a cell -/
def rv_dp (j f : Nat) (u : rv_U) : Bool := match u with
  | .inl _ => false
  | .inr q => decide (q.1 = j) && (decide (q.2 = f) || decide (5000 ≤ q.2))
def rv_dc (j : Nat) (u : rv_U) : Bool := match u with
  | .inl _ => false
  | .inr q => decide (q.1 = j)
theorem rv_dp_ok {V : fm_V} {ls : Array Slot} {j f : Nat} {x : Int32} : ∀ u, rv_dp j f u = false → rv_uv (fm_up V j f x) ls u = rv_uv V ls u := by
  intro u hu
  cases u with
  | inl k => rfl
  | inr q =>
    show (fm_up V j f x q.1 (rv_ix ls q.2)).toInt = (V q.1 (rv_ix ls q.2)).toInt
    rw [fm_up_ne]
    intro c
    simp only [rv_dp, c.1, decide_true, Bool.true_and, Bool.or_eq_false_iff, decide_eq_false_iff_not] at hu
    have c2 := c.2
    unfold rv_ix at c2
    rw [if_pos (by omega)] at c2
    exact hu.1 c2
theorem rv_dc_ok {V : fm_V} {ls : Array Slot} {j f : Nat} {x : Int32} : ∀ u, rv_dc j u = false → rv_uv (fm_up V j f x) ls u = rv_uv V ls u := by
  intro u hu
  cases u with
  | inl k => rfl
  | inr q =>
    show (fm_up V j f x q.1 (rv_ix ls q.2)).toInt = (V q.1 (rv_ix ls q.2)).toInt
    rw [fm_up_ne]
    intro c
    simp [rv_dc, c.1] at hu
/-- differences to the start, out of what a value is a copy of -/
def rv_rl (F : List rv_Fa) : List (rv_U × Int) → List ((Nat × Nat) × Int × Int)
  | [] => []
  | (.inl _, _) :: al => rv_rl F al
  | (.inr q0, off) :: al => match F.find? (fun f => decide (f.1 = q0)) with
    | some f0 => if -2147483648 ≤ f0.2.1 + off ∧ f0.2.2.1 + off ≤ 2147483647 then f0.2.2.2.map (fun r => (r.1, r.2.1 + off, r.2.2 + off)) else rv_rl F al
    | none => rv_rl F al
theorem rv_rl_ok {V0 V : fm_V} {ls : Array Slot} {F : List rv_Fa} {z : Int} (hF : ∀ f ∈ F, rv_fok V0 V ls f) (hz : -2147483648 ≤ z ∧ z ≤ 2147483647) : ∀ {al : List (rv_U × Int)}, (∀ q ∈ al, ∃ k : Int, z = rv_uv V ls q.1 + q.2 + 4294967296 * k) → ∀ r ∈ rv_rl F al, r.2.1 ≤ z - (V0 r.1.1 r.1.2).toInt ∧ z - (V0 r.1.1 r.1.2).toInt ≤ r.2.2 := by
  intro al
  induction al with
  | nil => intro _ r hr; cases hr
  | cons q al ih =>
    intro hal r hr
    have ih2 := ih (fun q hq => hal q (List.mem_cons_of_mem _ hq))
    obtain ⟨u, off⟩ := q
    cases u with
    | inl k => exact ih2 r hr
    | inr q0 =>
      unfold rv_rl at hr
      cases hf : F.find? (fun f => decide (f.1 = q0)) with
      | none => rw [hf] at hr; exact ih2 r hr
      | some f0 =>
        rw [hf] at hr
        dsimp only at hr
        obtain ⟨g1, g2⟩ := rv_find hf
        have h3 := hF f0 g1
        unfold rv_fok at h3
        rw [g2] at h3
        by_cases c : -2147483648 ≤ f0.2.1 + off ∧ f0.2.2.1 + off ≤ 2147483647
        · rw [if_pos c] at hr
          obtain ⟨r0, hr0, rfl⟩ := List.mem_map.mp hr
          obtain ⟨m, hm⟩ := hal _ List.mem_cons_self
          dsimp only at hm ⊢
          have h4 := h3.2 r0 hr0
          have h5 := h3.1
          omega
        · rw [if_neg c] at hr
          exact ih2 r hr
def rv_pt (j f : Nat) (a : rv_A) (G : rv_S) : rv_S := (G.1, G.2.1.map (rv_dA (rv_dp j f)), ((j, f), rv_l a, rv_h a, rv_rl G.2.2 (rv_al a)) :: rv_dF (rv_dp j f) G.2.2)
def rv_pc (j : Nat) (G : rv_S) : rv_S := (G.1, G.2.1.map (rv_dA (rv_dc j)), rv_dF (rv_dc j) G.2.2)
theorem rv_pt_ok {ad : Nat → Nat} {V0 V : fm_V} {ls : Array Slot} {st : List Value} {G : rv_S} {j f : Nat} {a : rv_A} {x : Int32} (hf : f < 5000) (ha : rv_oI V ls a (.int x)) (h : rv_G ad V0 V ls st G) : rv_G ad V0 (fm_up V j f x) ls st (rv_pt j f a G) := by
  obtain ⟨x', ex, x1, x2, x3, x4, x5⟩ := ha
  cases ex
  refine ⟨h.1, rv_sk_map _ (rv_dA_ok rv_dp_ok) h.2.1, fun g hg => ?_⟩
  rcases List.mem_cons.mp hg with e | hg
  · rw [e]
    have e1 : rv_uv (fm_up V j f x) ls (.inr (j, f)) = x.toInt := by
      show (fm_up V j f x j (rv_ix ls f)).toInt = x.toInt
      have : rv_ix ls f = f := by unfold rv_ix; rw [if_pos hf]
      rw [this, fm_up_self]
    unfold rv_fok
    dsimp only
    rw [e1]
    exact ⟨⟨x1, x2⟩, rv_rl_ok h.2.2 (zi_rng x) x4⟩
  · exact rv_dF_ok rv_dp_ok h.2.2 g hg
theorem rv_pc_ok {ad : Nat → Nat} {V0 V : fm_V} {ls : Array Slot} {st : List Value} {G : rv_S} {j f : Nat} {x : Int32} (h : rv_G ad V0 V ls st G) : rv_G ad V0 (fm_up V j f x) ls st (rv_pc j G) :=
  ⟨h.1, rv_sk_map _ (rv_dA_ok rv_dc_ok) h.2.1, rv_dF_ok rv_dc_ok h.2.2⟩
/-! one knowledge is enough for another -/
def rv_leA (a b : rv_A) : Bool := decide (a.1 = b.1) && (if b.1 = 2 then decide (a.2.1 = b.2.1) else decide (rv_l b ≤ rv_l a) && decide (rv_h a ≤ rv_h b) && (decide (b.2.1 ≠ 1) || decide (a.2.1 = 1) || decide (0 < rv_l a) || decide (rv_h a < 0)) && (rv_al b).all (fun q => (rv_al a).any (fun r => decide (r = q))) && (rv_cs b).all (fun q => (rv_cs a).any (fun r => decide (r = q)) || decide (rv_l a = 0 ∧ rv_h a = 0)))
theorem rv_leA_ok {ad : Nat → Nat} {V : fm_V} {ls : Array Slot} {a b : rv_A} {v : Value} (h : rv_leA a b = true) (ha : rv_ok ad V ls a v) : rv_ok ad V ls b v := by
  unfold rv_leA at h
  simp only [Bool.and_eq_true, decide_eq_true_eq] at h
  obtain ⟨e, h⟩ := h
  by_cases c2 : b.1 = 2
  · rw [if_pos c2] at h
    have h := of_decide_eq_true h
    exact rv_okR' c2 (by rw [rv_okR (by omega) ha, h])
  · rw [if_neg c2] at h
    simp only [Bool.and_eq_true, Bool.or_eq_true, decide_eq_true_eq, List.all_eq_true, List.any_eq_true, exists_eq_right] at h
    obtain ⟨⟨⟨⟨h1, h2⟩, h3⟩, h4⟩, h5⟩ := h
    by_cases c1 : b.1 = 1
    · obtain ⟨x, rfl, x1, x2, x3, x4, x5⟩ := rv_okI (by omega) ha
      refine rv_okI' c1 ⟨x, rfl, by omega, by omega, fun hb => ?_, fun q hq => x4 q (h4 q hq), fun hx q hq => ?_⟩
      · rcases h3 with ((h3 | h3) | h3) | h3
        · exact absurd hb h3
        · exact x3 h3
        · omega
        · omega
      · rcases h5 q hq with h5 | h5
        · exact x5 hx q h5
        · omega
    · by_cases c3 : b.1 = 3
      · obtain ⟨x, rfl, x1, x2, x4⟩ := rv_okL (by omega) ha
        exact rv_okL' c3 ⟨x, rfl, by omega, by omega, fun q hq => x4 q (h4 q hq)⟩
      · unfold rv_ok at ha
        rw [if_neg (by omega), if_neg (by omega), if_neg (by omega)] at ha
        exact ha.elim
def rv_leL : List rv_A → List rv_A → Bool
  | _, [] => true
  | [], b :: bs => decide (b.1 = 0) && rv_leL [] bs
  | a :: as, b :: bs => (decide (b.1 = 0) || (decide (a.1 = b.1) && decide (b.1 = 1 ∨ b.1 = 2) && (if b.1 = 2 then decide (a.2.1 = b.2.1) else decide (rv_l b ≤ rv_l a) && decide (rv_h a ≤ rv_h b) && (decide (b.2.1 ≠ 1) || decide (a.2.1 = 1) || decide (0 < rv_l a) || decide (rv_h a < 0))))) && rv_leL as bs
theorem rv_leL_ok {ad : Nat → Nat} {ls : Array Slot} : ∀ (n : Nat) (as bs : List rv_A), rv_leL as bs = true → (∀ (k : Nat) (a : rv_A), as[k]? = some a → rv_lok ad ls (n + k) a) → ∀ (k : Nat) (b : rv_A), bs[k]? = some b → rv_lok ad ls (n + k) b := by
  intro n as bs
  induction bs generalizing n as with
  | nil => intro _ _ k b hb; simp at hb
  | cons b bs ih =>
    intro h ha k b' hb
    cases as with
    | nil =>
      unfold rv_leL at h
      simp only [Bool.and_eq_true, decide_eq_true_eq] at h
      cases k with
      | zero =>
        simp only [List.getElem?_cons_zero, Option.some.injEq] at hb
        subst hb
        unfold rv_lok
        rw [if_neg (by omega), if_neg (by omega)]
        trivial
      | succ k =>
        have := ih (n + 1) [] h.2 (fun k a hk => by simp at hk) k b' (by simpa using hb)
        rw [show n + (k + 1) = n + 1 + k by omega]
        exact this
    | cons a as =>
      unfold rv_leL at h
      simp only [Bool.and_eq_true] at h
      cases k with
      | zero =>
        simp only [List.getElem?_cons_zero, Option.some.injEq] at hb
        subst hb
        have h1 := h.1
        have ha0 := ha 0 a (by simp)
        simp only [Bool.or_eq_true, decide_eq_true_eq, Bool.and_eq_true] at h1
        rcases h1 with h1 | ⟨⟨e, hc⟩, h2⟩
        · unfold rv_lok
          rw [if_neg (by omega), if_neg (by omega)]
          trivial
        · by_cases c2 : b.1 = 2
          · rw [if_pos c2] at h2
            have h2 := of_decide_eq_true h2
            unfold rv_lok at ha0 ⊢
            rw [if_neg (by omega), if_pos (by omega)] at ha0
            rw [if_neg (by omega), if_pos (by omega), ← h2]
            exact ha0
          · rw [if_neg c2] at h2
            simp only [Bool.and_eq_true, Bool.or_eq_true, decide_eq_true_eq] at h2
            obtain ⟨⟨h3, h4⟩, h5⟩ := h2
            unfold rv_lok at ha0 ⊢
            rw [if_pos (by omega)] at ha0
            rw [if_pos (by omega)]
            obtain ⟨y, y1, y2, y3, y4⟩ := ha0
            refine ⟨y, y1, by omega, by omega, fun hb => ?_⟩
            rcases h5 with ((h5 | h5) | h5) | h5
            · exact absurd hb h5
            · exact y4 h5
            · omega
            · omega
      | succ k =>
        have := ih (n + 1) as h.2 (fun k a hk => by
          have := ha (k + 1) a (by simpa using hk)
          rw [show n + 1 + k = n + (k + 1) by omega]
          exact this) k b' (by simpa using hb)
        rw [show n + (k + 1) = n + 1 + k by omega]
        exact this
def rv_leS : List rv_A → List rv_A → Bool
  | [], [] => true
  | a :: as, b :: bs => rv_leA a b && rv_leS as bs
  | _, _ => false
theorem rv_leS_ok {ad : Nat → Nat} {V : fm_V} {ls : Array Slot} : ∀ {as bs : List rv_A} {st : List Value}, rv_leS as bs = true → rv_sk (rv_ok ad V ls) as st → rv_sk (rv_ok ad V ls) bs st := by
  intro as
  induction as with
  | nil =>
    intro bs st h hs
    cases bs with
    | nil => exact hs
    | cons b bs => simp [rv_leS] at h
  | cons a as ih =>
    intro bs st h hs
    cases bs with
    | nil => simp [rv_leS] at h
    | cons b bs =>
      simp only [rv_leS, Bool.and_eq_true] at h
      obtain ⟨v, vs, rfl, h1, h2⟩ := rv_sk_cons hs
      exact ⟨rv_leA_ok h.1 h1, ih h.2 h2⟩
/-- a place's template bounds -/
def rv_tb (tm : List fm_C) (q : Nat × Nat) : Int × Int := match tm[q.1]? with
  | some (.inl (_, n, lo, hi)) => if q.2 < n ∧ n ≤ 5000 then (lo, hi) else (-2147483648, 2147483647)
  | some (.inr (_, ts)) => if q.2 < 5000 then (match ts[q.2]? with
    | some (.inl (lo, hi)) => (lo, hi)
    | _ => (-2147483648, 2147483647)) else (-2147483648, 2147483647)
  | none => (-2147483648, 2147483647)
theorem rv_tb_ok {tm : List fm_C} {V : fm_V} {ls : Array Slot} {q : Nat × Nat} (hT : fm_Tm tm V) : (rv_tb tm q).1 ≤ rv_uv V ls (.inr q) ∧ rv_uv V ls (.inr q) ≤ (rv_tb tm q).2 := by
  have hr := rv_uv_rng V ls (.inr q)
  have hu : rv_uv V ls (.inr q) = (V q.1 (rv_ix ls q.2)).toInt := rfl
  unfold rv_tb
  cases ht : tm[q.1]? with
  | none => exact hr
  | some t =>
    cases t with
    | inl a =>
      obtain ⟨t, n, lo, hi⟩ := a
      dsimp only
      by_cases c : q.2 < n ∧ n ≤ 5000
      · rw [if_pos c, hu]
        have e : rv_ix ls q.2 = q.2 := by unfold rv_ix; rw [if_pos (by omega)]
        rw [e]
        exact hT.1 q.1 t n lo hi q.2 ht c.1
      · rw [if_neg c]
        exact hr
    | inr o =>
      obtain ⟨ci, ts⟩ := o
      dsimp only
      by_cases c : q.2 < 5000
      · rw [if_pos c]
        cases hk : ts[q.2]? with
        | none => exact hr
        | some r =>
          cases r with
          | inr j => exact hr
          | inl b =>
            obtain ⟨lo, hi⟩ := b
            dsimp only
            rw [hu]
            have e : rv_ix ls q.2 = q.2 := by unfold rv_ix; rw [if_pos c]
            rw [e]
            exact hT.2 q.1 ci ts q.2 lo hi ht hk
      · rw [if_neg c]
        exact hr
/-- a fact out of facts -/
def rv_leF (tm : List fm_C) (F : List rv_Fa) (g : rv_Fa) : Bool := match F.find? (fun f => decide (f.1 = g.1)) with
  | some f => (decide (g.2.1 ≤ f.2.1) || decide (g.2.1 ≤ (rv_tb tm g.1).1)) && (decide (f.2.2.1 ≤ g.2.2.1) || decide ((rv_tb tm g.1).2 ≤ g.2.2.1)) && g.2.2.2.all (fun r => f.2.2.2.any (fun s => decide (s.1 = r.1) && decide (r.2.1 ≤ s.2.1) && decide (s.2.2 ≤ r.2.2)))
  | none => decide (g.2.1 ≤ (rv_tb tm g.1).1) && decide ((rv_tb tm g.1).2 ≤ g.2.2.1) && g.2.2.2.isEmpty
theorem rv_leF_ok {tm : List fm_C} {V0 V : fm_V} {ls : Array Slot} {F : List rv_Fa} {g : rv_Fa} (hT : fm_Tm tm V) (hF : ∀ f ∈ F, rv_fok V0 V ls f) (h : rv_leF tm F g = true) : rv_fok V0 V ls g := by
  have ht := rv_tb_ok (ls := ls) (q := g.1) hT
  unfold rv_leF at h
  cases hf : F.find? (fun f => decide (f.1 = g.1)) with
  | none =>
    rw [hf] at h
    simp only [Bool.and_eq_true, decide_eq_true_eq, List.isEmpty_iff] at h
    refine ⟨⟨by omega, by omega⟩, fun r hr => ?_⟩
    rw [h.2] at hr
    cases hr
  | some f =>
    rw [hf] at h
    obtain ⟨g1, g2⟩ := rv_find hf
    have h3 := hF f g1
    unfold rv_fok at h3 ⊢
    rw [g2] at h3
    simp only [Bool.and_eq_true, Bool.or_eq_true, decide_eq_true_eq, List.all_eq_true, List.any_eq_true] at h
    obtain ⟨⟨h4, h5⟩, h6⟩ := h
    refine ⟨⟨by omega, by omega⟩, fun r hr => ?_⟩
    obtain ⟨s, s1, ⟨s2, s3⟩, s4⟩ := h6 r hr
    have h7 := h3.2 s s1
    rw [s2] at h7
    omega
def rv_le (tm : List fm_C) (G G' : rv_S) : Bool := rv_leL G.1 G'.1 && rv_leS G.2.1 G'.2.1 && G'.2.2.all (rv_leF tm G.2.2)
theorem rv_le_ok {tm : List fm_C} {ad : Nat → Nat} {V0 V : fm_V} {ls : Array Slot} {st : List Value} {G G' : rv_S} (hT : fm_Tm tm V) (h : rv_le tm G G' = true) (hG : rv_G ad V0 V ls st G) : rv_G ad V0 V ls st G' := by
  unfold rv_le at h
  simp only [Bool.and_eq_true, List.all_eq_true] at h
  obtain ⟨⟨h1, h2⟩, h3⟩ := h
  refine ⟨fun k b hb => ?_, rv_leS_ok h2 hG.2.1, fun g hg => rv_leF_ok hT hG.2.2 (h3 g hg)⟩
  have := rv_leL_ok (ad := ad) (ls := ls) 0 G.1 G'.1 h1 (fun k a hk => by rw [Nat.zero_add]; exact hG.1 k a hk) k b hb
  rw [Nat.zero_add] at this
  exact this
