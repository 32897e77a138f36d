/-! works and tells, by hand -/
def pz_F (M : List (Nat × Nat)) (V V' : fm_V) : Prop := fm_Tm fm_tm V' ∧ ∀ i f, rv_in M i f = false → V' i f = V i f
theorem pz_Fa {M : List (Nat × Nat)} {V0 V V2 : fm_V} {i k t n : Nat} {lo hi : Int} {x : Int32} (hF : pz_F M V0 V) (hV : V2 = fm_up V i k x) (hi0 : fm_tm[i]? = some (.inl (t, n, lo, hi))) (hr : lo ≤ x.toInt ∧ x.toInt ≤ hi) (hm : rv_in M i k = true) : pz_F M V0 V2 := by
  subst hV
  refine ⟨fm_Tm_a hF.1 hi0 hr.1 hr.2, fun a b hab => ?_⟩
  rw [fm_up_ne (fun q => by rw [q.1, q.2, hm] at hab; cases hab)]
  exact hF.2 a b hab
theorem pz_Fo {M : List (Nat × Nat)} {V0 V V2 : fm_V} {i k ci : Nat} {ts : List fm_F} {lo hi : Int} {x : Int32} (hF : pz_F M V0 V) (hV : V2 = fm_up V i k x) (hi0 : fm_tm[i]? = some (.inr (ci, ts))) (hk : ts[k]? = some (.inl (lo, hi))) (hr : lo ≤ x.toInt ∧ x.toInt ≤ hi) (hm : rv_in M i k = true) : pz_F M V0 V2 := by
  subst hV
  refine ⟨fm_Tm_o hF.1 hi0 hk hr.1 hr.2, fun a b hab => ?_⟩
  rw [fm_up_ne (fun q => by rw [q.1, q.2, hm] at hab; cases hab)]
  exact hF.2 a b hab
/-- places among places -/
def pz_sub (M M' : List (Nat × Nat)) : Bool := M.all (fun q => M'.any (fun p => decide (p.1 = q.1) && (decide (p.2 = q.2) || decide (p.2 = 9999))))
theorem pz_in {M M' : List (Nat × Nat)} (h : pz_sub M M' = true) {i f : Nat} (hf : rv_in M' i f = false) : rv_in M i f = false := by
  cases hb : rv_in M i f with
  | false => rfl
  | true =>
    simp only [rv_in, List.any_eq_true, Bool.and_eq_true, Bool.or_eq_true, decide_eq_true_eq] at hb
    obtain ⟨q, hq, e1, e2⟩ := hb
    have h4 := List.all_eq_true.mp h q hq
    simp only [List.any_eq_true, Bool.and_eq_true, Bool.or_eq_true, decide_eq_true_eq] at h4
    obtain ⟨p, hp, g1, g2⟩ := h4
    simp only [rv_in, List.any_eq_false, Bool.and_eq_true, Bool.or_eq_true, decide_eq_true_eq] at hf
    exact absurd ⟨by omega, by omega⟩ (hf p hp)
theorem pz_Ft {M M' : List (Nat × Nat)} {V0 V V2 : fm_V} (hF : pz_F M' V0 V) (h2 : pz_F M V V2) (hs : pz_sub M M' = true) : pz_F M' V0 V2 := ⟨h2.1, fun i f hf => (h2.2 i f (pz_in hs hf)).trans (hF.2 i f hf)⟩
theorem pz_Fr {M : List (Nat × Nat)} {V : fm_V} (h : fm_Tm fm_tm V) : pz_F M V V := ⟨h, fun _ _ _ => rfl⟩
theorem dp_mono {f : Nat → Int32} {a : Nat} : ∀ {n m : Nat}, m ≤ n → dp_ f a n ≠ none → dp_ f a m ≠ none := by
  intro n
  induction n with
  | zero => intro m hm h; rw [show m = 0 by omega]; exact h
  | succ n ih =>
    intro m hm h
    by_cases e : m = n + 1
    · rw [e]; exact h
    · refine ih (by omega) (fun z => h ?_)
      unfold dp_
      rw [z]
theorem dp_step {f : Nat → Int32} {a j dd : Nat} (h : dp_ f a j = some dd) (hn : dp_ f a (j + 1) ≠ none) : (2 < (f (a + j)).toInt → 2 ≤ dd ∧ dp_ f a (j + 1) = some (dd - 1)) ∧ ((f (a + j)).toInt = 2 → 1 ≤ dd ∧ dp_ f a (j + 1) = some dd) ∧ ((f (a + j)).toInt < 2 → dp_ f a (j + 1) = some (dd + 1)) := by
  unfold dp_ at hn ⊢
  rw [h] at hn ⊢
  dsimp only at hn ⊢
  refine ⟨fun c => ?_, fun c => ?_, fun c => ?_⟩
  · rw [if_pos c] at hn ⊢
    by_cases e : 2 ≤ dd
    · rw [if_pos e]; exact ⟨e, rfl⟩
    · rw [if_neg e] at hn; exact absurd rfl hn
  · rw [if_neg (by omega), if_pos c] at hn ⊢
    by_cases e : 1 ≤ dd
    · rw [if_pos e]; exact ⟨e, rfl⟩
    · rw [if_neg e] at hn; exact absurd rfl hn
  · rw [if_neg (by omega), if_neg (by omega)]
