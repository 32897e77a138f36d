/-! THE START: classes, texts, the world -/
theorem lw_K {s : State} {args : Array Value} (hT : ∀ w ∈ fm_Ts, w.before args s = true) : ∃ (D : va_G) (cy : Nat → ClassId), va_K D fm_cl (fm_tys cy) s := by
  obtain ⟨c0, i0, h0⟩ := u_known (C := RX0) (T := TX0) (N := 18) (n := 18) hT inX0 (hT _ (fm_t1 121 rfl rfl))
  obtain ⟨c1, i1, h1⟩ := u_known (C := RX1) (T := TX1) (N := 11) (n := 11) hT inX1 (hT _ (fm_t1 44 rfl rfl))
  obtain ⟨c2, i2, h2⟩ := u_known (C := RX2) (T := TX2) (N := 5) (n := 5) hT inX2 (hT _ (fm_t1 127 rfl rfl))
  obtain ⟨c3, i3, h3⟩ := u_known (C := RX3) (T := TX3) (N := 5) (n := 5) hT inX3 (hT _ (fm_t1 96 rfl rfl))
  obtain ⟨c4, i4, h4⟩ := u_known (C := RX4) (T := TX4) (N := 12) (n := 12) hT inX4 (hT _ (fm_mem 320 (by decide +kernel) rfl))
  obtain ⟨c5, i5, h5⟩ := u_known (C := RX5) (T := TX5) (N := 4) (n := 4) hT inX5 (hT _ (fm_t2 40 rfl rfl))
  obtain ⟨c6, i6, h6⟩ := u_known (C := RX6) (T := TX6) (N := 2) (n := 2) hT inX6 (hT _ (fm_t1 28 rfl rfl))
  obtain ⟨c7, i7, h7⟩ := u_known (C := RX7) (T := TX7) (N := 12) (n := 12) hT inX7 (hT _ (fm_t1 20 rfl rfl))
  obtain ⟨c8, i8, h8⟩ := u_known (C := RX8) (T := TX8) (N := 74) (n := 74) hT inX8 (hT _ (fm_t4 160 rfl rfl))
  obtain ⟨a0, k0, p0, f0, g0, e0⟩ := Cond.arrayClass_spec (hT _ wA_int)
  obtain ⟨a1, k1, p1, f1, g1, e1⟩ := Cond.arrayClass_spec (hT _ wA_byte)
  obtain ⟨a2, k2, p2, f2, g2, e2⟩ := Cond.arrayClass_spec (hT _ wA_boolean)
  refine ⟨(fun k => if k = 0 then c0 else if k = 1 then c1 else if k = 2 then c2 else if k = 3 then c3 else if k = 4 then c4 else if k = 5 then c5 else if k = 6 then c6 else if k = 7 then c7 else c8, fun k => if k = 0 then i0 else if k = 1 then i1 else if k = 2 then i2 else if k = 3 then i3 else if k = 4 then i4 else if k = 5 then i5 else if k = 6 then i6 else if k = 7 then i7 else i8), fun k => if k = 0 then a0 else if k = 1 then a1 else a2, fun k q hq => ?_, fun k q hq => ?_⟩
  · match k, hq with
    | 0, hq => cases hq; exact h0
    | 1, hq => cases hq; exact h1
    | 2, hq => cases hq; exact h2
    | 3, hq => cases hq; exact h3
    | 4, hq => cases hq; exact h4
    | 5, hq => cases hq; exact h5
    | 6, hq => cases hq; exact h6
    | 7, hq => cases hq; exact h7
    | 8, hq => cases hq; exact h8
    | k + 9, hq => simp [fm_cl] at hq
  · match k, hq with
    | 0, hq => cases hq; exact ⟨fun n z => ⟨fun k h => (by cases h), k0, g0, p0, e0⟩, f0⟩
    | 1, hq => cases hq; exact ⟨fun n z => ⟨fun k h => (by cases h), k1, g1, p1, e1⟩, f1⟩
    | 2, hq => cases hq; exact ⟨fun n z => ⟨fun k h => (by cases h), k2, g2, p2, e2⟩, f2⟩
    | k + 3, hq => simp [fm_tys] at hq
theorem lw_Zof {s : State} {args : Array Value} (hts : ∀ w ∈ lw_tbl, w.before args s = true) (hgv : (Jvm.Cond.and given_1 narrow_1).before args s = true) {A : Nat → Prop} (hA : ∀ a, a < s.heap.size → ¬ A a) : ∃ adK adV, sk_Z A adK adV s s.heap := by
  have hq := flat_of_before _ hgv
  have hz : va_Z "java/lang/String" "COMPACT_STRINGS" "Z" (.int 1) A s s.heap := va_Zof (hts (.laysStatic "java/lang/String" "COMPACT_STRINGS" "Z") (List.mem_of_getElem? (i := 499) (by decide +kernel))) (hts (.initialized "java/lang/String") (List.mem_of_getElem? (i := 96) (by decide +kernel))) (va_eqi (hq (Jvm.Cond.eq (.static "java/lang/String" "COMPACT_STRINGS" "Z") (.int 1)) (by decide +kernel))) hA
  have e1 : ∀ i : Nat, i < 2 → (Jvm.Cond.exactly (if i = 0 then .string "DustMint$Reader" 56 else .string "DustMint$Reader" 131) "java/lang/String").before args s = true := fun i hi => by
    match i, hi with
    | 0, _ => exact hq _ (by decide +kernel)
    | 1, _ => exact hq _ (by decide +kernel)
  have e2 : ∀ i : Nat, i < 2 → (Jvm.Cond.eq (.field (if i = 0 then .string "DustMint$Reader" 56 else .string "DustMint$Reader" 131) "java/lang/String" "coder" "B") (.int 0)).before args s = true := fun i hi => by
    match i, hi with
    | 0, _ => exact hq _ (by decide +kernel)
    | 1, _ => exact hq _ (by decide +kernel)
  have e3 : ∀ i : Nat, i < 2 → (Jvm.Cond.arrayOf (.field (if i = 0 then .string "DustMint$Reader" 56 else .string "DustMint$Reader" 131) "java/lang/String" "value" "[B") .byte).before args s = true := fun i hi => by
    match i, hi with
    | 0, _ => exact hq _ (by decide +kernel)
    | 1, _ => exact hq _ (by decide +kernel)
  have e4 : ∀ i : Nat, i < 2 → (Jvm.Cond.eq (.length (.field (if i = 0 then .string "DustMint$Reader" 56 else .string "DustMint$Reader" 131) "java/lang/String" "value" "[B")) (.int (Int32.ofNat (sk_len.getD i 0)))).before args s = true := fun i hi => by
    match i, hi with
    | 0, _ => exact hq _ (by decide +kernel)
    | 1, _ => exact hq _ (by decide +kernel)
  have e5 : ∀ i : Nat, i < 2 → ∀ j : Nat, j < sk_len.getD i 0 → (Jvm.Cond.eq (.elem (.field (if i = 0 then .string "DustMint$Reader" 56 else .string "DustMint$Reader" 131) "java/lang/String" "value" "[B") (.int (Int32.ofNat j))) (.int ((sk_byt.getD i []).getD j 0))).before args s = true := fun i hi j hj => by
    match i, hi with
    | 0, _ =>
      match j, hj with
      | 0, _ => exact hq _ (by decide +kernel)
      | 1, _ => exact hq _ (by decide +kernel)
      | 2, _ => exact hq _ (by decide +kernel)
      | 3, _ => exact hq _ (by decide +kernel)
    | 1, _ =>
      match j, hj with
      | 0, _ => exact hq _ (by decide +kernel)
      | 1, _ => exact hq _ (by decide +kernel)
      | 2, _ => exact hq _ (by decide +kernel)
      | 3, _ => exact hq _ (by decide +kernel)
      | 4, _ => exact hq _ (by decide +kernel)
      | 5, _ => exact hq _ (by decide +kernel)
      | 6, _ => exact hq _ (by decide +kernel)
      | 7, _ => exact hq _ (by decide +kernel)
      | 8, _ => exact hq _ (by decide +kernel)
      | 9, _ => exact hq _ (by decide +kernel)
      | 10, _ => exact hq _ (by decide +kernel)
      | 11, _ => exact hq _ (by decide +kernel)
      | 12, _ => exact hq _ (by decide +kernel)
  have e6 : ∀ i j : Nat, i < 2 → j < 2 → i ≠ j → (Jvm.Cond.not (Jvm.Cond.eq (if i = 0 then .string "DustMint$Reader" 56 else .string "DustMint$Reader" 131) (if j = 0 then .string "DustMint$Reader" 56 else .string "DustMint$Reader" 131))).before args s = true ∨ (Jvm.Cond.not (Jvm.Cond.eq (if j = 0 then .string "DustMint$Reader" 56 else .string "DustMint$Reader" 131) (if i = 0 then .string "DustMint$Reader" 56 else .string "DustMint$Reader" 131))).before args s = true := fun i j hi hj hij => by
    match i, hi, j, hj with
    | 0, _, 0, _ => exact absurd rfl hij
    | 0, _, 1, _ => exact Or.inl (hq _ (by decide +kernel))
    | 1, _, 0, _ => exact Or.inr (hq _ (by decide +kernel))
    | 1, _, 1, _ => exact absurd rfl hij
  obtain ⟨adK, adV, hS, hR⟩ := vk_Sof (args := args) (s := s) (N := 2) (tm := fun i => if i = 0 then .string "DustMint$Reader" 56 else .string "DustMint$Reader" 131) (len := sk_len) (byt := sk_byt) (A := A) (fun i hi => by have := sk_len_le hi; omega) e1 e2 e3 e4 e5 e6 hA
  exact ⟨adK, adV, hz, hS, vk_R.of (hts (.stringRef "DustMint$Reader" 56 "lmks") (List.mem_of_getElem? (i := 485) (by decide +kernel))) (hR 0 (by decide)), vk_R.of (hts (.stringRef "DustMint$Reader" 131 "ydwcrtpgiznbq") (List.mem_of_getElem? (i := 607) (by decide +kernel))) (hR 1 (by decide))⟩
theorem lw_N {s : State} {args : Array Value} (hts : ∀ w ∈ lw_tbl, w.before args s = true) : fm_Nw fm_nt s := by
  have h : ∀ q ∈ fm_nt, Jvm.Cond.methodLinkNest q.1 q.2.1 q.2.2.1 q.2.2.2 ∈ lw_tbl := List.forall_mem_cons.mpr ⟨(List.mem_of_getElem? (i := 114) (by decide +kernel)), List.forall_mem_cons.mpr ⟨(List.mem_of_getElem? (i := 130) (by decide +kernel)), List.forall_mem_cons.mpr ⟨(List.mem_of_getElem? (i := 187) (by decide +kernel)), List.forall_mem_cons.mpr ⟨(List.mem_of_getElem? (i := 213) (by decide +kernel)), List.forall_mem_cons.mpr ⟨(List.mem_of_getElem? (i := 366) (by decide +kernel)), List.forall_mem_cons.mpr ⟨(List.mem_of_getElem? (i := 661) (by decide +kernel)), List.forall_mem_cons.mpr ⟨(List.mem_of_getElem? (i := 666) (by decide +kernel)), List.forall_mem_cons.mpr ⟨(List.mem_of_getElem? (i := 675) (by decide +kernel)), List.forall_mem_cons.mpr ⟨(List.mem_of_getElem? (i := 720) (by decide +kernel)), List.forall_mem_cons.mpr ⟨(List.mem_of_getElem? (i := 788) (by decide +kernel)), List.forall_mem_cons.mpr ⟨(List.mem_of_getElem? (i := 791) (by decide +kernel)), List.forall_mem_cons.mpr ⟨(List.mem_of_getElem? (i := 841) (by decide +kernel)), fun _ h => absurd h List.not_mem_nil⟩⟩⟩⟩⟩⟩⟩⟩⟩⟩⟩⟩
  exact fun q hq => va_Nw.of rfl (hts _ (h q hq))
def lw_ad (a b : Nat) (u v : (Nat → Nat) × (Nat → Nat → Int32)) : Nat → Nat := fun i => if i = 0 then a else if i < 80 then u.1 i else if i = 80 then b else v.1 i
def lw_V0 (u v : (Nat → Nat) × (Nat → Nat → Int32)) : fm_V := fun i => if i = 30 then u.2 30 else if i = 45 then u.2 45 else if i = 60 then u.2 60 else if i = 85 then v.2 85 else if i = 26 then (fun k => if k = 10 then 1 else if k = 14 then 1 else if k = 15 then 6 else 0) else if i = 41 then (fun k => if k = 10 then 1 else if k = 14 then 1 else if k = 15 then 6 else 0) else if i = 56 then (fun k => if k = 10 then 1 else if k = 14 then 1 else if k = 15 then 6 else 0) else if i = 80 then (fun k => if k = 3 then 1 else 0) else fun _ => 0
set_option maxRecDepth 20000 in
set_option maxHeartbeats 4000000 in
theorem lw_conv {D : va_G} {cy : Nat → ClassId} {A : Nat → Prop} {a b : Nat} {u v : (Nat → Nat) × (Nat → Nat → Int32)} {H : Heap} (hP : va_P D fm_cl (([] ++ cw_X7 cy a u) ++ cw_X8 cy b v) H) (hD : va_D A (([] ++ cw_X7 cy a u) ++ cw_X8 cy b v)) : va_P D fm_cl (fm_ws fm_tm (lw_ad a b u v) cy (lw_V0 u v)) H ∧ va_D A (fm_ws fm_tm (lw_ad a b u v) cy (lw_V0 u v)) := ⟨hP.sub [0, 78, 79, 1, 2, 3, 4, 5, 6, 7, 8, 9, 10, 11, 12, 13, 14, 15, 16, 17, 18, 19, 20, 21, 22, 23, 24, 25, 26, 27, 28, 29, 30, 36, 37, 38, 31, 32, 33, 34, 35, 39, 40, 41, 42, 43, 44, 45, 51, 52, 53, 46, 47, 48, 49, 50, 54, 55, 56, 57, 58, 59, 60, 66, 67, 68, 61, 62, 63, 64, 65, 69, 70, 71, 72, 73, 74, 75, 76, 77, 80, 81, 82, 83, 84, 85, 86, 87, 88, 89, 90, 91, 92, 93, 94, 95, 96, 97, 98, 99, 100, 101, 102, 103, 104, 105, 106, 107, 108, 109, 110, 111, 112, 113, 114, 115, 116, 117, 118, 119, 120, 121, 122, 123, 124, 125, 126, 127, 128, 129, 130] rfl, hD.sub [0, 78, 79, 1, 2, 3, 4, 5, 6, 7, 8, 9, 10, 11, 12, 13, 14, 15, 16, 17, 18, 19, 20, 21, 22, 23, 24, 25, 26, 27, 28, 29, 30, 36, 37, 38, 31, 32, 33, 34, 35, 39, 40, 41, 42, 43, 44, 45, 51, 52, 53, 46, 47, 48, 49, 50, 54, 55, 56, 57, 58, 59, 60, 66, 67, 68, 61, 62, 63, 64, 65, 69, 70, 71, 72, 73, 74, 75, 76, 77, 80, 81, 82, 83, 84, 85, 86, 87, 88, 89, 90, 91, 92, 93, 94, 95, 96, 97, 98, 99, 100, 101, 102, 103, 104, 105, 106, 107, 108, 109, 110, 111, 112, 113, 114, 115, 116, 117, 118, 119, 120, 121, 122, 123, 124, 125, 126, 127, 128, 129, 130] (by decide +kernel) rfl⟩
theorem lw_Ad {A : Nat → Prop} {tm : List fm_C} {ad : Nat → Nat} {cy : Nat → ClassId} {V : fm_V} (hD : va_D A (fm_ws tm ad cy V)) : fm_Ad tm ad ∧ ∀ q, fm_A tm ad q → A q := by
  refine ⟨fun i j hi hj e => ?_, fun q hq => ?_⟩
  · exact hD.1 i j _ _ (fm_ws_get (List.getElem?_eq_getElem hi)) (fm_ws_get (List.getElem?_eq_getElem hj)) e
  · obtain ⟨i, hi, rfl⟩ := hq
    exact hD.2 i _ (fm_ws_get (List.getElem?_eq_getElem hi))
def lw_ok0 (c : fm_C) : Bool := match c with
  | .inl a => decide (a.2.2.1 ≤ 0 ∧ 0 ≤ a.2.2.2)
  | .inr o => o.2.all (fun f => match f with
    | .inl r => decide (r.1 ≤ 0 ∧ 0 ≤ r.2)
    | .inr _ => true)
theorem lw_all0 : fm_tm.all lw_ok0 = true := by decide +kernel
theorem lw_0a {i t n : Nat} {lo hi : Int} (h : fm_tm[i]? = some (.inl (t, n, lo, hi))) : lo ≤ 0 ∧ 0 ≤ hi := by
  have := List.all_eq_true.mp lw_all0 _ (List.mem_of_getElem? h)
  simpa [lw_ok0] using this
theorem lw_0o {i ci k : Nat} {ts : List fm_F} {lo hi : Int} (h : fm_tm[i]? = some (.inr (ci, ts))) (hk : ts[k]? = some (.inl (lo, hi))) : lo ≤ 0 ∧ 0 ≤ hi := by
  have h1 := List.all_eq_true.mp lw_all0 _ (List.mem_of_getElem? h)
  have h2 := List.all_eq_true.mp (show ts.all _ = true from h1) _ (List.mem_of_getElem? hk)
  simpa using h2
theorem lw_T0 {u v : (Nat → Nat) × (Nat → Nat → Int32)} (h85 : ∀ j, 0 ≤ (v.2 85 j).toInt ∧ (v.2 85 j).toInt ≤ 6) : fm_Tm fm_tm (lw_V0 u v) := by
  refine ⟨fun i t n lo hi j hc hj => ?_, fun i ci ts k lo hi hc hk => ?_⟩
  · have h0 := lw_0a hc
    unfold lw_V0
    by_cases h30 : i = 30
    · subst h30
      cases hc
      exact zi_rng _
    rw [if_neg h30]
    by_cases h45 : i = 45
    · subst h45
      cases hc
      exact zi_rng _
    rw [if_neg h45]
    by_cases h60 : i = 60
    · subst h60
      cases hc
      exact zi_rng _
    rw [if_neg h60]
    by_cases h85 : i = 85
    · subst h85
      cases hc
      exact h85 j
    rw [if_neg h85]
    by_cases h26 : i = 26
    · subst h26
      cases hc
    rw [if_neg h26]
    by_cases h41 : i = 41
    · subst h41
      cases hc
    rw [if_neg h41]
    by_cases h56 : i = 56
    · subst h56
      cases hc
    rw [if_neg h56]
    by_cases h80 : i = 80
    · subst h80
      cases hc
    rw [if_neg h80]
    exact h0
  · have h0 := lw_0o hc hk
    unfold lw_V0
    by_cases h30 : i = 30
    · subst h30
      cases hc
    rw [if_neg h30]
    by_cases h45 : i = 45
    · subst h45
      cases hc
    rw [if_neg h45]
    by_cases h60 : i = 60
    · subst h60
      cases hc
    rw [if_neg h60]
    by_cases h85 : i = 85
    · subst h85
      cases hc
    rw [if_neg h85]
    by_cases h26 : i = 26
    · subst h26
      cases hc
      rw [if_pos rfl]
      by_cases k10 : k = 10
      · subst k10
        cases hk
        decide
      rw [if_neg k10]
      by_cases k14 : k = 14
      · subst k14
        cases hk
        decide
      rw [if_neg k14]
      by_cases k15 : k = 15
      · subst k15
        cases hk
        decide
      rw [if_neg k15]
      exact h0
    rw [if_neg h26]
    by_cases h41 : i = 41
    · subst h41
      cases hc
      rw [if_pos rfl]
      by_cases k10 : k = 10
      · subst k10
        cases hk
        decide
      rw [if_neg k10]
      by_cases k14 : k = 14
      · subst k14
        cases hk
        decide
      rw [if_neg k14]
      by_cases k15 : k = 15
      · subst k15
        cases hk
        decide
      rw [if_neg k15]
      exact h0
    rw [if_neg h41]
    by_cases h56 : i = 56
    · subst h56
      cases hc
      rw [if_pos rfl]
      by_cases k10 : k = 10
      · subst k10
        cases hk
        decide
      rw [if_neg k10]
      by_cases k14 : k = 14
      · subst k14
        cases hk
        decide
      rw [if_neg k14]
      by_cases k15 : k = 15
      · subst k15
        cases hk
        decide
      rw [if_neg k15]
      exact h0
    rw [if_neg h56]
    by_cases h80 : i = 80
    · subst h80
      cases hc
      rw [if_pos rfl]
      by_cases k3 : k = 3
      · subst k3
        cases hk
        decide
      rw [if_neg k3]
      exact h0
    rw [if_neg h80]
    exact h0

theorem lw_I0 {u v : (Nat → Nat) × (Nat → Nat → Int32)} (h85 : ∀ j, 0 ≤ (v.2 85 j).toInt ∧ (v.2 85 j).toInt ≤ 6) : lw_I 0 (lw_V0 u v) := by
  have e1 : lw_V0 u v 80 20 = 0 := rfl
  have e2 : lw_V0 u v 80 2 = 0 := rfl
  have e3 : lw_V0 u v 125 5 = 0 := rfl
  refine ⟨lw_T0 h85, ⟨by rw [e1]; decide, by rw [e1]; decide, fun k hk => ?_⟩, by rw [e2]; decide, by rw [e3]; decide, rfl, rfl, rfl⟩
  rw [e1, zi_0] at hk
  omega
