/-! THE CHECK IS RIGHT -/
section FIN
variable {p : Program} {l : Launch} {e : Env} {R : Room} {s : State} {m : MethodId} {args : Array Value} {below : List Frame} {meth : Method} {c : Code} {cc : ByteArray} {own : String} {D : va_G} {cl : List vw_C} {tm : List fm_C} {ad : Nat → Nat} {cy : Nat → ClassId} {Ts : List Jvm.Cond} {nL : Nat} {nt : fm_Nt} {Z : State → Heap → Prop}
variable {pc : Nat} {ls : Array Slot} {st : List Value} {V0 V : fm_V} {fl wr : List (Nat × Nat × Nat)} {kc kl : List (Nat × Int)} {M : List (Nat × Nat)} {P : List Nat} {avs : List Value} {Gp : fm_V → Prop} {K : rv_K}
theorem rv_any_mem {P : List Nat} {j : Nat} (h : P.any (fun i => decide (i = j)) = true) : j ∈ P := by
  simp only [List.any_eq_true, decide_eq_true_eq] at h
  obtain ⟨x, x1, x2⟩ := h
  rw [← x2]
  exact x1
theorem rv_rc_ok {G : rv_S} {q : rv_U × Int × Int} (ha : rv_sk (rv_ok ad V0 #[]) (K.1.map rv_bare) avs) (hI : rv_I tm M P nL V0 avs V ls) (hG : rv_G ad V0 V ls st G) (h : rv_rc tm K P G q = true) : q.2.1 ≤ rv_ua V avs q.1 ∧ rv_ua V avs q.1 ≤ q.2.2 := by
  have arg : ∀ j k, j ∈ P → K.1[j]? = some k → k.1 = 1 → ∃ y : Int32, avs[j]? = some (.int y) ∧ ls[j]? = some (.val (.int y)) := by
    intro j k hj hk h1
    obtain ⟨v, v1, v2⟩ := rv_sk_get ha (j := j) (a := rv_bare k) (by rw [List.getElem?_map, hk]; rfl)
    obtain ⟨y, rfl, -⟩ := rv_okI (show (rv_bare k).1 = 1 from h1) v2
    exact ⟨y, v1, hI.2.2.2.2 j hj _ v1 rfl⟩
  obtain ⟨u, lo, hi⟩ := q
  cases u with
  | inl j =>
    unfold rv_rc at h
    simp only [Bool.and_eq_true] at h
    obtain ⟨h1, h2⟩ := h
    cases hk : K.1[j]? with
    | none => rw [hk] at h2; cases h2
    | some k =>
      cases hg : G.1[j]? with
      | none => rw [hk, hg] at h2; cases h2
      | some a =>
        rw [hk, hg] at h2
        simp only [Bool.and_eq_true, decide_eq_true_eq] at h2
        obtain ⟨⟨⟨h3, h4⟩, h5⟩, h6⟩ := h2
        obtain ⟨y, y1, y2⟩ := arg j k (rv_any_mem h1) hk h3
        have h7 := hG.1 j a hg
        unfold rv_lok at h7
        rw [if_pos h4] at h7
        obtain ⟨z, z1, z2, z3, -⟩ := h7
        rw [y2] at z1
        cases z1
        have e : rv_ua V avs (.inl j) = y.toInt := by
          show rv_av avs j = y.toInt
          unfold rv_av
          rw [y1]
        dsimp only
        rw [e]
        omega
  | inr w =>
    unfold rv_rc at h
    simp only [Bool.and_eq_true, Bool.or_eq_true, decide_eq_true_eq] at h
    obtain ⟨h1, h2⟩ := h
    have h3 := (rv_leF_ok hI.1 hG.2.2 h2).1
    dsimp only at h3 ⊢
    have e : rv_ua V avs (.inr w) = rv_uv V ls (.inr w) := by
      show (V w.1 (if w.2 < 5000 then w.2 else (rv_av avs (w.2 - 5000)).toNat)).toInt = (V w.1 (rv_ix ls w.2)).toInt
      unfold rv_ix
      by_cases c5 : w.2 < 5000
      · rw [if_pos c5, if_pos c5]
      · rw [if_neg c5, if_neg c5]
        rcases h1 with h1 | ⟨h1, h4⟩
        · exact absurd h1 c5
        · cases hk : K.1[w.2 - 5000]? with
          | none => rw [hk] at h4; cases h4
          | some k =>
            rw [hk] at h4
            obtain ⟨y, y1, y2⟩ := arg _ k (rv_any_mem h1) hk (of_decide_eq_true h4)
            rw [rv_lx_at y2]
            unfold rv_av
            rw [y1]
    rw [e]
    exact h3
theorem rv_pk_ok {G : rv_S} (hT : fm_Tm tm V) (hG : rv_G ad V0 V ls st G) (h : rv_pk tm K G = true) : ∀ f ∈ K.2.2.2.2.2, rv_pok V0 V f := by
  intro f hf
  have h1 := List.all_eq_true.mp h f hf
  simp only [Bool.and_eq_true, decide_eq_true_eq] at h1
  have h2 := rv_leF_ok hT hG.2.2 h1.2
  have e : rv_uv V ls (.inr f.1) = (V f.1.1 f.1.2).toInt := by
    show (V f.1.1 (rv_ix ls f.1.2)).toInt = _
    have : rv_ix ls f.1.2 = f.1.2 := by unfold rv_ix; rw [if_pos h1.1]
    rw [this]
  unfold rv_fok at h2
  rw [e] at h2
  exact h2
theorem rv_rI_ok {G : rv_S} (hKM : M = K.2.2.1) (ha : rv_sk (rv_ok ad V0 #[]) (K.1.map rv_bare) avs) (hI : rv_I tm M P nL V0 avs V ls) (hG : rv_G ad V0 V ls st G) (h : rv_rI tm K P G = true) : ∃ x : Int32, st = [.int x] ∧ rv_Post tm K V0 avs (some (.int x)) V ∧ ∃ q qs, K.2.2.2.1 = q :: qs ∧ q.2.1 ≤ x.toInt ∧ x.toInt ≤ q.2.2 := by
  unfold rv_rI at h
  match hs : G.2.1, hk : K.2.2.2.1, h with
  | [a], q :: qs, h =>
    simp only [Bool.and_eq_true, Bool.or_eq_true, decide_eq_true_eq, List.all_eq_true] at h
    obtain ⟨⟨⟨⟨⟨h1, h2⟩, h3⟩, h4⟩, h5⟩, h6⟩ := h
    have hS := hG.2.1
    rw [hs] at hS
    obtain ⟨v, vs, rfl, g1, g2⟩ := rv_sk_cons hS
    rw [rv_sk_nil g2]
    obtain ⟨x, rfl, x1, x2, x3, x4, x5⟩ := rv_okI h1 g1
    refine ⟨x, rfl, ⟨hI.1, by rw [← hKM]; exact hI.2.1, ?_, rv_pk_ok hI.1 hG h6⟩, q, qs, rfl, by omega, by omega⟩
    unfold rv_Res
    rw [hk]
    refine ⟨x, rfl, by omega, by omega, fun hq => ?_, fun hx cs hc => ?_⟩
    · rcases h4 with ((h4 | h4) | h4) | h4
      · exact absurd hq h4
      · exact x3 h4
      · omega
      · omega
    · rcases h5 with h5 | h5
      · omega
      · exact rv_rc_ok (st := []) ha hI (rv_rfC_ok (x5 hx) (show rv_G ad V0 V ls [] (G.1, [], G.2.2) from ⟨hG.1, trivial, hG.2.2⟩)) (h5 cs hc)
  | [], [], h => cases h
  | [], _ :: _, h => cases h
  | [_], [], h => cases h
  | _ :: _ :: _, [], h => cases h
  | _ :: _ :: _, _ :: _, h => cases h
theorem rv_rV_ok {G : rv_S} (hKM : M = K.2.2.1) (hI : rv_I tm M P nL V0 avs V ls) (hG : rv_G ad V0 V ls st G) (h : rv_rV tm K G = true) : st = [] ∧ rv_Post tm K V0 avs none V ∧ K.2.2.2.1 = [] := by
  unfold rv_rV at h
  match hs : G.2.1, hk : K.2.2.2.1, h with
  | [], [], h =>
    have hS := hG.2.1
    rw [hs] at hS
    refine ⟨rv_sk_nil hS, ⟨hI.1, by rw [← hKM]; exact hI.2.1, ?_, rv_pk_ok hI.1 hG h⟩, rfl⟩
    unfold rv_Res
    rw [hk]
  | [], _ :: _, h => cases h
  | _ :: _, [], h => cases h
  | _ :: _, _ :: _, h => cases h
/-- the answer's type -/
def rv_rt (K : rv_K) (ret : Option FieldType) : Prop := match K.2.2.2.1 with
  | [] => ret = none
  | q :: _ => ret = some .int ∨ (ret = some .boolean ∧ 0 ≤ q.2.1 ∧ q.2.2 ≤ 1)
theorem rv_sound {ct : List (Nat × rv_K)} {cd : List (Nat × Instr × Nat)} {nodes : List rv_N} {xs : List Nat} {ret : Option FieldType} (X : fm_X p s m args c cc own D cl tm ad cy (fm_A tm ad) Ts nL) (Y : fm_Y s nt Z tm ad (fm_A tm ad)) (hE : rv_Ev cl Ts own fl wr kc kl) (hdec : ∀ q ∈ cd, decode cc q.1 = .ok (q.2.1, q.2.2)) (hall : rv_all (tm, fl, wr, kc, kl, M, P, nL) ct cd nodes K xs 0 nodes = true) (hKM : M = K.2.2.1) (ha : rv_sk (rv_ok ad V0 #[]) (K.1.map rv_bare) avs)
    (hGp : ∀ V', (∀ i f, rv_in M i f = false → V' i f = V0 i f) → Gp V') (hr : meth.sig.returnType = ret) (hrt : rv_rt K ret) (hlocks : meth.locks = false)
    (hcalls : ∀ t ∈ ct, ∀ q, cd[t.1]? = some q → rv_Call p l e R s m args below meth c (MQ below (rv_Qc D cl tm ad cy nt Z (rv_Post tm K V0 avs)) args s 0 0 (fm_A tm ad)) D cl tm ad cy (fm_A tm ad) Gp nL q.1 t.2)
    (hext : ∀ id ∈ xs, ∀ n, nodes[id]? = some n → ∀ q, cd[n.1]? = some q → ∀ V ls st, rv_I tm M P nL V0 avs V ls → rv_G ad V0 V ls st n.2.1 → (∀ (id' : Nat) (n' : rv_N) (q' : Nat × Instr × Nat), nodes[id']? = some n' → cd[n'.1]? = some q' → ∀ V' ls' st', rv_I tm M P nL V0 avs V' ls' → rv_G ad V0 V' ls' st' n'.2.1 → (n'.2.2.2.1 + rv_ev ls' n'.2.2.2.2.1 + 1).toNat < (n.2.2.2.1 + rv_ev ls n.2.2.2.2.1 + 1).toNat → fm_W p l e R s m args below meth c (MQ below (rv_Qc D cl tm ad cy nt Z (rv_Post tm K V0 avs)) args s 0 0 (fm_A tm ad)) D cl tm ad cy (fm_A tm ad) V' q'.1 ls' st') → fm_W p l e R s m args below meth c (MQ below (rv_Qc D cl tm ad cy nt Z (rv_Post tm K V0 avs)) args s 0 0 (fm_A tm ad)) D cl tm ad cy (fm_A tm ad) V q.1 ls st) :
    ∀ (N id : Nat) (n : rv_N) (q : Nat × Instr × Nat), nodes[id]? = some n → cd[n.1]? = some q → ∀ V ls st, rv_I tm M P nL V0 avs V ls → rv_G ad V0 V ls st n.2.1 → (n.2.2.2.1 + rv_ev ls n.2.2.2.2.1 + 1).toNat < N → fm_W p l e R s m args below meth c (MQ below (rv_Qc D cl tm ad cy nt Z (rv_Post tm K V0 avs)) args s 0 0 (fm_A tm ad)) D cl tm ad cy (fm_A tm ad) V q.1 ls st := by
  obtain ⟨hx, hb, hown, hts, hKk, hD, hml⟩ := id X
  obtain ⟨hZ, hAA, hA, hN, hZ0⟩ := id Y
  intro N
  induction N with
  | zero => intro id n q _ _ V ls st _ _ h; omega
  | succ N ih =>
    intro id n q hn hq V ls st hI hG hrk
    rcases rv_all_ok hall hn with hxs | hchk
    · rw [Nat.zero_add] at hxs
      exact hext id hxs n hn q hq V ls st hI hG (fun id' n' q' hn' hq' V' ls' st' hI' hG' hlt => ih id' n' q' hn' hq' V' ls' st' hI' hG' (by omega))
    · unfold rv_chk at hchk
      rw [hq] at hchk
      simp only [Bool.and_eq_true, decide_eq_true_eq] at hchk
      obtain ⟨h0, hchk⟩ := hchk
      have hmi := rv_mi_ok hG.1 n.2.2.2.2.1
      have hdq := hdec q (List.mem_of_getElem? hq)
      obtain ⟨pcq, ins, len⟩ := q
      dsimp only at hchk hdq ⊢
      split at hchk
      · obtain ⟨x, rfl, hpo, q0, qs, hk, b1, b2⟩ := rv_rI_ok hKM ha hI hG hchk
        intro H locs hP hS
        unfold rv_rt at hrt
        rw [hk] at hrt
        rcases hrt with hrt | ⟨hrt, c1, c2⟩
        · exact W.iret (v := x) hx hb (by rw [hr, hrt]) (fun t ht hW => ⟨⟨_, V, rfl, hpo, fm_Wd_of hZ hAA hKk hN hZ0 hP hS ht hW⟩, hS.F ht⟩) hS.2.2 hdq hlocks
        · exact W.zret (v := x) (ty := .boolean) hx hb (by rw [hr, hrt]) (by rcases zi_bit (x := x) (by omega) (by omega) with rfl | rfl <;> rfl) (fun t ht hW => ⟨⟨_, V, rfl, hpo, fm_Wd_of hZ hAA hKk hN hZ0 hP hS ht hW⟩, hS.F ht⟩) hS.2.2 hdq hlocks
      · obtain ⟨rfl, hpo, hk⟩ := rv_rV_ok hKM hI hG hchk
        intro H locs hP hS
        unfold rv_rt at hrt
        rw [hk] at hrt
        exact W.vret hx hb (by rw [hr]; exact hrt) (fun t ht hW => ⟨⟨_, V, rfl, hpo, fm_Wd_of hZ hAA hKk hN hZ0 hP hS ht hW⟩, hS.F ht⟩) hS.2.2 hdq hlocks
      · cases ht : rv_tr (tm, fl, wr, kc, kl, M, P, nL) pcq ins len n.2.1 (rv_kx ct n.1 n.2.2.2.2.2) with
        | none => rw [ht] at hchk; cases hchk
        | some outs =>
          rw [ht] at hchk
          dsimp only at hchk
          refine rv_step X hE hdq ht hI hG hGp (fun K' hK' => by
            obtain ⟨t, t1, t2, t3⟩ := rv_kx_mem hK'
            have := hcalls t t1 _ (by rw [t2]; exact hq)
            rw [t3] at this
            exact this) (fun o ho V' ls' st' hI' hG' hRl => ?_)
          have h1 := List.all_eq_true.mp hchk o ho
          simp only [List.any_eq_true] at h1
          obtain ⟨id', -, h2⟩ := h1
          unfold rv_edge at h2
          cases hn' : nodes[id']? with
          | none => rw [hn'] at h2; cases h2
          | some n' =>
            rw [hn'] at h2
            dsimp only at h2
            cases hq' : cd[n'.1]? with
            | none => rw [hq'] at h2; cases h2
            | some q' =>
              rw [hq'] at h2
              simp only [Bool.and_eq_true, decide_eq_true_eq] at h2
              obtain ⟨⟨e1, e2⟩, e3⟩ := h2
              have hpr := rv_pr_ok hG.1 hRl n.2.2.2.2.1
              have hm2 := rv_mi_ok hG'.1 (rv_sb (rv_pr (rv_tch ins n.2.1) n.2.1.1 n.2.2.2.2.1).2 n'.2.2.2.2.1)
              rw [rv_sb_ok] at hm2
              have := ih id' n' q' hn' hq' V' ls' st' hI' (rv_le_ok hI'.1 e2 hG') (by omega)
              rw [e1] at this
              exact this
/-- locals at the start: all of one slot -/
theorem rv_ent {n : Nat} : ∀ (vs : List Value) (i : Nat), (∀ v ∈ vs, v.category = 1) → ∀ (j : Nat) (v : Value), vs[j]? = some v → (i + j, v) ∈ lv_args i vs := by
  intro vs
  induction vs with
  | nil => intro i _ j v h; simp at h
  | cons w vs ih =>
    intro i hc j v h
    have hw := hc w List.mem_cons_self
    unfold lv_args
    rw [if_neg (by omega)]
    cases j with
    | zero =>
      simp only [List.getElem?_cons_zero, Option.some.injEq] at h
      subst h
      exact List.mem_cons_self
    | succ j =>
      have := ih (i + 1) (fun v hv => hc v (List.mem_cons_of_mem _ hv)) j v (by simpa using h)
      rw [show i + (j + 1) = i + 1 + j by omega]
      exact List.mem_cons_of_mem _ this
theorem rv_slen : ∀ (vs : List Value), (∀ v ∈ vs, v.category = 1) → (lg_sl vs).length = vs.length := by
  intro vs
  induction vs with
  | nil => intro _; rfl
  | cons w vs ih =>
    intro hc
    have h1 := ih (fun v hv => hc v (List.mem_cons_of_mem _ hv))
    have hw := hc w List.mem_cons_self
    unfold lg_sl at h1 ⊢
    rw [List.flatMap_cons, if_neg (by omega)]
    simp [h1]
theorem rv_catA : ∀ {as : List rv_A} {vs : List Value}, (as.all (fun a => decide (a.1 ≠ 3)) = true) → rv_sk (rv_ok ad V ls) (as.map rv_bare) vs → ∀ v ∈ vs, v.category = 1 := by
  intro as
  induction as with
  | nil => intro vs _ h v hv; rw [rv_sk_nil (show rv_sk _ [] vs from h)] at hv; cases hv
  | cons a as ih =>
    intro vs hc h v hv
    obtain ⟨w, ws, rfl, h1, h2⟩ := rv_sk_cons (a := rv_bare a) (as := as.map rv_bare) h
    rw [List.all_cons, Bool.and_eq_true] at hc
    have hcw := rv_ok_cat h1
    rw [if_neg (show ¬ (rv_bare a).1 = 3 from of_decide_eq_true hc.1)] at hcw
    rcases List.mem_cons.mp hv with rfl | hv
    · exact hcw
    · exact ih hc.2 h2 v hv
/-- the first node fits the contract's start -/
def rv_ini (tm : List fm_C) (K : rv_K) (G : rv_S) : Bool := rv_leL (K.1.map rv_bare) G.1 && G.2.1.isEmpty && K.2.1.all (fun f => decide (f.1.2 < 5000) || (match K.1[f.1.2 - 5000]? with
  | some a => decide (a.1 = 1)
  | none => false)) && G.2.2.all (fun g => rv_leF tm (K.2.1.map (fun f => (f.1, f.2.1, f.2.2.1, []))) (g.1, g.2.1, g.2.2.1, []) && g.2.2.2.all (fun r => decide (g.1.2 < 5000) && decide (r.1 = g.1) && decide (r.2.1 ≤ 0) && decide (0 ≤ r.2.2)))
theorem rv_ini_ok {Gp' : fm_V → Prop} {G : rv_S} (hpre : rv_Pre tm Gp' ad K V avs) (hls : ∀ (j : Nat) (v : Value), avs[j]? = some v → ls[j]? = some (.val v)) (h : rv_ini tm K G = true) : rv_G ad V V ls [] G := by
  obtain ⟨p1, p2, p3, p4⟩ := hpre
  unfold rv_ini at h
  simp only [Bool.and_eq_true, List.isEmpty_iff, List.all_eq_true, decide_eq_true_eq] at h
  obtain ⟨⟨⟨h1, h2⟩, h4⟩, h3⟩ := h
  refine ⟨fun k b hb => ?_, by rw [h2]; exact trivial, fun g hg => ?_⟩
  · have := rv_leL_ok (ad := ad) (ls := ls) 0 (K.1.map rv_bare) G.1 h1 (fun k a hk => ?_) k b hb
    · rw [Nat.zero_add] at this
      exact this
    · rw [Nat.zero_add]
      obtain ⟨v, v1, v2⟩ := rv_sk_get p3 hk
      have v3 := hls k v v1
      unfold rv_lok
      by_cases c1 : a.1 = 1
      · rw [if_pos c1]
        obtain ⟨x, rfl, x1, x2, x3, -⟩ := rv_okI c1 v2
        exact ⟨x, v3, x1, x2, x3⟩
      · rw [if_neg c1]
        by_cases c2 : a.1 = 2
        · rw [if_pos c2, v3, rv_okR c2 v2]
        · rw [if_neg c2]
          trivial
  · obtain ⟨g2, g3⟩ := h3 g hg
    have e : ∀ (q : Nat × Nat), q.2 < 5000 → rv_uv V ls (.inr q) = (V q.1 q.2).toInt := fun q hq => by
      show (V q.1 (rv_ix ls q.2)).toInt = _
      have : rv_ix ls q.2 = q.2 := by unfold rv_ix; rw [if_pos hq]
      rw [this]
    have hF : ∀ f ∈ (K.2.1.map (fun f => ((f.1, f.2.1, f.2.2.1, []) : rv_Fa))), rv_fok V V ls f := by
      intro f hf
      obtain ⟨f0, f1, rfl⟩ := List.mem_map.mp hf
      have hf0 := p4 f0 f1
      have e2 : rv_ua V avs (.inr f0.1) = rv_uv V ls (.inr f0.1) := by
        show (V f0.1.1 (if f0.1.2 < 5000 then f0.1.2 else (rv_av avs (f0.1.2 - 5000)).toNat)).toInt = (V f0.1.1 (rv_ix ls f0.1.2)).toInt
        unfold rv_ix
        by_cases c5 : f0.1.2 < 5000
        · rw [if_pos c5, if_pos c5]
        · rw [if_neg c5, if_neg c5]
          have h6 := h4 f0 f1
          rw [Bool.or_eq_true] at h6
          rcases h6 with h6 | h6
          · exact absurd (of_decide_eq_true h6) c5
          · cases hk : K.1[f0.1.2 - 5000]? with
            | none => rw [hk] at h6; cases h6
            | some k =>
              rw [hk] at h6
              have h7 := of_decide_eq_true h6
              obtain ⟨v, v1, v2⟩ := rv_sk_get p3 (j := f0.1.2 - 5000) (a := rv_bare k) (by rw [List.getElem?_map, hk]; rfl)
              obtain ⟨y, rfl, -⟩ := rv_okI (show (rv_bare k).1 = 1 from h7) v2
              rw [rv_lx_at (hls _ _ v1)]
              unfold rv_av
              rw [v1]
      rw [e2] at hf0
      exact ⟨hf0, fun r hr => absurd hr List.not_mem_nil⟩
    have h5 := (rv_leF_ok p1 hF g2).1
    refine ⟨h5, fun r hr => ?_⟩
    obtain ⟨⟨⟨r0, r1⟩, r2⟩, r3⟩ := g3 r hr
    rw [e g.1 r0, r1]
    omega
/-- A CHECKED BODY KEEPS TO ITS CONTRACT -/
theorem rv_met {ct : List (Nat × rv_K)} {y : MethodName} {bytes : ByteArray} {ret : Option FieldType} {rm : Room} {cd : List (Nat × Instr × Nat)} {nodes : List rv_N} {xs : List Nat} {n0 : rv_N} {q0 : Nat × Instr × Nat} (hAd : fm_Ad tm ad) (hZ : fm_Zk (fm_A tm ad) Z) (hy : plainName y.cls = true ∨ plainFor y = true) (hE : rv_Ev cl Ts y.cls fl wr kc kl) (hdec : ∀ q ∈ cd, decode bytes q.1 = .ok (q.2.1, q.2.2)) (hall : rv_all (tm, fl, wr, kc, kl, K.2.2.1, P, nL) ct cd nodes K xs 0 nodes = true)
    (h0 : nodes[0]? = some n0 ∧ cd[n0.1]? = some q0 ∧ q0.1 = 0) (hini : rv_ini tm K n0.2.1 = true) (hcat : K.1.all (fun a => decide (a.1 ≠ 3)) = true) (hlen : K.1.length ≤ nL)
    (hGm : ∀ V V' : fm_V, (∀ i f, rv_in K.2.2.1 i f = false → V' i f = V i f) → Gp V → Gp V') (hrt : rv_rt K ret)
    (hcalls : ∀ (p : Program) (e : Env) (s : State) (m : MethodId) (args : Array Value) (below : List Frame) (meth : Method) (c : Code) (Q : State → Prop), fm_X p s m args c bytes y.cls D cl tm ad cy (fm_A tm ad) Ts nL → fm_Y s nt Z tm ad (fm_A tm ad) → ∀ t ∈ ct, ∀ q, cd[t.1]? = some q → rv_Call p l e rm s m args below meth c Q D cl tm ad cy (fm_A tm ad) Gp nL q.1 t.2)
    (hext : ∀ (p : Program) (e : Env) (s : State) (m : MethodId) (args : Array Value) (below : List Frame) (meth : Method) (c : Code) (V0 : fm_V) (avs : List Value), rv_Pre tm Gp ad K V0 avs → meth.sig.returnType = ret → meth.locks = false → fm_X p s m args c bytes y.cls D cl tm ad cy (fm_A tm ad) Ts nL → fm_Y s nt Z tm ad (fm_A tm ad) → ∀ id ∈ xs, ∀ n, nodes[id]? = some n → ∀ q, cd[n.1]? = some q → ∀ V ls st, rv_I tm K.2.2.1 P nL V0 avs V ls → rv_G ad V0 V ls st n.2.1 → (∀ (id' : Nat) (n' : rv_N) (q' : Nat × Instr × Nat), nodes[id']? = some n' → cd[n'.1]? = some q' → ∀ V' ls' st', rv_I tm K.2.2.1 P nL V0 avs V' ls' → rv_G ad V0 V' ls' st' n'.2.1 → (n'.2.2.2.1 + rv_ev ls' n'.2.2.2.2.1 + 1).toNat < (n.2.2.2.1 + rv_ev ls n.2.2.2.2.1 + 1).toNat → fm_W p l e rm s m args below meth c (MQ below (rv_Qc D cl tm ad cy nt Z (rv_Post tm K V0 avs)) args s 0 0 (fm_A tm ad)) D cl tm ad cy (fm_A tm ad) V' q'.1 ls' st') → fm_W p l e rm s m args below meth c (MQ below (rv_Qc D cl tm ad cy nt Z (rv_Post tm K V0 avs)) args s 0 0 (fm_A tm ad)) D cl tm ad cy (fm_A tm ad) V q.1 ls st) :
    rv_Met l D cl tm ad cy nt Z Gp y (.code y bytes nL ret :: Ts) rm K := by
  intro V avs hpre
  suffices body : ∀ (p : Program) (e : Env) (s : State) (m : MethodId) (args : Array Value) (below : List Frame) (meth : Method) (c : Code) (s₁ : State), BodyLoose p l y (headSpec (.code y bytes nL ret :: Ts) rm) bytes nL ret e s m args below meth c s₁ → c.maxLocals = nL → rv_Pc D cl tm ad cy nt Z V avs args s → W p l e (headSpec (.code y bytes nL ret :: Ts) rm).room s m args below meth c s.heap [] 0 0 (MQ below (rv_Qc D cl tm ad cy nt Z (rv_Post tm K V avs)) args s 0 0 (fm_A tm ad)) (entryFrame m args nL) by
    rcases hy with hy | hy
    · exact Met.ofW (cc := bytes) (maxL := nL) (ret := ret) hy rfl body
    · exact va_MetF (cc := bytes) (maxL := nL) (ret := ret) hy rfl body
  intro p e s m args below meth c s₁ B hml hv
  obtain ⟨rfl, hP, hK, hN, hZ0⟩ := hv
  have hts := atoms_spec (ws := Jvm.Cond.code y bytes nL ret :: Ts) B.pre
  have hown : s.vm.findClass y.cls = some m.cls := findClass_of_methodNamed B.named
  have X : fm_X p s m avs.toArray c bytes y.cls D cl tm ad cy (fm_A tm ad) Ts nL := ⟨B.exec, B.bytes, hown, fun w hw => hts w (List.mem_cons_of_mem _ hw), hK, fun V => fm_D hAd cy V, hml⟩
  have Y : fm_Y s nt Z tm ad (fm_A tm ad) := ⟨hZ, fun q _ h => h, fun q h => h, hN, hZ0⟩
  have hc1 := rv_catA hcat hpre.2.2.1
  have hsl := rv_slen avs hc1
  have hal : avs.length = K.1.length := by rw [rv_sk_len hpre.2.2.1, List.length_map]
  have hl := lv_entry avs (n := nL) (by rw [hsl, hal]; exact hlen)
  rw [lg_entry_eq]
  generalize (lg_sl avs ++ List.replicate (nL - (lg_sl avs).length) Slot.unset).toArray = ls at hl ⊢
  have hls : ∀ (j : Nat) (v : Value), avs[j]? = some v → ls[j]? = some (.val v) := fun j v hj => by
    have := hl.2.2 _ (rv_ent (n := 0) avs 0 hc1 j v hj)
    simpa using this
  have hI : rv_I tm K.2.2.1 P nL V avs V ls := ⟨hpre.1, fun i f _ => rfl, hl.1, hl.2.1, fun j _ v hv _ => hls j v hv⟩
  have := rv_sound (Gp := Gp) (l := l) (R := rm) (e := e) (below := below) X Y hE hdec hall rfl hpre.2.2.1 (fun V' h => hGm V V' h hpre.2.1) B.returns hrt B.notSynchronized (hcalls p e s m avs.toArray below meth c _ X Y) (hext p e s m avs.toArray below meth c V avs hpre B.returns B.notSynchronized X Y) _ 0 n0 q0 h0.1 h0.2.1 V ls [] hI (rv_ini_ok hpre hls hini) (Nat.lt_succ_self _)
  rw [h0.2.2] at this
  exact this s.heap [] hP va_S.rf
end FIN
