/-! ALL STEPS -/
section ALLSTEPS
variable {p : Program} {l : Launch} {e : Env} {R : Room} {s : State} {m : MethodId} {args : Array Value} {below : List Frame} {meth : Method} {c : Code} {Q : State → Prop} {cc : ByteArray} {own : String} {D : va_G} {cl : List vw_C} {tm : List fm_C} {ad : Nat → Nat} {cy : Nat → ClassId} {A : Nat → Prop} {Ts : List Jvm.Cond} {nL : Nat}
variable {pc : Nat} {ls : Array Slot} {st : List Value} {V0 V : fm_V} {fl wr : List (Nat × Nat × Nat)} {kc kl : List (Nat × Int)} {M : List (Nat × Nat)} {P : List Nat} {avs : List Value} {Gp : fm_V → Prop}
theorem rv_lk_off {x : Int} {d : Int} : ∀ (ps : List (Int × Int)), Op.lookupswitch.offset ps d x = d ∨ ∃ q ∈ ps, q.1 = x ∧ Op.lookupswitch.offset ps d x = q.2 := by
  intro ps
  induction ps with
  | nil => exact Or.inl rfl
  | cons q ps ih =>
    rw [Op.lookupswitch.offset_cons]
    by_cases c : q.1 = x
    · first
        | (rw [if_pos c]; exact Or.inr ⟨q, List.mem_cons_self, c, rfl⟩)
        | (rw [if_pos c.symm]; exact Or.inr ⟨q, List.mem_cons_self, c, rfl⟩)
    · first
        | rw [if_neg c]
        | rw [if_neg (fun z => c z.symm)]
      rcases ih with h | ⟨q', h1, h2, h3⟩
      · exact Or.inl h
      · exact Or.inr ⟨q', List.mem_cons_of_mem _ h1, h2, h3⟩
theorem rv_G_psh {G : rv_S} {a : rv_A} {v : Value} (h : rv_ok ad V ls a v) (hG : rv_G ad V0 V ls st G) : rv_G ad V0 V ls (v :: st) (rv_psh a G) := ⟨hG.1, ⟨h, hG.2.1⟩, hG.2.2⟩
set_option maxHeartbeats 2000000 in
theorem rv_step (X : fm_X p s m args c cc own D cl tm ad cy A Ts nL) (hE : rv_Ev cl Ts own fl wr kc kl) {ins : Instr} {len : Nat} {G : rv_S} {kx : List rv_K} {outs : List (Nat × rv_S)} (hd : decode cc pc = .ok (ins, len)) (h : rv_tr (tm, fl, wr, kc, kl, M, P, nL) pc ins len G kx = some outs) (hI : rv_I tm M P nL V0 avs V ls) (hG : rv_G ad V0 V ls st G)
    (hGp : ∀ V', (∀ i f, rv_in M i f = false → V' i f = V0 i f) → Gp V') (hC : ∀ K ∈ kx, rv_Call p l e R s m args below meth c Q D cl tm ad cy A Gp nL pc K)
    (next : ∀ o ∈ outs, ∀ V' ls' st', rv_I tm M P nL V0 avs V' ls' → rv_G ad V0 V' ls' st' o.2 → rv_Rl (rv_tch ins G) ls ls' → fm_W p l e R s m args below meth c Q D cl tm ad cy A V' o.1 ls' st') : fm_W p l e R s m args below meth c Q D cl tm ad cy A V pc ls st := by
  obtain ⟨hx, hb, hown, hts, hK, hD, hml⟩ := id X
  have hT := hI.1
  unfold rv_tr at h
  split at h
  · rename_i n
    by_cases c1 : -1 ≤ n ∧ n ≤ 5
    · rw [if_pos c1] at h
      cases h
      intro H locs hP hS
      have e := zi_of (z := n) (by omega) (by omega)
      exact lv_iconst (v := Int32.ofInt n) hx hb hd rfl (next _ (List.mem_singleton.mpr rfl) V ls _ hI (rv_G_psh (rv_okB (by rw [e]; omega) (by rw [e]; omega)) hG) (fun j => rfl) H locs hP hS)
    · rw [if_neg c1] at h
      cases h
  · rename_i n
    by_cases c1 : -128 ≤ n ∧ n ≤ 127
    · rw [if_pos c1] at h
      cases h
      intro H locs hP hS
      have e := zi_b n c1.1 c1.2
      exact lv_bipush (v := (Int8.ofInt n).toInt32) hx hb hd rfl (next _ (List.mem_singleton.mpr rfl) V ls _ hI (rv_G_psh (rv_okB (by rw [e]; omega) (by rw [e]; omega)) hG) (fun j => rfl) H locs hP hS)
    · rw [if_neg c1] at h
      cases h
  · rename_i n
    by_cases c1 : -32768 ≤ n ∧ n ≤ 32767
    · rw [if_pos c1] at h
      cases h
      intro H locs hP hS
      have e := zi_s n c1.1 c1.2
      exact lv_sipush (v := (Int16.ofInt n).toInt32) hx hb hd rfl (next _ (List.mem_singleton.mpr rfl) V ls _ hI (rv_G_psh (rv_okB (by rw [e]; omega) (by rw [e]; omega)) hG) (fun j => rfl) H locs hP hS)
    · rw [if_neg c1] at h
      cases h
  · rename_i i
    dsimp only at h
    cases hn : rv_kf kc i with
    | none => rw [hn] at h; cases h
    | some n =>
      rw [hn] at h
      cases h
      obtain ⟨b1, b2⟩ := hE.2.2.1 _ (rv_kf_mem hn)
      intro H locs hP hS
      have e := zi_of b1.1 b1.2
      exact lv_ldc hx hb hown (hts _ b2) hd (next _ (List.mem_singleton.mpr rfl) V ls _ hI (rv_G_psh (rv_okB (by rw [e]; omega) (by rw [e]; omega)) hG) (fun j => rfl) H locs hP hS)
  · rename_i i
    dsimp only at h
    cases hn : rv_kf kc i with
    | none => rw [hn] at h; cases h
    | some n =>
      rw [hn] at h
      cases h
      obtain ⟨b1, b2⟩ := hE.2.2.1 _ (rv_kf_mem hn)
      intro H locs hP hS
      have e := zi_of b1.1 b1.2
      exact lv_ldcw hx hb hown (hts _ b2) hd (next _ (List.mem_singleton.mpr rfl) V ls _ hI (rv_G_psh (rv_okB (by rw [e]; omega) (by rw [e]; omega)) hG) (fun j => rfl) H locs hP hS)
  · rename_i i
    dsimp only at h
    cases hn : rv_kf kl i with
    | none => rw [hn] at h; cases h
    | some n =>
      rw [hn] at h
      cases h
      obtain ⟨b1, b2⟩ := hE.2.2.2 _ (rv_kf_mem hn)
      dsimp only at b1
      intro H locs hP hS
      have e : (Int64.ofInt n).toInt = n := Int64.toInt_ofInt_of_le (by omega) (by omega)
      exact lv_ldc2 hx hb hown (hts _ b2) hd (next _ (List.mem_singleton.mpr rfl) V ls _ hI (rv_G_psh (rv_okL' rfl ⟨_, rfl, by rw [e]; exact Int.le_refl _, by rw [e]; exact Int.le_refl _, fun q hq => absurd hq List.not_mem_nil⟩) hG) (fun j => rfl) H locs hP hS)
  · rename_i n
    cases h
    intro H locs hP hS
    have e : (Int64.ofNat (n : Nat)).toInt = ((n : Nat) : Int) := by
      match n with
      | 0 => rfl
      | 1 => rfl
    exact lv_lconst (v := Int64.ofNat (n : Nat)) hx hb hd rfl (next _ (List.mem_singleton.mpr rfl) V ls _ hI (rv_G_psh (rv_okL' rfl ⟨_, rfl, by rw [e]; exact Int.le_refl _, by rw [e]; exact Int.le_refl _, fun q hq => absurd hq List.not_mem_nil⟩) hG) (fun j => rfl) H locs hP hS)
  · obtain ⟨g, hg, rfl⟩ := rv_o1_some h
    obtain ⟨x, hx1, hx2⟩ := rv_ild_ok hg hG
    intro H locs hP hS
    exact lv_iload_n hx hb hd rfl hx1 (next _ (List.mem_singleton.mpr rfl) V ls _ hI hx2 (fun j => rfl) H locs hP hS)
  · obtain ⟨g, hg, rfl⟩ := rv_o1_some h
    obtain ⟨x, hx1, hx2⟩ := rv_ild_ok hg hG
    intro H locs hP hS
    exact lv_iload hx hb hd hx1 (next _ (List.mem_singleton.mpr rfl) V ls _ hI hx2 (fun j => rfl) H locs hP hS)
  · obtain ⟨g, hg, rfl⟩ := rv_o1_some h
    obtain ⟨x, hx1, hx2⟩ := rv_ald_ok hg hG
    intro H locs hP hS
    exact lv_aload_n hx hb hd rfl hx1 (next _ (List.mem_singleton.mpr rfl) V ls _ hI hx2 (fun j => rfl) H locs hP hS)
  · obtain ⟨g, hg, rfl⟩ := rv_o1_some h
    obtain ⟨x, hx1, hx2⟩ := rv_ald_ok hg hG
    intro H locs hP hS
    exact lv_aload hx hb hd hx1 (next _ (List.mem_singleton.mpr rfl) V ls _ hI hx2 (fun j => rfl) H locs hP hS)
  · obtain ⟨g, hg, rfl⟩ := rv_o1_some h
    obtain ⟨k1, k2, v, rest, rfl, i1, i2, k3⟩ := rv_sto1_ok (by decide) hg hG
    obtain ⟨x, rfl⟩ := i1 rfl
    exact fm_istore_n X hd hI.2.2.1 hI.2.2.2.1 k1 (fun ls' hs' => next _ (List.mem_singleton.mpr rfl) V ls' _ (rv_I_sto hI hs' k2) (k3 ls' hs') hs'.2.2.2.2)
  · obtain ⟨g, hg, rfl⟩ := rv_o1_some h
    obtain ⟨k1, k2, v, rest, rfl, i1, i2, k3⟩ := rv_sto1_ok (by decide) hg hG
    obtain ⟨x, rfl⟩ := i1 rfl
    exact fm_istore X hd hI.2.2.1 hI.2.2.2.1 k1 (fun ls' hs' => next _ (List.mem_singleton.mpr rfl) V ls' _ (rv_I_sto hI hs' k2) (k3 ls' hs') hs'.2.2.2.2)
  · obtain ⟨g, hg, rfl⟩ := rv_o1_some h
    obtain ⟨k1, k2, v, rest, rfl, i1, i2, k3⟩ := rv_sto1_ok (by decide) hg hG
    obtain ⟨x, rfl⟩ := i2 rfl
    exact fm_astore_n X hd hI.2.2.1 hI.2.2.2.1 k1 (fun ls' hs' => next _ (List.mem_singleton.mpr rfl) V ls' _ (rv_I_sto hI hs' k2) (k3 ls' hs') hs'.2.2.2.2)
  · obtain ⟨g, hg, rfl⟩ := rv_o1_some h
    obtain ⟨k1, k2, v, rest, rfl, i1, i2, k3⟩ := rv_sto1_ok (by decide) hg hG
    obtain ⟨x, rfl⟩ := i2 rfl
    exact fm_astore X hd hI.2.2.1 hI.2.2.2.1 k1 (fun ls' hs' => next _ (List.mem_singleton.mpr rfl) V ls' _ (rv_I_sto hI hs' k2) (k3 ls' hs') hs'.2.2.2.2)
  · obtain ⟨g, hg, rfl⟩ := rv_o1_some h
    obtain ⟨k1, k2, x, k3, k4⟩ := rv_ii_ok hg hG
    exact fm_iinc X hd k3 hI.2.2.1 hI.2.2.2.1 k1 (fun ls' hs' => next _ (List.mem_singleton.mpr rfl) V ls' _ (rv_I_sto hI hs' k2) (k4 ls' hs').1 (k4 ls' hs').2)
  · obtain ⟨g, hg, rfl⟩ := rv_o1_some h
    obtain ⟨x, y, rest, rfl, -, k3⟩ := rv_b2_ok hg hG
    intro H locs hP hS
    exact lv_iadd hx hb hd (next _ (List.mem_singleton.mpr rfl) V ls _ hI (k3 _ rfl) (fun j => rfl) H locs hP hS)
  · obtain ⟨g, hg, rfl⟩ := rv_o1_some h
    obtain ⟨x, y, rest, rfl, -, k3⟩ := rv_b2_ok hg hG
    intro H locs hP hS
    exact lv_isub hx hb hd (next _ (List.mem_singleton.mpr rfl) V ls _ hI (k3 _ rfl) (fun j => rfl) H locs hP hS)
  · obtain ⟨g, hg, rfl⟩ := rv_o1_some h
    obtain ⟨x, y, rest, rfl, -, k3⟩ := rv_b2_ok hg hG
    intro H locs hP hS
    exact lv_imul hx hb hd (next _ (List.mem_singleton.mpr rfl) V ls _ hI (k3 _ rfl) (fun j => rfl) H locs hP hS)
  · obtain ⟨g, hg, rfl⟩ := rv_o1_some h
    obtain ⟨x, y, rest, rfl, -, k3⟩ := rv_b2_ok hg hG
    intro H locs hP hS
    exact lv_iand hx hb hd (next _ (List.mem_singleton.mpr rfl) V ls _ hI (k3 _ rfl) (fun j => rfl) H locs hP hS)
  · obtain ⟨g, hg, rfl⟩ := rv_o1_some h
    obtain ⟨x, y, rest, rfl, -, k3⟩ := rv_b2_ok hg hG
    intro H locs hP hS
    exact lv_ior hx hb hd (next _ (List.mem_singleton.mpr rfl) V ls _ hI (k3 _ rfl) (fun j => rfl) H locs hP hS)
  · obtain ⟨g, hg, rfl⟩ := rv_o1_some h
    obtain ⟨x, y, rest, rfl, -, k3⟩ := rv_b2_ok hg hG
    intro H locs hP hS
    exact lv_ixor hx hb hd (next _ (List.mem_singleton.mpr rfl) V ls _ hI (k3 _ trivial) (fun j => rfl) H locs hP hS)
  · obtain ⟨g, hg, rfl⟩ := rv_o1_some h
    obtain ⟨x, y, rest, rfl, -, k3⟩ := rv_b2_ok hg hG
    intro H locs hP hS
    exact lv_ishl hx hb hd (next _ (List.mem_singleton.mpr rfl) V ls _ hI (k3 _ trivial) (fun j => rfl) H locs hP hS)
  · obtain ⟨g, hg, rfl⟩ := rv_o1_some h
    obtain ⟨x, y, rest, rfl, -, k3⟩ := rv_b2_ok hg hG
    intro H locs hP hS
    exact lv_ishr hx hb hd (next _ (List.mem_singleton.mpr rfl) V ls _ hI (k3 _ trivial) (fun j => rfl) H locs hP hS)
  · obtain ⟨g, hg, rfl⟩ := rv_o1_some h
    obtain ⟨x, y, rest, rfl, -, k3⟩ := rv_b2_ok hg hG
    intro H locs hP hS
    exact lv_iushr hx hb hd rfl (next _ (List.mem_singleton.mpr rfl) V ls _ hI (k3 _ trivial) (fun j => rfl) H locs hP hS)
  · obtain ⟨g, hg, rfl⟩ := rv_o1_some h
    obtain ⟨x, y, rest, rfl, k2, k3⟩ := rv_b2_ok hg hG
    intro H locs hP hS
    exact lv_idiv hx hb hd (k2 (by decide)) (next _ (List.mem_singleton.mpr rfl) V ls _ hI (k3 _ trivial) (fun j => rfl) H locs hP hS)
  · obtain ⟨g, hg, rfl⟩ := rv_o1_some h
    obtain ⟨x, y, rest, rfl, k2, k3⟩ := rv_b2_ok hg hG
    intro H locs hP hS
    exact lv_irem hx hb hd (k2 (by decide)) (next _ (List.mem_singleton.mpr rfl) V ls _ hI (k3 _ trivial) (fun j => rfl) H locs hP hS)
  · obtain ⟨g, hg, rfl⟩ := rv_o1_some h
    obtain ⟨a, x, rest, rfl, k2, k3⟩ := rv_u1_ok hg hG
    intro H locs hP hS
    exact lv_ineg hx hb hd (next _ (List.mem_singleton.mpr rfl) V ls _ hI (k3 _ (rv_full_ok _)) (fun j => rfl) H locs hP hS)
  · obtain ⟨g, hg, rfl⟩ := rv_o1_some h
    obtain ⟨a, x, rest, rfl, k2, k3⟩ := rv_u1_ok hg hG
    intro H locs hP hS
    exact lv_i2c hx hb hd rfl (next _ (List.mem_singleton.mpr rfl) V ls _ hI (k3 _ (rv_full_ok _)) (fun j => rfl) H locs hP hS)
  · obtain ⟨g, hg, rfl⟩ := rv_o1_some h
    obtain ⟨a, x, rest, rfl, k2, k3⟩ := rv_u1_ok hg hG
    intro H locs hP hS
    exact lv_i2b hx hb hd rfl (next _ (List.mem_singleton.mpr rfl) V ls _ hI (k3 _ (rv_okB (zi_b8 x).1 (zi_b8 x).2)) (fun j => rfl) H locs hP hS)
  · obtain ⟨g, hg, rfl⟩ := rv_o1_some h
    obtain ⟨a, x, rest, rfl, k2, k3⟩ := rv_u1_ok hg hG
    intro H locs hP hS
    obtain ⟨x', ex, x1, x2, x3, x4, x5⟩ := k2
    cases ex
    have e := zi_i64 x
    exact lv_i2l hx hb hd rfl (next _ (List.mem_singleton.mpr rfl) V ls _ hI (k3 _ (rv_okL' rfl ⟨_, rfl, by rw [e]; exact x1, by rw [e]; exact x2, fun q hq => by rw [e]; exact x4 q hq⟩)) (fun j => rfl) H locs hP hS)
  · match hs : G.2.1, h with
    | [], h => cases h
    | a :: S, h =>
      dsimp only at h
      by_cases c1 : a.1 = 3
      · rw [if_pos c1] at h
        cases h
      · rw [if_neg c1] at h
        cases h
        have hS := hG.2.1
        rw [hs] at hS
        obtain ⟨va, vs, rfl, h1, h2⟩ := rv_sk_cons hS
        have hc := rv_ok_cat h1
        rw [if_neg c1] at hc
        intro H locs hP hS
        exact lv_dup hx hb hd hc (next _ (List.mem_singleton.mpr rfl) V ls (va :: va :: vs) hI ⟨hG.1, ⟨h1, h1, h2⟩, hG.2.2⟩ (fun j => rfl) H locs hP hS)
  · match hs : G.2.1, h with
    | [], h => cases h
    | [_], h => cases h
    | b :: a :: S, h =>
      dsimp only at h
      by_cases c1 : a.1 = 3 ∨ b.1 = 3
      · rw [if_pos c1] at h
        cases h
      · rw [if_neg c1] at h
        cases h
        have hS := hG.2.1
        rw [hs] at hS
        obtain ⟨vb, vs, rfl, h1, h2⟩ := rv_sk_cons hS
        obtain ⟨va, vs, rfl, h3, h4⟩ := rv_sk_cons h2
        have hcb := rv_ok_cat h1
        rw [if_neg (fun z => c1 (Or.inr z))] at hcb
        have hca := rv_ok_cat h3
        rw [if_neg (fun z => c1 (Or.inl z))] at hca
        intro H locs hP hS
        exact lv_dup2_11 hx hb hd hcb hca (next _ (List.mem_singleton.mpr rfl) V ls (vb :: va :: vb :: va :: vs) hI ⟨hG.1, ⟨h1, h3, h1, h3, h4⟩, hG.2.2⟩ (fun j => rfl) H locs hP hS)
  · match hs : G.2.1, h with
    | [], h => cases h
    | a :: S, h =>
      dsimp only at h
      by_cases c1 : a.1 = 3
      · rw [if_pos c1] at h
        cases h
      · rw [if_neg c1] at h
        cases h
        have hS := hG.2.1
        rw [hs] at hS
        obtain ⟨va, vs, rfl, h1, h2⟩ := rv_sk_cons hS
        have hc := rv_ok_cat h1
        rw [if_neg c1] at hc
        intro H locs hP hS
        exact lv_pop hx hb hd hc (next _ (List.mem_singleton.mpr rfl) V ls _ hI ⟨hG.1, h2, hG.2.2⟩ (fun j => rfl) H locs hP hS)
  · rename_i off
    by_cases c1 : 0 ≤ (pc : Int) + off
    · rw [if_pos c1] at h
      cases h
      intro H locs hP hS
      exact lv_goto (tgt := rv_tg pc off) hx hb hd (by unfold rv_tg; omega) (next _ (List.mem_singleton.mpr rfl) V ls _ hI hG (fun j => rfl) H locs hP hS)
    · rw [if_neg c1] at h
      cases h
  · rename_i c0 off
    match hs : G.2.1, h with
    | [], h => cases h
    | a :: S, h =>
      dsimp only at h
      by_cases c1 : a.1 = 1 ∧ 0 ≤ (pc : Int) + off
      · rw [if_pos c1] at h
        cases h
        have hS := hG.2.1
        rw [hs] at hS
        obtain ⟨va, vs, rfl, h1, h2⟩ := rv_sk_cons hS
        have h3 := rv_okI c1.1 h1
        obtain ⟨x, rfl, -⟩ := id h3
        have htg : (pc : Int) + off = ((rv_tg pc off : Nat) : Int) := by unfold rv_tg; omega
        intro H locs hP hS
        obtain ⟨k1, k2⟩ := rv_two_ok (pc := pc) (len := 3) (off := off) (c0 := c0) (W1 := W p l e R s m args below meth c H locs 0 0 Q (F0 m (rv_tg pc off) ls vs)) (W2 := W p l e R s m args below meth c H locs 0 0 Q (F0 m (pc + 3) ls vs)) h3 (rv_cst_ok (V := V) (ls := ls) (n := 0) (by decide) (by decide)) (show rv_G ad V0 V ls vs (G.1, S, G.2.2) from ⟨hG.1, h2, hG.2.2⟩)
          (fun g hg1 hg2 => next _ hg1 V ls _ hI hg2 (fun j => rfl) H locs hP hS) (fun g hg1 hg2 => next _ hg1 V ls _ hI hg2 (fun j => rfl) H locs hP hS)
        have e0 : (Int32.ofInt 0).toInt = 0 := rfl
        rw [e0] at k1 k2
        cases c0
        · exact lv_if_eq (tgt := rv_tg pc off) hx hb hd htg (fun z => k1 (show x.toInt = 0 by rw [z]; rfl)) (fun z => k2 (fun y => z (zi_inj y)))
        · exact lv_if_ne (tgt := rv_tg pc off) hx hb hd htg (fun z => k1 (fun y => z (zi_inj y))) (fun z => k2 (fun y => y (show x.toInt = 0 by rw [z]; rfl)))
        · exact lv_if_lt (tgt := rv_tg pc off) hx hb hd htg (fun z => k1 (zi_lt.mp z)) (fun z => k2 (fun y => z (zi_lt.mpr y)))
        · exact lv_if_ge (tgt := rv_tg pc off) hx hb hd htg (fun z => k1 (zi_le.mp z)) (fun z => k2 (fun y => z (zi_le.mpr y)))
        · exact lv_if_gt (tgt := rv_tg pc off) hx hb hd htg (fun z => k1 (zi_lt.mp z)) (fun z => k2 (fun y => z (zi_lt.mpr y)))
        · exact lv_if_le (tgt := rv_tg pc off) hx hb hd htg (fun z => k1 (zi_le.mp z)) (fun z => k2 (fun y => z (zi_le.mpr y)))
      · rw [if_neg c1] at h
        cases h
  · rename_i c0 off
    match hs : G.2.1, h with
    | [], h => cases h
    | [_], h => cases h
    | b :: a :: S, h =>
      dsimp only at h
      by_cases c1 : a.1 = 1 ∧ b.1 = 1 ∧ 0 ≤ (pc : Int) + off
      · rw [if_pos c1] at h
        cases h
        have hS := hG.2.1
        rw [hs] at hS
        obtain ⟨vb, vs, rfl, h5, h6⟩ := rv_sk_cons hS
        obtain ⟨va, vs, rfl, h1, h2⟩ := rv_sk_cons h6
        have h3 := rv_okI c1.1 h1
        obtain ⟨x, rfl, -⟩ := id h3
        have h4 := rv_okI c1.2.1 h5
        obtain ⟨y, rfl, -⟩ := id h4
        have htg : (pc : Int) + off = ((rv_tg pc off : Nat) : Int) := by unfold rv_tg; omega
        intro H locs hP hS
        obtain ⟨k1, k2⟩ := rv_two_ok (pc := pc) (len := 3) (off := off) (c0 := c0) (W1 := W p l e R s m args below meth c H locs 0 0 Q (F0 m (rv_tg pc off) ls vs)) (W2 := W p l e R s m args below meth c H locs 0 0 Q (F0 m (pc + 3) ls vs)) h3 h4 (show rv_G ad V0 V ls vs (G.1, S, G.2.2) from ⟨hG.1, h2, hG.2.2⟩)
          (fun g hg1 hg2 => next _ hg1 V ls _ hI hg2 (fun j => rfl) H locs hP hS) (fun g hg1 hg2 => next _ hg1 V ls _ hI hg2 (fun j => rfl) H locs hP hS)
        cases c0
        · exact lv_icmp_eq (tgt := rv_tg pc off) hx hb hd htg (fun z => k1 (show x.toInt = y.toInt by rw [z])) (fun z => k2 (fun q => z (zi_inj q)))
        · exact lv_icmp_ne (tgt := rv_tg pc off) hx hb hd htg (fun z => k1 (fun q => z (zi_inj q))) (fun z => k2 (fun q => q (show x.toInt = y.toInt by rw [z])))
        · exact lv_icmp_lt (tgt := rv_tg pc off) hx hb hd htg (fun z => k1 (zi_lt.mp z)) (fun z => k2 (fun q => z (zi_lt.mpr q)))
        · exact lv_icmp_ge (tgt := rv_tg pc off) hx hb hd htg (fun z => k1 (zi_le.mp z)) (fun z => k2 (fun q => z (zi_le.mpr q)))
        · exact lv_icmp_gt (tgt := rv_tg pc off) hx hb hd htg (fun z => k1 (zi_lt.mp z)) (fun z => k2 (fun q => z (zi_lt.mpr q)))
        · exact lv_icmp_le (tgt := rv_tg pc off) hx hb hd htg (fun z => k1 (zi_le.mp z)) (fun z => k2 (fun q => z (zi_le.mpr q)))
      · rw [if_neg c1] at h
        cases h
  · obtain ⟨g, hg, rfl⟩ := rv_o1_some h
    obtain ⟨j, rest, ci, k, ts, t, rfl, g1, g2, g3, g4⟩ := rv_gf_ok hE hT hg hG
    exact fm_get X g1 g2 g3 hd (next _ (List.mem_singleton.mpr rfl) V ls _ hI g4 (fun j => rfl))
  · obtain ⟨g, hg, rfl⟩ := rv_o1_some h
    obtain ⟨j, rest, ci, k, ts, lo, hi, x, rfl, g1, g2, g3, g4, g5, g6, g7, g8, g9⟩ := rv_pfd_ok hE hg hG
    exact fm_put X g1 g2 g3 g4 g5 hd (next _ (List.mem_singleton.mpr rfl) _ ls _ (rv_I_up hI (fm_Tm_o hT g4 g5 g6 g7) g8) g9 (fun j => rfl))
  · obtain ⟨g, hg, rfl⟩ := rv_o1_some h
    obtain ⟨j, rest, t, n, lo, hi, x, rfl, g1, g2, g3, g4⟩ := rv_xl_ok hT hg hG
    have g2 : t = 0 := g2
    subst g2
    exact fm_ald0 X g1 g3 hd (next _ (List.mem_singleton.mpr rfl) V ls _ hI g4 (fun j => rfl))
  · obtain ⟨g, hg, rfl⟩ := rv_o1_some h
    obtain ⟨j, rest, t, n, lo, hi, x, rfl, g1, g2, g3, g4⟩ := rv_xl_ok hT hg hG
    have g2 : t = 1 ∨ t = 2 := g2
    rcases g2 with g2 | g2
    · subst g2
      exact fm_ald1 X g1 g3 hd (next _ (List.mem_singleton.mpr rfl) V ls _ hI g4 (fun j => rfl))
    · subst g2
      exact fm_ald2 X g1 g3 hd (next _ (List.mem_singleton.mpr rfl) V ls _ hI g4 (fun j => rfl))
  · obtain ⟨g, hg, rfl⟩ := rv_o1_some h
    obtain ⟨j, rest, t, n, lo, hi, x, y, rfl, g1, g2, g3, g4, g5, g6, g7⟩ := rv_xs_ok hT hg hG
    have g2 : t = 0 := g2
    subst g2
    exact fm_ast0 X g1 g3 hd (next _ (List.mem_singleton.mpr rfl) _ ls _ (rv_I_up hI (fm_Tm_a hT g1 g4 g5) g6) g7 (fun j => rfl))
  · obtain ⟨g, hg, rfl⟩ := rv_o1_some h
    obtain ⟨j, rest, t, n, lo, hi, x, y, rfl, g1, g2, g3, g4, g5, g6, g7⟩ := rv_xs_ok hT hg hG
    have g2 : (t = 1 ∧ -128 ≤ lo ∧ hi ≤ 127) ∨ (t = 2 ∧ 0 ≤ lo ∧ hi ≤ 1) := g2
    rcases g2 with g2 | g2
    · obtain ⟨rfl, z1, z2⟩ := g2
      refine fm_ast1 X g1 g3 hd ?_
      rw [zi_nb (by omega) (by omega)]
      exact next _ (List.mem_singleton.mpr rfl) _ ls _ (rv_I_up hI (fm_Tm_a hT g1 g4 g5) g6) g7 (fun j => rfl)
    · obtain ⟨rfl, z1, z2⟩ := g2
      refine fm_ast2 X g1 g3 hd ?_
      rw [zi_nz (by omega) (by omega)]
      exact next _ (List.mem_singleton.mpr rfl) _ ls _ (rv_I_up hI (fm_Tm_a hT g1 g4 g5) g6) g7 (fun j => rfl)
  · match kx, h, hC with
    | [], h, hC => cases h
    | K :: ks, h, hC =>
      obtain ⟨g, hg, rfl⟩ := rv_o1_some h
      obtain ⟨av, rest, rfl, k1, k2, k3, k4⟩ := rv_call_ok hg hT hG
      refine hC K List.mem_cons_self V ls av rest ⟨hT, hGp V hI.2.1, k1, k2⟩ hI.2.2.1 k3 (fun r V' hp => ?_)
      obtain ⟨k5, k6⟩ := k4 r V' hp
      exact next _ (List.mem_singleton.mpr rfl) V' ls _ ⟨hp.1, fun i f hif => (k6 i f hif).trans (hI.2.1 i f hif), hI.2.2⟩ k5 (fun j => rfl)
  · match kx, h, hC with
    | [], h, hC => cases h
    | K :: ks, h, hC =>
      obtain ⟨g, hg, rfl⟩ := rv_o1_some h
      obtain ⟨av, rest, rfl, k1, k2, k3, k4⟩ := rv_call_ok hg hT hG
      refine hC K List.mem_cons_self V ls av rest ⟨hT, hGp V hI.2.1, k1, k2⟩ hI.2.2.1 k3 (fun r V' hp => ?_)
      obtain ⟨k5, k6⟩ := k4 r V' hp
      exact next _ (List.mem_singleton.mpr rfl) V' ls _ ⟨hp.1, fun i f hif => (k6 i f hif).trans (hI.2.1 i f hif), hI.2.2⟩ k5 (fun j => rfl)
  · rename_i d lo hi offs
    match hs : G.2.1, h with
    | [], h => cases h
    | a :: S, h =>
      dsimp only at h
      by_cases c1 : a.1 = 1 ∧ 0 ≤ (pc : Int) + d ∧ offs.toList.all (fun o => decide (0 ≤ (pc : Int) + o)) = true ∧ hi - lo + 1 = offs.size ∧ -2147483648 ≤ lo ∧ hi ≤ 2147483647
      · rw [if_pos c1] at h
        cases h
        obtain ⟨c1, c2, c3, c4, c5, c6⟩ := c1
        have hS := hG.2.1
        rw [hs] at hS
        obtain ⟨va, vs, rfl, h1, h2⟩ := rv_sk_cons hS
        have h3 := rv_okI c1 h1
        obtain ⟨x, rfl, -⟩ := id h3
        intro H locs hP hS
        by_cases hin : x.toInt < lo ∨ hi < x.toInt
        · exact lv_tableOut (tgt := rv_tg pc d) hx hb hd hin (by unfold rv_tg; omega) (next _ List.mem_cons_self V ls _ hI (show rv_G ad V0 V ls vs (G.1, S, G.2.2) from ⟨hG.1, h2, hG.2.2⟩) (fun j => rfl) H locs hP hS)
        · have hlt : (x.toInt - lo).toNat < offs.toList.length := by rw [Array.length_toList]; omega
          have hlt' : (x.toInt - lo).toNat < offs.size := by omega
          have ho : offs[(x.toInt - lo).toNat]? = some offs.toList[(x.toInt - lo).toNat] := by rw [← Array.getElem?_toList]; exact List.getElem?_eq_getElem hlt
          have hz : x.toInt = lo + ((x.toInt - lo).toNat : Int) := by omega
          have h0 := List.all_eq_true.mp c3 _ (List.getElem_mem hlt)
          simp only [decide_eq_true_eq] at h0
          obtain ⟨g, g1, g2⟩ := rv_br_ok (c := 0) (va := .int x) (vb := .int x) h3 (rv_cst_ok (V := V) (ls := ls) (n := lo + ((x.toInt - lo).toNat : Int)) (by omega) (by omega)) (show x.toInt = _ by rw [zi_of (by omega) (by omega)]; exact hz) (show rv_G ad V0 V ls vs (G.1, S, G.2.2) from ⟨hG.1, h2, hG.2.2⟩)
          refine lv_tableIn (tgt := rv_tg pc offs.toList[(x.toInt - lo).toNat]) hx hb hd (fun z => hin (Or.inl z)) (fun z => hin (Or.inr z)) ho (by unfold rv_tg; omega) (next (_, g) (List.mem_cons_of_mem _ (List.mem_flatMap.mpr ⟨(x.toInt - lo).toNat, List.mem_range.mpr hlt', ?_⟩)) V ls _ hI g2 (fun j => rfl) H locs hP hS)
          rw [g1]
          have e9 : offs.toList.getD (x.toInt - lo).toNat 0 = offs.toList[(x.toInt - lo).toNat] := by simp [List.getD, List.getElem?_eq_getElem hlt]
          rw [e9]
          exact List.mem_singleton.mpr rfl
      · rw [if_neg c1] at h
        cases h
  · rename_i d ps
    match hs : G.2.1, h with
    | [], h => cases h
    | a :: S, h =>
      dsimp only at h
      by_cases c1 : a.1 = 1 ∧ 0 ≤ (pc : Int) + d ∧ ps.toList.all (fun o => decide (0 ≤ (pc : Int) + o.2) && decide (-2147483648 ≤ o.1) && decide (o.1 ≤ 2147483647)) = true ∧ (ps.toList.zip (ps.toList.drop 1)).all (fun (a, next) => a.1 < next.1) = true
      · rw [if_pos c1] at h
        cases h
        obtain ⟨c1, c2, c3, c4⟩ := c1
        have hS := hG.2.1
        rw [hs] at hS
        obtain ⟨va, vs, rfl, h1, h2⟩ := rv_sk_cons hS
        have h3 := rv_okI c1 h1
        obtain ⟨x, rfl, -⟩ := id h3
        intro H locs hP hS
        rcases rv_lk_off (x := x.toInt) (d := d) ps.toList with ho | ⟨q, q1, q2, ho⟩
        · exact lv_lookup (tgt := rv_tg pc d) hx hb hd c4 ho (by unfold rv_tg; omega) (next _ List.mem_cons_self V ls _ hI (show rv_G ad V0 V ls vs (G.1, S, G.2.2) from ⟨hG.1, h2, hG.2.2⟩) (fun j => rfl) H locs hP hS)
        · have h0 := List.all_eq_true.mp c3 q q1
          simp only [Bool.and_eq_true, decide_eq_true_eq] at h0
          obtain ⟨g, g1, g2⟩ := rv_br_ok (c := 0) (va := .int x) (vb := .int x) h3 (rv_cst_ok (V := V) (ls := ls) (n := q.1) (by omega) (by omega)) (show x.toInt = _ by rw [zi_of (by omega) (by omega)]; exact q2.symm) (show rv_G ad V0 V ls vs (G.1, S, G.2.2) from ⟨hG.1, h2, hG.2.2⟩)
          refine lv_lookup (tgt := rv_tg pc q.2) hx hb hd c4 ho (by unfold rv_tg; omega) (next (_, g) (List.mem_cons_of_mem _ (List.mem_flatMap.mpr ⟨q, q1, ?_⟩)) V ls _ hI g2 (fun j => rfl) H locs hP hS)
          rw [g1]
          exact List.mem_singleton.mpr rfl
      · rw [if_neg c1] at h
        cases h
  · cases h
end ALLSTEPS
