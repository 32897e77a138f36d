/-! the step is right -/
theorem zi_b (n : Int) (h1 : -128 ≤ n) (h2 : n ≤ 127) : (Int8.ofInt n).toInt32.toInt = n := by
  rw [Int8.toInt_toInt32]
  exact Int8.toInt_ofInt_of_le (by omega) (by omega)
theorem zi_s (n : Int) (h1 : -32768 ≤ n) (h2 : n ≤ 32767) : (Int16.ofInt n).toInt32.toInt = n := by
  rw [Int16.toInt_toInt32]
  exact Int16.toInt_ofInt_of_le (by omega) (by omega)
theorem rv_kf_mem {l : List (Nat × Int)} {i : Nat} {n : Int} (h : rv_kf l i = some n) : (i, n) ∈ l := by
  unfold rv_kf at h
  cases hf : l.find? (fun q => decide (q.1 = i)) with
  | none => rw [hf] at h; cases h
  | some q =>
    rw [hf] at h
    have h1 := List.mem_of_find?_eq_some hf
    have h2 : q.1 = i := by simpa using List.find?_some hf
    have h3 : q.2 = n := Option.some.inj h
    rw [← h2, ← h3]
    exact h1
def rv_I (tm : List fm_C) (M : List (Nat × Nat)) (P : List Nat) (nL : Nat) (V0 : fm_V) (avs : List Value) (V : fm_V) (ls : Array Slot) : Prop := fm_Tm tm V ∧ (∀ i f, rv_in M i f = false → V i f = V0 i f) ∧ ls.size = nL ∧ lv_wf ls ∧ ∀ j ∈ P, ∀ v, avs[j]? = some v → v.category = 1 → ls[j]? = some (.val v)
theorem rv_I_sto {tm : List fm_C} {M : List (Nat × Nat)} {P : List Nat} {nL : Nat} {V0 V : fm_V} {avs : List Value} {ls ls' : Array Slot} {k : Nat} {v : Value} (h : rv_I tm M P nL V0 avs V ls) (hs : rv_sto ls ls' k v) (hk : P.any (fun j => decide (j = k)) = false) : rv_I tm M P nL V0 avs V ls' := by
  obtain ⟨h1, h2, h3, h4, h5⟩ := h
  obtain ⟨s1, s2, s3, s4, s5⟩ := hs
  refine ⟨h1, h2, by omega, s2, fun j hj w hw hc => s4 j w (fun e => ?_) (h5 j hj w hw hc) hc⟩
  simp only [List.any_eq_false, decide_eq_true_eq] at hk
  exact hk j hj e
theorem rv_cR_ne {n : Nat} (c : Jvm.ClassFile.Cond) {x y : Int} (h : ¬ rv_cR (rv_cc c) x y) : rv_cR (rv_ne (rv_cc c)) x y := by
  cases c
  · exact h
  · exact Classical.not_not.mp h
  · exact Int.not_lt.mp h
  · exact Int.not_le.mp h
  · exact Int.not_lt.mp h
  · exact Int.not_le.mp h
/-- the tables that a body's check goes by are the machine's -/
def rv_Ev (cl : List vw_C) (Ts : List Jvm.Cond) (own : String) (fl wr : List (Nat × Nat × Nat)) (kc kl : List (Nat × Int)) : Prop :=
  (∀ q ∈ fl, fm_Lk cl Ts own q.1 q.2.1 q.2.2) ∧ (∀ q ∈ wr, fm_Cl cl q.1 ∧ ∀ (C : String) (T : u_T) (N : Nat), cl[q.1]? = some (C, T, N) → (T q.2.1).2.2.2 = false ∧ parseFieldDescriptor (T q.2.1).2.2.1 = some (if q.2.2 = 0 then .int else .boolean)) ∧ (∀ q ∈ kc, (-2147483648 ≤ q.2 ∧ q.2 ≤ 2147483647) ∧ Jvm.Cond.constant own q.1 (Int32.ofInt q.2) ∈ Ts) ∧ ∀ q ∈ kl, (-2147483648 ≤ q.2 ∧ q.2 ≤ 2147483647) ∧ Jvm.Cond.constantLong own q.1 (Int64.ofInt q.2) ∈ Ts
section SOUND
variable {p : Program} {l : Launch} {e : Env} {R : Room} {s : State} {m : MethodId} {args : Array Value} {below : List Frame} {meth : Method} {c : Code} {Q : State → Prop} {cc : ByteArray} {own : String} {D : va_G} {cl : List vw_C} {tm : List fm_C} {ad : Nat → Nat} {cy : Nat → ClassId} {A : Nat → Prop} {Ts : List Jvm.Cond} {nL : Nat}
variable {pc : Nat} {ls : Array Slot} {st : List Value} {V0 V : fm_V} {fl wr : List (Nat × Nat × Nat)} {kc kl : List (Nat × Int)} {M : List (Nat × Nat)} {P : List Nat} {avs : List Value} {Gp : fm_V → Prop}
/-- a call at pc keeps to a contract -/
def rv_Call (p : Program) (l : Launch) (e : Env) (R : Room) (s : State) (m : MethodId) (args : Array Value) (below : List Frame) (meth : Method) (c : Code) (Q : State → Prop) (D : va_G) (cl : List vw_C) (tm : List fm_C) (ad : Nat → Nat) (cy : Nat → ClassId) (A : Nat → Prop) (Gp : fm_V → Prop) (nL : Nat) (pc : Nat) (K : rv_K) : Prop :=
  ∀ (V : fm_V) (ls : Array Slot) (avs rest : List Value), rv_Pre tm Gp ad K V avs → ls.size = nL → (rest.map fun v => v.category).sum ≤ 8 → (∀ r V', rv_Post tm K V avs r V' → fm_W p l e R s m args below meth c Q D cl tm ad cy A V' (pc + 3) ls (r.toList ++ rest)) → fm_W p l e R s m args below meth c Q D cl tm ad cy A V pc ls (avs.reverse ++ rest)
theorem rv_two_ok {len : Nat} {off : Int} {c0 : Jvm.ClassFile.Cond} {a b : rv_A} {G : rv_S} {x y : Int32} {W1 W2 : Prop} (ha : rv_oI V ls a (.int x)) (hb : rv_oI V ls b (.int y)) (hG : rv_G ad V0 V ls st G)
    (n1 : ∀ g, (rv_tg pc off, g) ∈ rv_two pc len off (rv_cc c0) a b G → rv_G ad V0 V ls st g → W1) (n2 : ∀ g, (pc + len, g) ∈ rv_two pc len off (rv_cc c0) a b G → rv_G ad V0 V ls st g → W2) : (rv_cR (rv_cc c0) x.toInt y.toInt → W1) ∧ (¬ rv_cR (rv_cc c0) x.toInt y.toInt → W2) := by
  refine ⟨fun h => ?_, fun h => ?_⟩
  · obtain ⟨g, g1, g2⟩ := rv_one_ok ha hb h hG
    exact n1 g (by unfold rv_two; exact List.mem_append_left _ (List.mem_map.mpr ⟨g, g1, rfl⟩)) g2
  · obtain ⟨g, g1, g2⟩ := rv_one_ok ha hb (rv_cR_ne (n := 0) c0 h) hG
    exact n2 g (by unfold rv_two; exact List.mem_append_right _ (List.mem_map.mpr ⟨g, g1, rfl⟩)) g2
theorem rv_cst_ok {n : Int} (h1 : -2147483648 ≤ n) (h2 : n ≤ 2147483647) : rv_oI V ls (rv_cst n) (.int (Int32.ofInt n)) := by
  have h := rv_okB (ad := fun x => x) (V := V) (ls := ls) (lo := n) (hi := n) (x := Int32.ofInt n) (by rw [zi_of h1 h2]; omega) (by rw [zi_of h1 h2]; omega)
  exact rv_okI rfl h
theorem rv_ild_ok {k : Nat} {G G' : rv_S} (h : rv_ild k G = some G') (hG : rv_G ad V0 V ls st G) : ∃ x : Int32, ls[k]? = some (.val (.int x)) ∧ rv_G ad V0 V ls (.int x :: st) G' := by
  unfold rv_ild at h
  cases ha : G.1[k]? with
  | none => rw [ha] at h; cases h
  | some a =>
    rw [ha] at h
    dsimp only at h
    by_cases c1 : a.1 = 1
    · rw [if_pos c1] at h
      cases h
      have h1 := hG.1 k a ha
      unfold rv_lok at h1
      rw [if_pos c1] at h1
      obtain ⟨y, y1, y2, y3, y4⟩ := h1
      refine ⟨y, y1, hG.1, ⟨rv_okI' rfl ⟨y, rfl, y2, y3, y4, fun q hq => ?_, fun _ q hq => absurd hq List.not_mem_nil⟩, hG.2.1⟩, hG.2.2⟩
      rw [List.mem_singleton.mp (show q ∈ [((.inl k : rv_U), (0 : Int))] from hq)]
      refine ⟨0, ?_⟩
      show y.toInt = rv_lx ls k + 0 + 4294967296 * 0
      rw [rv_lx_at y1]
      omega
    · rw [if_neg c1] at h
      cases h
theorem rv_ald_ok {k : Nat} {G G' : rv_S} (h : rv_ald k G = some G') (hG : rv_G ad V0 V ls st G) : ∃ x : Nat, ls[k]? = some (.val (.ref x)) ∧ rv_G ad V0 V ls (.ref x :: st) G' := by
  unfold rv_ald at h
  cases ha : G.1[k]? with
  | none => rw [ha] at h; cases h
  | some a =>
    rw [ha] at h
    dsimp only at h
    by_cases c1 : a.1 = 2
    · rw [if_pos c1] at h
      cases h
      have h1 := hG.1 k a ha
      unfold rv_lok at h1
      rw [if_neg (by omega), if_pos c1] at h1
      exact ⟨_, h1, hG.1, ⟨rv_okR' rfl rfl, hG.2.1⟩, hG.2.2⟩
    · rw [if_neg c1] at h
      cases h
theorem rv_sto1_ok {t k : Nat} {G G' : rv_S} (ht : t = 1 ∨ t = 2) (h : rv_sto1 t P nL k G = some G') (hG : rv_G ad V0 V ls st G) : k < nL ∧ P.any (fun j => decide (j = k)) = false ∧ ∃ v rest, st = v :: rest ∧ (t = 1 → ∃ x, v = .int x) ∧ (t = 2 → ∃ x, v = .ref x) ∧ ∀ ls', rv_sto ls ls' k v → rv_G ad V0 V ls' rest G' := by
  unfold rv_sto1 at h
  cases hs : G.2.1 with
  | nil => rw [hs] at h; cases h
  | cons a S =>
    rw [hs] at h
    dsimp only at h
    by_cases c1 : a.1 = t ∧ k < nL ∧ P.any (fun j => decide (j = k)) = false
    · rw [if_pos c1] at h
      cases h
      have hS := hG.2.1
      rw [hs] at hS
      obtain ⟨v, vs, rfl, h1, h2⟩ := rv_sk_cons hS
      refine ⟨c1.2.1, c1.2.2, v, vs, rfl, fun e1 => ?_, fun e2 => ?_, fun ls' hst => rv_st_ok hst h1 (by omega) ⟨hG.1, h2, hG.2.2⟩⟩
      · obtain ⟨x, e, -⟩ := rv_okI (by omega) h1
        exact ⟨x, e⟩
      · exact ⟨_, rv_okR (by omega) h1⟩
    · rw [if_neg c1] at h
      cases h
theorem rv_ii_ok {k : Nat} {n : Int} {G G' : rv_S} (h : rv_ii P nL k n G = some G') (hG : rv_G ad V0 V ls st G) : k < nL ∧ P.any (fun j => decide (j = k)) = false ∧ ∃ x : Int32, ls[k]? = some (.val (.int x)) ∧ ∀ ls', rv_sto ls ls' k (.int (x + Int32.ofInt n)) → rv_G ad V0 V ls' st G' ∧ rv_Rl (rv_tch (.iinc k n) G) ls ls' := by
  unfold rv_ii at h
  cases ha : G.1[k]? with
  | none => rw [ha] at h; cases h
  | some a =>
    rw [ha] at h
    dsimp only at h
    by_cases c1 : a.1 = 1 ∧ k < nL ∧ P.any (fun j => decide (j = k)) = false ∧ -2147483648 ≤ n ∧ n ≤ 2147483647
    · rw [if_pos c1] at h
      cases h
      have h1 := hG.1 k a ha
      unfold rv_lok at h1
      rw [if_pos c1.1] at h1
      obtain ⟨y, y1, y2, y3, y4⟩ := h1
      refine ⟨c1.2.1, c1.2.2.1, y, y1, fun ls' hst => ⟨rv_inc_ok c1.2.2.2 y1 hst y2 y3 hG, ?_⟩⟩
      obtain ⟨s1, s2, s3, s4, s5⟩ := hst
      unfold rv_tch
      dsimp only
      rw [ha]
      dsimp only
      by_cases c2 : a.1 = 1 ∧ -2147483648 ≤ rv_l a + n ∧ rv_h a + n ≤ 2147483647
      · rw [if_pos c2]
        refine ⟨s5, ?_⟩
        rw [rv_lx_at s3, rv_lx_at y1]
        obtain ⟨q, hq⟩ := zi_add y (Int32.ofInt n)
        rw [zi_of c1.2.2.2.1 c1.2.2.2.2] at hq
        have hr := zi_rng (y + Int32.ofInt n)
        omega
      · rw [if_neg c2]
        exact s5
    · rw [if_neg c1] at h
      cases h
theorem rv_b2_ok {op : Nat} {G G' : rv_S} (h : rv_b2 op G = some G') (hG : rv_G ad V0 V ls st G) : ∃ x y rest, st = .int y :: .int x :: rest ∧ (6 ≤ op → ¬ y = 0) ∧ ∀ z : Int32, rv_rel op x y z → rv_G ad V0 V ls (.int z :: rest) G' := by
  unfold rv_b2 at h
  match hs : G.2.1, h with
  | b :: a :: S, h =>
    dsimp only at h
    cases hr : rv_bin op a b with
    | none => rw [hr] at h; cases h
    | some r =>
      rw [hr] at h
      cases h
      have hS := hG.2.1
      rw [hs] at hS
      obtain ⟨vb, vs, rfl, h1, h2⟩ := rv_sk_cons hS
      obtain ⟨va, vs, rfl, h3, h4⟩ := rv_sk_cons h2
      obtain ⟨x, y, rfl, rfl, h5, h6⟩ := rv_bin_ok hr h3 h1
      exact ⟨x, y, vs, rfl, h5, fun z hz => ⟨hG.1, ⟨h6 z hz, h4⟩, hG.2.2⟩⟩
  | [_], h => cases h
  | [], h => cases h
theorem rv_u1_ok {f : rv_A → rv_A} {G G' : rv_S} (h : rv_u1 f G = some G') (hG : rv_G ad V0 V ls st G) : ∃ a x rest, st = .int x :: rest ∧ rv_oI V ls a (.int x) ∧ ∀ v, rv_ok ad V ls (f a) v → rv_G ad V0 V ls (v :: rest) G' := by
  unfold rv_u1 at h
  match hs : G.2.1, h with
  | a :: S, h =>
    dsimp only at h
    by_cases c1 : a.1 = 1
    · rw [if_pos c1] at h
      cases h
      have hS := hG.2.1
      rw [hs] at hS
      obtain ⟨va, vs, rfl, h1, h2⟩ := rv_sk_cons hS
      have h3 := rv_okI c1 h1
      obtain ⟨x, rfl, -⟩ := id h3
      exact ⟨a, x, vs, rfl, h3, fun v hv => ⟨hG.1, ⟨hv, h2⟩, hG.2.2⟩⟩
    · rw [if_neg c1] at h
      cases h
  | [], h => cases h
theorem rv_o1_some {n : Nat} {G : Option rv_S} {outs : List (Nat × rv_S)} (h : rv_o1 n G = some outs) : ∃ g, G = some g ∧ outs = [(n, g)] := by
  unfold rv_o1 at h
  cases G with
  | none => cases h
  | some g => exact ⟨g, rfl, (Option.some.inj h).symm⟩
end SOUND
