/-! INSTANCES FOR WHAT IS COMPARED -/
theorem gm_weak {l : Launch} {D : va_G} {cl : List vw_C} {tm : List fm_C} {ad : Nat → Nat} {cy : Nat → ClassId} {nt : fm_Nt} {Z : State → Heap → Prop} {y : MethodName} {ws : List Jvm.Cond} {rm : Room} {V : fm_V} {avs : List Value} {po po2 : Option Value → fm_V → Prop} (h : gm_M l D cl tm ad cy nt Z y ws rm V avs po) (hp : ∀ r V1, po r V1 → po2 r V1) : gm_M l D cl tm ad cy nt Z y ws rm V avs po2 := by
  intro p e ha hc hk s m args below hf happ hP ht
  obtain ⟨k, o, h1, h2, h3, ⟨⟨r, V1, e1, e2, e3⟩, e4⟩, e5⟩ := h p e ha hc hk s m args below hf happ hP ht
  exact ⟨k, o, h1, h2, h3, ⟨⟨r, V1, e1, hp r V1 e2, e3⟩, e4⟩, e5⟩
def K_liesin (lo hi a b : Int) : rv_K := ([(3, 0, a, b, [], []), (3, 0, lo, lo, [], []), (3, 0, hi, hi, [], [])], [], [], [(0, 1, 1)], [], [])
theorem m_liesin {l : Launch} {D : va_G} {ad : Nat → Nat} {cy : Nat → ClassId} {Z : State → Heap → Prop} (hAd : fm_Ad fm_tm ad) (hZ : fm_Zk (fm_A fm_tm ad) Z) (lo hi a b : Int) (h : lo ≤ a ∧ b ≤ hi) : rv_Met l D fm_cl fm_tm ad cy fm_nt Z fm_G yX8_lies (.code yX8_lies prog_10_method_2_code 6 (some .boolean) :: fm_Ts) { frames := 0, cells := 0, slots := 0, locals := 0 } (K_liesin lo hi a b) := by
  intro V avs hpre
  obtain ⟨v0, r0, rfl, q0, h0⟩ := rv_sk_cons hpre.2.2.1
  obtain ⟨v1, r1, rfl, q1, h0⟩ := rv_sk_cons h0
  obtain ⟨v2, r2, rfl, q2, h0⟩ := rv_sk_cons h0
  obtain rfl := rv_sk_nil h0
  obtain ⟨x, rfl, x1, x2, -⟩ := rv_okL rfl q0
  obtain ⟨y, rfl, y1, y2, -⟩ := rv_okL rfl q1
  obtain ⟨z, rfl, z1, z2, -⟩ := rv_okL rfl q2
  replace x1 : a ≤ x.toInt := x1
  replace x2 : x.toInt ≤ b := x2
  replace y2 : y.toInt ≤ lo := y2
  replace z1 : hi ≤ z.toInt := z1
  refine gm_weak (g_lies hAd hZ) (fun r V1 hp => ?_)
  obtain ⟨rfl, w, rfl, hw, hi2⟩ := hp
  obtain rfl : w = 1 := by
    rcases hw with rfl | rfl
    · exact absurd rfl (hi2.mpr ⟨by omega, by omega⟩)
    · rfl
  exact ⟨hpre.1, fun _ _ _ => rfl, ⟨1, rfl, by decide, by decide, fun q => absurd (show (0 : Nat) = 1 from q) (by decide), fun _ q hq => absurd hq List.not_mem_nil⟩, fun f hf => absurd hf List.not_mem_nil⟩
def K_liesin_0_65535_0_65535 : rv_K := ([(3, 0, 0, 65535, [], []), (3, 0, 0, 0, [], []), (3, 0, 65535, 65535, [], [])], [], [], [(0, 1, 1)], [], [])
theorem m_liesin_0_65535_0_65535 {l : Launch} {D : va_G} {ad : Nat → Nat} {cy : Nat → ClassId} {Z : State → Heap → Prop} (hAd : fm_Ad fm_tm ad) (hZ : fm_Zk (fm_A fm_tm ad) Z) : rv_Met l D fm_cl fm_tm ad cy fm_nt Z fm_G yX8_lies (.code yX8_lies prog_10_method_2_code 6 (some .boolean) :: fm_Ts) { frames := 0, cells := 0, slots := 0, locals := 0 } K_liesin_0_65535_0_65535 := m_liesin hAd hZ 0 65535 0 65535 (by decide)
def K_X8_undo_1 : rv_K := ([rv_r 80], [((80, 2), 0, 2000000000, []), ((80, 73), 0, 0, []), ((125, 5), 0, 2000000000, [])], [], [(0, 0, 0)], [], [])
def ct_X8_undo_1 : List (Nat × rv_K) := []
def n_X8_undo_1 : List rv_N := [
  (0, ([rv_r 80], [], [((80, 2), 0, 2000000000, [((80, 2), 0, 0)]), ((80, 73), 0, 0, []), ((125, 5), 0, 2000000000, [((125, 5), 0, 0)])]), [1], 4, [], []),
  (1, ([rv_r 80], [rv_r 80], [((80, 2), 0, 2000000000, [((80, 2), 0, 0)]), ((80, 73), 0, 0, []), ((125, 5), 0, 2000000000, [((125, 5), 0, 0)])]), [2], 3, [], []),
  (2, ([rv_r 80], [(1, 0, 0, 0, [(.inr (80, 73), 0)], [])], [((80, 2), 0, 2000000000, [((80, 2), 0, 0)]), ((80, 73), 0, 0, []), ((125, 5), 0, 2000000000, [((125, 5), 0, 0)])]), [3], 2, [], []),
  (3, ([rv_r 80], [], [((80, 2), 0, 2000000000, [((80, 2), 0, 0)]), ((80, 73), 0, 0, []), ((125, 5), 0, 2000000000, [((125, 5), 0, 0)])]), [4], 1, [], []),
  (4, ([rv_r 80], [rv_i 0 0], [((80, 2), 0, 2000000000, [((80, 2), 0, 0)]), ((80, 73), 0, 0, []), ((125, 5), 0, 2000000000, [((125, 5), 0, 0)])]), [], 0, [], [])]
set_option maxRecDepth 100000 in
theorem a_X8_undo_1 : rv_all (fm_tm, flX8, fm_wr, kcX8, klX8, K_X8_undo_1.2.2.1, [], 1) ct_X8_undo_1 cd_X8_undo n_X8_undo_1 K_X8_undo_1 [] 0 n_X8_undo_1 = true := rv_fast (rv_at_eq n_X8_undo_1) (rv_at_eq cd_X8_undo) (by decide +kernel)
theorem m_X8_undo_1 {l : Launch} {D : va_G} {ad : Nat → Nat} {cy : Nat → ClassId} {Z : State → Heap → Prop} (hAd : fm_Ad fm_tm ad) (hZ : fm_Zk (fm_A fm_tm ad) Z) : rv_Met l D fm_cl fm_tm ad cy fm_nt Z fm_G yX8_undo (.code yX8_undo prog_10_method_94_code 1 (some .boolean) :: fm_Ts) { frames := 1, cells := 0, slots := 0, locals := 100 } K_X8_undo_1 := rv_met hAd hZ (Or.inl (by decide +kernel)) evX8 dc_X8_undo a_X8_undo_1 ⟨rfl, rfl, rfl⟩ (by decide +kernel) (by decide +kernel) (by decide) (fm_gm fm_G_gd (by decide +kernel)) (Or.inr ⟨rfl, by decide, by decide⟩) (fun p e s m args below meth c Q X Y => fun _ h => absurd h List.not_mem_nil) (fun _ _ _ _ _ _ _ _ _ _ _ _ _ _ _ _ h => absurd h List.not_mem_nil)
def K_X8_undo_2 : rv_K := ([rv_r 80], [((80, 2), 0, 2000000000, []), ((80, 73), 1, 1, []), ((125, 5), 0, 2000000000, [])], [(80, 2), (80, 3), (80, 4), (80, 5), (80, 6), (82, 9999), (83, 9999), (84, 9999), (85, 9999), (86, 9999), (87, 9999), (88, 9999), (89, 9999), (90, 9999), (91, 9999), (92, 9999), (93, 9999), (94, 9999)], [(0, 1, 1)], [], [((80, 2), 0, 2000000000, [((125, 5), 0, 0)])])
def ct_X8_undo_2 : List (Nat × rv_K) := [(7, K_X8_putsBack_1)]
def n_X8_undo_2 : List rv_N := [
  (0, ([rv_r 80], [], [((80, 2), 0, 2000000000, [((80, 2), 0, 0)]), ((80, 73), 1, 1, []), ((125, 5), 0, 2000000000, [((125, 5), 0, 0)])]), [1], 7, [], []),
  (1, ([rv_r 80], [rv_r 80], [((80, 2), 0, 2000000000, [((80, 2), 0, 0)]), ((80, 73), 1, 1, []), ((125, 5), 0, 2000000000, [((125, 5), 0, 0)])]), [2], 6, [], []),
  (2, ([rv_r 80], [(1, 0, 1, 1, [(.inr (80, 73), 0)], [])], [((80, 2), 0, 2000000000, [((80, 2), 0, 0)]), ((80, 73), 1, 1, []), ((125, 5), 0, 2000000000, [((125, 5), 0, 0)])]), [3], 5, [], []),
  (5, ([rv_r 80], [], [((80, 2), 0, 2000000000, [((80, 2), 0, 0)]), ((80, 73), 1, 1, []), ((125, 5), 0, 2000000000, [((125, 5), 0, 0)])]), [4], 4, [], []),
  (6, ([rv_r 80], [rv_r 80], [((80, 2), 0, 2000000000, [((80, 2), 0, 0)]), ((80, 73), 1, 1, []), ((125, 5), 0, 2000000000, [((125, 5), 0, 0)])]), [5], 3, [], []),
  (7, ([rv_r 80], [rv_i 1 1, rv_r 80], [((80, 2), 0, 2000000000, [((80, 2), 0, 0)]), ((80, 73), 1, 1, []), ((125, 5), 0, 2000000000, [((125, 5), 0, 0)])]), [6], 2, [], [0]),
  (8, ([rv_r 80], [], [((80, 2), 0, 2000000000, [((125, 5), 0, 0)]), ((80, 73), 1, 1, []), ((125, 5), 0, 2000000000, [((125, 5), 0, 0)])]), [7], 1, [], []),
  (9, ([rv_r 80], [rv_i 1 1], [((80, 2), 0, 2000000000, [((125, 5), 0, 0)]), ((80, 73), 1, 1, []), ((125, 5), 0, 2000000000, [((125, 5), 0, 0)])]), [], 0, [], [])]
set_option maxRecDepth 100000 in
theorem a_X8_undo_2 : rv_all (fm_tm, flX8, fm_wr, kcX8, klX8, K_X8_undo_2.2.2.1, [], 1) ct_X8_undo_2 cd_X8_undo n_X8_undo_2 K_X8_undo_2 [] 0 n_X8_undo_2 = true := rv_fast (rv_at_eq n_X8_undo_2) (rv_at_eq cd_X8_undo) (by decide +kernel)
theorem m_X8_undo_2 {l : Launch} {D : va_G} {ad : Nat → Nat} {cy : Nat → ClassId} {Z : State → Heap → Prop} (hAd : fm_Ad fm_tm ad) (hZ : fm_Zk (fm_A fm_tm ad) Z) : rv_Met l D fm_cl fm_tm ad cy fm_nt Z fm_G yX8_undo (.code yX8_undo prog_10_method_94_code 1 (some .boolean) :: fm_Ts) { frames := 1, cells := 0, slots := 0, locals := 100 } K_X8_undo_2 := rv_met hAd hZ (Or.inl (by decide +kernel)) evX8 dc_X8_undo a_X8_undo_2 ⟨rfl, rfl, rfl⟩ (by decide +kernel) (by decide +kernel) (by decide) (fm_gm fm_G_gd (by decide +kernel)) (Or.inr ⟨rfl, by decide, by decide⟩) (fun p e s m args below meth c Q X Y => List.forall_mem_cons.mpr ⟨rv_ctV X Y fm_Ts_good dc_X8_undo (pc := 11) (i := 7) (idx := 445) rfl (m_X8_putsBack_1 hAd hZ) wl_X8_445 wm_X8_putsBack wy_X8_putsBack (by decide) ⟨rfl, rfl, rfl⟩ ⟨rfl, rfl⟩, fun _ h => absurd h List.not_mem_nil⟩) (fun _ _ _ _ _ _ _ _ _ _ _ _ _ _ _ _ h => absurd h List.not_mem_nil)
def K_X7_undo_1 : rv_K := ([rv_r 0], [((0, 11), 0, 0, [])], [], [(0, 0, 0)], [], [])
def ct_X7_undo_1 : List (Nat × rv_K) := []
def n_X7_undo_1 : List rv_N := [
  (0, ([rv_r 0], [], [((0, 11), 0, 0, [])]), [1], 4, [], []),
  (1, ([rv_r 0], [rv_r 0], [((0, 11), 0, 0, [])]), [2], 3, [], []),
  (2, ([rv_r 0], [(1, 0, 0, 0, [(.inr (0, 11), 0)], [])], [((0, 11), 0, 0, [])]), [3], 2, [], []),
  (3, ([rv_r 0], [], [((0, 11), 0, 0, [])]), [4], 1, [], []),
  (4, ([rv_r 0], [rv_i 0 0], [((0, 11), 0, 0, [])]), [], 0, [], [])]
set_option maxRecDepth 100000 in
theorem a_X7_undo_1 : rv_all (fm_tm, flX7, fm_wr, kcX7, klX7, K_X7_undo_1.2.2.1, [], 1) ct_X7_undo_1 cd_X7_undo n_X7_undo_1 K_X7_undo_1 [] 0 n_X7_undo_1 = true := rv_fast (rv_at_eq n_X7_undo_1) (rv_at_eq cd_X7_undo) (by decide +kernel)
theorem m_X7_undo_1 {l : Launch} {D : va_G} {ad : Nat → Nat} {cy : Nat → ClassId} {Z : State → Heap → Prop} {Gp : fm_V → Prop} (hAd : fm_Ad fm_tm ad) (hZ : fm_Zk (fm_A fm_tm ad) Z) (hGd : fm_Gd Gp) : rv_Met l D fm_cl fm_tm ad cy fm_nt Z Gp yX7_undo (.code yX7_undo prog_1_method_31_code 1 (some .boolean) :: fm_Ts) { frames := 4, cells := 0, slots := 0, locals := 400 } K_X7_undo_1 := rv_met hAd hZ (Or.inl (by decide +kernel)) evX7 dc_X7_undo a_X7_undo_1 ⟨rfl, rfl, rfl⟩ (by decide +kernel) (by decide +kernel) (by decide) (fm_gm hGd (by decide +kernel)) (Or.inr ⟨rfl, by decide, by decide⟩) (fun p e s m args below meth c Q X Y => fun _ h => absurd h List.not_mem_nil) (fun _ _ _ _ _ _ _ _ _ _ _ _ _ _ _ _ h => absurd h List.not_mem_nil)
def K_X7_undo_2 : rv_K := ([rv_r 0], [((0, 11), 1, 1, [])], [(3, 1), (4, 9999), (26, 9), (26, 10), (26, 11), (26, 12), (26, 13), (26, 14), (26, 15), (27, 9999), (28, 9999), (29, 9999), (30, 9999), (31, 9999), (32, 9999), (33, 9999), (34, 9999), (36, 0), (37, 9999), (38, 9999), (39, 9999), (40, 9999)], [(0, 1, 1)], [], [])
def ct_X7_undo_2 : List (Nat × rv_K) := [(9, K_X0_takeAll_2), (14, K_X6_take_1)]
def n_X7_undo_2 : List rv_N := [
  (0, ([rv_r 0], [], [((0, 11), 1, 1, [])]), [1], 14, [], []),
  (1, ([rv_r 0], [rv_r 0], [((0, 11), 1, 1, [])]), [2], 13, [], []),
  (2, ([rv_r 0], [(1, 0, 1, 1, [(.inr (0, 11), 0)], [])], [((0, 11), 1, 1, [])]), [3], 12, [], []),
  (5, ([rv_r 0], [], [((0, 11), 1, 1, [])]), [4], 11, [], []),
  (6, ([rv_r 0], [rv_r 0], [((0, 11), 1, 1, [])]), [5], 10, [], []),
  (7, ([rv_r 0], [rv_r 26], [((0, 11), 1, 1, [])]), [6], 9, [], []),
  (8, ([rv_r 0], [rv_r 0, rv_r 26], [((0, 11), 1, 1, [])]), [7], 8, [], []),
  (9, ([rv_r 0], [rv_r 41, rv_r 26], [((0, 11), 1, 1, [])]), [8], 7, [], [0]),
  (10, ([rv_r 0], [], [((0, 11), 1, 1, [])]), [9], 6, [], []),
  (11, ([rv_r 0], [rv_r 0], [((0, 11), 1, 1, [])]), [10], 5, [], []),
  (12, ([rv_r 0], [rv_r 3], [((0, 11), 1, 1, [])]), [11], 4, [], []),
  (13, ([rv_r 0], [rv_r 0, rv_r 3], [((0, 11), 1, 1, [])]), [12], 3, [], []),
  (14, ([rv_r 0], [rv_r 5, rv_r 3], [((0, 11), 1, 1, [])]), [13], 2, [], [1]),
  (15, ([rv_r 0], [], [((0, 11), 1, 1, [])]), [14], 1, [], []),
  (16, ([rv_r 0], [rv_i 1 1], [((0, 11), 1, 1, [])]), [], 0, [], [])]
set_option maxRecDepth 100000 in
theorem a_X7_undo_2 : rv_all (fm_tm, flX7, fm_wr, kcX7, klX7, K_X7_undo_2.2.2.1, [], 1) ct_X7_undo_2 cd_X7_undo n_X7_undo_2 K_X7_undo_2 [] 0 n_X7_undo_2 = true := rv_fast (rv_at_eq n_X7_undo_2) (rv_at_eq cd_X7_undo) (by decide +kernel)
theorem m_X7_undo_2 {l : Launch} {D : va_G} {ad : Nat → Nat} {cy : Nat → ClassId} {Z : State → Heap → Prop} {Gp : fm_V → Prop} (hAd : fm_Ad fm_tm ad) (hZ : fm_Zk (fm_A fm_tm ad) Z) (hGd : fm_Gd Gp) : rv_Met l D fm_cl fm_tm ad cy fm_nt Z Gp yX7_undo (.code yX7_undo prog_1_method_31_code 1 (some .boolean) :: fm_Ts) { frames := 4, cells := 0, slots := 0, locals := 400 } K_X7_undo_2 := rv_met hAd hZ (Or.inl (by decide +kernel)) evX7 dc_X7_undo a_X7_undo_2 ⟨rfl, rfl, rfl⟩ (by decide +kernel) (by decide +kernel) (by decide) (fm_gm hGd (by decide +kernel)) (Or.inr ⟨rfl, by decide, by decide⟩) (fun p e s m args below meth c Q X Y => List.forall_mem_cons.mpr ⟨rv_ctV X Y fm_Ts_good dc_X7_undo (pc := 17) (i := 9) (idx := 168) rfl (m_X0_takeAll_2 hAd hZ hGd) wl_X7_168 wm_X0_takeAll wy_X0_takeAll (by decide) ⟨rfl, rfl, rfl⟩ ⟨rfl, rfl⟩, List.forall_mem_cons.mpr ⟨rv_ctV X Y fm_Ts_good dc_X7_undo (pc := 28) (i := 14) (idx := 293) rfl (m_X6_take_1 hAd hZ hGd) wl_X7_293 wm_X6_take wy_X6_take (by decide) ⟨rfl, rfl, rfl⟩ ⟨rfl, rfl⟩, fun _ h => absurd h List.not_mem_nil⟩⟩) (fun _ _ _ _ _ _ _ _ _ _ _ _ _ _ _ _ h => absurd h List.not_mem_nil)
def K_X7_isWithin_22 : rv_K := ([rv_i 0 65535, rv_i 0 0, rv_i 65535 65535], [], [], [(0, 1, 1)], [], [])
def ct_X7_isWithin_22 : List (Nat × rv_K) := []
def n_X7_isWithin_22 : List rv_N := [
  (0, ([rv_i 0 65535, rv_i 0 0, rv_i 65535 65535], [], []), [1], 8, [], []),
  (1, ([rv_i 0 65535, rv_i 0 0, rv_i 65535 65535], [(1, 0, 0, 65535, [(.inl 0, 0)], [])], []), [2], 7, [], []),
  (2, ([rv_i 0 65535, rv_i 0 0, rv_i 65535 65535], [(1, 0, 0, 0, [(.inl 1, 0)], []), (1, 0, 0, 65535, [(.inl 0, 0)], [])], []), [3], 6, [], []),
  (3, ([rv_i 0 65535, rv_i 0 0, rv_i 65535 65535], [], []), [4], 5, [], []),
  (4, ([rv_i 0 65535, rv_i 0 0, rv_i 65535 65535], [(1, 0, 0, 65535, [(.inl 0, 0)], [])], []), [5], 4, [], []),
  (5, ([rv_i 0 65535, rv_i 0 0, rv_i 65535 65535], [(1, 0, 65535, 65535, [(.inl 2, 0)], []), (1, 0, 0, 65535, [(.inl 0, 0)], [])], []), [6], 3, [], []),
  (6, ([rv_i 0 65535, rv_i 0 0, rv_i 65535 65535], [], []), [7], 2, [], []),
  (7, ([rv_i 0 65535, rv_i 0 0, rv_i 65535 65535], [rv_i 1 1], []), [8], 1, [], []),
  (9, ([rv_i 0 65535, rv_i 0 0, rv_i 65535 65535], [rv_i 1 1], []), [], 0, [], [])]
set_option maxRecDepth 100000 in
theorem a_X7_isWithin_22 : rv_all (fm_tm, flX7, fm_wr, kcX7, klX7, K_X7_isWithin_22.2.2.1, [], 3) ct_X7_isWithin_22 cd_X7_isWithin n_X7_isWithin_22 K_X7_isWithin_22 [] 0 n_X7_isWithin_22 = true := rv_fast (rv_at_eq n_X7_isWithin_22) (rv_at_eq cd_X7_isWithin) (by decide +kernel)
theorem m_X7_isWithin_22 {l : Launch} {D : va_G} {ad : Nat → Nat} {cy : Nat → ClassId} {Z : State → Heap → Prop} {Gp : fm_V → Prop} (hAd : fm_Ad fm_tm ad) (hZ : fm_Zk (fm_A fm_tm ad) Z) (hGd : fm_Gd Gp) : rv_Met l D fm_cl fm_tm ad cy fm_nt Z Gp yX7_isWithin (.code yX7_isWithin prog_1_method_34_code 3 (some .boolean) :: fm_Ts) { frames := 0, cells := 0, slots := 0, locals := 0 } K_X7_isWithin_22 := rv_met hAd hZ (Or.inl (by decide +kernel)) evX7 dc_X7_isWithin a_X7_isWithin_22 ⟨rfl, rfl, rfl⟩ (by decide +kernel) (by decide +kernel) (by decide) (fm_gm hGd (by decide +kernel)) (Or.inr ⟨rfl, by decide, by decide⟩) (fun p e s m args below meth c Q X Y => fun _ h => absurd h List.not_mem_nil) (fun _ _ _ _ _ _ _ _ _ _ _ _ _ _ _ _ h => absurd h List.not_mem_nil)
def K_X7_seed_1 : rv_K := ([rv_r 0, rv_i 0 65535], [], [(26, 10)], [(0, 1, 1)], [], [])
def ct_X7_seed_1 : List (Nat × rv_K) := [(3, K_X7_isWithin_22)]
def n_X7_seed_1 : List rv_N := [
  (0, ([rv_r 0, rv_i 0 65535], [], []), [1], 10, [], []),
  (1, ([rv_r 0, rv_i 0 65535], [(1, 0, 0, 65535, [(.inl 1, 0)], [])], []), [2], 9, [], []),
  (2, ([rv_r 0, rv_i 0 65535], [rv_i 0 0, (1, 0, 0, 65535, [(.inl 1, 0)], [])], []), [3], 8, [], []),
  (3, ([rv_r 0, rv_i 0 65535], [rv_i 65535 65535, rv_i 0 0, (1, 0, 0, 65535, [(.inl 1, 0)], [])], []), [4], 7, [], [0]),
  (4, ([rv_r 0, rv_i 0 65535], [rv_i 1 1], []), [5], 6, [], []),
  (7, ([rv_r 0, rv_i 0 65535], [], []), [6], 5, [], []),
  (8, ([rv_r 0, rv_i 0 65535], [rv_r 0], []), [7], 4, [], []),
  (9, ([rv_r 0, rv_i 0 65535], [rv_r 26], []), [8], 3, [], []),
  (10, ([rv_r 0, rv_i 0 65535], [(1, 0, 0, 65535, [(.inl 1, 0)], []), rv_r 26], []), [9], 2, [], []),
  (11, ([rv_r 0, rv_i 0 65535], [], [((26, 10), 0, 65535, [])]), [10], 1, [], []),
  (12, ([rv_r 0, rv_i 0 65535], [rv_i 1 1], [((26, 10), 0, 65535, [])]), [], 0, [], [])]
set_option maxRecDepth 100000 in
theorem a_X7_seed_1 : rv_all (fm_tm, flX7, fm_wr, kcX7, klX7, K_X7_seed_1.2.2.1, [], 2) ct_X7_seed_1 cd_X7_seed n_X7_seed_1 K_X7_seed_1 [] 0 n_X7_seed_1 = true := rv_fast (rv_at_eq n_X7_seed_1) (rv_at_eq cd_X7_seed) (by decide +kernel)
theorem m_X7_seed_1 {l : Launch} {D : va_G} {ad : Nat → Nat} {cy : Nat → ClassId} {Z : State → Heap → Prop} {Gp : fm_V → Prop} (hAd : fm_Ad fm_tm ad) (hZ : fm_Zk (fm_A fm_tm ad) Z) (hGd : fm_Gd Gp) : rv_Met l D fm_cl fm_tm ad cy fm_nt Z Gp yX7_seed (.code yX7_seed prog_1_method_29_code 2 (some .boolean) :: fm_Ts) { frames := 1, cells := 0, slots := 0, locals := 100 } K_X7_seed_1 := rv_met hAd hZ (Or.inl (by decide +kernel)) evX7 dc_X7_seed a_X7_seed_1 ⟨rfl, rfl, rfl⟩ (by decide +kernel) (by decide +kernel) (by decide) (fm_gm hGd (by decide +kernel)) (Or.inr ⟨rfl, by decide, by decide⟩) (fun p e s m args below meth c Q X Y => List.forall_mem_cons.mpr ⟨rv_ctS X Y fm_Ts_good dc_X7_seed (pc := 5) (i := 3) (idx := 80) rfl (m_X7_isWithin_22 hAd hZ hGd) wl_X7_80 wm_X7_isWithin wy_X7_isWithin (by decide) rfl, fun _ h => absurd h List.not_mem_nil⟩) (fun _ _ _ _ _ _ _ _ _ _ _ _ _ _ _ _ h => absurd h List.not_mem_nil)
def K_X8_seed_1 : rv_K := ([rv_r 80, rv_i 0 65535], [], [(80, 3)], [(0, 1, 1)], [], [])
def ct_X8_seed_1 : List (Nat × rv_K) := [(4, K_liesin_0_65535_0_65535)]
def n_X8_seed_1 : List rv_N := [
  (0, ([rv_r 80, rv_i 0 65535], [], []), [1], 10, [], []),
  (1, ([rv_r 80, rv_i 0 65535], [(1, 0, 0, 65535, [(.inl 1, 0)], [])], []), [2], 9, [], []),
  (2, ([rv_r 80, rv_i 0 65535], [(3, 0, 0, 65535, [(.inl 1, 0)], [])], []), [3], 8, [], []),
  (3, ([rv_r 80, rv_i 0 65535], [(3, 0, 0, 0, [], []), (3, 0, 0, 65535, [(.inl 1, 0)], [])], []), [4], 7, [], []),
  (4, ([rv_r 80, rv_i 0 65535], [(3, 0, 65535, 65535, [], []), (3, 0, 0, 0, [], []), (3, 0, 0, 65535, [(.inl 1, 0)], [])], []), [5], 6, [], [0]),
  (5, ([rv_r 80, rv_i 0 65535], [rv_i 1 1], []), [6], 5, [], []),
  (8, ([rv_r 80, rv_i 0 65535], [], []), [7], 4, [], []),
  (9, ([rv_r 80, rv_i 0 65535], [rv_r 80], []), [8], 3, [], []),
  (10, ([rv_r 80, rv_i 0 65535], [(1, 0, 0, 65535, [(.inl 1, 0)], []), rv_r 80], []), [9], 2, [], []),
  (11, ([rv_r 80, rv_i 0 65535], [], [((80, 3), 0, 65535, [])]), [10], 1, [], []),
  (12, ([rv_r 80, rv_i 0 65535], [rv_i 1 1], [((80, 3), 0, 65535, [])]), [], 0, [], [])]
set_option maxRecDepth 100000 in
theorem a_X8_seed_1 : rv_all (fm_tm, flX8, fm_wr, kcX8, klX8, K_X8_seed_1.2.2.1, [], 2) ct_X8_seed_1 cd_X8_seed n_X8_seed_1 K_X8_seed_1 [] 0 n_X8_seed_1 = true := rv_fast (rv_at_eq n_X8_seed_1) (rv_at_eq cd_X8_seed) (by decide +kernel)
theorem m_X8_seed_1 {l : Launch} {D : va_G} {ad : Nat → Nat} {cy : Nat → ClassId} {Z : State → Heap → Prop} (hAd : fm_Ad fm_tm ad) (hZ : fm_Zk (fm_A fm_tm ad) Z) : rv_Met l D fm_cl fm_tm ad cy fm_nt Z fm_G yX8_seed (.code yX8_seed prog_10_method_92_code 2 (some .boolean) :: fm_Ts) { frames := 1, cells := 0, slots := 0, locals := 100 } K_X8_seed_1 := rv_met hAd hZ (Or.inl (by decide +kernel)) evX8 dc_X8_seed a_X8_seed_1 ⟨rfl, rfl, rfl⟩ (by decide +kernel) (by decide +kernel) (by decide) (fm_gm fm_G_gd (by decide +kernel)) (Or.inr ⟨rfl, by decide, by decide⟩) (fun p e s m args below meth c Q X Y => List.forall_mem_cons.mpr ⟨rv_ctS X Y fm_Ts_good dc_X8_seed (pc := 6) (i := 4) (idx := 168) rfl (m_liesin_0_65535_0_65535 hAd hZ) wl_X8_168 wm_X8_lies wy_X8_lies (by decide) rfl, fun _ h => absurd h List.not_mem_nil⟩) (fun _ _ _ _ _ _ _ _ _ _ _ _ _ _ _ _ h => absurd h List.not_mem_nil)
