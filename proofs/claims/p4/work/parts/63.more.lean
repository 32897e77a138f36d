/-! INSTANCES FOR WHAT IS COMPARED -/
theorem gm_weak {l : Launch} {D : va_G} {cl : List vw_C} {tm : List fm_C} {ad : Nat → Nat} {cy : Nat → ClassId} {nt : fm_Nt} {Z : State → Heap → Prop} {y : MethodName} {ws : List Jvm.Cond} {rm : Room} {V : fm_V} {avs : List Value} {po po2 : Option Value → fm_V → Prop} (h : gm_M l D cl tm ad cy nt Z y ws rm V avs po) (hp : ∀ r V1, po r V1 → po2 r V1) : gm_M l D cl tm ad cy nt Z y ws rm V avs po2 := by
  intro p e ha hc hk s m args below hf happ hP ht
  obtain ⟨k, o, h1, h2, h3, ⟨⟨r, V1, e1, e2, e3⟩, e4⟩, e5⟩ := h p e ha hc hk s m args below hf happ hP ht
  exact ⟨k, o, h1, h2, h3, ⟨⟨r, V1, e1, hp r V1 e2, e3⟩, e4⟩, e5⟩
def K_liesin (lo hi a b : Int) : rv_K := ([(3, 0, a, b, [], []), (3, 0, lo, lo, [], []), (3, 0, hi, hi, [], [])], [], [], [(0, 1, 1)], [], [])
theorem m_liesin {l : Launch} {D : va_G} {ad : Nat → Nat} {cy : Nat → ClassId} {Z : State → Heap → Prop} (hAd : fm_Ad fm_tm ad) (hZ : fm_Zk (fm_A fm_tm ad) Z) (lo hi a b : Int) (h : lo ≤ a ∧ b ≤ hi) : rv_Met l D fm_cl fm_tm ad cy fm_nt Z fm_G yX8_lies (.code yX8_lies prog_10_method_2_code 6 (some .boolean) :: fm_Ts) { frames := 0, cells := 0, slots := 0, locals := 0 } (K_liesin lo hi a b) := by
  intro V avs hpre
  obtain ⟨v0, r0, rfl, q0, h0⟩ := rv_sk_cons hpre.2.2.1
  obtain ⟨v1, r1, rfl, q1, h0⟩ := rv_sk_cons h0
  obtain ⟨v2, r2, rfl, q2, h0⟩ := rv_sk_cons h0
  obtain rfl := rv_sk_nil h0
  obtain ⟨x, rfl, x1, x2, -⟩ := rv_okL rfl q0
  obtain ⟨y, rfl, y1, y2, -⟩ := rv_okL rfl q1
  obtain ⟨z, rfl, z1, z2, -⟩ := rv_okL rfl q2
  replace x1 : a ≤ x.toInt := x1
  replace x2 : x.toInt ≤ b := x2
  replace y2 : y.toInt ≤ lo := y2
  replace z1 : hi ≤ z.toInt := z1
  refine gm_weak (g_lies hAd hZ) (fun r V1 hp => ?_)
  obtain ⟨rfl, w, rfl, hw, hi2⟩ := hp
  obtain rfl : w = 1 := by
    rcases hw with rfl | rfl
    · exact absurd rfl (hi2.mpr ⟨by omega, by omega⟩)
    · rfl
  exact ⟨hpre.1, fun _ _ _ => rfl, ⟨1, rfl, by decide, by decide, fun q => absurd (show (0 : Nat) = 1 from q) (by decide), fun _ q hq => absurd hq List.not_mem_nil⟩, fun f hf => absurd hf List.not_mem_nil⟩
def K_liesin_0_19_0_19 : rv_K := ([(3, 0, 0, 19, [], []), (3, 0, 0, 0, [], []), (3, 0, 19, 19, [], [])], [], [], [(0, 1, 1)], [], [])
theorem m_liesin_0_19_0_19 {l : Launch} {D : va_G} {ad : Nat → Nat} {cy : Nat → ClassId} {Z : State → Heap → Prop} (hAd : fm_Ad fm_tm ad) (hZ : fm_Zk (fm_A fm_tm ad) Z) : rv_Met l D fm_cl fm_tm ad cy fm_nt Z fm_G yX8_lies (.code yX8_lies prog_10_method_2_code 6 (some .boolean) :: fm_Ts) { frames := 0, cells := 0, slots := 0, locals := 0 } K_liesin_0_19_0_19 := m_liesin hAd hZ 0 19 0 19 (by decide)
def K_liesin_0_9_0_9 : rv_K := ([(3, 0, 0, 9, [], []), (3, 0, 0, 0, [], []), (3, 0, 9, 9, [], [])], [], [], [(0, 1, 1)], [], [])
theorem m_liesin_0_9_0_9 {l : Launch} {D : va_G} {ad : Nat → Nat} {cy : Nat → ClassId} {Z : State → Heap → Prop} (hAd : fm_Ad fm_tm ad) (hZ : fm_Zk (fm_A fm_tm ad) Z) : rv_Met l D fm_cl fm_tm ad cy fm_nt Z fm_G yX8_lies (.code yX8_lies prog_10_method_2_code 6 (some .boolean) :: fm_Ts) { frames := 0, cells := 0, slots := 0, locals := 0 } K_liesin_0_9_0_9 := m_liesin hAd hZ 0 9 0 9 (by decide)
def K_liesin_0_8_0_8 : rv_K := ([(3, 0, 0, 8, [], []), (3, 0, 0, 0, [], []), (3, 0, 8, 8, [], [])], [], [], [(0, 1, 1)], [], [])
theorem m_liesin_0_8_0_8 {l : Launch} {D : va_G} {ad : Nat → Nat} {cy : Nat → ClassId} {Z : State → Heap → Prop} (hAd : fm_Ad fm_tm ad) (hZ : fm_Zk (fm_A fm_tm ad) Z) : rv_Met l D fm_cl fm_tm ad cy fm_nt Z fm_G yX8_lies (.code yX8_lies prog_10_method_2_code 6 (some .boolean) :: fm_Ts) { frames := 0, cells := 0, slots := 0, locals := 0 } K_liesin_0_8_0_8 := m_liesin hAd hZ 0 8 0 8 (by decide)
def K_liesin_0_9999_0_9999 : rv_K := ([(3, 0, 0, 9999, [], []), (3, 0, 0, 0, [], []), (3, 0, 9999, 9999, [], [])], [], [], [(0, 1, 1)], [], [])
theorem m_liesin_0_9999_0_9999 {l : Launch} {D : va_G} {ad : Nat → Nat} {cy : Nat → ClassId} {Z : State → Heap → Prop} (hAd : fm_Ad fm_tm ad) (hZ : fm_Zk (fm_A fm_tm ad) Z) : rv_Met l D fm_cl fm_tm ad cy fm_nt Z fm_G yX8_lies (.code yX8_lies prog_10_method_2_code 6 (some .boolean) :: fm_Ts) { frames := 0, cells := 0, slots := 0, locals := 0 } K_liesin_0_9999_0_9999 := m_liesin hAd hZ 0 9999 0 9999 (by decide)
def K_X8_undo_1 : rv_K := ([rv_r 80], [((80, 2), 0, 2000000000, []), ((80, 73), 0, 0, []), ((125, 5), 0, 2000000000, [])], [], [(0, 0, 0)], [], [])
def ct_X8_undo_1 : List (Nat × rv_K) := []
def n_X8_undo_1 : List rv_N := [
  (0, ([rv_r 80], [], [((80, 2), 0, 2000000000, [((80, 2), 0, 0)]), ((80, 73), 0, 0, []), ((125, 5), 0, 2000000000, [((125, 5), 0, 0)])]), [1], 4, [], []),
  (1, ([rv_r 80], [rv_r 80], [((80, 2), 0, 2000000000, [((80, 2), 0, 0)]), ((80, 73), 0, 0, []), ((125, 5), 0, 2000000000, [((125, 5), 0, 0)])]), [2], 3, [], []),
  (2, ([rv_r 80], [(1, 0, 0, 0, [(.inr (80, 73), 0)], [])], [((80, 2), 0, 2000000000, [((80, 2), 0, 0)]), ((80, 73), 0, 0, []), ((125, 5), 0, 2000000000, [((125, 5), 0, 0)])]), [3], 2, [], []),
  (3, ([rv_r 80], [], [((80, 2), 0, 2000000000, [((80, 2), 0, 0)]), ((80, 73), 0, 0, []), ((125, 5), 0, 2000000000, [((125, 5), 0, 0)])]), [4], 1, [], []),
  (4, ([rv_r 80], [rv_i 0 0], [((80, 2), 0, 2000000000, [((80, 2), 0, 0)]), ((80, 73), 0, 0, []), ((125, 5), 0, 2000000000, [((125, 5), 0, 0)])]), [], 0, [], [])]
set_option maxRecDepth 100000 in
theorem a_X8_undo_1 : rv_all (fm_tm, flX8, fm_wr, kcX8, klX8, K_X8_undo_1.2.2.1, [], 1) ct_X8_undo_1 cd_X8_undo n_X8_undo_1 K_X8_undo_1 [] 0 n_X8_undo_1 = true := by decide +kernel
theorem m_X8_undo_1 {l : Launch} {D : va_G} {ad : Nat → Nat} {cy : Nat → ClassId} {Z : State → Heap → Prop} (hAd : fm_Ad fm_tm ad) (hZ : fm_Zk (fm_A fm_tm ad) Z) : rv_Met l D fm_cl fm_tm ad cy fm_nt Z fm_G yX8_undo (.code yX8_undo prog_10_method_94_code 1 (some .boolean) :: fm_Ts) { frames := 1, cells := 0, slots := 0, locals := 100 } K_X8_undo_1 := rv_met hAd hZ (Or.inl (by decide +kernel)) evX8 dc_X8_undo a_X8_undo_1 ⟨rfl, rfl, rfl⟩ (by decide +kernel) (by decide +kernel) (by decide) (fm_gm fm_G_gd (by decide +kernel)) (Or.inr ⟨rfl, by decide, by decide⟩) (fun p e s m args below meth c Q X Y => fun _ h => absurd h List.not_mem_nil) (fun _ _ _ _ _ _ _ _ _ _ _ _ _ _ _ _ h => absurd h List.not_mem_nil)
def K_X8_undo_2 : rv_K := ([rv_r 80], [((80, 2), 0, 2000000000, []), ((80, 73), 1, 1, []), ((125, 5), 0, 2000000000, [])], [(80, 2), (80, 3), (80, 4), (80, 5), (80, 6), (82, 9999), (83, 9999), (84, 9999), (85, 9999), (86, 9999), (87, 9999), (88, 9999), (89, 9999), (90, 9999), (91, 9999), (92, 9999), (93, 9999), (94, 9999)], [(0, 1, 1)], [], [((80, 2), 0, 2000000000, [((125, 5), 0, 0)])])
def ct_X8_undo_2 : List (Nat × rv_K) := [(7, K_X8_putsBack_1)]
def n_X8_undo_2 : List rv_N := [
  (0, ([rv_r 80], [], [((80, 2), 0, 2000000000, [((80, 2), 0, 0)]), ((80, 73), 1, 1, []), ((125, 5), 0, 2000000000, [((125, 5), 0, 0)])]), [1], 7, [], []),
  (1, ([rv_r 80], [rv_r 80], [((80, 2), 0, 2000000000, [((80, 2), 0, 0)]), ((80, 73), 1, 1, []), ((125, 5), 0, 2000000000, [((125, 5), 0, 0)])]), [2], 6, [], []),
  (2, ([rv_r 80], [(1, 0, 1, 1, [(.inr (80, 73), 0)], [])], [((80, 2), 0, 2000000000, [((80, 2), 0, 0)]), ((80, 73), 1, 1, []), ((125, 5), 0, 2000000000, [((125, 5), 0, 0)])]), [3], 5, [], []),
  (5, ([rv_r 80], [], [((80, 2), 0, 2000000000, [((80, 2), 0, 0)]), ((80, 73), 1, 1, []), ((125, 5), 0, 2000000000, [((125, 5), 0, 0)])]), [4], 4, [], []),
  (6, ([rv_r 80], [rv_r 80], [((80, 2), 0, 2000000000, [((80, 2), 0, 0)]), ((80, 73), 1, 1, []), ((125, 5), 0, 2000000000, [((125, 5), 0, 0)])]), [5], 3, [], []),
  (7, ([rv_r 80], [rv_i 1 1, rv_r 80], [((80, 2), 0, 2000000000, [((80, 2), 0, 0)]), ((80, 73), 1, 1, []), ((125, 5), 0, 2000000000, [((125, 5), 0, 0)])]), [6], 2, [], [0]),
  (8, ([rv_r 80], [], [((80, 2), 0, 2000000000, [((125, 5), 0, 0)]), ((80, 73), 1, 1, []), ((125, 5), 0, 2000000000, [((125, 5), 0, 0)])]), [7], 1, [], []),
  (9, ([rv_r 80], [rv_i 1 1], [((80, 2), 0, 2000000000, [((125, 5), 0, 0)]), ((80, 73), 1, 1, []), ((125, 5), 0, 2000000000, [((125, 5), 0, 0)])]), [], 0, [], [])]
set_option maxRecDepth 100000 in
theorem a_X8_undo_2 : rv_all (fm_tm, flX8, fm_wr, kcX8, klX8, K_X8_undo_2.2.2.1, [], 1) ct_X8_undo_2 cd_X8_undo n_X8_undo_2 K_X8_undo_2 [] 0 n_X8_undo_2 = true := by decide +kernel
theorem m_X8_undo_2 {l : Launch} {D : va_G} {ad : Nat → Nat} {cy : Nat → ClassId} {Z : State → Heap → Prop} (hAd : fm_Ad fm_tm ad) (hZ : fm_Zk (fm_A fm_tm ad) Z) : rv_Met l D fm_cl fm_tm ad cy fm_nt Z fm_G yX8_undo (.code yX8_undo prog_10_method_94_code 1 (some .boolean) :: fm_Ts) { frames := 1, cells := 0, slots := 0, locals := 100 } K_X8_undo_2 := rv_met hAd hZ (Or.inl (by decide +kernel)) evX8 dc_X8_undo a_X8_undo_2 ⟨rfl, rfl, rfl⟩ (by decide +kernel) (by decide +kernel) (by decide) (fm_gm fm_G_gd (by decide +kernel)) (Or.inr ⟨rfl, by decide, by decide⟩) (fun p e s m args below meth c Q X Y => List.forall_mem_cons.mpr ⟨rv_ctV X Y fm_Ts_good dc_X8_undo (pc := 11) (i := 7) (idx := 445) rfl (m_X8_putsBack_1 hAd hZ) wl_X8_445 wm_X8_putsBack wy_X8_putsBack (by decide) ⟨rfl, rfl, rfl⟩ ⟨rfl, rfl⟩, fun _ h => absurd h List.not_mem_nil⟩) (fun _ _ _ _ _ _ _ _ _ _ _ _ _ _ _ _ h => absurd h List.not_mem_nil)
def K_X7_undo_1 : rv_K := ([rv_r 0], [((0, 11), 0, 0, [])], [], [(0, 0, 0)], [], [])
def ct_X7_undo_1 : List (Nat × rv_K) := []
def n_X7_undo_1 : List rv_N := [
  (0, ([rv_r 0], [], [((0, 11), 0, 0, [])]), [1], 4, [], []),
  (1, ([rv_r 0], [rv_r 0], [((0, 11), 0, 0, [])]), [2], 3, [], []),
  (2, ([rv_r 0], [(1, 0, 0, 0, [(.inr (0, 11), 0)], [])], [((0, 11), 0, 0, [])]), [3], 2, [], []),
  (3, ([rv_r 0], [], [((0, 11), 0, 0, [])]), [4], 1, [], []),
  (4, ([rv_r 0], [rv_i 0 0], [((0, 11), 0, 0, [])]), [], 0, [], [])]
set_option maxRecDepth 100000 in
theorem a_X7_undo_1 : rv_all (fm_tm, flX7, fm_wr, kcX7, klX7, K_X7_undo_1.2.2.1, [], 1) ct_X7_undo_1 cd_X7_undo n_X7_undo_1 K_X7_undo_1 [] 0 n_X7_undo_1 = true := by decide +kernel
theorem m_X7_undo_1 {l : Launch} {D : va_G} {ad : Nat → Nat} {cy : Nat → ClassId} {Z : State → Heap → Prop} {Gp : fm_V → Prop} (hAd : fm_Ad fm_tm ad) (hZ : fm_Zk (fm_A fm_tm ad) Z) (hGd : fm_Gd Gp) : rv_Met l D fm_cl fm_tm ad cy fm_nt Z Gp yX7_undo (.code yX7_undo prog_1_method_31_code 1 (some .boolean) :: fm_Ts) { frames := 4, cells := 0, slots := 0, locals := 400 } K_X7_undo_1 := rv_met hAd hZ (Or.inl (by decide +kernel)) evX7 dc_X7_undo a_X7_undo_1 ⟨rfl, rfl, rfl⟩ (by decide +kernel) (by decide +kernel) (by decide) (fm_gm hGd (by decide +kernel)) (Or.inr ⟨rfl, by decide, by decide⟩) (fun p e s m args below meth c Q X Y => fun _ h => absurd h List.not_mem_nil) (fun _ _ _ _ _ _ _ _ _ _ _ _ _ _ _ _ h => absurd h List.not_mem_nil)
def K_X7_undo_2 : rv_K := ([rv_r 0], [((0, 11), 1, 1, [])], [(3, 1), (4, 9999), (26, 9), (26, 10), (26, 11), (26, 12), (26, 13), (26, 14), (26, 15), (27, 9999), (28, 9999), (29, 9999), (30, 9999), (31, 9999), (32, 9999), (33, 9999), (34, 9999), (36, 0), (37, 9999), (38, 9999), (39, 9999), (40, 9999)], [(0, 1, 1)], [], [])
def ct_X7_undo_2 : List (Nat × rv_K) := [(9, K_X0_takeAll_2), (14, K_X6_take_1)]
def n_X7_undo_2 : List rv_N := [
  (0, ([rv_r 0], [], [((0, 11), 1, 1, [])]), [1], 14, [], []),
  (1, ([rv_r 0], [rv_r 0], [((0, 11), 1, 1, [])]), [2], 13, [], []),
  (2, ([rv_r 0], [(1, 0, 1, 1, [(.inr (0, 11), 0)], [])], [((0, 11), 1, 1, [])]), [3], 12, [], []),
  (5, ([rv_r 0], [], [((0, 11), 1, 1, [])]), [4], 11, [], []),
  (6, ([rv_r 0], [rv_r 0], [((0, 11), 1, 1, [])]), [5], 10, [], []),
  (7, ([rv_r 0], [rv_r 26], [((0, 11), 1, 1, [])]), [6], 9, [], []),
  (8, ([rv_r 0], [rv_r 0, rv_r 26], [((0, 11), 1, 1, [])]), [7], 8, [], []),
  (9, ([rv_r 0], [rv_r 41, rv_r 26], [((0, 11), 1, 1, [])]), [8], 7, [], [0]),
  (10, ([rv_r 0], [], [((0, 11), 1, 1, [])]), [9], 6, [], []),
  (11, ([rv_r 0], [rv_r 0], [((0, 11), 1, 1, [])]), [10], 5, [], []),
  (12, ([rv_r 0], [rv_r 3], [((0, 11), 1, 1, [])]), [11], 4, [], []),
  (13, ([rv_r 0], [rv_r 0, rv_r 3], [((0, 11), 1, 1, [])]), [12], 3, [], []),
  (14, ([rv_r 0], [rv_r 5, rv_r 3], [((0, 11), 1, 1, [])]), [13], 2, [], [1]),
  (15, ([rv_r 0], [], [((0, 11), 1, 1, [])]), [14], 1, [], []),
  (16, ([rv_r 0], [rv_i 1 1], [((0, 11), 1, 1, [])]), [], 0, [], [])]
set_option maxRecDepth 100000 in
theorem a_X7_undo_2 : rv_all (fm_tm, flX7, fm_wr, kcX7, klX7, K_X7_undo_2.2.2.1, [], 1) ct_X7_undo_2 cd_X7_undo n_X7_undo_2 K_X7_undo_2 [] 0 n_X7_undo_2 = true := by decide +kernel
theorem m_X7_undo_2 {l : Launch} {D : va_G} {ad : Nat → Nat} {cy : Nat → ClassId} {Z : State → Heap → Prop} {Gp : fm_V → Prop} (hAd : fm_Ad fm_tm ad) (hZ : fm_Zk (fm_A fm_tm ad) Z) (hGd : fm_Gd Gp) : rv_Met l D fm_cl fm_tm ad cy fm_nt Z Gp yX7_undo (.code yX7_undo prog_1_method_31_code 1 (some .boolean) :: fm_Ts) { frames := 4, cells := 0, slots := 0, locals := 400 } K_X7_undo_2 := rv_met hAd hZ (Or.inl (by decide +kernel)) evX7 dc_X7_undo a_X7_undo_2 ⟨rfl, rfl, rfl⟩ (by decide +kernel) (by decide +kernel) (by decide) (fm_gm hGd (by decide +kernel)) (Or.inr ⟨rfl, by decide, by decide⟩) (fun p e s m args below meth c Q X Y => List.forall_mem_cons.mpr ⟨rv_ctV X Y fm_Ts_good dc_X7_undo (pc := 17) (i := 9) (idx := 168) rfl (m_X0_takeAll_2 hAd hZ hGd) wl_X7_168 wm_X0_takeAll wy_X0_takeAll (by decide) ⟨rfl, rfl, rfl⟩ ⟨rfl, rfl⟩, List.forall_mem_cons.mpr ⟨rv_ctV X Y fm_Ts_good dc_X7_undo (pc := 28) (i := 14) (idx := 293) rfl (m_X6_take_1 hAd hZ hGd) wl_X7_293 wm_X6_take wy_X6_take (by decide) ⟨rfl, rfl, rfl⟩ ⟨rfl, rfl⟩, fun _ h => absurd h List.not_mem_nil⟩⟩) (fun _ _ _ _ _ _ _ _ _ _ _ _ _ _ _ _ h => absurd h List.not_mem_nil)
def K_X7_isPorter_1 : rv_K := ([rv_i 0 8], [], [], [(0, 1, 1)], [], [])
def ct_X7_isPorter_1 : List (Nat × rv_K) := []
def n_X7_isPorter_1 : List rv_N := [
  (0, ([rv_i 0 8], [], []), [1], 7, [], []),
  (1, ([rv_i 0 8], [(1, 0, 0, 8, [(.inl 0, 0)], [])], []), [2], 6, [], []),
  (2, ([rv_i 0 8], [], []), [3], 5, [], []),
  (3, ([rv_i 0 8], [(1, 0, 0, 8, [(.inl 0, 0)], [])], []), [4], 4, [], []),
  (4, ([rv_i 0 8], [rv_i 9 9, (1, 0, 0, 8, [(.inl 0, 0)], [])], []), [5], 3, [], []),
  (5, ([rv_i 0 8], [], []), [6], 2, [], []),
  (6, ([rv_i 0 8], [rv_i 1 1], []), [7], 1, [], []),
  (8, ([rv_i 0 8], [rv_i 1 1], []), [], 0, [], [])]
set_option maxRecDepth 100000 in
theorem a_X7_isPorter_1 : rv_all (fm_tm, flX7, fm_wr, kcX7, klX7, K_X7_isPorter_1.2.2.1, [], 1) ct_X7_isPorter_1 cd_X7_isPorter n_X7_isPorter_1 K_X7_isPorter_1 [] 0 n_X7_isPorter_1 = true := by decide +kernel
theorem m_X7_isPorter_1 {l : Launch} {D : va_G} {ad : Nat → Nat} {cy : Nat → ClassId} {Z : State → Heap → Prop} {Gp : fm_V → Prop} (hAd : fm_Ad fm_tm ad) (hZ : fm_Zk (fm_A fm_tm ad) Z) (hGd : fm_Gd Gp) : rv_Met l D fm_cl fm_tm ad cy fm_nt Z Gp yX7_isPorter (.code yX7_isPorter prog_1_method_36_code 1 (some .boolean) :: fm_Ts) { frames := 0, cells := 0, slots := 0, locals := 0 } K_X7_isPorter_1 := rv_met hAd hZ (Or.inl (by decide +kernel)) evX7 dc_X7_isPorter a_X7_isPorter_1 ⟨rfl, rfl, rfl⟩ (by decide +kernel) (by decide +kernel) (by decide) (fm_gm hGd (by decide +kernel)) (Or.inr ⟨rfl, by decide, by decide⟩) (fun p e s m args below meth c Q X Y => fun _ h => absurd h List.not_mem_nil) (fun _ _ _ _ _ _ _ _ _ _ _ _ _ _ _ _ h => absurd h List.not_mem_nil)
def K_X7_isYard_1 : rv_K := ([rv_i 0 19], [], [], [(0, 1, 1)], [], [])
def ct_X7_isYard_1 : List (Nat × rv_K) := []
def n_X7_isYard_1 : List rv_N := [
  (0, ([rv_i 0 19], [], []), [1], 7, [], []),
  (1, ([rv_i 0 19], [(1, 0, 0, 19, [(.inl 0, 0)], [])], []), [2], 6, [], []),
  (2, ([rv_i 0 19], [], []), [3], 5, [], []),
  (3, ([rv_i 0 19], [(1, 0, 0, 19, [(.inl 0, 0)], [])], []), [4], 4, [], []),
  (4, ([rv_i 0 19], [rv_i 20 20, (1, 0, 0, 19, [(.inl 0, 0)], [])], []), [5], 3, [], []),
  (5, ([rv_i 0 19], [], []), [6], 2, [], []),
  (6, ([rv_i 0 19], [rv_i 1 1], []), [7], 1, [], []),
  (8, ([rv_i 0 19], [rv_i 1 1], []), [], 0, [], [])]
set_option maxRecDepth 100000 in
theorem a_X7_isYard_1 : rv_all (fm_tm, flX7, fm_wr, kcX7, klX7, K_X7_isYard_1.2.2.1, [], 1) ct_X7_isYard_1 cd_X7_isYard n_X7_isYard_1 K_X7_isYard_1 [] 0 n_X7_isYard_1 = true := by decide +kernel
theorem m_X7_isYard_1 {l : Launch} {D : va_G} {ad : Nat → Nat} {cy : Nat → ClassId} {Z : State → Heap → Prop} {Gp : fm_V → Prop} (hAd : fm_Ad fm_tm ad) (hZ : fm_Zk (fm_A fm_tm ad) Z) (hGd : fm_Gd Gp) : rv_Met l D fm_cl fm_tm ad cy fm_nt Z Gp yX7_isYard (.code yX7_isYard prog_1_method_35_code 1 (some .boolean) :: fm_Ts) { frames := 0, cells := 0, slots := 0, locals := 0 } K_X7_isYard_1 := rv_met hAd hZ (Or.inl (by decide +kernel)) evX7 dc_X7_isYard a_X7_isYard_1 ⟨rfl, rfl, rfl⟩ (by decide +kernel) (by decide +kernel) (by decide) (fm_gm hGd (by decide +kernel)) (Or.inr ⟨rfl, by decide, by decide⟩) (fun p e s m args below meth c Q X Y => fun _ h => absurd h List.not_mem_nil) (fun _ _ _ _ _ _ _ _ _ _ _ _ _ _ _ _ h => absurd h List.not_mem_nil)
def K_X7_isWithin_22 : rv_K := ([rv_i 0 9999, rv_i 0 0, rv_i 9999 9999], [], [], [(0, 1, 1)], [], [])
def ct_X7_isWithin_22 : List (Nat × rv_K) := []
def n_X7_isWithin_22 : List rv_N := [
  (0, ([rv_i 0 9999, rv_i 0 0, rv_i 9999 9999], [], []), [1], 8, [], []),
  (1, ([rv_i 0 9999, rv_i 0 0, rv_i 9999 9999], [(1, 0, 0, 9999, [(.inl 0, 0)], [])], []), [2], 7, [], []),
  (2, ([rv_i 0 9999, rv_i 0 0, rv_i 9999 9999], [(1, 0, 0, 0, [(.inl 1, 0)], []), (1, 0, 0, 9999, [(.inl 0, 0)], [])], []), [3], 6, [], []),
  (3, ([rv_i 0 9999, rv_i 0 0, rv_i 9999 9999], [], []), [4], 5, [], []),
  (4, ([rv_i 0 9999, rv_i 0 0, rv_i 9999 9999], [(1, 0, 0, 9999, [(.inl 0, 0)], [])], []), [5], 4, [], []),
  (5, ([rv_i 0 9999, rv_i 0 0, rv_i 9999 9999], [(1, 0, 9999, 9999, [(.inl 2, 0)], []), (1, 0, 0, 9999, [(.inl 0, 0)], [])], []), [6], 3, [], []),
  (6, ([rv_i 0 9999, rv_i 0 0, rv_i 9999 9999], [], []), [7], 2, [], []),
  (7, ([rv_i 0 9999, rv_i 0 0, rv_i 9999 9999], [rv_i 1 1], []), [8], 1, [], []),
  (9, ([rv_i 0 9999, rv_i 0 0, rv_i 9999 9999], [rv_i 1 1], []), [], 0, [], [])]
set_option maxRecDepth 100000 in
theorem a_X7_isWithin_22 : rv_all (fm_tm, flX7, fm_wr, kcX7, klX7, K_X7_isWithin_22.2.2.1, [], 3) ct_X7_isWithin_22 cd_X7_isWithin n_X7_isWithin_22 K_X7_isWithin_22 [] 0 n_X7_isWithin_22 = true := by decide +kernel
theorem m_X7_isWithin_22 {l : Launch} {D : va_G} {ad : Nat → Nat} {cy : Nat → ClassId} {Z : State → Heap → Prop} {Gp : fm_V → Prop} (hAd : fm_Ad fm_tm ad) (hZ : fm_Zk (fm_A fm_tm ad) Z) (hGd : fm_Gd Gp) : rv_Met l D fm_cl fm_tm ad cy fm_nt Z Gp yX7_isWithin (.code yX7_isWithin prog_1_method_34_code 3 (some .boolean) :: fm_Ts) { frames := 0, cells := 0, slots := 0, locals := 0 } K_X7_isWithin_22 := rv_met hAd hZ (Or.inl (by decide +kernel)) evX7 dc_X7_isWithin a_X7_isWithin_22 ⟨rfl, rfl, rfl⟩ (by decide +kernel) (by decide +kernel) (by decide) (fm_gm hGd (by decide +kernel)) (Or.inr ⟨rfl, by decide, by decide⟩) (fun p e s m args below meth c Q X Y => fun _ h => absurd h List.not_mem_nil) (fun _ _ _ _ _ _ _ _ _ _ _ _ _ _ _ _ h => absurd h List.not_mem_nil)
def K_X7_isWithin_23 : rv_K := ([rv_i 0 9, rv_i 0 0, rv_i 9 9], [], [], [(0, 1, 1)], [], [])
def ct_X7_isWithin_23 : List (Nat × rv_K) := []
def n_X7_isWithin_23 : List rv_N := [
  (0, ([rv_i 0 9, rv_i 0 0, rv_i 9 9], [], []), [1], 8, [], []),
  (1, ([rv_i 0 9, rv_i 0 0, rv_i 9 9], [(1, 0, 0, 9, [(.inl 0, 0)], [])], []), [2], 7, [], []),
  (2, ([rv_i 0 9, rv_i 0 0, rv_i 9 9], [(1, 0, 0, 0, [(.inl 1, 0)], []), (1, 0, 0, 9, [(.inl 0, 0)], [])], []), [3], 6, [], []),
  (3, ([rv_i 0 9, rv_i 0 0, rv_i 9 9], [], []), [4], 5, [], []),
  (4, ([rv_i 0 9, rv_i 0 0, rv_i 9 9], [(1, 0, 0, 9, [(.inl 0, 0)], [])], []), [5], 4, [], []),
  (5, ([rv_i 0 9, rv_i 0 0, rv_i 9 9], [(1, 0, 9, 9, [(.inl 2, 0)], []), (1, 0, 0, 9, [(.inl 0, 0)], [])], []), [6], 3, [], []),
  (6, ([rv_i 0 9, rv_i 0 0, rv_i 9 9], [], []), [7], 2, [], []),
  (7, ([rv_i 0 9, rv_i 0 0, rv_i 9 9], [rv_i 1 1], []), [8], 1, [], []),
  (9, ([rv_i 0 9, rv_i 0 0, rv_i 9 9], [rv_i 1 1], []), [], 0, [], [])]
set_option maxRecDepth 100000 in
theorem a_X7_isWithin_23 : rv_all (fm_tm, flX7, fm_wr, kcX7, klX7, K_X7_isWithin_23.2.2.1, [], 3) ct_X7_isWithin_23 cd_X7_isWithin n_X7_isWithin_23 K_X7_isWithin_23 [] 0 n_X7_isWithin_23 = true := by decide +kernel
theorem m_X7_isWithin_23 {l : Launch} {D : va_G} {ad : Nat → Nat} {cy : Nat → ClassId} {Z : State → Heap → Prop} {Gp : fm_V → Prop} (hAd : fm_Ad fm_tm ad) (hZ : fm_Zk (fm_A fm_tm ad) Z) (hGd : fm_Gd Gp) : rv_Met l D fm_cl fm_tm ad cy fm_nt Z Gp yX7_isWithin (.code yX7_isWithin prog_1_method_34_code 3 (some .boolean) :: fm_Ts) { frames := 0, cells := 0, slots := 0, locals := 0 } K_X7_isWithin_23 := rv_met hAd hZ (Or.inl (by decide +kernel)) evX7 dc_X7_isWithin a_X7_isWithin_23 ⟨rfl, rfl, rfl⟩ (by decide +kernel) (by decide +kernel) (by decide) (fm_gm hGd (by decide +kernel)) (Or.inr ⟨rfl, by decide, by decide⟩) (fun p e s m args below meth c Q X Y => fun _ h => absurd h List.not_mem_nil) (fun _ _ _ _ _ _ _ _ _ _ _ _ _ _ _ _ h => absurd h List.not_mem_nil)
def K_X7_porter_1 : rv_K := ([rv_r 0, rv_i 0 8, rv_i 0 19, rv_i 0 9999, rv_i 0 9, rv_i 0 9], [], [(36, 0), (37, 9999), (38, 9999), (39, 9999), (40, 9999)], [(0, 1, 1)], [], [])
def ct_X7_porter_1 : List (Nat × rv_K) := [(1, K_X7_isPorter_1), (4, K_X7_isYard_1), (9, K_X7_isWithin_22), (16, K_X7_isWithin_23), (21, K_X7_isWithin_23)]
def n_X7_porter_1 : List rv_N := [
  (0, ([rv_r 0, rv_i 0 8, rv_i 0 19, rv_i 0 9999, rv_i 0 9, rv_i 0 9], [], []), [1], 60, [], []),
  (1, ([rv_r 0, rv_i 0 8, rv_i 0 19, rv_i 0 9999, rv_i 0 9, rv_i 0 9], [(1, 0, 0, 8, [(.inl 1, 0)], [])], []), [2], 59, [], [0]),
  (2, ([rv_r 0, rv_i 0 8, rv_i 0 19, rv_i 0 9999, rv_i 0 9, rv_i 0 9], [rv_i 1 1], []), [3], 58, [], []),
  (3, ([rv_r 0, rv_i 0 8, rv_i 0 19, rv_i 0 9999, rv_i 0 9, rv_i 0 9], [], []), [4], 57, [], []),
  (4, ([rv_r 0, rv_i 0 8, rv_i 0 19, rv_i 0 9999, rv_i 0 9, rv_i 0 9], [(1, 0, 0, 19, [(.inl 2, 0)], [])], []), [5], 56, [], [1]),
  (5, ([rv_r 0, rv_i 0 8, rv_i 0 19, rv_i 0 9999, rv_i 0 9, rv_i 0 9], [rv_i 1 1], []), [6], 55, [], []),
  (6, ([rv_r 0, rv_i 0 8, rv_i 0 19, rv_i 0 9999, rv_i 0 9, rv_i 0 9], [], []), [7], 54, [], []),
  (7, ([rv_r 0, rv_i 0 8, rv_i 0 19, rv_i 0 9999, rv_i 0 9, rv_i 0 9], [(1, 0, 0, 9999, [(.inl 3, 0)], [])], []), [8], 53, [], []),
  (8, ([rv_r 0, rv_i 0 8, rv_i 0 19, rv_i 0 9999, rv_i 0 9, rv_i 0 9], [rv_i 0 0, (1, 0, 0, 9999, [(.inl 3, 0)], [])], []), [9], 52, [], []),
  (9, ([rv_r 0, rv_i 0 8, rv_i 0 19, rv_i 0 9999, rv_i 0 9, rv_i 0 9], [rv_i 9999 9999, rv_i 0 0, (1, 0, 0, 9999, [(.inl 3, 0)], [])], []), [10], 51, [], [2]),
  (10, ([rv_r 0, rv_i 0 8, rv_i 0 19, rv_i 0 9999, rv_i 0 9, rv_i 0 9], [rv_i 1 1], []), [11], 50, [], []),
  (13, ([rv_r 0, rv_i 0 8, rv_i 0 19, rv_i 0 9999, rv_i 0 9, rv_i 0 9], [], []), [12], 49, [], []),
  (14, ([rv_r 0, rv_i 0 8, rv_i 0 19, rv_i 0 9999, rv_i 0 9, rv_i 0 9], [(1, 0, 0, 9, [(.inl 4, 0)], [])], []), [13], 48, [], []),
  (15, ([rv_r 0, rv_i 0 8, rv_i 0 19, rv_i 0 9999, rv_i 0 9, rv_i 0 9], [rv_i 0 0, (1, 0, 0, 9, [(.inl 4, 0)], [])], []), [14], 47, [], []),
  (16, ([rv_r 0, rv_i 0 8, rv_i 0 19, rv_i 0 9999, rv_i 0 9, rv_i 0 9], [rv_i 9 9, rv_i 0 0, (1, 0, 0, 9, [(.inl 4, 0)], [])], []), [15], 46, [], [3]),
  (17, ([rv_r 0, rv_i 0 8, rv_i 0 19, rv_i 0 9999, rv_i 0 9, rv_i 0 9], [rv_i 1 1], []), [16], 45, [], []),
  (18, ([rv_r 0, rv_i 0 8, rv_i 0 19, rv_i 0 9999, rv_i 0 9, rv_i 0 9], [], []), [17], 44, [], []),
  (19, ([rv_r 0, rv_i 0 8, rv_i 0 19, rv_i 0 9999, rv_i 0 9, rv_i 0 9], [(1, 0, 0, 9, [(.inl 5, 0)], [])], []), [18], 43, [], []),
  (20, ([rv_r 0, rv_i 0 8, rv_i 0 19, rv_i 0 9999, rv_i 0 9, rv_i 0 9], [rv_i 0 0, (1, 0, 0, 9, [(.inl 5, 0)], [])], []), [19], 42, [], []),
  (21, ([rv_r 0, rv_i 0 8, rv_i 0 19, rv_i 0 9999, rv_i 0 9, rv_i 0 9], [rv_i 9 9, rv_i 0 0, (1, 0, 0, 9, [(.inl 5, 0)], [])], []), [20], 41, [], [4]),
  (22, ([rv_r 0, rv_i 0 8, rv_i 0 19, rv_i 0 9999, rv_i 0 9, rv_i 0 9], [rv_i 1 1], []), [21], 40, [], []),
  (25, ([rv_r 0, rv_i 0 8, rv_i 0 19, rv_i 0 9999, rv_i 0 9, rv_i 0 9], [], []), [22], 39, [], []),
  (26, ([rv_r 0, rv_i 0 8, rv_i 0 19, rv_i 0 9999, rv_i 0 9, rv_i 0 9], [rv_r 0], []), [23], 38, [], []),
  (27, ([rv_r 0, rv_i 0 8, rv_i 0 19, rv_i 0 9999, rv_i 0 9, rv_i 0 9], [rv_r 26], []), [24], 37, [], []),
  (28, ([rv_r 0, rv_i 0 8, rv_i 0 19, rv_i 0 9999, rv_i 0 9, rv_i 0 9], [rv_r 36], []), [25], 36, [], []),
  (29, ([rv_r 0, rv_i 0 8, rv_i 0 19, rv_i 0 9999, rv_i 0 9, rv_i 0 9], [rv_r 36, rv_r 36], []), [26], 35, [], []),
  (30, ([rv_r 0, rv_i 0 8, rv_i 0 19, rv_i 0 9999, rv_i 0 9, rv_i 0 9], [(1, 0, (-2147483648), 2147483647, [(.inr (36, 0), 0)], []), rv_r 36], []), [27], 34, [], []),
  (31, ([rv_r 0, rv_i 0 8, rv_i 0 19, rv_i 0 9999, rv_i 0 9, rv_i 0 9], [rv_i 1 1, (1, 0, (-2147483648), 2147483647, [(.inr (36, 0), 0)], []), rv_r 36], []), [28], 33, [], []),
  (32, ([rv_r 0, rv_i 0 8, rv_i 0 19, rv_i 0 9999, rv_i 0 9, rv_i 0 9], [(1, 0, 0, 8, [(.inl 1, 0)], []), rv_i 1 1, (1, 0, (-2147483648), 2147483647, [(.inr (36, 0), 0)], []), rv_r 36], []), [29], 32, [], []),
  (33, ([rv_r 0, rv_i 0 8, rv_i 0 19, rv_i 0 9999, rv_i 0 9, rv_i 0 9], [rv_full, (1, 0, (-2147483648), 2147483647, [(.inr (36, 0), 0)], []), rv_r 36], []), [30], 31, [], []),
  (34, ([rv_r 0, rv_i 0 8, rv_i 0 19, rv_i 0 9999, rv_i 0 9, rv_i 0 9], [rv_full, rv_r 36], []), [31], 30, [], []),
  (35, ([rv_r 0, rv_i 0 8, rv_i 0 19, rv_i 0 9999, rv_i 0 9, rv_i 0 9], [], []), [32], 29, [], []),
  (36, ([rv_r 0, rv_i 0 8, rv_i 0 19, rv_i 0 9999, rv_i 0 9, rv_i 0 9], [rv_r 0], []), [33], 28, [], []),
  (37, ([rv_r 0, rv_i 0 8, rv_i 0 19, rv_i 0 9999, rv_i 0 9, rv_i 0 9], [rv_r 26], []), [34], 27, [], []),
  (38, ([rv_r 0, rv_i 0 8, rv_i 0 19, rv_i 0 9999, rv_i 0 9, rv_i 0 9], [rv_r 36], []), [35], 26, [], []),
  (39, ([rv_r 0, rv_i 0 8, rv_i 0 19, rv_i 0 9999, rv_i 0 9, rv_i 0 9], [rv_r 37], []), [36], 25, [], []),
  (40, ([rv_r 0, rv_i 0 8, rv_i 0 19, rv_i 0 9999, rv_i 0 9, rv_i 0 9], [(1, 0, 0, 8, [(.inl 1, 0)], []), rv_r 37], []), [37], 24, [], []),
  (41, ([rv_r 0, rv_i 0 8, rv_i 0 19, rv_i 0 9999, rv_i 0 9, rv_i 0 9], [(1, 0, 0, 19, [(.inl 2, 0)], []), (1, 0, 0, 8, [(.inl 1, 0)], []), rv_r 37], []), [38], 23, [], []),
  (42, ([rv_r 0, rv_i 0 8, rv_i 0 19, rv_i 0 9999, rv_i 0 9, rv_i 0 9], [], []), [39], 22, [], []),
  (43, ([rv_r 0, rv_i 0 8, rv_i 0 19, rv_i 0 9999, rv_i 0 9, rv_i 0 9], [rv_r 0], []), [40], 21, [], []),
  (44, ([rv_r 0, rv_i 0 8, rv_i 0 19, rv_i 0 9999, rv_i 0 9, rv_i 0 9], [rv_r 26], []), [41], 20, [], []),
  (45, ([rv_r 0, rv_i 0 8, rv_i 0 19, rv_i 0 9999, rv_i 0 9, rv_i 0 9], [rv_r 36], []), [42], 19, [], []),
  (46, ([rv_r 0, rv_i 0 8, rv_i 0 19, rv_i 0 9999, rv_i 0 9, rv_i 0 9], [rv_r 38], []), [43], 18, [], []),
  (47, ([rv_r 0, rv_i 0 8, rv_i 0 19, rv_i 0 9999, rv_i 0 9, rv_i 0 9], [(1, 0, 0, 8, [(.inl 1, 0)], []), rv_r 38], []), [44], 17, [], []),
  (48, ([rv_r 0, rv_i 0 8, rv_i 0 19, rv_i 0 9999, rv_i 0 9, rv_i 0 9], [(1, 0, 0, 9999, [(.inl 3, 0)], []), (1, 0, 0, 8, [(.inl 1, 0)], []), rv_r 38], []), [45], 16, [], []),
  (49, ([rv_r 0, rv_i 0 8, rv_i 0 19, rv_i 0 9999, rv_i 0 9, rv_i 0 9], [], []), [46], 15, [], []),
  (50, ([rv_r 0, rv_i 0 8, rv_i 0 19, rv_i 0 9999, rv_i 0 9, rv_i 0 9], [rv_r 0], []), [47], 14, [], []),
  (51, ([rv_r 0, rv_i 0 8, rv_i 0 19, rv_i 0 9999, rv_i 0 9, rv_i 0 9], [rv_r 26], []), [48], 13, [], []),
  (52, ([rv_r 0, rv_i 0 8, rv_i 0 19, rv_i 0 9999, rv_i 0 9, rv_i 0 9], [rv_r 36], []), [49], 12, [], []),
  (53, ([rv_r 0, rv_i 0 8, rv_i 0 19, rv_i 0 9999, rv_i 0 9, rv_i 0 9], [rv_r 39], []), [50], 11, [], []),
  (54, ([rv_r 0, rv_i 0 8, rv_i 0 19, rv_i 0 9999, rv_i 0 9, rv_i 0 9], [(1, 0, 0, 8, [(.inl 1, 0)], []), rv_r 39], []), [51], 10, [], []),
  (55, ([rv_r 0, rv_i 0 8, rv_i 0 19, rv_i 0 9999, rv_i 0 9, rv_i 0 9], [(1, 0, 0, 9, [(.inl 4, 0)], []), (1, 0, 0, 8, [(.inl 1, 0)], []), rv_r 39], []), [52], 9, [], []),
  (56, ([rv_r 0, rv_i 0 8, rv_i 0 19, rv_i 0 9999, rv_i 0 9, rv_i 0 9], [], []), [53], 8, [], []),
  (57, ([rv_r 0, rv_i 0 8, rv_i 0 19, rv_i 0 9999, rv_i 0 9, rv_i 0 9], [rv_r 0], []), [54], 7, [], []),
  (58, ([rv_r 0, rv_i 0 8, rv_i 0 19, rv_i 0 9999, rv_i 0 9, rv_i 0 9], [rv_r 26], []), [55], 6, [], []),
  (59, ([rv_r 0, rv_i 0 8, rv_i 0 19, rv_i 0 9999, rv_i 0 9, rv_i 0 9], [rv_r 36], []), [56], 5, [], []),
  (60, ([rv_r 0, rv_i 0 8, rv_i 0 19, rv_i 0 9999, rv_i 0 9, rv_i 0 9], [rv_r 40], []), [57], 4, [], []),
  (61, ([rv_r 0, rv_i 0 8, rv_i 0 19, rv_i 0 9999, rv_i 0 9, rv_i 0 9], [(1, 0, 0, 8, [(.inl 1, 0)], []), rv_r 40], []), [58], 3, [], []),
  (62, ([rv_r 0, rv_i 0 8, rv_i 0 19, rv_i 0 9999, rv_i 0 9, rv_i 0 9], [(1, 0, 0, 9, [(.inl 5, 0)], []), (1, 0, 0, 8, [(.inl 1, 0)], []), rv_r 40], []), [59], 2, [], []),
  (63, ([rv_r 0, rv_i 0 8, rv_i 0 19, rv_i 0 9999, rv_i 0 9, rv_i 0 9], [], []), [60], 1, [], []),
  (64, ([rv_r 0, rv_i 0 8, rv_i 0 19, rv_i 0 9999, rv_i 0 9, rv_i 0 9], [rv_i 1 1], []), [], 0, [], [])]
set_option maxRecDepth 100000 in
theorem a_X7_porter_1 : rv_all (fm_tm, flX7, fm_wr, kcX7, klX7, K_X7_porter_1.2.2.1, [], 6) ct_X7_porter_1 cd_X7_porter n_X7_porter_1 K_X7_porter_1 [] 0 n_X7_porter_1 = true := by decide +kernel
theorem m_X7_porter_1 {l : Launch} {D : va_G} {ad : Nat → Nat} {cy : Nat → ClassId} {Z : State → Heap → Prop} {Gp : fm_V → Prop} (hAd : fm_Ad fm_tm ad) (hZ : fm_Zk (fm_A fm_tm ad) Z) (hGd : fm_Gd Gp) : rv_Met l D fm_cl fm_tm ad cy fm_nt Z Gp yX7_porter (.code yX7_porter prog_1_method_4_code 6 (some .boolean) :: fm_Ts) { frames := 1, cells := 0, slots := 0, locals := 100 } K_X7_porter_1 := rv_met hAd hZ (Or.inl (by decide +kernel)) evX7 dc_X7_porter a_X7_porter_1 ⟨rfl, rfl, rfl⟩ (by decide +kernel) (by decide +kernel) (by decide) (fm_gm hGd (by decide +kernel)) (Or.inr ⟨rfl, by decide, by decide⟩) (fun p e s m args below meth c Q X Y => List.forall_mem_cons.mpr ⟨rv_ctS X Y fm_Ts_good dc_X7_porter (pc := 1) (i := 1) (idx := 96) rfl (m_X7_isPorter_1 hAd hZ hGd) wl_X7_96 wm_X7_isPorter wy_X7_isPorter (by decide) rfl, List.forall_mem_cons.mpr ⟨rv_ctS X Y fm_Ts_good dc_X7_porter (pc := 8) (i := 4) (idx := 75) rfl (m_X7_isYard_1 hAd hZ hGd) wl_X7_75 wm_X7_isYard wy_X7_isYard (by decide) rfl, List.forall_mem_cons.mpr ⟨rv_ctS X Y fm_Ts_good dc_X7_porter (pc := 19) (i := 9) (idx := 80) rfl (m_X7_isWithin_22 hAd hZ hGd) wl_X7_80 wm_X7_isWithin wy_X7_isWithin (by decide) rfl, List.forall_mem_cons.mpr ⟨rv_ctS X Y fm_Ts_good dc_X7_porter (pc := 32) (i := 16) (idx := 80) rfl (m_X7_isWithin_23 hAd hZ hGd) wl_X7_80 wm_X7_isWithin wy_X7_isWithin (by decide) rfl, List.forall_mem_cons.mpr ⟨rv_ctS X Y fm_Ts_good dc_X7_porter (pc := 43) (i := 21) (idx := 80) rfl (m_X7_isWithin_23 hAd hZ hGd) wl_X7_80 wm_X7_isWithin wy_X7_isWithin (by decide) rfl, fun _ h => absurd h List.not_mem_nil⟩⟩⟩⟩⟩) (fun _ _ _ _ _ _ _ _ _ _ _ _ _ _ _ _ h => absurd h List.not_mem_nil)
def K_X8_isYard_1 : rv_K := ([rv_i 0 19], [], [], [(0, 1, 1)], [], [])
def ct_X8_isYard_1 : List (Nat × rv_K) := [(4, K_liesin_0_19_0_19)]
def n_X8_isYard_1 : List rv_N := [
  (0, ([rv_i 0 19], [], []), [1], 5, [], []),
  (1, ([rv_i 0 19], [(1, 0, 0, 19, [(.inl 0, 0)], [])], []), [2], 4, [], []),
  (2, ([rv_i 0 19], [(3, 0, 0, 19, [(.inl 0, 0)], [])], []), [3], 3, [], []),
  (3, ([rv_i 0 19], [(3, 0, 0, 0, [], []), (3, 0, 0, 19, [(.inl 0, 0)], [])], []), [4], 2, [], []),
  (4, ([rv_i 0 19], [(3, 0, 19, 19, [], []), (3, 0, 0, 0, [], []), (3, 0, 0, 19, [(.inl 0, 0)], [])], []), [5], 1, [], [0]),
  (5, ([rv_i 0 19], [rv_i 1 1], []), [], 0, [], [])]
set_option maxRecDepth 100000 in
theorem a_X8_isYard_1 : rv_all (fm_tm, flX8, fm_wr, kcX8, klX8, K_X8_isYard_1.2.2.1, [], 1) ct_X8_isYard_1 cd_X8_isYard n_X8_isYard_1 K_X8_isYard_1 [] 0 n_X8_isYard_1 = true := by decide +kernel
theorem m_X8_isYard_1 {l : Launch} {D : va_G} {ad : Nat → Nat} {cy : Nat → ClassId} {Z : State → Heap → Prop} (hAd : fm_Ad fm_tm ad) (hZ : fm_Zk (fm_A fm_tm ad) Z) : rv_Met l D fm_cl fm_tm ad cy fm_nt Z fm_G yX8_isYard (.code yX8_isYard prog_10_method_5_code 1 (some .boolean) :: fm_Ts) { frames := 1, cells := 0, slots := 0, locals := 100 } K_X8_isYard_1 := rv_met hAd hZ (Or.inl (by decide +kernel)) evX8 dc_X8_isYard a_X8_isYard_1 ⟨rfl, rfl, rfl⟩ (by decide +kernel) (by decide +kernel) (by decide) (fm_gm fm_G_gd (by decide +kernel)) (Or.inr ⟨rfl, by decide, by decide⟩) (fun p e s m args below meth c Q X Y => List.forall_mem_cons.mpr ⟨rv_ctS X Y fm_Ts_good dc_X8_isYard (pc := 6) (i := 4) (idx := 168) rfl (m_liesin_0_19_0_19 hAd hZ) wl_X8_168 wm_X8_lies wy_X8_lies (by decide) rfl, fun _ h => absurd h List.not_mem_nil⟩) (fun _ _ _ _ _ _ _ _ _ _ _ _ _ _ _ _ h => absurd h List.not_mem_nil)
def K_X8_isDigit_1 : rv_K := ([rv_i 0 9], [], [], [(0, 1, 1)], [], [])
def ct_X8_isDigit_1 : List (Nat × rv_K) := [(4, K_liesin_0_9_0_9)]
def n_X8_isDigit_1 : List rv_N := [
  (0, ([rv_i 0 9], [], []), [1], 5, [], []),
  (1, ([rv_i 0 9], [(1, 0, 0, 9, [(.inl 0, 0)], [])], []), [2], 4, [], []),
  (2, ([rv_i 0 9], [(3, 0, 0, 9, [(.inl 0, 0)], [])], []), [3], 3, [], []),
  (3, ([rv_i 0 9], [(3, 0, 0, 0, [], []), (3, 0, 0, 9, [(.inl 0, 0)], [])], []), [4], 2, [], []),
  (4, ([rv_i 0 9], [(3, 0, 9, 9, [], []), (3, 0, 0, 0, [], []), (3, 0, 0, 9, [(.inl 0, 0)], [])], []), [5], 1, [], [0]),
  (5, ([rv_i 0 9], [rv_i 1 1], []), [], 0, [], [])]
set_option maxRecDepth 100000 in
theorem a_X8_isDigit_1 : rv_all (fm_tm, flX8, fm_wr, kcX8, klX8, K_X8_isDigit_1.2.2.1, [], 1) ct_X8_isDigit_1 cd_X8_isDigit n_X8_isDigit_1 K_X8_isDigit_1 [] 0 n_X8_isDigit_1 = true := by decide +kernel
theorem m_X8_isDigit_1 {l : Launch} {D : va_G} {ad : Nat → Nat} {cy : Nat → ClassId} {Z : State → Heap → Prop} (hAd : fm_Ad fm_tm ad) (hZ : fm_Zk (fm_A fm_tm ad) Z) : rv_Met l D fm_cl fm_tm ad cy fm_nt Z fm_G yX8_isDigit (.code yX8_isDigit prog_10_method_9_code 1 (some .boolean) :: fm_Ts) { frames := 1, cells := 0, slots := 0, locals := 100 } K_X8_isDigit_1 := rv_met hAd hZ (Or.inl (by decide +kernel)) evX8 dc_X8_isDigit a_X8_isDigit_1 ⟨rfl, rfl, rfl⟩ (by decide +kernel) (by decide +kernel) (by decide) (fm_gm fm_G_gd (by decide +kernel)) (Or.inr ⟨rfl, by decide, by decide⟩) (fun p e s m args below meth c Q X Y => List.forall_mem_cons.mpr ⟨rv_ctS X Y fm_Ts_good dc_X8_isDigit (pc := 6) (i := 4) (idx := 168) rfl (m_liesin_0_9_0_9 hAd hZ) wl_X8_168 wm_X8_lies wy_X8_lies (by decide) rfl, fun _ h => absurd h List.not_mem_nil⟩) (fun _ _ _ _ _ _ _ _ _ _ _ _ _ _ _ _ h => absurd h List.not_mem_nil)
def K_X8_porter_1 : rv_K := ([rv_r 80, rv_i 0 8, rv_i 0 19, rv_i 0 9999, rv_i 0 9, rv_i 0 9], [], [(88, 9999), (89, 9999), (90, 9999), (91, 9999), (92, 9999)], [(0, 1, 1)], [], [])
def ct_X8_porter_1 : List (Nat × rv_K) := [(4, K_liesin_0_8_0_8), (7, K_X8_isYard_1), (13, K_liesin_0_9999_0_9999), (16, K_X8_isDigit_1), (19, K_X8_isDigit_1)]
def n_X8_porter_1 : List rv_N := [
  (0, ([rv_r 80, rv_i 0 8, rv_i 0 19, rv_i 0 9999, rv_i 0 9, rv_i 0 9], [], []), [1], 47, [], []),
  (1, ([rv_r 80, rv_i 0 8, rv_i 0 19, rv_i 0 9999, rv_i 0 9, rv_i 0 9], [(1, 0, 0, 8, [(.inl 1, 0)], [])], []), [2], 46, [], []),
  (2, ([rv_r 80, rv_i 0 8, rv_i 0 19, rv_i 0 9999, rv_i 0 9, rv_i 0 9], [(3, 0, 0, 8, [(.inl 1, 0)], [])], []), [3], 45, [], []),
  (3, ([rv_r 80, rv_i 0 8, rv_i 0 19, rv_i 0 9999, rv_i 0 9, rv_i 0 9], [(3, 0, 0, 0, [], []), (3, 0, 0, 8, [(.inl 1, 0)], [])], []), [4], 44, [], []),
  (4, ([rv_r 80, rv_i 0 8, rv_i 0 19, rv_i 0 9999, rv_i 0 9, rv_i 0 9], [(3, 0, 8, 8, [], []), (3, 0, 0, 0, [], []), (3, 0, 0, 8, [(.inl 1, 0)], [])], []), [5], 43, [], [0]),
  (5, ([rv_r 80, rv_i 0 8, rv_i 0 19, rv_i 0 9999, rv_i 0 9, rv_i 0 9], [rv_i 1 1], []), [6], 42, [], []),
  (6, ([rv_r 80, rv_i 0 8, rv_i 0 19, rv_i 0 9999, rv_i 0 9, rv_i 0 9], [], []), [7], 41, [], []),
  (7, ([rv_r 80, rv_i 0 8, rv_i 0 19, rv_i 0 9999, rv_i 0 9, rv_i 0 9], [(1, 0, 0, 19, [(.inl 2, 0)], [])], []), [8], 40, [], [1]),
  (8, ([rv_r 80, rv_i 0 8, rv_i 0 19, rv_i 0 9999, rv_i 0 9, rv_i 0 9], [rv_i 1 1], []), [9], 39, [], []),
  (9, ([rv_r 80, rv_i 0 8, rv_i 0 19, rv_i 0 9999, rv_i 0 9, rv_i 0 9], [], []), [10], 38, [], []),
  (10, ([rv_r 80, rv_i 0 8, rv_i 0 19, rv_i 0 9999, rv_i 0 9, rv_i 0 9], [(1, 0, 0, 9999, [(.inl 3, 0)], [])], []), [11], 37, [], []),
  (11, ([rv_r 80, rv_i 0 8, rv_i 0 19, rv_i 0 9999, rv_i 0 9, rv_i 0 9], [(3, 0, 0, 9999, [(.inl 3, 0)], [])], []), [12], 36, [], []),
  (12, ([rv_r 80, rv_i 0 8, rv_i 0 19, rv_i 0 9999, rv_i 0 9, rv_i 0 9], [(3, 0, 0, 0, [], []), (3, 0, 0, 9999, [(.inl 3, 0)], [])], []), [13], 35, [], []),
  (13, ([rv_r 80, rv_i 0 8, rv_i 0 19, rv_i 0 9999, rv_i 0 9, rv_i 0 9], [(3, 0, 9999, 9999, [], []), (3, 0, 0, 0, [], []), (3, 0, 0, 9999, [(.inl 3, 0)], [])], []), [14], 34, [], [2]),
  (14, ([rv_r 80, rv_i 0 8, rv_i 0 19, rv_i 0 9999, rv_i 0 9, rv_i 0 9], [rv_i 1 1], []), [15], 33, [], []),
  (15, ([rv_r 80, rv_i 0 8, rv_i 0 19, rv_i 0 9999, rv_i 0 9, rv_i 0 9], [], []), [16], 32, [], []),
  (16, ([rv_r 80, rv_i 0 8, rv_i 0 19, rv_i 0 9999, rv_i 0 9, rv_i 0 9], [(1, 0, 0, 9, [(.inl 4, 0)], [])], []), [17], 31, [], [3]),
  (17, ([rv_r 80, rv_i 0 8, rv_i 0 19, rv_i 0 9999, rv_i 0 9, rv_i 0 9], [rv_i 1 1], []), [18], 30, [], []),
  (18, ([rv_r 80, rv_i 0 8, rv_i 0 19, rv_i 0 9999, rv_i 0 9, rv_i 0 9], [], []), [19], 29, [], []),
  (19, ([rv_r 80, rv_i 0 8, rv_i 0 19, rv_i 0 9999, rv_i 0 9, rv_i 0 9], [(1, 0, 0, 9, [(.inl 5, 0)], [])], []), [20], 28, [], [4]),
  (20, ([rv_r 80, rv_i 0 8, rv_i 0 19, rv_i 0 9999, rv_i 0 9, rv_i 0 9], [rv_i 1 1], []), [21], 27, [], []),
  (23, ([rv_r 80, rv_i 0 8, rv_i 0 19, rv_i 0 9999, rv_i 0 9, rv_i 0 9], [], []), [22], 26, [], []),
  (24, ([rv_r 80, rv_i 0 8, rv_i 0 19, rv_i 0 9999, rv_i 0 9, rv_i 0 9], [rv_r 80], []), [23], 25, [], []),
  (25, ([rv_r 80, rv_i 0 8, rv_i 0 19, rv_i 0 9999, rv_i 0 9, rv_i 0 9], [rv_r 88], []), [24], 24, [], []),
  (26, ([rv_r 80, rv_i 0 8, rv_i 0 19, rv_i 0 9999, rv_i 0 9, rv_i 0 9], [(1, 0, 0, 8, [(.inl 1, 0)], []), rv_r 88], []), [25], 23, [], []),
  (27, ([rv_r 80, rv_i 0 8, rv_i 0 19, rv_i 0 9999, rv_i 0 9, rv_i 0 9], [rv_i 1 1, (1, 0, 0, 8, [(.inl 1, 0)], []), rv_r 88], []), [26], 22, [], []),
  (28, ([rv_r 80, rv_i 0 8, rv_i 0 19, rv_i 0 9999, rv_i 0 9, rv_i 0 9], [], []), [27], 21, [], []),
  (29, ([rv_r 80, rv_i 0 8, rv_i 0 19, rv_i 0 9999, rv_i 0 9, rv_i 0 9], [rv_r 80], []), [28], 20, [], []),
  (30, ([rv_r 80, rv_i 0 8, rv_i 0 19, rv_i 0 9999, rv_i 0 9, rv_i 0 9], [rv_r 89], []), [29], 19, [], []),
  (31, ([rv_r 80, rv_i 0 8, rv_i 0 19, rv_i 0 9999, rv_i 0 9, rv_i 0 9], [(1, 0, 0, 8, [(.inl 1, 0)], []), rv_r 89], []), [30], 18, [], []),
  (32, ([rv_r 80, rv_i 0 8, rv_i 0 19, rv_i 0 9999, rv_i 0 9, rv_i 0 9], [(1, 0, 0, 19, [(.inl 2, 0)], []), (1, 0, 0, 8, [(.inl 1, 0)], []), rv_r 89], []), [31], 17, [], []),
  (33, ([rv_r 80, rv_i 0 8, rv_i 0 19, rv_i 0 9999, rv_i 0 9, rv_i 0 9], [], []), [32], 16, [], []),
  (34, ([rv_r 80, rv_i 0 8, rv_i 0 19, rv_i 0 9999, rv_i 0 9, rv_i 0 9], [rv_r 80], []), [33], 15, [], []),
  (35, ([rv_r 80, rv_i 0 8, rv_i 0 19, rv_i 0 9999, rv_i 0 9, rv_i 0 9], [rv_r 90], []), [34], 14, [], []),
  (36, ([rv_r 80, rv_i 0 8, rv_i 0 19, rv_i 0 9999, rv_i 0 9, rv_i 0 9], [(1, 0, 0, 8, [(.inl 1, 0)], []), rv_r 90], []), [35], 13, [], []),
  (37, ([rv_r 80, rv_i 0 8, rv_i 0 19, rv_i 0 9999, rv_i 0 9, rv_i 0 9], [(1, 0, 0, 9999, [(.inl 3, 0)], []), (1, 0, 0, 8, [(.inl 1, 0)], []), rv_r 90], []), [36], 12, [], []),
  (38, ([rv_r 80, rv_i 0 8, rv_i 0 19, rv_i 0 9999, rv_i 0 9, rv_i 0 9], [], []), [37], 11, [], []),
  (39, ([rv_r 80, rv_i 0 8, rv_i 0 19, rv_i 0 9999, rv_i 0 9, rv_i 0 9], [rv_r 80], []), [38], 10, [], []),
  (40, ([rv_r 80, rv_i 0 8, rv_i 0 19, rv_i 0 9999, rv_i 0 9, rv_i 0 9], [rv_r 91], []), [39], 9, [], []),
  (41, ([rv_r 80, rv_i 0 8, rv_i 0 19, rv_i 0 9999, rv_i 0 9, rv_i 0 9], [(1, 0, 0, 8, [(.inl 1, 0)], []), rv_r 91], []), [40], 8, [], []),
  (42, ([rv_r 80, rv_i 0 8, rv_i 0 19, rv_i 0 9999, rv_i 0 9, rv_i 0 9], [(1, 0, 0, 9, [(.inl 4, 0)], []), (1, 0, 0, 8, [(.inl 1, 0)], []), rv_r 91], []), [41], 7, [], []),
  (43, ([rv_r 80, rv_i 0 8, rv_i 0 19, rv_i 0 9999, rv_i 0 9, rv_i 0 9], [], []), [42], 6, [], []),
  (44, ([rv_r 80, rv_i 0 8, rv_i 0 19, rv_i 0 9999, rv_i 0 9, rv_i 0 9], [rv_r 80], []), [43], 5, [], []),
  (45, ([rv_r 80, rv_i 0 8, rv_i 0 19, rv_i 0 9999, rv_i 0 9, rv_i 0 9], [rv_r 92], []), [44], 4, [], []),
  (46, ([rv_r 80, rv_i 0 8, rv_i 0 19, rv_i 0 9999, rv_i 0 9, rv_i 0 9], [(1, 0, 0, 8, [(.inl 1, 0)], []), rv_r 92], []), [45], 3, [], []),
  (47, ([rv_r 80, rv_i 0 8, rv_i 0 19, rv_i 0 9999, rv_i 0 9, rv_i 0 9], [(1, 0, 0, 9, [(.inl 5, 0)], []), (1, 0, 0, 8, [(.inl 1, 0)], []), rv_r 92], []), [46], 2, [], []),
  (48, ([rv_r 80, rv_i 0 8, rv_i 0 19, rv_i 0 9999, rv_i 0 9, rv_i 0 9], [], []), [47], 1, [], []),
  (49, ([rv_r 80, rv_i 0 8, rv_i 0 19, rv_i 0 9999, rv_i 0 9, rv_i 0 9], [rv_i 1 1], []), [], 0, [], [])]
set_option maxRecDepth 100000 in
theorem a_X8_porter_1 : rv_all (fm_tm, flX8, fm_wr, kcX8, klX8, K_X8_porter_1.2.2.1, [], 6) ct_X8_porter_1 cd_X8_porter n_X8_porter_1 K_X8_porter_1 [] 0 n_X8_porter_1 = true := by decide +kernel
theorem m_X8_porter_1 {l : Launch} {D : va_G} {ad : Nat → Nat} {cy : Nat → ClassId} {Z : State → Heap → Prop} (hAd : fm_Ad fm_tm ad) (hZ : fm_Zk (fm_A fm_tm ad) Z) : rv_Met l D fm_cl fm_tm ad cy fm_nt Z fm_G yX8_porter (.code yX8_porter prog_10_method_12_code 6 (some .boolean) :: fm_Ts) { frames := 2, cells := 0, slots := 0, locals := 200 } K_X8_porter_1 := rv_met hAd hZ (Or.inl (by decide +kernel)) evX8 dc_X8_porter a_X8_porter_1 ⟨rfl, rfl, rfl⟩ (by decide +kernel) (by decide +kernel) (by decide) (fm_gm fm_G_gd (by decide +kernel)) (Or.inr ⟨rfl, by decide, by decide⟩) (fun p e s m args below meth c Q X Y => List.forall_mem_cons.mpr ⟨rv_ctS X Y fm_Ts_good dc_X8_porter (pc := 6) (i := 4) (idx := 168) rfl (m_liesin_0_8_0_8 hAd hZ) wl_X8_168 wm_X8_lies wy_X8_lies (by decide) rfl, List.forall_mem_cons.mpr ⟨rv_ctS X Y fm_Ts_good dc_X8_porter (pc := 13) (i := 7) (idx := 182) rfl (m_X8_isYard_1 hAd hZ) wl_X8_182 wm_X8_isYard wy_X8_isYard (by decide) rfl, List.forall_mem_cons.mpr ⟨rv_ctS X Y fm_Ts_good dc_X8_porter (pc := 25) (i := 13) (idx := 168) rfl (m_liesin_0_9999_0_9999 hAd hZ) wl_X8_168 wm_X8_lies wy_X8_lies (by decide) rfl, List.forall_mem_cons.mpr ⟨rv_ctS X Y fm_Ts_good dc_X8_porter (pc := 33) (i := 16) (idx := 193) rfl (m_X8_isDigit_1 hAd hZ) wl_X8_193 wm_X8_isDigit wy_X8_isDigit (by decide) rfl, List.forall_mem_cons.mpr ⟨rv_ctS X Y fm_Ts_good dc_X8_porter (pc := 41) (i := 19) (idx := 193) rfl (m_X8_isDigit_1 hAd hZ) wl_X8_193 wm_X8_isDigit wy_X8_isDigit (by decide) rfl, fun _ h => absurd h List.not_mem_nil⟩⟩⟩⟩⟩) (fun _ _ _ _ _ _ _ _ _ _ _ _ _ _ _ _ h => absurd h List.not_mem_nil)
