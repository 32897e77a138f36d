/-! INSTANCES FOR WHAT IS COMPARED -/
theorem gm_weak {l : Launch} {D : va_G} {cl : List vw_C} {tm : List fm_C} {ad : Nat → Nat} {cy : Nat → ClassId} {nt : fm_Nt} {Z : State → Heap → Prop} {y : MethodName} {ws : List Jvm.Cond} {rm : Room} {V : fm_V} {avs : List Value} {po po2 : Option Value → fm_V → Prop} (h : gm_M l D cl tm ad cy nt Z y ws rm V avs po) (hp : ∀ r V1, po r V1 → po2 r V1) : gm_M l D cl tm ad cy nt Z y ws rm V avs po2 := by
  intro p e ha hc hk s m args below hf happ hP ht
  obtain ⟨k, o, h1, h2, h3, ⟨⟨r, V1, e1, e2, e3⟩, e4⟩, e5⟩ := h p e ha hc hk s m args below hf happ hP ht
  exact ⟨k, o, h1, h2, h3, ⟨⟨r, V1, e1, hp r V1 e2, e3⟩, e4⟩, e5⟩
def K_liesin (lo hi a b : Int) : rv_K := ([(3, 0, a, b, [], []), (3, 0, lo, lo, [], []), (3, 0, hi, hi, [], [])], [], [], [(0, 1, 1)], [], [])
theorem m_liesin {l : Launch} {D : va_G} {ad : Nat → Nat} {cy : Nat → ClassId} {Z : State → Heap → Prop} (hAd : fm_Ad fm_tm ad) (hZ : fm_Zk (fm_A fm_tm ad) Z) (lo hi a b : Int) (h : lo ≤ a ∧ b ≤ hi) : rv_Met l D fm_cl fm_tm ad cy fm_nt Z fm_G yX8_lies (.code yX8_lies prog_10_method_2_code 6 (some .boolean) :: fm_Ts) { frames := 0, cells := 0, slots := 0, locals := 0 } (K_liesin lo hi a b) := by
  intro V avs hpre
  obtain ⟨v0, r0, rfl, q0, h0⟩ := rv_sk_cons hpre.2.2.1
  obtain ⟨v1, r1, rfl, q1, h0⟩ := rv_sk_cons h0
  obtain ⟨v2, r2, rfl, q2, h0⟩ := rv_sk_cons h0
  obtain rfl := rv_sk_nil h0
  obtain ⟨x, rfl, x1, x2, -⟩ := rv_okL rfl q0
  obtain ⟨y, rfl, y1, y2, -⟩ := rv_okL rfl q1
  obtain ⟨z, rfl, z1, z2, -⟩ := rv_okL rfl q2
  replace x1 : a ≤ x.toInt := x1
  replace x2 : x.toInt ≤ b := x2
  replace y2 : y.toInt ≤ lo := y2
  replace z1 : hi ≤ z.toInt := z1
  refine gm_weak (g_lies hAd hZ) (fun r V1 hp => ?_)
  obtain ⟨rfl, w, rfl, hw, hi2⟩ := hp
  obtain rfl : w = 1 := by
    rcases hw with rfl | rfl
    · exact absurd rfl (hi2.mpr ⟨by omega, by omega⟩)
    · rfl
  exact ⟨hpre.1, fun _ _ _ => rfl, ⟨1, rfl, by decide, by decide, fun q => absurd (show (0 : Nat) = 1 from q) (by decide), fun _ q hq => absurd hq List.not_mem_nil⟩, fun f hf => absurd hf List.not_mem_nil⟩
def K_X8_undo_1 : rv_K := ([rv_r 80], [((80, 2), 0, 2000000000, []), ((80, 73), 0, 0, []), ((125, 5), 0, 2000000000, [])], [], [(0, 0, 0)], [], [])
def ct_X8_undo_1 : List (Nat × rv_K) := []
def n_X8_undo_1 : List rv_N := [
  (0, ([rv_r 80], [], [((80, 2), 0, 2000000000, [((80, 2), 0, 0)]), ((80, 73), 0, 0, []), ((125, 5), 0, 2000000000, [((125, 5), 0, 0)])]), [1], 4, [], []),
  (1, ([rv_r 80], [rv_r 80], [((80, 2), 0, 2000000000, [((80, 2), 0, 0)]), ((80, 73), 0, 0, []), ((125, 5), 0, 2000000000, [((125, 5), 0, 0)])]), [2], 3, [], []),
  (2, ([rv_r 80], [(1, 0, 0, 0, [(.inr (80, 73), 0)], [])], [((80, 2), 0, 2000000000, [((80, 2), 0, 0)]), ((80, 73), 0, 0, []), ((125, 5), 0, 2000000000, [((125, 5), 0, 0)])]), [3], 2, [], []),
  (3, ([rv_r 80], [], [((80, 2), 0, 2000000000, [((80, 2), 0, 0)]), ((80, 73), 0, 0, []), ((125, 5), 0, 2000000000, [((125, 5), 0, 0)])]), [4], 1, [], []),
  (4, ([rv_r 80], [rv_i 0 0], [((80, 2), 0, 2000000000, [((80, 2), 0, 0)]), ((80, 73), 0, 0, []), ((125, 5), 0, 2000000000, [((125, 5), 0, 0)])]), [], 0, [], [])]
set_option maxRecDepth 100000 in
theorem a_X8_undo_1 : rv_all (fm_tm, flX8, fm_wr, kcX8, klX8, K_X8_undo_1.2.2.1, [], 1) ct_X8_undo_1 cd_X8_undo n_X8_undo_1 K_X8_undo_1 [] 0 n_X8_undo_1 = true := rv_fast (rv_at_eq n_X8_undo_1) (rv_at_eq cd_X8_undo) (by decide +kernel)
theorem m_X8_undo_1 {l : Launch} {D : va_G} {ad : Nat → Nat} {cy : Nat → ClassId} {Z : State → Heap → Prop} (hAd : fm_Ad fm_tm ad) (hZ : fm_Zk (fm_A fm_tm ad) Z) : rv_Met l D fm_cl fm_tm ad cy fm_nt Z fm_G yX8_undo (.code yX8_undo prog_10_method_94_code 1 (some .boolean) :: fm_Ts) { frames := 1, cells := 0, slots := 0, locals := 100 } K_X8_undo_1 := rv_met hAd hZ (Or.inl (by decide +kernel)) evX8 dc_X8_undo a_X8_undo_1 ⟨rfl, rfl, rfl⟩ (by decide +kernel) (by decide +kernel) (by decide) (fm_gm fm_G_gd (by decide +kernel)) (Or.inr ⟨rfl, by decide, by decide⟩) (fun p e s m args below meth c Q X Y => fun _ h => absurd h List.not_mem_nil) (fun _ _ _ _ _ _ _ _ _ _ _ _ _ _ _ _ h => absurd h List.not_mem_nil)
def K_X8_undo_2 : rv_K := ([rv_r 80], [((80, 2), 0, 2000000000, []), ((80, 73), 1, 1, []), ((125, 5), 0, 2000000000, [])], [(80, 2), (80, 3), (80, 4), (80, 5), (80, 6), (82, 9999), (83, 9999), (84, 9999), (85, 9999), (86, 9999), (87, 9999), (88, 9999), (89, 9999), (90, 9999), (91, 9999), (92, 9999), (93, 9999), (94, 9999)], [(0, 1, 1)], [], [((80, 2), 0, 2000000000, [((125, 5), 0, 0)])])
def ct_X8_undo_2 : List (Nat × rv_K) := [(7, K_X8_putsBack_1)]
def n_X8_undo_2 : List rv_N := [
  (0, ([rv_r 80], [], [((80, 2), 0, 2000000000, [((80, 2), 0, 0)]), ((80, 73), 1, 1, []), ((125, 5), 0, 2000000000, [((125, 5), 0, 0)])]), [1], 7, [], []),
  (1, ([rv_r 80], [rv_r 80], [((80, 2), 0, 2000000000, [((80, 2), 0, 0)]), ((80, 73), 1, 1, []), ((125, 5), 0, 2000000000, [((125, 5), 0, 0)])]), [2], 6, [], []),
  (2, ([rv_r 80], [(1, 0, 1, 1, [(.inr (80, 73), 0)], [])], [((80, 2), 0, 2000000000, [((80, 2), 0, 0)]), ((80, 73), 1, 1, []), ((125, 5), 0, 2000000000, [((125, 5), 0, 0)])]), [3], 5, [], []),
  (5, ([rv_r 80], [], [((80, 2), 0, 2000000000, [((80, 2), 0, 0)]), ((80, 73), 1, 1, []), ((125, 5), 0, 2000000000, [((125, 5), 0, 0)])]), [4], 4, [], []),
  (6, ([rv_r 80], [rv_r 80], [((80, 2), 0, 2000000000, [((80, 2), 0, 0)]), ((80, 73), 1, 1, []), ((125, 5), 0, 2000000000, [((125, 5), 0, 0)])]), [5], 3, [], []),
  (7, ([rv_r 80], [rv_i 1 1, rv_r 80], [((80, 2), 0, 2000000000, [((80, 2), 0, 0)]), ((80, 73), 1, 1, []), ((125, 5), 0, 2000000000, [((125, 5), 0, 0)])]), [6], 2, [], [0]),
  (8, ([rv_r 80], [], [((80, 2), 0, 2000000000, [((125, 5), 0, 0)]), ((80, 73), 1, 1, []), ((125, 5), 0, 2000000000, [((125, 5), 0, 0)])]), [7], 1, [], []),
  (9, ([rv_r 80], [rv_i 1 1], [((80, 2), 0, 2000000000, [((125, 5), 0, 0)]), ((80, 73), 1, 1, []), ((125, 5), 0, 2000000000, [((125, 5), 0, 0)])]), [], 0, [], [])]
set_option maxRecDepth 100000 in
theorem a_X8_undo_2 : rv_all (fm_tm, flX8, fm_wr, kcX8, klX8, K_X8_undo_2.2.2.1, [], 1) ct_X8_undo_2 cd_X8_undo n_X8_undo_2 K_X8_undo_2 [] 0 n_X8_undo_2 = true := rv_fast (rv_at_eq n_X8_undo_2) (rv_at_eq cd_X8_undo) (by decide +kernel)
theorem m_X8_undo_2 {l : Launch} {D : va_G} {ad : Nat → Nat} {cy : Nat → ClassId} {Z : State → Heap → Prop} (hAd : fm_Ad fm_tm ad) (hZ : fm_Zk (fm_A fm_tm ad) Z) : rv_Met l D fm_cl fm_tm ad cy fm_nt Z fm_G yX8_undo (.code yX8_undo prog_10_method_94_code 1 (some .boolean) :: fm_Ts) { frames := 1, cells := 0, slots := 0, locals := 100 } K_X8_undo_2 := rv_met hAd hZ (Or.inl (by decide +kernel)) evX8 dc_X8_undo a_X8_undo_2 ⟨rfl, rfl, rfl⟩ (by decide +kernel) (by decide +kernel) (by decide) (fm_gm fm_G_gd (by decide +kernel)) (Or.inr ⟨rfl, by decide, by decide⟩) (fun p e s m args below meth c Q X Y => List.forall_mem_cons.mpr ⟨rv_ctV X Y fm_Ts_good dc_X8_undo (pc := 11) (i := 7) (idx := 445) rfl (m_X8_putsBack_1 hAd hZ) wl_X8_445 wm_X8_putsBack wy_X8_putsBack (by decide) ⟨rfl, rfl, rfl⟩ ⟨rfl, rfl⟩, fun _ h => absurd h List.not_mem_nil⟩) (fun _ _ _ _ _ _ _ _ _ _ _ _ _ _ _ _ h => absurd h List.not_mem_nil)
def K_X7_undo_1 : rv_K := ([rv_r 0], [((0, 11), 0, 0, [])], [], [(0, 0, 0)], [], [])
def ct_X7_undo_1 : List (Nat × rv_K) := []
def n_X7_undo_1 : List rv_N := [
  (0, ([rv_r 0], [], [((0, 11), 0, 0, [])]), [1], 4, [], []),
  (1, ([rv_r 0], [rv_r 0], [((0, 11), 0, 0, [])]), [2], 3, [], []),
  (2, ([rv_r 0], [(1, 0, 0, 0, [(.inr (0, 11), 0)], [])], [((0, 11), 0, 0, [])]), [3], 2, [], []),
  (3, ([rv_r 0], [], [((0, 11), 0, 0, [])]), [4], 1, [], []),
  (4, ([rv_r 0], [rv_i 0 0], [((0, 11), 0, 0, [])]), [], 0, [], [])]
set_option maxRecDepth 100000 in
theorem a_X7_undo_1 : rv_all (fm_tm, flX7, fm_wr, kcX7, klX7, K_X7_undo_1.2.2.1, [], 1) ct_X7_undo_1 cd_X7_undo n_X7_undo_1 K_X7_undo_1 [] 0 n_X7_undo_1 = true := rv_fast (rv_at_eq n_X7_undo_1) (rv_at_eq cd_X7_undo) (by decide +kernel)
theorem m_X7_undo_1 {l : Launch} {D : va_G} {ad : Nat → Nat} {cy : Nat → ClassId} {Z : State → Heap → Prop} {Gp : fm_V → Prop} (hAd : fm_Ad fm_tm ad) (hZ : fm_Zk (fm_A fm_tm ad) Z) (hGd : fm_Gd Gp) : rv_Met l D fm_cl fm_tm ad cy fm_nt Z Gp yX7_undo (.code yX7_undo prog_1_method_31_code 1 (some .boolean) :: fm_Ts) { frames := 4, cells := 0, slots := 0, locals := 400 } K_X7_undo_1 := rv_met hAd hZ (Or.inl (by decide +kernel)) evX7 dc_X7_undo a_X7_undo_1 ⟨rfl, rfl, rfl⟩ (by decide +kernel) (by decide +kernel) (by decide) (fm_gm hGd (by decide +kernel)) (Or.inr ⟨rfl, by decide, by decide⟩) (fun p e s m args below meth c Q X Y => fun _ h => absurd h List.not_mem_nil) (fun _ _ _ _ _ _ _ _ _ _ _ _ _ _ _ _ h => absurd h List.not_mem_nil)
def K_X7_undo_2 : rv_K := ([rv_r 0], [((0, 11), 1, 1, [])], [(3, 1), (4, 9999), (26, 9), (26, 10), (26, 11), (26, 12), (26, 13), (26, 14), (26, 15), (27, 9999), (28, 9999), (29, 9999), (30, 9999), (31, 9999), (32, 9999), (33, 9999), (34, 9999), (36, 0), (37, 9999), (38, 9999), (39, 9999), (40, 9999)], [(0, 1, 1)], [], [])
def ct_X7_undo_2 : List (Nat × rv_K) := [(9, K_X0_takeAll_2), (14, K_X6_take_1)]
def n_X7_undo_2 : List rv_N := [
  (0, ([rv_r 0], [], [((0, 11), 1, 1, [])]), [1], 14, [], []),
  (1, ([rv_r 0], [rv_r 0], [((0, 11), 1, 1, [])]), [2], 13, [], []),
  (2, ([rv_r 0], [(1, 0, 1, 1, [(.inr (0, 11), 0)], [])], [((0, 11), 1, 1, [])]), [3], 12, [], []),
  (5, ([rv_r 0], [], [((0, 11), 1, 1, [])]), [4], 11, [], []),
  (6, ([rv_r 0], [rv_r 0], [((0, 11), 1, 1, [])]), [5], 10, [], []),
  (7, ([rv_r 0], [rv_r 26], [((0, 11), 1, 1, [])]), [6], 9, [], []),
  (8, ([rv_r 0], [rv_r 0, rv_r 26], [((0, 11), 1, 1, [])]), [7], 8, [], []),
  (9, ([rv_r 0], [rv_r 41, rv_r 26], [((0, 11), 1, 1, [])]), [8], 7, [], [0]),
  (10, ([rv_r 0], [], [((0, 11), 1, 1, [])]), [9], 6, [], []),
  (11, ([rv_r 0], [rv_r 0], [((0, 11), 1, 1, [])]), [10], 5, [], []),
  (12, ([rv_r 0], [rv_r 3], [((0, 11), 1, 1, [])]), [11], 4, [], []),
  (13, ([rv_r 0], [rv_r 0, rv_r 3], [((0, 11), 1, 1, [])]), [12], 3, [], []),
  (14, ([rv_r 0], [rv_r 5, rv_r 3], [((0, 11), 1, 1, [])]), [13], 2, [], [1]),
  (15, ([rv_r 0], [], [((0, 11), 1, 1, [])]), [14], 1, [], []),
  (16, ([rv_r 0], [rv_i 1 1], [((0, 11), 1, 1, [])]), [], 0, [], [])]
set_option maxRecDepth 100000 in
theorem a_X7_undo_2 : rv_all (fm_tm, flX7, fm_wr, kcX7, klX7, K_X7_undo_2.2.2.1, [], 1) ct_X7_undo_2 cd_X7_undo n_X7_undo_2 K_X7_undo_2 [] 0 n_X7_undo_2 = true := rv_fast (rv_at_eq n_X7_undo_2) (rv_at_eq cd_X7_undo) (by decide +kernel)
theorem m_X7_undo_2 {l : Launch} {D : va_G} {ad : Nat → Nat} {cy : Nat → ClassId} {Z : State → Heap → Prop} {Gp : fm_V → Prop} (hAd : fm_Ad fm_tm ad) (hZ : fm_Zk (fm_A fm_tm ad) Z) (hGd : fm_Gd Gp) : rv_Met l D fm_cl fm_tm ad cy fm_nt Z Gp yX7_undo (.code yX7_undo prog_1_method_31_code 1 (some .boolean) :: fm_Ts) { frames := 4, cells := 0, slots := 0, locals := 400 } K_X7_undo_2 := rv_met hAd hZ (Or.inl (by decide +kernel)) evX7 dc_X7_undo a_X7_undo_2 ⟨rfl, rfl, rfl⟩ (by decide +kernel) (by decide +kernel) (by decide) (fm_gm hGd (by decide +kernel)) (Or.inr ⟨rfl, by decide, by decide⟩) (fun p e s m args below meth c Q X Y => List.forall_mem_cons.mpr ⟨rv_ctV X Y fm_Ts_good dc_X7_undo (pc := 17) (i := 9) (idx := 168) rfl (m_X0_takeAll_2 hAd hZ hGd) wl_X7_168 wm_X0_takeAll wy_X0_takeAll (by decide) ⟨rfl, rfl, rfl⟩ ⟨rfl, rfl⟩, List.forall_mem_cons.mpr ⟨rv_ctV X Y fm_Ts_good dc_X7_undo (pc := 28) (i := 14) (idx := 293) rfl (m_X6_take_1 hAd hZ hGd) wl_X7_293 wm_X6_take wy_X6_take (by decide) ⟨rfl, rfl, rfl⟩ ⟨rfl, rfl⟩, fun _ h => absurd h List.not_mem_nil⟩⟩) (fun _ _ _ _ _ _ _ _ _ _ _ _ _ _ _ _ h => absurd h List.not_mem_nil)
def K_X7_keep_1 : rv_K := ([rv_r 0], [((0, 11), 0, 1, [])], [(0, 11), (5, 1), (6, 9999), (41, 9), (41, 10), (41, 11), (41, 12), (41, 13), (41, 14), (41, 15), (42, 9999), (43, 9999), (44, 9999), (45, 9999), (46, 9999), (47, 9999), (48, 9999), (49, 9999), (51, 0), (52, 9999), (53, 9999), (54, 9999), (55, 9999)], [(0, (-2147483648), 2147483647)], [], [((0, 11), 1, 1, [])])
def ct_X7_keep_1 : List (Nat × rv_K) := [(4, K_X0_takeAll_1), (9, K_X6_take_0)]
def n_X7_keep_1_0 : List rv_N := [
  (0, ([rv_r 0], [], [((0, 11), 0, 1, [((0, 11), 0, 0)])]), [1], 16, [], []),
  (1, ([rv_r 0], [rv_r 0], [((0, 11), 0, 1, [((0, 11), 0, 0)])]), [2], 15, [], []),
  (2, ([rv_r 0], [rv_r 41], [((0, 11), 0, 1, [((0, 11), 0, 0)])]), [3], 14, [], []),
  (3, ([rv_r 0], [rv_r 0, rv_r 41], [((0, 11), 0, 1, [((0, 11), 0, 0)])]), [4], 13, [], []),
  (4, ([rv_r 0], [rv_r 26, rv_r 41], [((0, 11), 0, 1, [((0, 11), 0, 0)])]), [5], 12, [], [0]),
  (5, ([rv_r 0], [], [((0, 11), 0, 1, [((0, 11), 0, 0)])]), [6], 11, [], []),
  (6, ([rv_r 0], [rv_r 0], [((0, 11), 0, 1, [((0, 11), 0, 0)])]), [7], 10, [], []),
  (7, ([rv_r 0], [rv_r 5], [((0, 11), 0, 1, [((0, 11), 0, 0)])]), [8], 9, [], []),
  (8, ([rv_r 0], [rv_r 0, rv_r 5], [((0, 11), 0, 1, [((0, 11), 0, 0)])]), [9], 8, [], []),
  (9, ([rv_r 0], [rv_r 3, rv_r 5], [((0, 11), 0, 1, [((0, 11), 0, 0)])]), [10], 7, [], [1]),
  (10, ([rv_r 0], [], [((0, 11), 0, 1, [((0, 11), 0, 0)])]), [11], 6, [], []),
  (11, ([rv_r 0], [rv_r 0], [((0, 11), 0, 1, [((0, 11), 0, 0)])]), [12], 5, [], []),
  (12, ([rv_r 0], [rv_i 1 1, rv_r 0], [((0, 11), 0, 1, [((0, 11), 0, 0)])]), [13], 4, [], []),
  (13, ([rv_r 0], [], [((0, 11), 1, 1, [])]), [14], 3, [], []),
  (14, ([rv_r 0], [rv_r 0], [((0, 11), 1, 1, [])]), [15], 2, [], []),
  (15, ([rv_r 0], [rv_r 26], [((0, 11), 1, 1, [])]), [16], 1, [], [])]
def n_X7_keep_1_1 : List rv_N := [
  (16, ([rv_r 0], [(1, 0, (-2147483648), 2147483647, [(.inr (26, 9), 0)], [])], [((0, 11), 1, 1, [])]), [], 0, [], [])]
def n_X7_keep_1 : List rv_N := n_X7_keep_1_0 ++ (n_X7_keep_1_1)
noncomputable def gn_X7_keep_1 : Nat → Option rv_N := rv_ap 16 (rv_at n_X7_keep_1_0) (rv_at n_X7_keep_1_1)
theorem hn_X7_keep_1 : ∀ i : Nat, n_X7_keep_1[i]? = gn_X7_keep_1 i := rv_ap_eq (l := n_X7_keep_1_0) (c := 16) (rv_at_eq n_X7_keep_1_1) rfl
set_option maxRecDepth 100000 in
theorem a_X7_keep_1 : rv_all (fm_tm, flX7, fm_wr, kcX7, klX7, K_X7_keep_1.2.2.1, [], 1) ct_X7_keep_1 cd_X7_keep n_X7_keep_1 K_X7_keep_1 [] 0 n_X7_keep_1 = true := rv_fast hn_X7_keep_1 (rv_at_eq cd_X7_keep) (by decide +kernel)
theorem m_X7_keep_1 {l : Launch} {D : va_G} {ad : Nat → Nat} {cy : Nat → ClassId} {Z : State → Heap → Prop} {Gp : fm_V → Prop} (hAd : fm_Ad fm_tm ad) (hZ : fm_Zk (fm_A fm_tm ad) Z) (hGd : fm_Gd Gp) : rv_Met l D fm_cl fm_tm ad cy fm_nt Z Gp yX7_keep (.code yX7_keep prog_1_method_30_code 1 (some .int) :: fm_Ts) { frames := 4, cells := 0, slots := 0, locals := 400 } K_X7_keep_1 := rv_met hAd hZ (Or.inl (by decide +kernel)) evX7 dc_X7_keep a_X7_keep_1 ⟨rfl, rfl, rfl⟩ (by decide +kernel) (by decide +kernel) (by decide) (fm_gm hGd (by decide +kernel)) (Or.inl rfl) (fun p e s m args below meth c Q X Y => List.forall_mem_cons.mpr ⟨rv_ctV X Y fm_Ts_good dc_X7_keep (pc := 8) (i := 4) (idx := 168) rfl (m_X0_takeAll_1 hAd hZ hGd) wl_X7_168 wm_X0_takeAll wy_X0_takeAll (by decide) ⟨rfl, rfl, rfl⟩ ⟨rfl, rfl⟩, List.forall_mem_cons.mpr ⟨rv_ctV X Y fm_Ts_good dc_X7_keep (pc := 19) (i := 9) (idx := 293) rfl (m_X6_take_0 hAd hZ hGd) wl_X7_293 wm_X6_take wy_X6_take (by decide) ⟨rfl, rfl, rfl⟩ ⟨rfl, rfl⟩, fun _ h => absurd h List.not_mem_nil⟩⟩) (fun _ _ _ _ _ _ _ _ _ _ _ _ _ _ _ _ h => absurd h List.not_mem_nil)
def K_X8_keep_1 : rv_K := ([rv_r 80], [((80, 2), 0, 2000000000, []), ((80, 73), 0, 1, [])], [(80, 73), (112, 9999), (113, 9999), (114, 9999), (115, 9999), (116, 9999), (117, 9999), (118, 9999), (119, 9999), (120, 9999), (121, 9999), (122, 9999), (123, 9999), (124, 9999), (125, 5), (125, 6), (125, 7), (125, 8), (125, 9)], [(0, 0, 2000000000)], [], [((80, 73), 1, 1, []), ((125, 5), 0, 2000000000, [((80, 2), 0, 0)])])
def ct_X8_keep_1 : List (Nat × rv_K) := [(5, K_X8_setsAside_1)]
def n_X8_keep_1 : List rv_N := [
  (0, ([rv_r 80], [], [((80, 2), 0, 2000000000, [((80, 2), 0, 0)]), ((80, 73), 0, 1, [((80, 73), 0, 0)]), ((125, 5), (-2147483648), 2147483647, [((125, 5), 0, 0)])]), [1], 8, [], []),
  (1, ([rv_r 80], [rv_r 80], [((80, 2), 0, 2000000000, [((80, 2), 0, 0)]), ((80, 73), 0, 1, [((80, 73), 0, 0)]), ((125, 5), (-2147483648), 2147483647, [((125, 5), 0, 0)])]), [2], 7, [], []),
  (2, ([rv_r 80], [rv_i 1 1, rv_r 80], [((80, 2), 0, 2000000000, [((80, 2), 0, 0)]), ((80, 73), 0, 1, [((80, 73), 0, 0)]), ((125, 5), (-2147483648), 2147483647, [((125, 5), 0, 0)])]), [3], 6, [], []),
  (3, ([rv_r 80], [], [((80, 2), 0, 2000000000, [((80, 2), 0, 0)]), ((80, 73), 1, 1, []), ((125, 5), (-2147483648), 2147483647, [((125, 5), 0, 0)])]), [4], 5, [], []),
  (4, ([rv_r 80], [rv_r 80], [((80, 2), 0, 2000000000, [((80, 2), 0, 0)]), ((80, 73), 1, 1, []), ((125, 5), (-2147483648), 2147483647, [((125, 5), 0, 0)])]), [5], 4, [], []),
  (5, ([rv_r 80], [rv_i 1 1, rv_r 80], [((80, 2), 0, 2000000000, [((80, 2), 0, 0)]), ((80, 73), 1, 1, []), ((125, 5), (-2147483648), 2147483647, [((125, 5), 0, 0)])]), [6], 3, [], [0]),
  (6, ([rv_r 80], [], [((80, 2), 0, 2000000000, [((80, 2), 0, 0)]), ((80, 73), 1, 1, []), ((125, 5), 0, 2000000000, [((80, 2), 0, 0)])]), [7], 2, [], []),
  (7, ([rv_r 80], [rv_r 80], [((80, 2), 0, 2000000000, [((80, 2), 0, 0)]), ((80, 73), 1, 1, []), ((125, 5), 0, 2000000000, [((80, 2), 0, 0)])]), [8], 1, [], []),
  (8, ([rv_r 80], [(1, 0, 0, 2000000000, [(.inr (80, 2), 0)], [])], [((80, 2), 0, 2000000000, [((80, 2), 0, 0)]), ((80, 73), 1, 1, []), ((125, 5), 0, 2000000000, [((80, 2), 0, 0)])]), [], 0, [], [])]
set_option maxRecDepth 100000 in
theorem a_X8_keep_1 : rv_all (fm_tm, flX8, fm_wr, kcX8, klX8, K_X8_keep_1.2.2.1, [], 1) ct_X8_keep_1 cd_X8_keep n_X8_keep_1 K_X8_keep_1 [] 0 n_X8_keep_1 = true := rv_fast (rv_at_eq n_X8_keep_1) (rv_at_eq cd_X8_keep) (by decide +kernel)
theorem m_X8_keep_1 {l : Launch} {D : va_G} {ad : Nat → Nat} {cy : Nat → ClassId} {Z : State → Heap → Prop} (hAd : fm_Ad fm_tm ad) (hZ : fm_Zk (fm_A fm_tm ad) Z) : rv_Met l D fm_cl fm_tm ad cy fm_nt Z fm_G yX8_keep (.code yX8_keep prog_10_method_93_code 1 (some .int) :: fm_Ts) { frames := 1, cells := 0, slots := 0, locals := 100 } K_X8_keep_1 := rv_met hAd hZ (Or.inl (by decide +kernel)) evX8 dc_X8_keep a_X8_keep_1 ⟨rfl, rfl, rfl⟩ (by decide +kernel) (by decide +kernel) (by decide) (fm_gm fm_G_gd (by decide +kernel)) (Or.inl rfl) (fun p e s m args below meth c Q X Y => List.forall_mem_cons.mpr ⟨rv_ctV X Y fm_Ts_good dc_X8_keep (pc := 7) (i := 5) (idx := 439) rfl (m_X8_setsAside_1 hAd hZ) wl_X8_439 wm_X8_setsAside wy_X8_setsAside (by decide) ⟨rfl, rfl, rfl⟩ ⟨rfl, rfl⟩, fun _ h => absurd h List.not_mem_nil⟩) (fun _ _ _ _ _ _ _ _ _ _ _ _ _ _ _ _ h => absurd h List.not_mem_nil)
