def K_X3_readSum_3 : rv_K := ([rv_r 16, rv_i 3 3], [], [(16, 3), (16, 4), (17, 2), (18, 9999), (19, 9999)], [(0, 0, 1)], [], [])
def ct_X3_readSum_3 : List (Nat × rv_K) := [(2, K_X3_readTerm_3), (12, K_X3_next_0), (16, K_X3_next_0), (20, K_X3_next_0), (30, K_X3_readTerm_3), (38, K_X1_putStep_0)]
def n_X3_readSum_3_0 : List rv_N := [
  (0, ([rv_r 16, rv_i 3 3, rv_u, rv_u], [], []), [1], 2192410, [], []),
  (1, ([rv_r 16, rv_i 3 3, rv_u, rv_u], [rv_r 16], []), [2], 2192409, [], []),
  (2, ([rv_r 16, rv_i 3 3, rv_u, rv_u], [(1, 0, 3, 3, [(.inl 1, 0)], []), rv_r 16], []), [3], 2192408, [], [0]),
  (3, ([rv_r 16, rv_i 3 3, rv_u, rv_u], [rv_i 0 1], []), [4, 6], 2192407, [], []),
  (4, ([rv_r 16, rv_i 3 3, rv_u, rv_u], [], []), [5], 1, [], []),
  (5, ([rv_r 16, rv_i 3 3, rv_u, rv_u], [rv_i 0 0], []), [], 0, [], []),
  (6, ([rv_r 16, rv_i 3 3, rv_u, rv_u], [], []), [7], 2192406, [], []),
  (7, ([rv_r 16, rv_i 3 3, rv_u, rv_u], [rv_i 0 0], []), [8], 2192405, [], []),
  (8, ([rv_r 16, rv_i 3 3, rv_i 0 200, rv_u], [], []), [9], 2192404, [(2, (-10962))], []),
  (9, ([rv_r 16, rv_i 3 3, rv_i 0 200, rv_u], [(1, 0, 0, 200, [(.inl 2, 0)], [])], []), [10], 2192403, [(2, (-10962))], []),
  (10, ([rv_r 16, rv_i 3 3, rv_i 0 200, rv_u], [rv_i 200 200, (1, 0, 0, 200, [(.inl 2, 0)], [])], []), [11, 42], 2192402, [(2, (-10962))], []),
  (11, ([rv_r 16, rv_i 3 3, rv_i 0 199, rv_u], [], []), [12], 2181471, [(2, (-10962))], []),
  (12, ([rv_r 16, rv_i 3 3, rv_i 0 199, rv_u], [rv_r 16], []), [13], 2181470, [(2, (-10962))], [1]),
  (13, ([rv_r 16, rv_i 3 3, rv_i 0 199, rv_u], [rv_i (-1) 255], []), [14], 2181469, [(2, (-10962))], []),
  (14, ([rv_r 16, rv_i 3 3, rv_i 0 199, rv_u], [rv_i 43 43, rv_i (-1) 255], []), [15, 19], 2181468, [(2, (-10962))], []),
  (15, ([rv_r 16, rv_i 3 3, rv_i 0 199, rv_u], [], []), [16], 2181467, [(2, (-10962))], [])]
def n_X3_readSum_3_1 : List rv_N := [
  (16, ([rv_r 16, rv_i 3 3, rv_i 0 199, rv_u], [rv_r 16], []), [17], 2181466, [(2, (-10962))], [2]),
  (17, ([rv_r 16, rv_i 3 3, rv_i 0 199, rv_u], [rv_i (-1) 255], []), [18], 2181465, [(2, (-10962))], []),
  (18, ([rv_r 16, rv_i 3 3, rv_i 0 199, rv_u], [rv_i 45 45, rv_i (-1) 255], []), [19, 42], 2181464, [(2, (-10962))], []),
  (19, ([rv_r 16, rv_i 3 3, rv_i 0 199, rv_u], [], []), [20], 2181463, [(2, (-10962))], []),
  (20, ([rv_r 16, rv_i 3 3, rv_i 0 199, rv_u], [rv_r 16], []), [21], 2181462, [(2, (-10962))], [3]),
  (21, ([rv_r 16, rv_i 3 3, rv_i 0 199, rv_u], [rv_i (-1) 255], []), [22], 2181461, [(2, (-10962))], []),
  (22, ([rv_r 16, rv_i 3 3, rv_i 0 199, rv_i (-1) 255], [], []), [23], 2181460, [(2, (-10962))], []),
  (23, ([rv_r 16, rv_i 3 3, rv_i 0 199, rv_i (-1) 255], [rv_r 16], []), [24], 2181459, [(2, (-10962))], []),
  (24, ([rv_r 16, rv_i 3 3, rv_i 0 199, rv_i (-1) 255], [rv_r 16, rv_r 16], []), [25], 2181458, [(2, (-10962))], []),
  (25, ([rv_r 16, rv_i 3 3, rv_i 0 199, rv_i (-1) 255], [(1, 0, (-2147483648), 2147483647, [(.inr (16, 3), 0)], []), rv_r 16], []), [26], 2181457, [(2, (-10962))], []),
  (26, ([rv_r 16, rv_i 3 3, rv_i 0 199, rv_i (-1) 255], [rv_i 1 1, (1, 0, (-2147483648), 2147483647, [(.inr (16, 3), 0)], []), rv_r 16], []), [27], 2181456, [(2, (-10962))], []),
  (27, ([rv_r 16, rv_i 3 3, rv_i 0 199, rv_i (-1) 255], [(1, 0, (-2147483648), 2147483647, [(.inr (16, 3), 1)], []), rv_r 16], []), [28], 2181455, [(2, (-10962))], []),
  (28, ([rv_r 16, rv_i 3 3, rv_i 0 199, rv_i (-1) 255], [], []), [29], 2181454, [(2, (-10962))], []),
  (29, ([rv_r 16, rv_i 3 3, rv_i 0 199, rv_i (-1) 255], [rv_r 16], []), [30], 2181453, [(2, (-10962))], []),
  (30, ([rv_r 16, rv_i 3 3, rv_i 0 199, rv_i (-1) 255], [(1, 0, 3, 3, [(.inl 1, 0)], []), rv_r 16], []), [31], 2181452, [(2, (-10962))], [4]),
  (31, ([rv_r 16, rv_i 3 3, rv_i 0 199, rv_i (-1) 255], [rv_i 0 1], []), [32, 34], 2181451, [(2, (-10962))], [])]
def n_X3_readSum_3_2 : List rv_N := [
  (32, ([rv_r 16, rv_i 3 3, rv_i 0 199, rv_i (-1) 255], [], []), [33], 1, [], []),
  (33, ([rv_r 16, rv_i 3 3, rv_i 0 199, rv_i (-1) 255], [rv_i 0 0], []), [], 0, [], []),
  (34, ([rv_r 16, rv_i 3 3, rv_i 0 199, rv_i (-1) 255], [], []), [35], 2181450, [(2, (-10962))], []),
  (35, ([rv_r 16, rv_i 3 3, rv_i 0 199, rv_i (-1) 255], [rv_r 16], []), [36], 2181449, [(2, (-10962))], []),
  (36, ([rv_r 16, rv_i 3 3, rv_i 0 199, rv_i (-1) 255], [rv_r 17], []), [37], 2181448, [(2, (-10962))], []),
  (37, ([rv_r 16, rv_i 3 3, rv_i 0 199, rv_i (-1) 255], [(1, 0, (-1), 255, [(.inl 3, 0)], []), rv_r 17], []), [38], 2181447, [(2, (-10962))], []),
  (38, ([rv_r 16, rv_i 3 3, rv_i 0 199, rv_i (-1) 255], [rv_i 0 0, (1, 0, (-1), 255, [(.inl 3, 0)], []), rv_r 17], []), [39], 2181446, [(2, (-10962))], [5]),
  (39, ([rv_r 16, rv_i 3 3, rv_i 0 199, rv_i (-1) 255], [rv_i (-1) 199], []), [40], 2181445, [(2, (-10962))], []),
  (40, ([rv_r 16, rv_i 3 3, rv_i 0 199, rv_i (-1) 255], [], []), [41], 2181444, [(2, (-10962))], []),
  (41, ([rv_r 16, rv_i 3 3, rv_i 1 200, rv_i (-1) 255], [], []), [8], 2192405, [(2, (-10962))], []),
  (42, ([rv_r 16, rv_i 3 3, rv_i 0 200, rv_u], [], []), [43], 1, [], []),
  (43, ([rv_r 16, rv_i 3 3, rv_i 0 200, rv_u], [rv_i 1 1], []), [], 0, [], [])]
def n_X3_readSum_3 : List rv_N := n_X3_readSum_3_0 ++ (n_X3_readSum_3_1 ++ (n_X3_readSum_3_2))
noncomputable def gn_X3_readSum_3 : Nat → Option rv_N := rv_ap 16 (rv_at n_X3_readSum_3_0) (rv_ap 16 (rv_at n_X3_readSum_3_1) (rv_at n_X3_readSum_3_2))
theorem hn_X3_readSum_3 : ∀ i : Nat, n_X3_readSum_3[i]? = gn_X3_readSum_3 i := rv_ap_eq (l := n_X3_readSum_3_0) (c := 16) (rv_ap_eq (l := n_X3_readSum_3_1) (c := 16) (rv_at_eq n_X3_readSum_3_2) rfl) rfl
set_option maxRecDepth 100000 in
theorem a_X3_readSum_3 : rv_all (fm_tm, flX3, fm_wr, kcX3, klX3, K_X3_readSum_3.2.2.1, [], 4) ct_X3_readSum_3 cd_X3_readSum n_X3_readSum_3 K_X3_readSum_3 [] 0 n_X3_readSum_3 = true := rv_fast hn_X3_readSum_3 hc_X3_readSum (by decide +kernel)
theorem m_X3_readSum_3 {l : Launch} {D : va_G} {ad : Nat → Nat} {cy : Nat → ClassId} {Z : State → Heap → Prop} {Gp : fm_V → Prop} (hAd : fm_Ad fm_tm ad) (hZ : fm_Zk (fm_A fm_tm ad) Z) (hGd : fm_Gd Gp) : rv_Met l D fm_cl fm_tm ad cy fm_nt Z Gp yX3_readSum (.code yX3_readSum prog_5_method_12_code 4 (some .boolean) :: fm_Ts) { frames := 15, cells := 0, slots := 0, locals := 1500 } K_X3_readSum_3 := rv_met hAd hZ (Or.inl (by decide +kernel)) evX3 dc_X3_readSum a_X3_readSum_3 ⟨rfl, rfl, rfl⟩ (by decide +kernel) (by decide +kernel) (by decide) (fm_gm hGd (by decide +kernel)) (Or.inr ⟨rfl, by decide, by decide⟩) (fun p e s m args below meth c Q X Y => List.forall_mem_cons.mpr ⟨rv_ctV X Y fm_Ts_good dc_X3_readSum (pc := 2) (i := 2) (idx := 119) rfl (m_X3_readTerm_3 hAd hZ hGd) wl_X3_119 wm_X3_readTerm wy_X3_readTerm (by decide) ⟨rfl, rfl, rfl⟩ ⟨rfl, rfl⟩, List.forall_mem_cons.mpr ⟨rv_ctV X Y fm_Ts_good dc_X3_readSum (pc := 20) (i := 12) (idx := 39) rfl (m_X3_next_0 hAd hZ hGd) wl_X3_39 wm_X3_next wy_X3_next (by decide) ⟨rfl, rfl, rfl⟩ ⟨rfl, rfl⟩, List.forall_mem_cons.mpr ⟨rv_ctV X Y fm_Ts_good dc_X3_readSum (pc := 29) (i := 16) (idx := 39) rfl (m_X3_next_0 hAd hZ hGd) wl_X3_39 wm_X3_next wy_X3_next (by decide) ⟨rfl, rfl, rfl⟩ ⟨rfl, rfl⟩, List.forall_mem_cons.mpr ⟨rv_ctV X Y fm_Ts_good dc_X3_readSum (pc := 38) (i := 20) (idx := 39) rfl (m_X3_next_0 hAd hZ hGd) wl_X3_39 wm_X3_next wy_X3_next (by decide) ⟨rfl, rfl, rfl⟩ ⟨rfl, rfl⟩, List.forall_mem_cons.mpr ⟨rv_ctV X Y fm_Ts_good dc_X3_readSum (pc := 54) (i := 30) (idx := 119) rfl (m_X3_readTerm_3 hAd hZ hGd) wl_X3_119 wm_X3_readTerm wy_X3_readTerm (by decide) ⟨rfl, rfl, rfl⟩ ⟨rfl, rfl⟩, List.forall_mem_cons.mpr ⟨rv_ctV X Y fm_Ts_good dc_X3_readSum (pc := 68) (i := 38) (idx := 108) rfl (m_X1_putStep_0 hAd hZ hGd) wl_X3_108 wm_X1_putStep wy_X1_putStep (by decide) ⟨rfl, rfl, rfl⟩ ⟨rfl, rfl⟩, fun _ h => absurd h List.not_mem_nil⟩⟩⟩⟩⟩⟩) (fun _ _ _ _ _ _ _ _ _ _ _ _ _ _ _ _ h => absurd h List.not_mem_nil)
def K_X3_readFactor_2 : rv_K := ([rv_r 16, rv_i 2 2], [], [(16, 3), (16, 4), (17, 2), (18, 9999), (19, 9999)], [(0, 0, 1)], [], [])
def ct_X3_readFactor_2 : List (Nat × rv_K) := [(1, K_X3_next_0), (9, K_X3_open_0), (15, K_X3_readSum_3), (19, K_X3_close_0), (26, K_X3_isDigit_0), (29, K_X3_readNumber_0), (44, K_X3_fail_0), (56, K_X1_putStep_0)]
def n_X3_readFactor_2_0 : List rv_N := [
  (0, ([rv_r 16, rv_i 2 2, rv_u, rv_u], [], []), [1], 29, [], []),
  (1, ([rv_r 16, rv_i 2 2, rv_u, rv_u], [rv_r 16], []), [2], 28, [], [0]),
  (2, ([rv_r 16, rv_i 2 2, rv_u, rv_u], [rv_i (-1) 255], []), [3], 27, [], []),
  (3, ([rv_r 16, rv_i 2 2, rv_i (-1) 255, rv_u], [], []), [4], 26, [], []),
  (4, ([rv_r 16, rv_i 2 2, rv_i (-1) 255, rv_u], [(1, 0, (-1), 255, [(.inl 2, 0)], [])], []), [5], 25, [], []),
  (5, ([rv_r 16, rv_i 2 2, rv_i (-1) 255, rv_u], [rv_i 91 91, (1, 0, (-1), 255, [(.inl 2, 0)], [])], []), [6, 26], 24, [], []),
  (6, ([rv_r 16, rv_i 2 2, rv_i 91 91, rv_u], [], []), [7], 17, [], []),
  (7, ([rv_r 16, rv_i 2 2, rv_i 91 91, rv_u], [rv_r 16], []), [8], 16, [], []),
  (8, ([rv_r 16, rv_i 2 2, rv_i 91 91, rv_u], [rv_i 91 91, rv_r 16], []), [9], 15, [], []),
  (9, ([rv_r 16, rv_i 2 2, rv_i 91 91, rv_u], [(1, 0, 2, 2, [(.inl 1, 0)], []), rv_i 91 91, rv_r 16], []), [10], 14, [], [1]),
  (10, ([rv_r 16, rv_i 2 2, rv_i 91 91, rv_u], [(1, 0, 0, 1, [], [(.inl 1, (-2147483648), 5)])], []), [11, 23], 13, [], []),
  (11, ([rv_r 16, rv_i 2 2, rv_i 91 91, rv_u], [], []), [12], 12, [], []),
  (12, ([rv_r 16, rv_i 2 2, rv_i 91 91, rv_u], [rv_r 16], []), [13], 11, [], []),
  (13, ([rv_r 16, rv_i 2 2, rv_i 91 91, rv_u], [(1, 0, 2, 2, [(.inl 1, 0)], []), rv_r 16], []), [14], 10, [], []),
  (14, ([rv_r 16, rv_i 2 2, rv_i 91 91, rv_u], [rv_i 1 1, (1, 0, 2, 2, [(.inl 1, 0)], []), rv_r 16], []), [15], 9, [], []),
  (15, ([rv_r 16, rv_i 2 2, rv_i 91 91, rv_u], [(1, 0, 3, 3, [(.inl 1, 1)], []), rv_r 16], []), [16], 8, [], [2])]
def n_X3_readFactor_2_1 : List rv_N := [
  (16, ([rv_r 16, rv_i 2 2, rv_i 91 91, rv_u], [rv_i 0 1], []), [17, 23], 7, [], []),
  (17, ([rv_r 16, rv_i 2 2, rv_i 91 91, rv_u], [], []), [18], 6, [], []),
  (18, ([rv_r 16, rv_i 2 2, rv_i 91 91, rv_u], [rv_r 16], []), [19], 5, [], []),
  (19, ([rv_r 16, rv_i 2 2, rv_i 91 91, rv_u], [rv_i 93 93, rv_r 16], []), [20], 4, [], [3]),
  (20, ([rv_r 16, rv_i 2 2, rv_i 91 91, rv_u], [rv_i 0 1], []), [21, 23], 3, [], []),
  (21, ([rv_r 16, rv_i 2 2, rv_i 91 91, rv_u], [], []), [22], 2, [], []),
  (22, ([rv_r 16, rv_i 2 2, rv_i 91 91, rv_u], [rv_i 1 1], []), [25], 1, [], []),
  (23, ([rv_r 16, rv_i 2 2, rv_i 91 91, rv_u], [], []), [24], 1, [], []),
  (24, ([rv_r 16, rv_i 2 2, rv_i 91 91, rv_u], [rv_i 0 0], []), [], 0, [], []),
  (24, ([rv_r 16, rv_i 2 2, rv_i 91 91, rv_u], [rv_i 1 1], []), [], 0, [], []),
  (25, ([rv_r 16, rv_i 2 2, rv_i (-1) 255, rv_u], [], []), [27], 23, [], []),
  (26, ([rv_r 16, rv_i 2 2, rv_i (-1) 255, rv_u], [(1, 0, (-1), 255, [(.inl 2, 0)], [])], []), [28], 22, [], [4]),
  (27, ([rv_r 16, rv_i 2 2, rv_i (-1) 255, rv_u], [(1, 0, 0, 1, [], [(.inl 2, 48, 57)])], []), [29, 32], 21, [], []),
  (28, ([rv_r 16, rv_i 2 2, rv_i 48 57, rv_u], [], []), [30], 2, [], []),
  (29, ([rv_r 16, rv_i 2 2, rv_i 48 57, rv_u], [rv_r 16], []), [31], 1, [], [5]),
  (30, ([rv_r 16, rv_i 2 2, rv_i 48 57, rv_u], [rv_i 0 1], []), [], 0, [], [])]
def n_X3_readFactor_2_2 : List rv_N := [
  (31, ([rv_r 16, rv_i 2 2, rv_i (-1) 255, rv_u], [], []), [33], 20, [], []),
  (32, ([rv_r 16, rv_i 2 2, rv_i (-1) 255, rv_u], [(1, 0, (-1), 255, [(.inl 2, 0)], [])], []), [34, 36], 19, [], []),
  (33, ([rv_r 16, rv_i 2 2, rv_i (-1) (-1), rv_u], [], []), [35], 18, [], []),
  (34, ([rv_r 16, rv_i 2 2, rv_i (-1) (-1), rv_u], [rv_i (-1) (-1)], []), [37], 17, [], []),
  (35, ([rv_r 16, rv_i 2 2, rv_i 0 255, rv_u], [], []), [38], 17, [], []),
  (39, ([rv_r 16, rv_i 2 2, rv_i (-1) (-1), rv_u], [rv_i (-1) (-1)], []), [39], 16, [], []),
  (39, ([rv_r 16, rv_i 2 2, rv_i 0 255, rv_u], [rv_i (-1) 12], []), [39], 16, [], []),
  (40, ([rv_r 16, rv_i 2 2, rv_i (-1) 255, rv_i (-1) 12], [], []), [40], 15, [], []),
  (41, ([rv_r 16, rv_i 2 2, rv_i (-1) 255, rv_i (-1) 12], [(1, 0, (-1), 12, [(.inl 3, 0)], [])], []), [41, 45], 14, [], []),
  (42, ([rv_r 16, rv_i 2 2, rv_i (-1) 255, rv_i (-1) (-1)], [], []), [42], 3, [], []),
  (43, ([rv_r 16, rv_i 2 2, rv_i (-1) 255, rv_i (-1) (-1)], [rv_r 16], []), [43], 2, [], []),
  (44, ([rv_r 16, rv_i 2 2, rv_i (-1) 255, rv_i (-1) (-1)], [rv_i 1 1, rv_r 16], []), [44], 1, [], [6]),
  (45, ([rv_r 16, rv_i 2 2, rv_i (-1) 255, rv_i (-1) (-1)], [rv_i 0 0], []), [], 0, [], []),
  (46, ([rv_r 16, rv_i 2 2, rv_i (-1) 255, rv_i 0 12], [], []), [46], 13, [], []),
  (47, ([rv_r 16, rv_i 2 2, rv_i (-1) 255, rv_i 0 12], [rv_r 16], []), [47], 12, [], []),
  (48, ([rv_r 16, rv_i 2 2, rv_i (-1) 255, rv_i 0 12], [rv_r 16, rv_r 16], []), [48], 11, [], [])]
def n_X3_readFactor_2_3 : List rv_N := [
  (49, ([rv_r 16, rv_i 2 2, rv_i (-1) 255, rv_i 0 12], [(1, 0, (-2147483648), 2147483647, [(.inr (16, 3), 0)], []), rv_r 16], []), [49], 10, [], []),
  (50, ([rv_r 16, rv_i 2 2, rv_i (-1) 255, rv_i 0 12], [rv_i 1 1, (1, 0, (-2147483648), 2147483647, [(.inr (16, 3), 0)], []), rv_r 16], []), [50], 9, [], []),
  (51, ([rv_r 16, rv_i 2 2, rv_i (-1) 255, rv_i 0 12], [(1, 0, (-2147483648), 2147483647, [(.inr (16, 3), 1)], []), rv_r 16], []), [51], 8, [], []),
  (52, ([rv_r 16, rv_i 2 2, rv_i (-1) 255, rv_i 0 12], [], []), [52], 7, [], []),
  (53, ([rv_r 16, rv_i 2 2, rv_i (-1) 255, rv_i 0 12], [rv_r 16], []), [53], 6, [], []),
  (54, ([rv_r 16, rv_i 2 2, rv_i (-1) 255, rv_i 0 12], [rv_r 17], []), [54], 5, [], []),
  (55, ([rv_r 16, rv_i 2 2, rv_i (-1) 255, rv_i 0 12], [rv_i 1 1, rv_r 17], []), [55], 4, [], []),
  (56, ([rv_r 16, rv_i 2 2, rv_i (-1) 255, rv_i 0 12], [(1, 0, 0, 12, [(.inl 3, 0)], []), rv_i 1 1, rv_r 17], []), [56], 3, [], [7]),
  (57, ([rv_r 16, rv_i 2 2, rv_i (-1) 255, rv_i 0 12], [rv_i (-1) 199], []), [57], 2, [], []),
  (58, ([rv_r 16, rv_i 2 2, rv_i (-1) 255, rv_i 0 12], [], []), [58], 1, [], []),
  (59, ([rv_r 16, rv_i 2 2, rv_i (-1) 255, rv_i 0 12], [rv_i 1 1], []), [], 0, [], [])]
def n_X3_readFactor_2 : List rv_N := n_X3_readFactor_2_0 ++ (n_X3_readFactor_2_1 ++ (n_X3_readFactor_2_2 ++ (n_X3_readFactor_2_3)))
noncomputable def gn_X3_readFactor_2 : Nat → Option rv_N := rv_ap 16 (rv_at n_X3_readFactor_2_0) (rv_ap 16 (rv_at n_X3_readFactor_2_1) (rv_ap 16 (rv_at n_X3_readFactor_2_2) (rv_at n_X3_readFactor_2_3)))
theorem hn_X3_readFactor_2 : ∀ i : Nat, n_X3_readFactor_2[i]? = gn_X3_readFactor_2 i := rv_ap_eq (l := n_X3_readFactor_2_0) (c := 16) (rv_ap_eq (l := n_X3_readFactor_2_1) (c := 16) (rv_ap_eq (l := n_X3_readFactor_2_2) (c := 16) (rv_at_eq n_X3_readFactor_2_3) rfl) rfl) rfl
set_option maxRecDepth 100000 in
theorem a_X3_readFactor_2 : rv_all (fm_tm, flX3, fm_wr, kcX3, klX3, K_X3_readFactor_2.2.2.1, [], 4) ct_X3_readFactor_2 cd_X3_readFactor n_X3_readFactor_2 K_X3_readFactor_2 [36] 0 n_X3_readFactor_2 = true := rv_fast hn_X3_readFactor_2 hc_X3_readFactor (by decide +kernel)
theorem m_X3_readFactor_2 {l : Launch} {D : va_G} {ad : Nat → Nat} {cy : Nat → ClassId} {Z : State → Heap → Prop} {Gp : fm_V → Prop} (hAd : fm_Ad fm_tm ad) (hZ : fm_Zk (fm_A fm_tm ad) Z) (hGd : fm_Gd Gp) : rv_Met l D fm_cl fm_tm ad cy fm_nt Z Gp yX3_readFactor (.code yX3_readFactor prog_5_method_14_code 4 (some .boolean) :: fm_Ts) { frames := 16, cells := 0, slots := 0, locals := 1600 } K_X3_readFactor_2 := rv_met hAd hZ (Or.inl (by decide +kernel)) evX3 dc_X3_readFactor a_X3_readFactor_2 ⟨rfl, rfl, rfl⟩ (by decide +kernel) (by decide +kernel) (by decide) (fm_gm hGd (by decide +kernel)) (Or.inr ⟨rfl, by decide, by decide⟩) (fun p e s m args below meth c Q X Y => List.forall_mem_cons.mpr ⟨rv_ctV X Y fm_Ts_good dc_X3_readFactor (pc := 1) (i := 1) (idx := 39) rfl (m_X3_next_0 hAd hZ hGd) wl_X3_39 wm_X3_next wy_X3_next (by decide) ⟨rfl, rfl, rfl⟩ ⟨rfl, rfl⟩, List.forall_mem_cons.mpr ⟨rv_ctV X Y fm_Ts_good dc_X3_readFactor (pc := 15) (i := 9) (idx := 79) rfl (m_X3_open_0 hAd hZ hGd) wl_X3_79 wm_X3_open wy_X3_open (by decide) ⟨rfl, rfl, rfl⟩ ⟨rfl, rfl⟩, List.forall_mem_cons.mpr ⟨rv_ctV X Y fm_Ts_good dc_X3_readFactor (pc := 25) (i := 15) (idx := 73) rfl (m_X3_readSum_3 hAd hZ hGd) wl_X3_73 wm_X3_readSum wy_X3_readSum (by decide) ⟨rfl, rfl, rfl⟩ ⟨rfl, rfl⟩, List.forall_mem_cons.mpr ⟨rv_ctV X Y fm_Ts_good dc_X3_readFactor (pc := 34) (i := 19) (idx := 86) rfl (m_X3_close_0 hAd hZ hGd) wl_X3_86 wm_X3_close wy_X3_close (by decide) ⟨rfl, rfl, rfl⟩ ⟨rfl, rfl⟩, List.forall_mem_cons.mpr ⟨rv_ctS X Y fm_Ts_good dc_X3_readFactor (pc := 47) (i := 26) (idx := 125) rfl (m_X3_isDigit_0 hAd hZ hGd) wl_X3_125 wm_X3_isDigit wy_X3_isDigit (by decide) rfl, List.forall_mem_cons.mpr ⟨rv_ctV X Y fm_Ts_good dc_X3_readFactor (pc := 54) (i := 29) (idx := 128) rfl (m_X3_readNumber_0 hAd hZ hGd) wl_X3_128 wm_X3_readNumber wy_X3_readNumber (by decide) ⟨rfl, rfl, rfl⟩ ⟨rfl, rfl⟩, List.forall_mem_cons.mpr ⟨rv_ctV X Y fm_Ts_good dc_X3_readFactor (pc := 80) (i := 44) (idx := 43) rfl (m_X3_fail_0 hAd hZ hGd) wl_X3_43 wm_X3_fail wy_X3_fail (by decide) ⟨rfl, rfl, rfl⟩ ⟨rfl, rfl⟩, List.forall_mem_cons.mpr ⟨rv_ctV X Y fm_Ts_good dc_X3_readFactor (pc := 100) (i := 56) (idx := 108) rfl (m_X1_putStep_0 hAd hZ hGd) wl_X3_108 wm_X1_putStep wy_X1_putStep (by decide) ⟨rfl, rfl, rfl⟩ ⟨rfl, rfl⟩, fun _ h => absurd h List.not_mem_nil⟩⟩⟩⟩⟩⟩⟩⟩) (fun p e s m args below meth c V0 avs hpre hr hlk X Y id hid n hn q hq V ls st hI hG ih => by
  obtain rfl := List.mem_singleton.mp hid
  obtain rfl : _ = n := Option.some.inj ((show n_X3_readFactor_2[36]? = some (35, ([rv_r 16, rv_i 2 2, rv_i 0 255, rv_u], [], []), [38], 17, [], []) from rfl).symm.trans hn)
  obtain rfl : _ = q := Option.some.inj ((show cd_X3_readFactor[35]? = some (66, .ldc 131, 2) from rfl).symm.trans hq)
  obtain rfl : st = [] := rv_sk_nil hG.2.1
  obtain ⟨x, hlx, -, -, -⟩ := rv_lokI rfl (hG.1 2 _ rfl)
  refine fs_index hAd X Y rfl (i := 1) (by decide) (fun adK adV h => h.2.2.2) rfl hlx hI.2.2.1 (by decide) (dc_X3_readFactor (66, .ldc 131, 2) (List.mem_of_getElem? (i := 35) rfl)) (dc_X3_readFactor (68, .iload_n 2, 1) (List.mem_of_getElem? (i := 36) rfl)) (dc_X3_readFactor (69, .i2c, 1) (List.mem_of_getElem? (i := 37) rfl)) (dc_X3_readFactor (70, .invokevirtual 58, 3) (List.mem_of_getElem? (i := 38) rfl)) (fun z z1 z2 => ?_)
  exact ih 38 (39, ([rv_r 16, rv_i 2 2, rv_i 0 255, rv_u], [rv_i (-1) 12], []), [39], 16, [], []) (73, .istore_n 3, 1) rfl rfl V ls [.int z] hI ⟨hG.1, ⟨rv_okB z1 z2, trivial⟩, hG.2.2⟩ (by show ((16 : Int) + 0 + 1).toNat < ((17 : Int) + 0 + 1).toNat; decide))
def K_X3_readTerm_2 : rv_K := ([rv_r 16, rv_i 2 2], [], [(16, 3), (16, 4), (17, 2), (18, 9999), (19, 9999)], [(0, 0, 1)], [], [])
def ct_X3_readTerm_2 : List (Nat × rv_K) := [(2, K_X3_readFactor_2), (12, K_X3_next_0), (16, K_X3_next_0), (20, K_X3_next_0), (24, K_X3_next_0), (34, K_X3_readFactor_2), (42, K_X1_putStep_0)]
def n_X3_readTerm_2_0 : List rv_N := [
  (0, ([rv_r 16, rv_i 2 2, rv_u, rv_u], [], []), [1], 2354810, [], []),
  (1, ([rv_r 16, rv_i 2 2, rv_u, rv_u], [rv_r 16], []), [2], 2354809, [], []),
  (2, ([rv_r 16, rv_i 2 2, rv_u, rv_u], [(1, 0, 2, 2, [(.inl 1, 0)], []), rv_r 16], []), [3], 2354808, [], [0]),
  (3, ([rv_r 16, rv_i 2 2, rv_u, rv_u], [rv_i 0 1], []), [4, 6], 2354807, [], []),
  (4, ([rv_r 16, rv_i 2 2, rv_u, rv_u], [], []), [5], 1, [], []),
  (5, ([rv_r 16, rv_i 2 2, rv_u, rv_u], [rv_i 0 0], []), [], 0, [], []),
  (6, ([rv_r 16, rv_i 2 2, rv_u, rv_u], [], []), [7], 2354806, [], []),
  (7, ([rv_r 16, rv_i 2 2, rv_u, rv_u], [rv_i 0 0], []), [8], 2354805, [], []),
  (8, ([rv_r 16, rv_i 2 2, rv_i 0 200, rv_u], [], []), [9], 2354804, [(2, (-11774))], []),
  (9, ([rv_r 16, rv_i 2 2, rv_i 0 200, rv_u], [(1, 0, 0, 200, [(.inl 2, 0)], [])], []), [10], 2354803, [(2, (-11774))], []),
  (10, ([rv_r 16, rv_i 2 2, rv_i 0 200, rv_u], [rv_i 200 200, (1, 0, 0, 200, [(.inl 2, 0)], [])], []), [11, 46], 2354802, [(2, (-11774))], []),
  (11, ([rv_r 16, rv_i 2 2, rv_i 0 199, rv_u], [], []), [12], 2343063, [(2, (-11774))], []),
  (12, ([rv_r 16, rv_i 2 2, rv_i 0 199, rv_u], [rv_r 16], []), [13], 2343062, [(2, (-11774))], [1]),
  (13, ([rv_r 16, rv_i 2 2, rv_i 0 199, rv_u], [rv_i (-1) 255], []), [14], 2343061, [(2, (-11774))], []),
  (14, ([rv_r 16, rv_i 2 2, rv_i 0 199, rv_u], [rv_i 42 42, rv_i (-1) 255], []), [15, 23], 2343060, [(2, (-11774))], []),
  (15, ([rv_r 16, rv_i 2 2, rv_i 0 199, rv_u], [], []), [16], 2343059, [(2, (-11774))], [])]
def n_X3_readTerm_2_1 : List rv_N := [
  (16, ([rv_r 16, rv_i 2 2, rv_i 0 199, rv_u], [rv_r 16], []), [17], 2343058, [(2, (-11774))], [2]),
  (17, ([rv_r 16, rv_i 2 2, rv_i 0 199, rv_u], [rv_i (-1) 255], []), [18], 2343057, [(2, (-11774))], []),
  (18, ([rv_r 16, rv_i 2 2, rv_i 0 199, rv_u], [rv_i 47 47, rv_i (-1) 255], []), [19, 23], 2343056, [(2, (-11774))], []),
  (19, ([rv_r 16, rv_i 2 2, rv_i 0 199, rv_u], [], []), [20], 2343055, [(2, (-11774))], []),
  (20, ([rv_r 16, rv_i 2 2, rv_i 0 199, rv_u], [rv_r 16], []), [21], 2343054, [(2, (-11774))], [3]),
  (21, ([rv_r 16, rv_i 2 2, rv_i 0 199, rv_u], [rv_i (-1) 255], []), [22], 2343053, [(2, (-11774))], []),
  (22, ([rv_r 16, rv_i 2 2, rv_i 0 199, rv_u], [rv_i 37 37, rv_i (-1) 255], []), [23, 46], 2343052, [(2, (-11774))], []),
  (23, ([rv_r 16, rv_i 2 2, rv_i 0 199, rv_u], [], []), [24], 2343051, [(2, (-11774))], []),
  (24, ([rv_r 16, rv_i 2 2, rv_i 0 199, rv_u], [rv_r 16], []), [25], 2343050, [(2, (-11774))], [4]),
  (25, ([rv_r 16, rv_i 2 2, rv_i 0 199, rv_u], [rv_i (-1) 255], []), [26], 2343049, [(2, (-11774))], []),
  (26, ([rv_r 16, rv_i 2 2, rv_i 0 199, rv_i (-1) 255], [], []), [27], 2343048, [(2, (-11774))], []),
  (27, ([rv_r 16, rv_i 2 2, rv_i 0 199, rv_i (-1) 255], [rv_r 16], []), [28], 2343047, [(2, (-11774))], []),
  (28, ([rv_r 16, rv_i 2 2, rv_i 0 199, rv_i (-1) 255], [rv_r 16, rv_r 16], []), [29], 2343046, [(2, (-11774))], []),
  (29, ([rv_r 16, rv_i 2 2, rv_i 0 199, rv_i (-1) 255], [(1, 0, (-2147483648), 2147483647, [(.inr (16, 3), 0)], []), rv_r 16], []), [30], 2343045, [(2, (-11774))], []),
  (30, ([rv_r 16, rv_i 2 2, rv_i 0 199, rv_i (-1) 255], [rv_i 1 1, (1, 0, (-2147483648), 2147483647, [(.inr (16, 3), 0)], []), rv_r 16], []), [31], 2343044, [(2, (-11774))], []),
  (31, ([rv_r 16, rv_i 2 2, rv_i 0 199, rv_i (-1) 255], [(1, 0, (-2147483648), 2147483647, [(.inr (16, 3), 1)], []), rv_r 16], []), [32], 2343043, [(2, (-11774))], [])]
def n_X3_readTerm_2_2 : List rv_N := [
  (32, ([rv_r 16, rv_i 2 2, rv_i 0 199, rv_i (-1) 255], [], []), [33], 2343042, [(2, (-11774))], []),
  (33, ([rv_r 16, rv_i 2 2, rv_i 0 199, rv_i (-1) 255], [rv_r 16], []), [34], 2343041, [(2, (-11774))], []),
  (34, ([rv_r 16, rv_i 2 2, rv_i 0 199, rv_i (-1) 255], [(1, 0, 2, 2, [(.inl 1, 0)], []), rv_r 16], []), [35], 2343040, [(2, (-11774))], [5]),
  (35, ([rv_r 16, rv_i 2 2, rv_i 0 199, rv_i (-1) 255], [rv_i 0 1], []), [36, 38], 2343039, [(2, (-11774))], []),
  (36, ([rv_r 16, rv_i 2 2, rv_i 0 199, rv_i (-1) 255], [], []), [37], 1, [], []),
  (37, ([rv_r 16, rv_i 2 2, rv_i 0 199, rv_i (-1) 255], [rv_i 0 0], []), [], 0, [], []),
  (38, ([rv_r 16, rv_i 2 2, rv_i 0 199, rv_i (-1) 255], [], []), [39], 2343038, [(2, (-11774))], []),
  (39, ([rv_r 16, rv_i 2 2, rv_i 0 199, rv_i (-1) 255], [rv_r 16], []), [40], 2343037, [(2, (-11774))], []),
  (40, ([rv_r 16, rv_i 2 2, rv_i 0 199, rv_i (-1) 255], [rv_r 17], []), [41], 2343036, [(2, (-11774))], []),
  (41, ([rv_r 16, rv_i 2 2, rv_i 0 199, rv_i (-1) 255], [(1, 0, (-1), 255, [(.inl 3, 0)], []), rv_r 17], []), [42], 2343035, [(2, (-11774))], []),
  (42, ([rv_r 16, rv_i 2 2, rv_i 0 199, rv_i (-1) 255], [rv_i 0 0, (1, 0, (-1), 255, [(.inl 3, 0)], []), rv_r 17], []), [43], 2343034, [(2, (-11774))], [6]),
  (43, ([rv_r 16, rv_i 2 2, rv_i 0 199, rv_i (-1) 255], [rv_i (-1) 199], []), [44], 2343033, [(2, (-11774))], []),
  (44, ([rv_r 16, rv_i 2 2, rv_i 0 199, rv_i (-1) 255], [], []), [45], 2343032, [(2, (-11774))], []),
  (45, ([rv_r 16, rv_i 2 2, rv_i 1 200, rv_i (-1) 255], [], []), [8], 2354805, [(2, (-11774))], []),
  (46, ([rv_r 16, rv_i 2 2, rv_i 0 200, rv_u], [], []), [47], 1, [], []),
  (47, ([rv_r 16, rv_i 2 2, rv_i 0 200, rv_u], [rv_i 1 1], []), [], 0, [], [])]
def n_X3_readTerm_2 : List rv_N := n_X3_readTerm_2_0 ++ (n_X3_readTerm_2_1 ++ (n_X3_readTerm_2_2))
noncomputable def gn_X3_readTerm_2 : Nat → Option rv_N := rv_ap 16 (rv_at n_X3_readTerm_2_0) (rv_ap 16 (rv_at n_X3_readTerm_2_1) (rv_at n_X3_readTerm_2_2))
theorem hn_X3_readTerm_2 : ∀ i : Nat, n_X3_readTerm_2[i]? = gn_X3_readTerm_2 i := rv_ap_eq (l := n_X3_readTerm_2_0) (c := 16) (rv_ap_eq (l := n_X3_readTerm_2_1) (c := 16) (rv_at_eq n_X3_readTerm_2_2) rfl) rfl
set_option maxRecDepth 100000 in
theorem a_X3_readTerm_2 : rv_all (fm_tm, flX3, fm_wr, kcX3, klX3, K_X3_readTerm_2.2.2.1, [], 4) ct_X3_readTerm_2 cd_X3_readTerm n_X3_readTerm_2 K_X3_readTerm_2 [] 0 n_X3_readTerm_2 = true := rv_fast hn_X3_readTerm_2 hc_X3_readTerm (by decide +kernel)
theorem m_X3_readTerm_2 {l : Launch} {D : va_G} {ad : Nat → Nat} {cy : Nat → ClassId} {Z : State → Heap → Prop} {Gp : fm_V → Prop} (hAd : fm_Ad fm_tm ad) (hZ : fm_Zk (fm_A fm_tm ad) Z) (hGd : fm_Gd Gp) : rv_Met l D fm_cl fm_tm ad cy fm_nt Z Gp yX3_readTerm (.code yX3_readTerm prog_5_method_13_code 4 (some .boolean) :: fm_Ts) { frames := 17, cells := 0, slots := 0, locals := 1700 } K_X3_readTerm_2 := rv_met hAd hZ (Or.inl (by decide +kernel)) evX3 dc_X3_readTerm a_X3_readTerm_2 ⟨rfl, rfl, rfl⟩ (by decide +kernel) (by decide +kernel) (by decide) (fm_gm hGd (by decide +kernel)) (Or.inr ⟨rfl, by decide, by decide⟩) (fun p e s m args below meth c Q X Y => List.forall_mem_cons.mpr ⟨rv_ctV X Y fm_Ts_good dc_X3_readTerm (pc := 2) (i := 2) (idx := 122) rfl (m_X3_readFactor_2 hAd hZ hGd) wl_X3_122 wm_X3_readFactor wy_X3_readFactor (by decide) ⟨rfl, rfl, rfl⟩ ⟨rfl, rfl⟩, List.forall_mem_cons.mpr ⟨rv_ctV X Y fm_Ts_good dc_X3_readTerm (pc := 20) (i := 12) (idx := 39) rfl (m_X3_next_0 hAd hZ hGd) wl_X3_39 wm_X3_next wy_X3_next (by decide) ⟨rfl, rfl, rfl⟩ ⟨rfl, rfl⟩, List.forall_mem_cons.mpr ⟨rv_ctV X Y fm_Ts_good dc_X3_readTerm (pc := 29) (i := 16) (idx := 39) rfl (m_X3_next_0 hAd hZ hGd) wl_X3_39 wm_X3_next wy_X3_next (by decide) ⟨rfl, rfl, rfl⟩ ⟨rfl, rfl⟩, List.forall_mem_cons.mpr ⟨rv_ctV X Y fm_Ts_good dc_X3_readTerm (pc := 38) (i := 20) (idx := 39) rfl (m_X3_next_0 hAd hZ hGd) wl_X3_39 wm_X3_next wy_X3_next (by decide) ⟨rfl, rfl, rfl⟩ ⟨rfl, rfl⟩, List.forall_mem_cons.mpr ⟨rv_ctV X Y fm_Ts_good dc_X3_readTerm (pc := 47) (i := 24) (idx := 39) rfl (m_X3_next_0 hAd hZ hGd) wl_X3_39 wm_X3_next wy_X3_next (by decide) ⟨rfl, rfl, rfl⟩ ⟨rfl, rfl⟩, List.forall_mem_cons.mpr ⟨rv_ctV X Y fm_Ts_good dc_X3_readTerm (pc := 63) (i := 34) (idx := 122) rfl (m_X3_readFactor_2 hAd hZ hGd) wl_X3_122 wm_X3_readFactor wy_X3_readFactor (by decide) ⟨rfl, rfl, rfl⟩ ⟨rfl, rfl⟩, List.forall_mem_cons.mpr ⟨rv_ctV X Y fm_Ts_good dc_X3_readTerm (pc := 77) (i := 42) (idx := 108) rfl (m_X1_putStep_0 hAd hZ hGd) wl_X3_108 wm_X1_putStep wy_X1_putStep (by decide) ⟨rfl, rfl, rfl⟩ ⟨rfl, rfl⟩, fun _ h => absurd h List.not_mem_nil⟩⟩⟩⟩⟩⟩⟩) (fun _ _ _ _ _ _ _ _ _ _ _ _ _ _ _ _ h => absurd h List.not_mem_nil)
def K_X3_readSum_2 : rv_K := ([rv_r 16, rv_i 2 2], [], [(16, 3), (16, 4), (17, 2), (18, 9999), (19, 9999)], [(0, 0, 1)], [], [])
def ct_X3_readSum_2 : List (Nat × rv_K) := [(2, K_X3_readTerm_2), (12, K_X3_next_0), (16, K_X3_next_0), (20, K_X3_next_0), (30, K_X3_readTerm_2), (38, K_X1_putStep_0)]
def n_X3_readSum_2_0 : List rv_N := [
  (0, ([rv_r 16, rv_i 2 2, rv_u, rv_u], [], []), [1], 2192410, [], []),
  (1, ([rv_r 16, rv_i 2 2, rv_u, rv_u], [rv_r 16], []), [2], 2192409, [], []),
  (2, ([rv_r 16, rv_i 2 2, rv_u, rv_u], [(1, 0, 2, 2, [(.inl 1, 0)], []), rv_r 16], []), [3], 2192408, [], [0]),
  (3, ([rv_r 16, rv_i 2 2, rv_u, rv_u], [rv_i 0 1], []), [4, 6], 2192407, [], []),
  (4, ([rv_r 16, rv_i 2 2, rv_u, rv_u], [], []), [5], 1, [], []),
  (5, ([rv_r 16, rv_i 2 2, rv_u, rv_u], [rv_i 0 0], []), [], 0, [], []),
  (6, ([rv_r 16, rv_i 2 2, rv_u, rv_u], [], []), [7], 2192406, [], []),
  (7, ([rv_r 16, rv_i 2 2, rv_u, rv_u], [rv_i 0 0], []), [8], 2192405, [], []),
  (8, ([rv_r 16, rv_i 2 2, rv_i 0 200, rv_u], [], []), [9], 2192404, [(2, (-10962))], []),
  (9, ([rv_r 16, rv_i 2 2, rv_i 0 200, rv_u], [(1, 0, 0, 200, [(.inl 2, 0)], [])], []), [10], 2192403, [(2, (-10962))], []),
  (10, ([rv_r 16, rv_i 2 2, rv_i 0 200, rv_u], [rv_i 200 200, (1, 0, 0, 200, [(.inl 2, 0)], [])], []), [11, 42], 2192402, [(2, (-10962))], []),
  (11, ([rv_r 16, rv_i 2 2, rv_i 0 199, rv_u], [], []), [12], 2181471, [(2, (-10962))], []),
  (12, ([rv_r 16, rv_i 2 2, rv_i 0 199, rv_u], [rv_r 16], []), [13], 2181470, [(2, (-10962))], [1]),
  (13, ([rv_r 16, rv_i 2 2, rv_i 0 199, rv_u], [rv_i (-1) 255], []), [14], 2181469, [(2, (-10962))], []),
  (14, ([rv_r 16, rv_i 2 2, rv_i 0 199, rv_u], [rv_i 43 43, rv_i (-1) 255], []), [15, 19], 2181468, [(2, (-10962))], []),
  (15, ([rv_r 16, rv_i 2 2, rv_i 0 199, rv_u], [], []), [16], 2181467, [(2, (-10962))], [])]
def n_X3_readSum_2_1 : List rv_N := [
  (16, ([rv_r 16, rv_i 2 2, rv_i 0 199, rv_u], [rv_r 16], []), [17], 2181466, [(2, (-10962))], [2]),
  (17, ([rv_r 16, rv_i 2 2, rv_i 0 199, rv_u], [rv_i (-1) 255], []), [18], 2181465, [(2, (-10962))], []),
  (18, ([rv_r 16, rv_i 2 2, rv_i 0 199, rv_u], [rv_i 45 45, rv_i (-1) 255], []), [19, 42], 2181464, [(2, (-10962))], []),
  (19, ([rv_r 16, rv_i 2 2, rv_i 0 199, rv_u], [], []), [20], 2181463, [(2, (-10962))], []),
  (20, ([rv_r 16, rv_i 2 2, rv_i 0 199, rv_u], [rv_r 16], []), [21], 2181462, [(2, (-10962))], [3]),
  (21, ([rv_r 16, rv_i 2 2, rv_i 0 199, rv_u], [rv_i (-1) 255], []), [22], 2181461, [(2, (-10962))], []),
  (22, ([rv_r 16, rv_i 2 2, rv_i 0 199, rv_i (-1) 255], [], []), [23], 2181460, [(2, (-10962))], []),
  (23, ([rv_r 16, rv_i 2 2, rv_i 0 199, rv_i (-1) 255], [rv_r 16], []), [24], 2181459, [(2, (-10962))], []),
  (24, ([rv_r 16, rv_i 2 2, rv_i 0 199, rv_i (-1) 255], [rv_r 16, rv_r 16], []), [25], 2181458, [(2, (-10962))], []),
  (25, ([rv_r 16, rv_i 2 2, rv_i 0 199, rv_i (-1) 255], [(1, 0, (-2147483648), 2147483647, [(.inr (16, 3), 0)], []), rv_r 16], []), [26], 2181457, [(2, (-10962))], []),
  (26, ([rv_r 16, rv_i 2 2, rv_i 0 199, rv_i (-1) 255], [rv_i 1 1, (1, 0, (-2147483648), 2147483647, [(.inr (16, 3), 0)], []), rv_r 16], []), [27], 2181456, [(2, (-10962))], []),
  (27, ([rv_r 16, rv_i 2 2, rv_i 0 199, rv_i (-1) 255], [(1, 0, (-2147483648), 2147483647, [(.inr (16, 3), 1)], []), rv_r 16], []), [28], 2181455, [(2, (-10962))], []),
  (28, ([rv_r 16, rv_i 2 2, rv_i 0 199, rv_i (-1) 255], [], []), [29], 2181454, [(2, (-10962))], []),
  (29, ([rv_r 16, rv_i 2 2, rv_i 0 199, rv_i (-1) 255], [rv_r 16], []), [30], 2181453, [(2, (-10962))], []),
  (30, ([rv_r 16, rv_i 2 2, rv_i 0 199, rv_i (-1) 255], [(1, 0, 2, 2, [(.inl 1, 0)], []), rv_r 16], []), [31], 2181452, [(2, (-10962))], [4]),
  (31, ([rv_r 16, rv_i 2 2, rv_i 0 199, rv_i (-1) 255], [rv_i 0 1], []), [32, 34], 2181451, [(2, (-10962))], [])]
def n_X3_readSum_2_2 : List rv_N := [
  (32, ([rv_r 16, rv_i 2 2, rv_i 0 199, rv_i (-1) 255], [], []), [33], 1, [], []),
  (33, ([rv_r 16, rv_i 2 2, rv_i 0 199, rv_i (-1) 255], [rv_i 0 0], []), [], 0, [], []),
  (34, ([rv_r 16, rv_i 2 2, rv_i 0 199, rv_i (-1) 255], [], []), [35], 2181450, [(2, (-10962))], []),
  (35, ([rv_r 16, rv_i 2 2, rv_i 0 199, rv_i (-1) 255], [rv_r 16], []), [36], 2181449, [(2, (-10962))], []),
  (36, ([rv_r 16, rv_i 2 2, rv_i 0 199, rv_i (-1) 255], [rv_r 17], []), [37], 2181448, [(2, (-10962))], []),
  (37, ([rv_r 16, rv_i 2 2, rv_i 0 199, rv_i (-1) 255], [(1, 0, (-1), 255, [(.inl 3, 0)], []), rv_r 17], []), [38], 2181447, [(2, (-10962))], []),
  (38, ([rv_r 16, rv_i 2 2, rv_i 0 199, rv_i (-1) 255], [rv_i 0 0, (1, 0, (-1), 255, [(.inl 3, 0)], []), rv_r 17], []), [39], 2181446, [(2, (-10962))], [5]),
  (39, ([rv_r 16, rv_i 2 2, rv_i 0 199, rv_i (-1) 255], [rv_i (-1) 199], []), [40], 2181445, [(2, (-10962))], []),
  (40, ([rv_r 16, rv_i 2 2, rv_i 0 199, rv_i (-1) 255], [], []), [41], 2181444, [(2, (-10962))], []),
  (41, ([rv_r 16, rv_i 2 2, rv_i 1 200, rv_i (-1) 255], [], []), [8], 2192405, [(2, (-10962))], []),
  (42, ([rv_r 16, rv_i 2 2, rv_i 0 200, rv_u], [], []), [43], 1, [], []),
  (43, ([rv_r 16, rv_i 2 2, rv_i 0 200, rv_u], [rv_i 1 1], []), [], 0, [], [])]
def n_X3_readSum_2 : List rv_N := n_X3_readSum_2_0 ++ (n_X3_readSum_2_1 ++ (n_X3_readSum_2_2))
noncomputable def gn_X3_readSum_2 : Nat → Option rv_N := rv_ap 16 (rv_at n_X3_readSum_2_0) (rv_ap 16 (rv_at n_X3_readSum_2_1) (rv_at n_X3_readSum_2_2))
theorem hn_X3_readSum_2 : ∀ i : Nat, n_X3_readSum_2[i]? = gn_X3_readSum_2 i := rv_ap_eq (l := n_X3_readSum_2_0) (c := 16) (rv_ap_eq (l := n_X3_readSum_2_1) (c := 16) (rv_at_eq n_X3_readSum_2_2) rfl) rfl
set_option maxRecDepth 100000 in
theorem a_X3_readSum_2 : rv_all (fm_tm, flX3, fm_wr, kcX3, klX3, K_X3_readSum_2.2.2.1, [], 4) ct_X3_readSum_2 cd_X3_readSum n_X3_readSum_2 K_X3_readSum_2 [] 0 n_X3_readSum_2 = true := rv_fast hn_X3_readSum_2 hc_X3_readSum (by decide +kernel)
theorem m_X3_readSum_2 {l : Launch} {D : va_G} {ad : Nat → Nat} {cy : Nat → ClassId} {Z : State → Heap → Prop} {Gp : fm_V → Prop} (hAd : fm_Ad fm_tm ad) (hZ : fm_Zk (fm_A fm_tm ad) Z) (hGd : fm_Gd Gp) : rv_Met l D fm_cl fm_tm ad cy fm_nt Z Gp yX3_readSum (.code yX3_readSum prog_5_method_12_code 4 (some .boolean) :: fm_Ts) { frames := 18, cells := 0, slots := 0, locals := 1800 } K_X3_readSum_2 := rv_met hAd hZ (Or.inl (by decide +kernel)) evX3 dc_X3_readSum a_X3_readSum_2 ⟨rfl, rfl, rfl⟩ (by decide +kernel) (by decide +kernel) (by decide) (fm_gm hGd (by decide +kernel)) (Or.inr ⟨rfl, by decide, by decide⟩) (fun p e s m args below meth c Q X Y => List.forall_mem_cons.mpr ⟨rv_ctV X Y fm_Ts_good dc_X3_readSum (pc := 2) (i := 2) (idx := 119) rfl (m_X3_readTerm_2 hAd hZ hGd) wl_X3_119 wm_X3_readTerm wy_X3_readTerm (by decide) ⟨rfl, rfl, rfl⟩ ⟨rfl, rfl⟩, List.forall_mem_cons.mpr ⟨rv_ctV X Y fm_Ts_good dc_X3_readSum (pc := 20) (i := 12) (idx := 39) rfl (m_X3_next_0 hAd hZ hGd) wl_X3_39 wm_X3_next wy_X3_next (by decide) ⟨rfl, rfl, rfl⟩ ⟨rfl, rfl⟩, List.forall_mem_cons.mpr ⟨rv_ctV X Y fm_Ts_good dc_X3_readSum (pc := 29) (i := 16) (idx := 39) rfl (m_X3_next_0 hAd hZ hGd) wl_X3_39 wm_X3_next wy_X3_next (by decide) ⟨rfl, rfl, rfl⟩ ⟨rfl, rfl⟩, List.forall_mem_cons.mpr ⟨rv_ctV X Y fm_Ts_good dc_X3_readSum (pc := 38) (i := 20) (idx := 39) rfl (m_X3_next_0 hAd hZ hGd) wl_X3_39 wm_X3_next wy_X3_next (by decide) ⟨rfl, rfl, rfl⟩ ⟨rfl, rfl⟩, List.forall_mem_cons.mpr ⟨rv_ctV X Y fm_Ts_good dc_X3_readSum (pc := 54) (i := 30) (idx := 119) rfl (m_X3_readTerm_2 hAd hZ hGd) wl_X3_119 wm_X3_readTerm wy_X3_readTerm (by decide) ⟨rfl, rfl, rfl⟩ ⟨rfl, rfl⟩, List.forall_mem_cons.mpr ⟨rv_ctV X Y fm_Ts_good dc_X3_readSum (pc := 68) (i := 38) (idx := 108) rfl (m_X1_putStep_0 hAd hZ hGd) wl_X3_108 wm_X1_putStep wy_X1_putStep (by decide) ⟨rfl, rfl, rfl⟩ ⟨rfl, rfl⟩, fun _ h => absurd h List.not_mem_nil⟩⟩⟩⟩⟩⟩) (fun _ _ _ _ _ _ _ _ _ _ _ _ _ _ _ _ h => absurd h List.not_mem_nil)
def K_X3_readFactor_1 : rv_K := ([rv_r 16, rv_i 1 1], [], [(16, 3), (16, 4), (17, 2), (18, 9999), (19, 9999)], [(0, 0, 1)], [], [])
def ct_X3_readFactor_1 : List (Nat × rv_K) := [(1, K_X3_next_0), (9, K_X3_open_0), (15, K_X3_readSum_2), (19, K_X3_close_0), (26, K_X3_isDigit_0), (29, K_X3_readNumber_0), (44, K_X3_fail_0), (56, K_X1_putStep_0)]
def n_X3_readFactor_1_0 : List rv_N := [
  (0, ([rv_r 16, rv_i 1 1, rv_u, rv_u], [], []), [1], 29, [], []),
  (1, ([rv_r 16, rv_i 1 1, rv_u, rv_u], [rv_r 16], []), [2], 28, [], [0]),
  (2, ([rv_r 16, rv_i 1 1, rv_u, rv_u], [rv_i (-1) 255], []), [3], 27, [], []),
  (3, ([rv_r 16, rv_i 1 1, rv_i (-1) 255, rv_u], [], []), [4], 26, [], []),
  (4, ([rv_r 16, rv_i 1 1, rv_i (-1) 255, rv_u], [(1, 0, (-1), 255, [(.inl 2, 0)], [])], []), [5], 25, [], []),
  (5, ([rv_r 16, rv_i 1 1, rv_i (-1) 255, rv_u], [rv_i 91 91, (1, 0, (-1), 255, [(.inl 2, 0)], [])], []), [6, 26], 24, [], []),
  (6, ([rv_r 16, rv_i 1 1, rv_i 91 91, rv_u], [], []), [7], 17, [], []),
  (7, ([rv_r 16, rv_i 1 1, rv_i 91 91, rv_u], [rv_r 16], []), [8], 16, [], []),
  (8, ([rv_r 16, rv_i 1 1, rv_i 91 91, rv_u], [rv_i 91 91, rv_r 16], []), [9], 15, [], []),
  (9, ([rv_r 16, rv_i 1 1, rv_i 91 91, rv_u], [(1, 0, 1, 1, [(.inl 1, 0)], []), rv_i 91 91, rv_r 16], []), [10], 14, [], [1]),
  (10, ([rv_r 16, rv_i 1 1, rv_i 91 91, rv_u], [(1, 0, 0, 1, [], [(.inl 1, (-2147483648), 5)])], []), [11, 23], 13, [], []),
  (11, ([rv_r 16, rv_i 1 1, rv_i 91 91, rv_u], [], []), [12], 12, [], []),
  (12, ([rv_r 16, rv_i 1 1, rv_i 91 91, rv_u], [rv_r 16], []), [13], 11, [], []),
  (13, ([rv_r 16, rv_i 1 1, rv_i 91 91, rv_u], [(1, 0, 1, 1, [(.inl 1, 0)], []), rv_r 16], []), [14], 10, [], []),
  (14, ([rv_r 16, rv_i 1 1, rv_i 91 91, rv_u], [rv_i 1 1, (1, 0, 1, 1, [(.inl 1, 0)], []), rv_r 16], []), [15], 9, [], []),
  (15, ([rv_r 16, rv_i 1 1, rv_i 91 91, rv_u], [(1, 0, 2, 2, [(.inl 1, 1)], []), rv_r 16], []), [16], 8, [], [2])]
def n_X3_readFactor_1_1 : List rv_N := [
  (16, ([rv_r 16, rv_i 1 1, rv_i 91 91, rv_u], [rv_i 0 1], []), [17, 23], 7, [], []),
  (17, ([rv_r 16, rv_i 1 1, rv_i 91 91, rv_u], [], []), [18], 6, [], []),
  (18, ([rv_r 16, rv_i 1 1, rv_i 91 91, rv_u], [rv_r 16], []), [19], 5, [], []),
  (19, ([rv_r 16, rv_i 1 1, rv_i 91 91, rv_u], [rv_i 93 93, rv_r 16], []), [20], 4, [], [3]),
  (20, ([rv_r 16, rv_i 1 1, rv_i 91 91, rv_u], [rv_i 0 1], []), [21, 23], 3, [], []),
  (21, ([rv_r 16, rv_i 1 1, rv_i 91 91, rv_u], [], []), [22], 2, [], []),
  (22, ([rv_r 16, rv_i 1 1, rv_i 91 91, rv_u], [rv_i 1 1], []), [25], 1, [], []),
  (23, ([rv_r 16, rv_i 1 1, rv_i 91 91, rv_u], [], []), [24], 1, [], []),
  (24, ([rv_r 16, rv_i 1 1, rv_i 91 91, rv_u], [rv_i 0 0], []), [], 0, [], []),
  (24, ([rv_r 16, rv_i 1 1, rv_i 91 91, rv_u], [rv_i 1 1], []), [], 0, [], []),
  (25, ([rv_r 16, rv_i 1 1, rv_i (-1) 255, rv_u], [], []), [27], 23, [], []),
  (26, ([rv_r 16, rv_i 1 1, rv_i (-1) 255, rv_u], [(1, 0, (-1), 255, [(.inl 2, 0)], [])], []), [28], 22, [], [4]),
  (27, ([rv_r 16, rv_i 1 1, rv_i (-1) 255, rv_u], [(1, 0, 0, 1, [], [(.inl 2, 48, 57)])], []), [29, 32], 21, [], []),
  (28, ([rv_r 16, rv_i 1 1, rv_i 48 57, rv_u], [], []), [30], 2, [], []),
  (29, ([rv_r 16, rv_i 1 1, rv_i 48 57, rv_u], [rv_r 16], []), [31], 1, [], [5]),
  (30, ([rv_r 16, rv_i 1 1, rv_i 48 57, rv_u], [rv_i 0 1], []), [], 0, [], [])]
def n_X3_readFactor_1_2 : List rv_N := [
  (31, ([rv_r 16, rv_i 1 1, rv_i (-1) 255, rv_u], [], []), [33], 20, [], []),
  (32, ([rv_r 16, rv_i 1 1, rv_i (-1) 255, rv_u], [(1, 0, (-1), 255, [(.inl 2, 0)], [])], []), [34, 36], 19, [], []),
  (33, ([rv_r 16, rv_i 1 1, rv_i (-1) (-1), rv_u], [], []), [35], 18, [], []),
  (34, ([rv_r 16, rv_i 1 1, rv_i (-1) (-1), rv_u], [rv_i (-1) (-1)], []), [37], 17, [], []),
  (35, ([rv_r 16, rv_i 1 1, rv_i 0 255, rv_u], [], []), [38], 17, [], []),
  (39, ([rv_r 16, rv_i 1 1, rv_i (-1) (-1), rv_u], [rv_i (-1) (-1)], []), [39], 16, [], []),
  (39, ([rv_r 16, rv_i 1 1, rv_i 0 255, rv_u], [rv_i (-1) 12], []), [39], 16, [], []),
  (40, ([rv_r 16, rv_i 1 1, rv_i (-1) 255, rv_i (-1) 12], [], []), [40], 15, [], []),
  (41, ([rv_r 16, rv_i 1 1, rv_i (-1) 255, rv_i (-1) 12], [(1, 0, (-1), 12, [(.inl 3, 0)], [])], []), [41, 45], 14, [], []),
  (42, ([rv_r 16, rv_i 1 1, rv_i (-1) 255, rv_i (-1) (-1)], [], []), [42], 3, [], []),
  (43, ([rv_r 16, rv_i 1 1, rv_i (-1) 255, rv_i (-1) (-1)], [rv_r 16], []), [43], 2, [], []),
  (44, ([rv_r 16, rv_i 1 1, rv_i (-1) 255, rv_i (-1) (-1)], [rv_i 1 1, rv_r 16], []), [44], 1, [], [6]),
  (45, ([rv_r 16, rv_i 1 1, rv_i (-1) 255, rv_i (-1) (-1)], [rv_i 0 0], []), [], 0, [], []),
  (46, ([rv_r 16, rv_i 1 1, rv_i (-1) 255, rv_i 0 12], [], []), [46], 13, [], []),
  (47, ([rv_r 16, rv_i 1 1, rv_i (-1) 255, rv_i 0 12], [rv_r 16], []), [47], 12, [], []),
  (48, ([rv_r 16, rv_i 1 1, rv_i (-1) 255, rv_i 0 12], [rv_r 16, rv_r 16], []), [48], 11, [], [])]
def n_X3_readFactor_1_3 : List rv_N := [
  (49, ([rv_r 16, rv_i 1 1, rv_i (-1) 255, rv_i 0 12], [(1, 0, (-2147483648), 2147483647, [(.inr (16, 3), 0)], []), rv_r 16], []), [49], 10, [], []),
  (50, ([rv_r 16, rv_i 1 1, rv_i (-1) 255, rv_i 0 12], [rv_i 1 1, (1, 0, (-2147483648), 2147483647, [(.inr (16, 3), 0)], []), rv_r 16], []), [50], 9, [], []),
  (51, ([rv_r 16, rv_i 1 1, rv_i (-1) 255, rv_i 0 12], [(1, 0, (-2147483648), 2147483647, [(.inr (16, 3), 1)], []), rv_r 16], []), [51], 8, [], []),
  (52, ([rv_r 16, rv_i 1 1, rv_i (-1) 255, rv_i 0 12], [], []), [52], 7, [], []),
  (53, ([rv_r 16, rv_i 1 1, rv_i (-1) 255, rv_i 0 12], [rv_r 16], []), [53], 6, [], []),
  (54, ([rv_r 16, rv_i 1 1, rv_i (-1) 255, rv_i 0 12], [rv_r 17], []), [54], 5, [], []),
  (55, ([rv_r 16, rv_i 1 1, rv_i (-1) 255, rv_i 0 12], [rv_i 1 1, rv_r 17], []), [55], 4, [], []),
  (56, ([rv_r 16, rv_i 1 1, rv_i (-1) 255, rv_i 0 12], [(1, 0, 0, 12, [(.inl 3, 0)], []), rv_i 1 1, rv_r 17], []), [56], 3, [], [7]),
  (57, ([rv_r 16, rv_i 1 1, rv_i (-1) 255, rv_i 0 12], [rv_i (-1) 199], []), [57], 2, [], []),
  (58, ([rv_r 16, rv_i 1 1, rv_i (-1) 255, rv_i 0 12], [], []), [58], 1, [], []),
  (59, ([rv_r 16, rv_i 1 1, rv_i (-1) 255, rv_i 0 12], [rv_i 1 1], []), [], 0, [], [])]
def n_X3_readFactor_1 : List rv_N := n_X3_readFactor_1_0 ++ (n_X3_readFactor_1_1 ++ (n_X3_readFactor_1_2 ++ (n_X3_readFactor_1_3)))
noncomputable def gn_X3_readFactor_1 : Nat → Option rv_N := rv_ap 16 (rv_at n_X3_readFactor_1_0) (rv_ap 16 (rv_at n_X3_readFactor_1_1) (rv_ap 16 (rv_at n_X3_readFactor_1_2) (rv_at n_X3_readFactor_1_3)))
theorem hn_X3_readFactor_1 : ∀ i : Nat, n_X3_readFactor_1[i]? = gn_X3_readFactor_1 i := rv_ap_eq (l := n_X3_readFactor_1_0) (c := 16) (rv_ap_eq (l := n_X3_readFactor_1_1) (c := 16) (rv_ap_eq (l := n_X3_readFactor_1_2) (c := 16) (rv_at_eq n_X3_readFactor_1_3) rfl) rfl) rfl
set_option maxRecDepth 100000 in
theorem a_X3_readFactor_1 : rv_all (fm_tm, flX3, fm_wr, kcX3, klX3, K_X3_readFactor_1.2.2.1, [], 4) ct_X3_readFactor_1 cd_X3_readFactor n_X3_readFactor_1 K_X3_readFactor_1 [36] 0 n_X3_readFactor_1 = true := rv_fast hn_X3_readFactor_1 hc_X3_readFactor (by decide +kernel)
theorem m_X3_readFactor_1 {l : Launch} {D : va_G} {ad : Nat → Nat} {cy : Nat → ClassId} {Z : State → Heap → Prop} {Gp : fm_V → Prop} (hAd : fm_Ad fm_tm ad) (hZ : fm_Zk (fm_A fm_tm ad) Z) (hGd : fm_Gd Gp) : rv_Met l D fm_cl fm_tm ad cy fm_nt Z Gp yX3_readFactor (.code yX3_readFactor prog_5_method_14_code 4 (some .boolean) :: fm_Ts) { frames := 19, cells := 0, slots := 0, locals := 1900 } K_X3_readFactor_1 := rv_met hAd hZ (Or.inl (by decide +kernel)) evX3 dc_X3_readFactor a_X3_readFactor_1 ⟨rfl, rfl, rfl⟩ (by decide +kernel) (by decide +kernel) (by decide) (fm_gm hGd (by decide +kernel)) (Or.inr ⟨rfl, by decide, by decide⟩) (fun p e s m args below meth c Q X Y => List.forall_mem_cons.mpr ⟨rv_ctV X Y fm_Ts_good dc_X3_readFactor (pc := 1) (i := 1) (idx := 39) rfl (m_X3_next_0 hAd hZ hGd) wl_X3_39 wm_X3_next wy_X3_next (by decide) ⟨rfl, rfl, rfl⟩ ⟨rfl, rfl⟩, List.forall_mem_cons.mpr ⟨rv_ctV X Y fm_Ts_good dc_X3_readFactor (pc := 15) (i := 9) (idx := 79) rfl (m_X3_open_0 hAd hZ hGd) wl_X3_79 wm_X3_open wy_X3_open (by decide) ⟨rfl, rfl, rfl⟩ ⟨rfl, rfl⟩, List.forall_mem_cons.mpr ⟨rv_ctV X Y fm_Ts_good dc_X3_readFactor (pc := 25) (i := 15) (idx := 73) rfl (m_X3_readSum_2 hAd hZ hGd) wl_X3_73 wm_X3_readSum wy_X3_readSum (by decide) ⟨rfl, rfl, rfl⟩ ⟨rfl, rfl⟩, List.forall_mem_cons.mpr ⟨rv_ctV X Y fm_Ts_good dc_X3_readFactor (pc := 34) (i := 19) (idx := 86) rfl (m_X3_close_0 hAd hZ hGd) wl_X3_86 wm_X3_close wy_X3_close (by decide) ⟨rfl, rfl, rfl⟩ ⟨rfl, rfl⟩, List.forall_mem_cons.mpr ⟨rv_ctS X Y fm_Ts_good dc_X3_readFactor (pc := 47) (i := 26) (idx := 125) rfl (m_X3_isDigit_0 hAd hZ hGd) wl_X3_125 wm_X3_isDigit wy_X3_isDigit (by decide) rfl, List.forall_mem_cons.mpr ⟨rv_ctV X Y fm_Ts_good dc_X3_readFactor (pc := 54) (i := 29) (idx := 128) rfl (m_X3_readNumber_0 hAd hZ hGd) wl_X3_128 wm_X3_readNumber wy_X3_readNumber (by decide) ⟨rfl, rfl, rfl⟩ ⟨rfl, rfl⟩, List.forall_mem_cons.mpr ⟨rv_ctV X Y fm_Ts_good dc_X3_readFactor (pc := 80) (i := 44) (idx := 43) rfl (m_X3_fail_0 hAd hZ hGd) wl_X3_43 wm_X3_fail wy_X3_fail (by decide) ⟨rfl, rfl, rfl⟩ ⟨rfl, rfl⟩, List.forall_mem_cons.mpr ⟨rv_ctV X Y fm_Ts_good dc_X3_readFactor (pc := 100) (i := 56) (idx := 108) rfl (m_X1_putStep_0 hAd hZ hGd) wl_X3_108 wm_X1_putStep wy_X1_putStep (by decide) ⟨rfl, rfl, rfl⟩ ⟨rfl, rfl⟩, fun _ h => absurd h List.not_mem_nil⟩⟩⟩⟩⟩⟩⟩⟩) (fun p e s m args below meth c V0 avs hpre hr hlk X Y id hid n hn q hq V ls st hI hG ih => by
  obtain rfl := List.mem_singleton.mp hid
  obtain rfl : _ = n := Option.some.inj ((show n_X3_readFactor_1[36]? = some (35, ([rv_r 16, rv_i 1 1, rv_i 0 255, rv_u], [], []), [38], 17, [], []) from rfl).symm.trans hn)
  obtain rfl : _ = q := Option.some.inj ((show cd_X3_readFactor[35]? = some (66, .ldc 131, 2) from rfl).symm.trans hq)
  obtain rfl : st = [] := rv_sk_nil hG.2.1
  obtain ⟨x, hlx, -, -, -⟩ := rv_lokI rfl (hG.1 2 _ rfl)
  refine fs_index hAd X Y rfl (i := 1) (by decide) (fun adK adV h => h.2.2.2) rfl hlx hI.2.2.1 (by decide) (dc_X3_readFactor (66, .ldc 131, 2) (List.mem_of_getElem? (i := 35) rfl)) (dc_X3_readFactor (68, .iload_n 2, 1) (List.mem_of_getElem? (i := 36) rfl)) (dc_X3_readFactor (69, .i2c, 1) (List.mem_of_getElem? (i := 37) rfl)) (dc_X3_readFactor (70, .invokevirtual 58, 3) (List.mem_of_getElem? (i := 38) rfl)) (fun z z1 z2 => ?_)
  exact ih 38 (39, ([rv_r 16, rv_i 1 1, rv_i 0 255, rv_u], [rv_i (-1) 12], []), [39], 16, [], []) (73, .istore_n 3, 1) rfl rfl V ls [.int z] hI ⟨hG.1, ⟨rv_okB z1 z2, trivial⟩, hG.2.2⟩ (by show ((16 : Int) + 0 + 1).toNat < ((17 : Int) + 0 + 1).toNat; decide))
def K_X3_readTerm_1 : rv_K := ([rv_r 16, rv_i 1 1], [], [(16, 3), (16, 4), (17, 2), (18, 9999), (19, 9999)], [(0, 0, 1)], [], [])
def ct_X3_readTerm_1 : List (Nat × rv_K) := [(2, K_X3_readFactor_1), (12, K_X3_next_0), (16, K_X3_next_0), (20, K_X3_next_0), (24, K_X3_next_0), (34, K_X3_readFactor_1), (42, K_X1_putStep_0)]
def n_X3_readTerm_1_0 : List rv_N := [
  (0, ([rv_r 16, rv_i 1 1, rv_u, rv_u], [], []), [1], 2354810, [], []),
  (1, ([rv_r 16, rv_i 1 1, rv_u, rv_u], [rv_r 16], []), [2], 2354809, [], []),
  (2, ([rv_r 16, rv_i 1 1, rv_u, rv_u], [(1, 0, 1, 1, [(.inl 1, 0)], []), rv_r 16], []), [3], 2354808, [], [0]),
  (3, ([rv_r 16, rv_i 1 1, rv_u, rv_u], [rv_i 0 1], []), [4, 6], 2354807, [], []),
  (4, ([rv_r 16, rv_i 1 1, rv_u, rv_u], [], []), [5], 1, [], []),
  (5, ([rv_r 16, rv_i 1 1, rv_u, rv_u], [rv_i 0 0], []), [], 0, [], []),
  (6, ([rv_r 16, rv_i 1 1, rv_u, rv_u], [], []), [7], 2354806, [], []),
  (7, ([rv_r 16, rv_i 1 1, rv_u, rv_u], [rv_i 0 0], []), [8], 2354805, [], []),
  (8, ([rv_r 16, rv_i 1 1, rv_i 0 200, rv_u], [], []), [9], 2354804, [(2, (-11774))], []),
  (9, ([rv_r 16, rv_i 1 1, rv_i 0 200, rv_u], [(1, 0, 0, 200, [(.inl 2, 0)], [])], []), [10], 2354803, [(2, (-11774))], []),
  (10, ([rv_r 16, rv_i 1 1, rv_i 0 200, rv_u], [rv_i 200 200, (1, 0, 0, 200, [(.inl 2, 0)], [])], []), [11, 46], 2354802, [(2, (-11774))], []),
  (11, ([rv_r 16, rv_i 1 1, rv_i 0 199, rv_u], [], []), [12], 2343063, [(2, (-11774))], []),
  (12, ([rv_r 16, rv_i 1 1, rv_i 0 199, rv_u], [rv_r 16], []), [13], 2343062, [(2, (-11774))], [1]),
  (13, ([rv_r 16, rv_i 1 1, rv_i 0 199, rv_u], [rv_i (-1) 255], []), [14], 2343061, [(2, (-11774))], []),
  (14, ([rv_r 16, rv_i 1 1, rv_i 0 199, rv_u], [rv_i 42 42, rv_i (-1) 255], []), [15, 23], 2343060, [(2, (-11774))], []),
  (15, ([rv_r 16, rv_i 1 1, rv_i 0 199, rv_u], [], []), [16], 2343059, [(2, (-11774))], [])]
def n_X3_readTerm_1_1 : List rv_N := [
  (16, ([rv_r 16, rv_i 1 1, rv_i 0 199, rv_u], [rv_r 16], []), [17], 2343058, [(2, (-11774))], [2]),
  (17, ([rv_r 16, rv_i 1 1, rv_i 0 199, rv_u], [rv_i (-1) 255], []), [18], 2343057, [(2, (-11774))], []),
  (18, ([rv_r 16, rv_i 1 1, rv_i 0 199, rv_u], [rv_i 47 47, rv_i (-1) 255], []), [19, 23], 2343056, [(2, (-11774))], []),
  (19, ([rv_r 16, rv_i 1 1, rv_i 0 199, rv_u], [], []), [20], 2343055, [(2, (-11774))], []),
  (20, ([rv_r 16, rv_i 1 1, rv_i 0 199, rv_u], [rv_r 16], []), [21], 2343054, [(2, (-11774))], [3]),
  (21, ([rv_r 16, rv_i 1 1, rv_i 0 199, rv_u], [rv_i (-1) 255], []), [22], 2343053, [(2, (-11774))], []),
  (22, ([rv_r 16, rv_i 1 1, rv_i 0 199, rv_u], [rv_i 37 37, rv_i (-1) 255], []), [23, 46], 2343052, [(2, (-11774))], []),
  (23, ([rv_r 16, rv_i 1 1, rv_i 0 199, rv_u], [], []), [24], 2343051, [(2, (-11774))], []),
  (24, ([rv_r 16, rv_i 1 1, rv_i 0 199, rv_u], [rv_r 16], []), [25], 2343050, [(2, (-11774))], [4]),
  (25, ([rv_r 16, rv_i 1 1, rv_i 0 199, rv_u], [rv_i (-1) 255], []), [26], 2343049, [(2, (-11774))], []),
  (26, ([rv_r 16, rv_i 1 1, rv_i 0 199, rv_i (-1) 255], [], []), [27], 2343048, [(2, (-11774))], []),
  (27, ([rv_r 16, rv_i 1 1, rv_i 0 199, rv_i (-1) 255], [rv_r 16], []), [28], 2343047, [(2, (-11774))], []),
  (28, ([rv_r 16, rv_i 1 1, rv_i 0 199, rv_i (-1) 255], [rv_r 16, rv_r 16], []), [29], 2343046, [(2, (-11774))], []),
  (29, ([rv_r 16, rv_i 1 1, rv_i 0 199, rv_i (-1) 255], [(1, 0, (-2147483648), 2147483647, [(.inr (16, 3), 0)], []), rv_r 16], []), [30], 2343045, [(2, (-11774))], []),
  (30, ([rv_r 16, rv_i 1 1, rv_i 0 199, rv_i (-1) 255], [rv_i 1 1, (1, 0, (-2147483648), 2147483647, [(.inr (16, 3), 0)], []), rv_r 16], []), [31], 2343044, [(2, (-11774))], []),
  (31, ([rv_r 16, rv_i 1 1, rv_i 0 199, rv_i (-1) 255], [(1, 0, (-2147483648), 2147483647, [(.inr (16, 3), 1)], []), rv_r 16], []), [32], 2343043, [(2, (-11774))], [])]
def n_X3_readTerm_1_2 : List rv_N := [
  (32, ([rv_r 16, rv_i 1 1, rv_i 0 199, rv_i (-1) 255], [], []), [33], 2343042, [(2, (-11774))], []),
  (33, ([rv_r 16, rv_i 1 1, rv_i 0 199, rv_i (-1) 255], [rv_r 16], []), [34], 2343041, [(2, (-11774))], []),
  (34, ([rv_r 16, rv_i 1 1, rv_i 0 199, rv_i (-1) 255], [(1, 0, 1, 1, [(.inl 1, 0)], []), rv_r 16], []), [35], 2343040, [(2, (-11774))], [5]),
  (35, ([rv_r 16, rv_i 1 1, rv_i 0 199, rv_i (-1) 255], [rv_i 0 1], []), [36, 38], 2343039, [(2, (-11774))], []),
  (36, ([rv_r 16, rv_i 1 1, rv_i 0 199, rv_i (-1) 255], [], []), [37], 1, [], []),
  (37, ([rv_r 16, rv_i 1 1, rv_i 0 199, rv_i (-1) 255], [rv_i 0 0], []), [], 0, [], []),
  (38, ([rv_r 16, rv_i 1 1, rv_i 0 199, rv_i (-1) 255], [], []), [39], 2343038, [(2, (-11774))], []),
  (39, ([rv_r 16, rv_i 1 1, rv_i 0 199, rv_i (-1) 255], [rv_r 16], []), [40], 2343037, [(2, (-11774))], []),
  (40, ([rv_r 16, rv_i 1 1, rv_i 0 199, rv_i (-1) 255], [rv_r 17], []), [41], 2343036, [(2, (-11774))], []),
  (41, ([rv_r 16, rv_i 1 1, rv_i 0 199, rv_i (-1) 255], [(1, 0, (-1), 255, [(.inl 3, 0)], []), rv_r 17], []), [42], 2343035, [(2, (-11774))], []),
  (42, ([rv_r 16, rv_i 1 1, rv_i 0 199, rv_i (-1) 255], [rv_i 0 0, (1, 0, (-1), 255, [(.inl 3, 0)], []), rv_r 17], []), [43], 2343034, [(2, (-11774))], [6]),
  (43, ([rv_r 16, rv_i 1 1, rv_i 0 199, rv_i (-1) 255], [rv_i (-1) 199], []), [44], 2343033, [(2, (-11774))], []),
  (44, ([rv_r 16, rv_i 1 1, rv_i 0 199, rv_i (-1) 255], [], []), [45], 2343032, [(2, (-11774))], []),
  (45, ([rv_r 16, rv_i 1 1, rv_i 1 200, rv_i (-1) 255], [], []), [8], 2354805, [(2, (-11774))], []),
  (46, ([rv_r 16, rv_i 1 1, rv_i 0 200, rv_u], [], []), [47], 1, [], []),
  (47, ([rv_r 16, rv_i 1 1, rv_i 0 200, rv_u], [rv_i 1 1], []), [], 0, [], [])]
def n_X3_readTerm_1 : List rv_N := n_X3_readTerm_1_0 ++ (n_X3_readTerm_1_1 ++ (n_X3_readTerm_1_2))
noncomputable def gn_X3_readTerm_1 : Nat → Option rv_N := rv_ap 16 (rv_at n_X3_readTerm_1_0) (rv_ap 16 (rv_at n_X3_readTerm_1_1) (rv_at n_X3_readTerm_1_2))
theorem hn_X3_readTerm_1 : ∀ i : Nat, n_X3_readTerm_1[i]? = gn_X3_readTerm_1 i := rv_ap_eq (l := n_X3_readTerm_1_0) (c := 16) (rv_ap_eq (l := n_X3_readTerm_1_1) (c := 16) (rv_at_eq n_X3_readTerm_1_2) rfl) rfl
set_option maxRecDepth 100000 in
theorem a_X3_readTerm_1 : rv_all (fm_tm, flX3, fm_wr, kcX3, klX3, K_X3_readTerm_1.2.2.1, [], 4) ct_X3_readTerm_1 cd_X3_readTerm n_X3_readTerm_1 K_X3_readTerm_1 [] 0 n_X3_readTerm_1 = true := rv_fast hn_X3_readTerm_1 hc_X3_readTerm (by decide +kernel)
theorem m_X3_readTerm_1 {l : Launch} {D : va_G} {ad : Nat → Nat} {cy : Nat → ClassId} {Z : State → Heap → Prop} {Gp : fm_V → Prop} (hAd : fm_Ad fm_tm ad) (hZ : fm_Zk (fm_A fm_tm ad) Z) (hGd : fm_Gd Gp) : rv_Met l D fm_cl fm_tm ad cy fm_nt Z Gp yX3_readTerm (.code yX3_readTerm prog_5_method_13_code 4 (some .boolean) :: fm_Ts) { frames := 20, cells := 0, slots := 0, locals := 2000 } K_X3_readTerm_1 := rv_met hAd hZ (Or.inl (by decide +kernel)) evX3 dc_X3_readTerm a_X3_readTerm_1 ⟨rfl, rfl, rfl⟩ (by decide +kernel) (by decide +kernel) (by decide) (fm_gm hGd (by decide +kernel)) (Or.inr ⟨rfl, by decide, by decide⟩) (fun p e s m args below meth c Q X Y => List.forall_mem_cons.mpr ⟨rv_ctV X Y fm_Ts_good dc_X3_readTerm (pc := 2) (i := 2) (idx := 122) rfl (m_X3_readFactor_1 hAd hZ hGd) wl_X3_122 wm_X3_readFactor wy_X3_readFactor (by decide) ⟨rfl, rfl, rfl⟩ ⟨rfl, rfl⟩, List.forall_mem_cons.mpr ⟨rv_ctV X Y fm_Ts_good dc_X3_readTerm (pc := 20) (i := 12) (idx := 39) rfl (m_X3_next_0 hAd hZ hGd) wl_X3_39 wm_X3_next wy_X3_next (by decide) ⟨rfl, rfl, rfl⟩ ⟨rfl, rfl⟩, List.forall_mem_cons.mpr ⟨rv_ctV X Y fm_Ts_good dc_X3_readTerm (pc := 29) (i := 16) (idx := 39) rfl (m_X3_next_0 hAd hZ hGd) wl_X3_39 wm_X3_next wy_X3_next (by decide) ⟨rfl, rfl, rfl⟩ ⟨rfl, rfl⟩, List.forall_mem_cons.mpr ⟨rv_ctV X Y fm_Ts_good dc_X3_readTerm (pc := 38) (i := 20) (idx := 39) rfl (m_X3_next_0 hAd hZ hGd) wl_X3_39 wm_X3_next wy_X3_next (by decide) ⟨rfl, rfl, rfl⟩ ⟨rfl, rfl⟩, List.forall_mem_cons.mpr ⟨rv_ctV X Y fm_Ts_good dc_X3_readTerm (pc := 47) (i := 24) (idx := 39) rfl (m_X3_next_0 hAd hZ hGd) wl_X3_39 wm_X3_next wy_X3_next (by decide) ⟨rfl, rfl, rfl⟩ ⟨rfl, rfl⟩, List.forall_mem_cons.mpr ⟨rv_ctV X Y fm_Ts_good dc_X3_readTerm (pc := 63) (i := 34) (idx := 122) rfl (m_X3_readFactor_1 hAd hZ hGd) wl_X3_122 wm_X3_readFactor wy_X3_readFactor (by decide) ⟨rfl, rfl, rfl⟩ ⟨rfl, rfl⟩, List.forall_mem_cons.mpr ⟨rv_ctV X Y fm_Ts_good dc_X3_readTerm (pc := 77) (i := 42) (idx := 108) rfl (m_X1_putStep_0 hAd hZ hGd) wl_X3_108 wm_X1_putStep wy_X1_putStep (by decide) ⟨rfl, rfl, rfl⟩ ⟨rfl, rfl⟩, fun _ h => absurd h List.not_mem_nil⟩⟩⟩⟩⟩⟩⟩) (fun _ _ _ _ _ _ _ _ _ _ _ _ _ _ _ _ h => absurd h List.not_mem_nil)
def K_X3_readSum_1 : rv_K := ([rv_r 16, rv_i 1 1], [], [(16, 3), (16, 4), (17, 2), (18, 9999), (19, 9999)], [(0, 0, 1)], [], [])
def ct_X3_readSum_1 : List (Nat × rv_K) := [(2, K_X3_readTerm_1), (12, K_X3_next_0), (16, K_X3_next_0), (20, K_X3_next_0), (30, K_X3_readTerm_1), (38, K_X1_putStep_0)]
def n_X3_readSum_1_0 : List rv_N := [
  (0, ([rv_r 16, rv_i 1 1, rv_u, rv_u], [], []), [1], 2192410, [], []),
  (1, ([rv_r 16, rv_i 1 1, rv_u, rv_u], [rv_r 16], []), [2], 2192409, [], []),
  (2, ([rv_r 16, rv_i 1 1, rv_u, rv_u], [(1, 0, 1, 1, [(.inl 1, 0)], []), rv_r 16], []), [3], 2192408, [], [0]),
  (3, ([rv_r 16, rv_i 1 1, rv_u, rv_u], [rv_i 0 1], []), [4, 6], 2192407, [], []),
  (4, ([rv_r 16, rv_i 1 1, rv_u, rv_u], [], []), [5], 1, [], []),
  (5, ([rv_r 16, rv_i 1 1, rv_u, rv_u], [rv_i 0 0], []), [], 0, [], []),
  (6, ([rv_r 16, rv_i 1 1, rv_u, rv_u], [], []), [7], 2192406, [], []),
  (7, ([rv_r 16, rv_i 1 1, rv_u, rv_u], [rv_i 0 0], []), [8], 2192405, [], []),
  (8, ([rv_r 16, rv_i 1 1, rv_i 0 200, rv_u], [], []), [9], 2192404, [(2, (-10962))], []),
  (9, ([rv_r 16, rv_i 1 1, rv_i 0 200, rv_u], [(1, 0, 0, 200, [(.inl 2, 0)], [])], []), [10], 2192403, [(2, (-10962))], []),
  (10, ([rv_r 16, rv_i 1 1, rv_i 0 200, rv_u], [rv_i 200 200, (1, 0, 0, 200, [(.inl 2, 0)], [])], []), [11, 42], 2192402, [(2, (-10962))], []),
  (11, ([rv_r 16, rv_i 1 1, rv_i 0 199, rv_u], [], []), [12], 2181471, [(2, (-10962))], []),
  (12, ([rv_r 16, rv_i 1 1, rv_i 0 199, rv_u], [rv_r 16], []), [13], 2181470, [(2, (-10962))], [1]),
  (13, ([rv_r 16, rv_i 1 1, rv_i 0 199, rv_u], [rv_i (-1) 255], []), [14], 2181469, [(2, (-10962))], []),
  (14, ([rv_r 16, rv_i 1 1, rv_i 0 199, rv_u], [rv_i 43 43, rv_i (-1) 255], []), [15, 19], 2181468, [(2, (-10962))], []),
  (15, ([rv_r 16, rv_i 1 1, rv_i 0 199, rv_u], [], []), [16], 2181467, [(2, (-10962))], [])]
def n_X3_readSum_1_1 : List rv_N := [
  (16, ([rv_r 16, rv_i 1 1, rv_i 0 199, rv_u], [rv_r 16], []), [17], 2181466, [(2, (-10962))], [2]),
  (17, ([rv_r 16, rv_i 1 1, rv_i 0 199, rv_u], [rv_i (-1) 255], []), [18], 2181465, [(2, (-10962))], []),
  (18, ([rv_r 16, rv_i 1 1, rv_i 0 199, rv_u], [rv_i 45 45, rv_i (-1) 255], []), [19, 42], 2181464, [(2, (-10962))], []),
  (19, ([rv_r 16, rv_i 1 1, rv_i 0 199, rv_u], [], []), [20], 2181463, [(2, (-10962))], []),
  (20, ([rv_r 16, rv_i 1 1, rv_i 0 199, rv_u], [rv_r 16], []), [21], 2181462, [(2, (-10962))], [3]),
  (21, ([rv_r 16, rv_i 1 1, rv_i 0 199, rv_u], [rv_i (-1) 255], []), [22], 2181461, [(2, (-10962))], []),
  (22, ([rv_r 16, rv_i 1 1, rv_i 0 199, rv_i (-1) 255], [], []), [23], 2181460, [(2, (-10962))], []),
  (23, ([rv_r 16, rv_i 1 1, rv_i 0 199, rv_i (-1) 255], [rv_r 16], []), [24], 2181459, [(2, (-10962))], []),
  (24, ([rv_r 16, rv_i 1 1, rv_i 0 199, rv_i (-1) 255], [rv_r 16, rv_r 16], []), [25], 2181458, [(2, (-10962))], []),
  (25, ([rv_r 16, rv_i 1 1, rv_i 0 199, rv_i (-1) 255], [(1, 0, (-2147483648), 2147483647, [(.inr (16, 3), 0)], []), rv_r 16], []), [26], 2181457, [(2, (-10962))], []),
  (26, ([rv_r 16, rv_i 1 1, rv_i 0 199, rv_i (-1) 255], [rv_i 1 1, (1, 0, (-2147483648), 2147483647, [(.inr (16, 3), 0)], []), rv_r 16], []), [27], 2181456, [(2, (-10962))], []),
  (27, ([rv_r 16, rv_i 1 1, rv_i 0 199, rv_i (-1) 255], [(1, 0, (-2147483648), 2147483647, [(.inr (16, 3), 1)], []), rv_r 16], []), [28], 2181455, [(2, (-10962))], []),
  (28, ([rv_r 16, rv_i 1 1, rv_i 0 199, rv_i (-1) 255], [], []), [29], 2181454, [(2, (-10962))], []),
  (29, ([rv_r 16, rv_i 1 1, rv_i 0 199, rv_i (-1) 255], [rv_r 16], []), [30], 2181453, [(2, (-10962))], []),
  (30, ([rv_r 16, rv_i 1 1, rv_i 0 199, rv_i (-1) 255], [(1, 0, 1, 1, [(.inl 1, 0)], []), rv_r 16], []), [31], 2181452, [(2, (-10962))], [4]),
  (31, ([rv_r 16, rv_i 1 1, rv_i 0 199, rv_i (-1) 255], [rv_i 0 1], []), [32, 34], 2181451, [(2, (-10962))], [])]
def n_X3_readSum_1_2 : List rv_N := [
  (32, ([rv_r 16, rv_i 1 1, rv_i 0 199, rv_i (-1) 255], [], []), [33], 1, [], []),
  (33, ([rv_r 16, rv_i 1 1, rv_i 0 199, rv_i (-1) 255], [rv_i 0 0], []), [], 0, [], []),
  (34, ([rv_r 16, rv_i 1 1, rv_i 0 199, rv_i (-1) 255], [], []), [35], 2181450, [(2, (-10962))], []),
  (35, ([rv_r 16, rv_i 1 1, rv_i 0 199, rv_i (-1) 255], [rv_r 16], []), [36], 2181449, [(2, (-10962))], []),
  (36, ([rv_r 16, rv_i 1 1, rv_i 0 199, rv_i (-1) 255], [rv_r 17], []), [37], 2181448, [(2, (-10962))], []),
  (37, ([rv_r 16, rv_i 1 1, rv_i 0 199, rv_i (-1) 255], [(1, 0, (-1), 255, [(.inl 3, 0)], []), rv_r 17], []), [38], 2181447, [(2, (-10962))], []),
  (38, ([rv_r 16, rv_i 1 1, rv_i 0 199, rv_i (-1) 255], [rv_i 0 0, (1, 0, (-1), 255, [(.inl 3, 0)], []), rv_r 17], []), [39], 2181446, [(2, (-10962))], [5]),
  (39, ([rv_r 16, rv_i 1 1, rv_i 0 199, rv_i (-1) 255], [rv_i (-1) 199], []), [40], 2181445, [(2, (-10962))], []),
  (40, ([rv_r 16, rv_i 1 1, rv_i 0 199, rv_i (-1) 255], [], []), [41], 2181444, [(2, (-10962))], []),
  (41, ([rv_r 16, rv_i 1 1, rv_i 1 200, rv_i (-1) 255], [], []), [8], 2192405, [(2, (-10962))], []),
  (42, ([rv_r 16, rv_i 1 1, rv_i 0 200, rv_u], [], []), [43], 1, [], []),
  (43, ([rv_r 16, rv_i 1 1, rv_i 0 200, rv_u], [rv_i 1 1], []), [], 0, [], [])]
def n_X3_readSum_1 : List rv_N := n_X3_readSum_1_0 ++ (n_X3_readSum_1_1 ++ (n_X3_readSum_1_2))
noncomputable def gn_X3_readSum_1 : Nat → Option rv_N := rv_ap 16 (rv_at n_X3_readSum_1_0) (rv_ap 16 (rv_at n_X3_readSum_1_1) (rv_at n_X3_readSum_1_2))
theorem hn_X3_readSum_1 : ∀ i : Nat, n_X3_readSum_1[i]? = gn_X3_readSum_1 i := rv_ap_eq (l := n_X3_readSum_1_0) (c := 16) (rv_ap_eq (l := n_X3_readSum_1_1) (c := 16) (rv_at_eq n_X3_readSum_1_2) rfl) rfl
set_option maxRecDepth 100000 in
theorem a_X3_readSum_1 : rv_all (fm_tm, flX3, fm_wr, kcX3, klX3, K_X3_readSum_1.2.2.1, [], 4) ct_X3_readSum_1 cd_X3_readSum n_X3_readSum_1 K_X3_readSum_1 [] 0 n_X3_readSum_1 = true := rv_fast hn_X3_readSum_1 hc_X3_readSum (by decide +kernel)
theorem m_X3_readSum_1 {l : Launch} {D : va_G} {ad : Nat → Nat} {cy : Nat → ClassId} {Z : State → Heap → Prop} {Gp : fm_V → Prop} (hAd : fm_Ad fm_tm ad) (hZ : fm_Zk (fm_A fm_tm ad) Z) (hGd : fm_Gd Gp) : rv_Met l D fm_cl fm_tm ad cy fm_nt Z Gp yX3_readSum (.code yX3_readSum prog_5_method_12_code 4 (some .boolean) :: fm_Ts) { frames := 21, cells := 0, slots := 0, locals := 2100 } K_X3_readSum_1 := rv_met hAd hZ (Or.inl (by decide +kernel)) evX3 dc_X3_readSum a_X3_readSum_1 ⟨rfl, rfl, rfl⟩ (by decide +kernel) (by decide +kernel) (by decide) (fm_gm hGd (by decide +kernel)) (Or.inr ⟨rfl, by decide, by decide⟩) (fun p e s m args below meth c Q X Y => List.forall_mem_cons.mpr ⟨rv_ctV X Y fm_Ts_good dc_X3_readSum (pc := 2) (i := 2) (idx := 119) rfl (m_X3_readTerm_1 hAd hZ hGd) wl_X3_119 wm_X3_readTerm wy_X3_readTerm (by decide) ⟨rfl, rfl, rfl⟩ ⟨rfl, rfl⟩, List.forall_mem_cons.mpr ⟨rv_ctV X Y fm_Ts_good dc_X3_readSum (pc := 20) (i := 12) (idx := 39) rfl (m_X3_next_0 hAd hZ hGd) wl_X3_39 wm_X3_next wy_X3_next (by decide) ⟨rfl, rfl, rfl⟩ ⟨rfl, rfl⟩, List.forall_mem_cons.mpr ⟨rv_ctV X Y fm_Ts_good dc_X3_readSum (pc := 29) (i := 16) (idx := 39) rfl (m_X3_next_0 hAd hZ hGd) wl_X3_39 wm_X3_next wy_X3_next (by decide) ⟨rfl, rfl, rfl⟩ ⟨rfl, rfl⟩, List.forall_mem_cons.mpr ⟨rv_ctV X Y fm_Ts_good dc_X3_readSum (pc := 38) (i := 20) (idx := 39) rfl (m_X3_next_0 hAd hZ hGd) wl_X3_39 wm_X3_next wy_X3_next (by decide) ⟨rfl, rfl, rfl⟩ ⟨rfl, rfl⟩, List.forall_mem_cons.mpr ⟨rv_ctV X Y fm_Ts_good dc_X3_readSum (pc := 54) (i := 30) (idx := 119) rfl (m_X3_readTerm_1 hAd hZ hGd) wl_X3_119 wm_X3_readTerm wy_X3_readTerm (by decide) ⟨rfl, rfl, rfl⟩ ⟨rfl, rfl⟩, List.forall_mem_cons.mpr ⟨rv_ctV X Y fm_Ts_good dc_X3_readSum (pc := 68) (i := 38) (idx := 108) rfl (m_X1_putStep_0 hAd hZ hGd) wl_X3_108 wm_X1_putStep wy_X1_putStep (by decide) ⟨rfl, rfl, rfl⟩ ⟨rfl, rfl⟩, fun _ h => absurd h List.not_mem_nil⟩⟩⟩⟩⟩⟩) (fun _ _ _ _ _ _ _ _ _ _ _ _ _ _ _ _ h => absurd h List.not_mem_nil)
def K_X3_readFactor_0 : rv_K := ([rv_r 16, rv_i 0 0], [], [(16, 3), (16, 4), (17, 2), (18, 9999), (19, 9999)], [(0, 0, 1)], [], [])
def ct_X3_readFactor_0 : List (Nat × rv_K) := [(1, K_X3_next_0), (9, K_X3_open_0), (15, K_X3_readSum_1), (19, K_X3_close_0), (26, K_X3_isDigit_0), (29, K_X3_readNumber_0), (44, K_X3_fail_0), (56, K_X1_putStep_0)]
def n_X3_readFactor_0_0 : List rv_N := [
  (0, ([rv_r 16, rv_i 0 0, rv_u, rv_u], [], []), [1], 29, [], []),
  (1, ([rv_r 16, rv_i 0 0, rv_u, rv_u], [rv_r 16], []), [2], 28, [], [0]),
  (2, ([rv_r 16, rv_i 0 0, rv_u, rv_u], [rv_i (-1) 255], []), [3], 27, [], []),
  (3, ([rv_r 16, rv_i 0 0, rv_i (-1) 255, rv_u], [], []), [4], 26, [], []),
  (4, ([rv_r 16, rv_i 0 0, rv_i (-1) 255, rv_u], [(1, 0, (-1), 255, [(.inl 2, 0)], [])], []), [5], 25, [], []),
  (5, ([rv_r 16, rv_i 0 0, rv_i (-1) 255, rv_u], [rv_i 91 91, (1, 0, (-1), 255, [(.inl 2, 0)], [])], []), [6, 26], 24, [], []),
  (6, ([rv_r 16, rv_i 0 0, rv_i 91 91, rv_u], [], []), [7], 17, [], []),
  (7, ([rv_r 16, rv_i 0 0, rv_i 91 91, rv_u], [rv_r 16], []), [8], 16, [], []),
  (8, ([rv_r 16, rv_i 0 0, rv_i 91 91, rv_u], [rv_i 91 91, rv_r 16], []), [9], 15, [], []),
  (9, ([rv_r 16, rv_i 0 0, rv_i 91 91, rv_u], [(1, 0, 0, 0, [(.inl 1, 0)], []), rv_i 91 91, rv_r 16], []), [10], 14, [], [1]),
  (10, ([rv_r 16, rv_i 0 0, rv_i 91 91, rv_u], [(1, 0, 0, 1, [], [(.inl 1, (-2147483648), 5)])], []), [11, 23], 13, [], []),
  (11, ([rv_r 16, rv_i 0 0, rv_i 91 91, rv_u], [], []), [12], 12, [], []),
  (12, ([rv_r 16, rv_i 0 0, rv_i 91 91, rv_u], [rv_r 16], []), [13], 11, [], []),
  (13, ([rv_r 16, rv_i 0 0, rv_i 91 91, rv_u], [(1, 0, 0, 0, [(.inl 1, 0)], []), rv_r 16], []), [14], 10, [], []),
  (14, ([rv_r 16, rv_i 0 0, rv_i 91 91, rv_u], [rv_i 1 1, (1, 0, 0, 0, [(.inl 1, 0)], []), rv_r 16], []), [15], 9, [], []),
  (15, ([rv_r 16, rv_i 0 0, rv_i 91 91, rv_u], [(1, 0, 1, 1, [(.inl 1, 1)], []), rv_r 16], []), [16], 8, [], [2])]
def n_X3_readFactor_0_1 : List rv_N := [
  (16, ([rv_r 16, rv_i 0 0, rv_i 91 91, rv_u], [rv_i 0 1], []), [17, 23], 7, [], []),
  (17, ([rv_r 16, rv_i 0 0, rv_i 91 91, rv_u], [], []), [18], 6, [], []),
  (18, ([rv_r 16, rv_i 0 0, rv_i 91 91, rv_u], [rv_r 16], []), [19], 5, [], []),
  (19, ([rv_r 16, rv_i 0 0, rv_i 91 91, rv_u], [rv_i 93 93, rv_r 16], []), [20], 4, [], [3]),
  (20, ([rv_r 16, rv_i 0 0, rv_i 91 91, rv_u], [rv_i 0 1], []), [21, 23], 3, [], []),
  (21, ([rv_r 16, rv_i 0 0, rv_i 91 91, rv_u], [], []), [22], 2, [], []),
  (22, ([rv_r 16, rv_i 0 0, rv_i 91 91, rv_u], [rv_i 1 1], []), [25], 1, [], []),
  (23, ([rv_r 16, rv_i 0 0, rv_i 91 91, rv_u], [], []), [24], 1, [], []),
  (24, ([rv_r 16, rv_i 0 0, rv_i 91 91, rv_u], [rv_i 0 0], []), [], 0, [], []),
  (24, ([rv_r 16, rv_i 0 0, rv_i 91 91, rv_u], [rv_i 1 1], []), [], 0, [], []),
  (25, ([rv_r 16, rv_i 0 0, rv_i (-1) 255, rv_u], [], []), [27], 23, [], []),
  (26, ([rv_r 16, rv_i 0 0, rv_i (-1) 255, rv_u], [(1, 0, (-1), 255, [(.inl 2, 0)], [])], []), [28], 22, [], [4]),
  (27, ([rv_r 16, rv_i 0 0, rv_i (-1) 255, rv_u], [(1, 0, 0, 1, [], [(.inl 2, 48, 57)])], []), [29, 32], 21, [], []),
  (28, ([rv_r 16, rv_i 0 0, rv_i 48 57, rv_u], [], []), [30], 2, [], []),
  (29, ([rv_r 16, rv_i 0 0, rv_i 48 57, rv_u], [rv_r 16], []), [31], 1, [], [5]),
  (30, ([rv_r 16, rv_i 0 0, rv_i 48 57, rv_u], [rv_i 0 1], []), [], 0, [], [])]
def n_X3_readFactor_0_2 : List rv_N := [
  (31, ([rv_r 16, rv_i 0 0, rv_i (-1) 255, rv_u], [], []), [33], 20, [], []),
  (32, ([rv_r 16, rv_i 0 0, rv_i (-1) 255, rv_u], [(1, 0, (-1), 255, [(.inl 2, 0)], [])], []), [34, 36], 19, [], []),
  (33, ([rv_r 16, rv_i 0 0, rv_i (-1) (-1), rv_u], [], []), [35], 18, [], []),
  (34, ([rv_r 16, rv_i 0 0, rv_i (-1) (-1), rv_u], [rv_i (-1) (-1)], []), [37], 17, [], []),
  (35, ([rv_r 16, rv_i 0 0, rv_i 0 255, rv_u], [], []), [38], 17, [], []),
  (39, ([rv_r 16, rv_i 0 0, rv_i (-1) (-1), rv_u], [rv_i (-1) (-1)], []), [39], 16, [], []),
  (39, ([rv_r 16, rv_i 0 0, rv_i 0 255, rv_u], [rv_i (-1) 12], []), [39], 16, [], []),
  (40, ([rv_r 16, rv_i 0 0, rv_i (-1) 255, rv_i (-1) 12], [], []), [40], 15, [], []),
  (41, ([rv_r 16, rv_i 0 0, rv_i (-1) 255, rv_i (-1) 12], [(1, 0, (-1), 12, [(.inl 3, 0)], [])], []), [41, 45], 14, [], []),
  (42, ([rv_r 16, rv_i 0 0, rv_i (-1) 255, rv_i (-1) (-1)], [], []), [42], 3, [], []),
  (43, ([rv_r 16, rv_i 0 0, rv_i (-1) 255, rv_i (-1) (-1)], [rv_r 16], []), [43], 2, [], []),
  (44, ([rv_r 16, rv_i 0 0, rv_i (-1) 255, rv_i (-1) (-1)], [rv_i 1 1, rv_r 16], []), [44], 1, [], [6]),
  (45, ([rv_r 16, rv_i 0 0, rv_i (-1) 255, rv_i (-1) (-1)], [rv_i 0 0], []), [], 0, [], []),
  (46, ([rv_r 16, rv_i 0 0, rv_i (-1) 255, rv_i 0 12], [], []), [46], 13, [], []),
  (47, ([rv_r 16, rv_i 0 0, rv_i (-1) 255, rv_i 0 12], [rv_r 16], []), [47], 12, [], []),
  (48, ([rv_r 16, rv_i 0 0, rv_i (-1) 255, rv_i 0 12], [rv_r 16, rv_r 16], []), [48], 11, [], [])]
def n_X3_readFactor_0_3 : List rv_N := [
  (49, ([rv_r 16, rv_i 0 0, rv_i (-1) 255, rv_i 0 12], [(1, 0, (-2147483648), 2147483647, [(.inr (16, 3), 0)], []), rv_r 16], []), [49], 10, [], []),
  (50, ([rv_r 16, rv_i 0 0, rv_i (-1) 255, rv_i 0 12], [rv_i 1 1, (1, 0, (-2147483648), 2147483647, [(.inr (16, 3), 0)], []), rv_r 16], []), [50], 9, [], []),
  (51, ([rv_r 16, rv_i 0 0, rv_i (-1) 255, rv_i 0 12], [(1, 0, (-2147483648), 2147483647, [(.inr (16, 3), 1)], []), rv_r 16], []), [51], 8, [], []),
  (52, ([rv_r 16, rv_i 0 0, rv_i (-1) 255, rv_i 0 12], [], []), [52], 7, [], []),
  (53, ([rv_r 16, rv_i 0 0, rv_i (-1) 255, rv_i 0 12], [rv_r 16], []), [53], 6, [], []),
  (54, ([rv_r 16, rv_i 0 0, rv_i (-1) 255, rv_i 0 12], [rv_r 17], []), [54], 5, [], []),
  (55, ([rv_r 16, rv_i 0 0, rv_i (-1) 255, rv_i 0 12], [rv_i 1 1, rv_r 17], []), [55], 4, [], []),
  (56, ([rv_r 16, rv_i 0 0, rv_i (-1) 255, rv_i 0 12], [(1, 0, 0, 12, [(.inl 3, 0)], []), rv_i 1 1, rv_r 17], []), [56], 3, [], [7]),
  (57, ([rv_r 16, rv_i 0 0, rv_i (-1) 255, rv_i 0 12], [rv_i (-1) 199], []), [57], 2, [], []),
  (58, ([rv_r 16, rv_i 0 0, rv_i (-1) 255, rv_i 0 12], [], []), [58], 1, [], []),
  (59, ([rv_r 16, rv_i 0 0, rv_i (-1) 255, rv_i 0 12], [rv_i 1 1], []), [], 0, [], [])]
def n_X3_readFactor_0 : List rv_N := n_X3_readFactor_0_0 ++ (n_X3_readFactor_0_1 ++ (n_X3_readFactor_0_2 ++ (n_X3_readFactor_0_3)))
noncomputable def gn_X3_readFactor_0 : Nat → Option rv_N := rv_ap 16 (rv_at n_X3_readFactor_0_0) (rv_ap 16 (rv_at n_X3_readFactor_0_1) (rv_ap 16 (rv_at n_X3_readFactor_0_2) (rv_at n_X3_readFactor_0_3)))
theorem hn_X3_readFactor_0 : ∀ i : Nat, n_X3_readFactor_0[i]? = gn_X3_readFactor_0 i := rv_ap_eq (l := n_X3_readFactor_0_0) (c := 16) (rv_ap_eq (l := n_X3_readFactor_0_1) (c := 16) (rv_ap_eq (l := n_X3_readFactor_0_2) (c := 16) (rv_at_eq n_X3_readFactor_0_3) rfl) rfl) rfl
set_option maxRecDepth 100000 in
theorem a_X3_readFactor_0 : rv_all (fm_tm, flX3, fm_wr, kcX3, klX3, K_X3_readFactor_0.2.2.1, [], 4) ct_X3_readFactor_0 cd_X3_readFactor n_X3_readFactor_0 K_X3_readFactor_0 [36] 0 n_X3_readFactor_0 = true := rv_fast hn_X3_readFactor_0 hc_X3_readFactor (by decide +kernel)
theorem m_X3_readFactor_0 {l : Launch} {D : va_G} {ad : Nat → Nat} {cy : Nat → ClassId} {Z : State → Heap → Prop} {Gp : fm_V → Prop} (hAd : fm_Ad fm_tm ad) (hZ : fm_Zk (fm_A fm_tm ad) Z) (hGd : fm_Gd Gp) : rv_Met l D fm_cl fm_tm ad cy fm_nt Z Gp yX3_readFactor (.code yX3_readFactor prog_5_method_14_code 4 (some .boolean) :: fm_Ts) { frames := 22, cells := 0, slots := 0, locals := 2200 } K_X3_readFactor_0 := rv_met hAd hZ (Or.inl (by decide +kernel)) evX3 dc_X3_readFactor a_X3_readFactor_0 ⟨rfl, rfl, rfl⟩ (by decide +kernel) (by decide +kernel) (by decide) (fm_gm hGd (by decide +kernel)) (Or.inr ⟨rfl, by decide, by decide⟩) (fun p e s m args below meth c Q X Y => List.forall_mem_cons.mpr ⟨rv_ctV X Y fm_Ts_good dc_X3_readFactor (pc := 1) (i := 1) (idx := 39) rfl (m_X3_next_0 hAd hZ hGd) wl_X3_39 wm_X3_next wy_X3_next (by decide) ⟨rfl, rfl, rfl⟩ ⟨rfl, rfl⟩, List.forall_mem_cons.mpr ⟨rv_ctV X Y fm_Ts_good dc_X3_readFactor (pc := 15) (i := 9) (idx := 79) rfl (m_X3_open_0 hAd hZ hGd) wl_X3_79 wm_X3_open wy_X3_open (by decide) ⟨rfl, rfl, rfl⟩ ⟨rfl, rfl⟩, List.forall_mem_cons.mpr ⟨rv_ctV X Y fm_Ts_good dc_X3_readFactor (pc := 25) (i := 15) (idx := 73) rfl (m_X3_readSum_1 hAd hZ hGd) wl_X3_73 wm_X3_readSum wy_X3_readSum (by decide) ⟨rfl, rfl, rfl⟩ ⟨rfl, rfl⟩, List.forall_mem_cons.mpr ⟨rv_ctV X Y fm_Ts_good dc_X3_readFactor (pc := 34) (i := 19) (idx := 86) rfl (m_X3_close_0 hAd hZ hGd) wl_X3_86 wm_X3_close wy_X3_close (by decide) ⟨rfl, rfl, rfl⟩ ⟨rfl, rfl⟩, List.forall_mem_cons.mpr ⟨rv_ctS X Y fm_Ts_good dc_X3_readFactor (pc := 47) (i := 26) (idx := 125) rfl (m_X3_isDigit_0 hAd hZ hGd) wl_X3_125 wm_X3_isDigit wy_X3_isDigit (by decide) rfl, List.forall_mem_cons.mpr ⟨rv_ctV X Y fm_Ts_good dc_X3_readFactor (pc := 54) (i := 29) (idx := 128) rfl (m_X3_readNumber_0 hAd hZ hGd) wl_X3_128 wm_X3_readNumber wy_X3_readNumber (by decide) ⟨rfl, rfl, rfl⟩ ⟨rfl, rfl⟩, List.forall_mem_cons.mpr ⟨rv_ctV X Y fm_Ts_good dc_X3_readFactor (pc := 80) (i := 44) (idx := 43) rfl (m_X3_fail_0 hAd hZ hGd) wl_X3_43 wm_X3_fail wy_X3_fail (by decide) ⟨rfl, rfl, rfl⟩ ⟨rfl, rfl⟩, List.forall_mem_cons.mpr ⟨rv_ctV X Y fm_Ts_good dc_X3_readFactor (pc := 100) (i := 56) (idx := 108) rfl (m_X1_putStep_0 hAd hZ hGd) wl_X3_108 wm_X1_putStep wy_X1_putStep (by decide) ⟨rfl, rfl, rfl⟩ ⟨rfl, rfl⟩, fun _ h => absurd h List.not_mem_nil⟩⟩⟩⟩⟩⟩⟩⟩) (fun p e s m args below meth c V0 avs hpre hr hlk X Y id hid n hn q hq V ls st hI hG ih => by
  obtain rfl := List.mem_singleton.mp hid
  obtain rfl : _ = n := Option.some.inj ((show n_X3_readFactor_0[36]? = some (35, ([rv_r 16, rv_i 0 0, rv_i 0 255, rv_u], [], []), [38], 17, [], []) from rfl).symm.trans hn)
  obtain rfl : _ = q := Option.some.inj ((show cd_X3_readFactor[35]? = some (66, .ldc 131, 2) from rfl).symm.trans hq)
  obtain rfl : st = [] := rv_sk_nil hG.2.1
  obtain ⟨x, hlx, -, -, -⟩ := rv_lokI rfl (hG.1 2 _ rfl)
  refine fs_index hAd X Y rfl (i := 1) (by decide) (fun adK adV h => h.2.2.2) rfl hlx hI.2.2.1 (by decide) (dc_X3_readFactor (66, .ldc 131, 2) (List.mem_of_getElem? (i := 35) rfl)) (dc_X3_readFactor (68, .iload_n 2, 1) (List.mem_of_getElem? (i := 36) rfl)) (dc_X3_readFactor (69, .i2c, 1) (List.mem_of_getElem? (i := 37) rfl)) (dc_X3_readFactor (70, .invokevirtual 58, 3) (List.mem_of_getElem? (i := 38) rfl)) (fun z z1 z2 => ?_)
  exact ih 38 (39, ([rv_r 16, rv_i 0 0, rv_i 0 255, rv_u], [rv_i (-1) 12], []), [39], 16, [], []) (73, .istore_n 3, 1) rfl rfl V ls [.int z] hI ⟨hG.1, ⟨rv_okB z1 z2, trivial⟩, hG.2.2⟩ (by show ((16 : Int) + 0 + 1).toNat < ((17 : Int) + 0 + 1).toNat; decide))
def K_X3_readTerm_0 : rv_K := ([rv_r 16, rv_i 0 0], [], [(16, 3), (16, 4), (17, 2), (18, 9999), (19, 9999)], [(0, 0, 1)], [], [])
def ct_X3_readTerm_0 : List (Nat × rv_K) := [(2, K_X3_readFactor_0), (12, K_X3_next_0), (16, K_X3_next_0), (20, K_X3_next_0), (24, K_X3_next_0), (34, K_X3_readFactor_0), (42, K_X1_putStep_0)]
def n_X3_readTerm_0_0 : List rv_N := [
  (0, ([rv_r 16, rv_i 0 0, rv_u, rv_u], [], []), [1], 2354810, [], []),
  (1, ([rv_r 16, rv_i 0 0, rv_u, rv_u], [rv_r 16], []), [2], 2354809, [], []),
  (2, ([rv_r 16, rv_i 0 0, rv_u, rv_u], [(1, 0, 0, 0, [(.inl 1, 0)], []), rv_r 16], []), [3], 2354808, [], [0]),
  (3, ([rv_r 16, rv_i 0 0, rv_u, rv_u], [rv_i 0 1], []), [4, 6], 2354807, [], []),
  (4, ([rv_r 16, rv_i 0 0, rv_u, rv_u], [], []), [5], 1, [], []),
  (5, ([rv_r 16, rv_i 0 0, rv_u, rv_u], [rv_i 0 0], []), [], 0, [], []),
  (6, ([rv_r 16, rv_i 0 0, rv_u, rv_u], [], []), [7], 2354806, [], []),
  (7, ([rv_r 16, rv_i 0 0, rv_u, rv_u], [rv_i 0 0], []), [8], 2354805, [], []),
  (8, ([rv_r 16, rv_i 0 0, rv_i 0 200, rv_u], [], []), [9], 2354804, [(2, (-11774))], []),
  (9, ([rv_r 16, rv_i 0 0, rv_i 0 200, rv_u], [(1, 0, 0, 200, [(.inl 2, 0)], [])], []), [10], 2354803, [(2, (-11774))], []),
  (10, ([rv_r 16, rv_i 0 0, rv_i 0 200, rv_u], [rv_i 200 200, (1, 0, 0, 200, [(.inl 2, 0)], [])], []), [11, 46], 2354802, [(2, (-11774))], []),
  (11, ([rv_r 16, rv_i 0 0, rv_i 0 199, rv_u], [], []), [12], 2343063, [(2, (-11774))], []),
  (12, ([rv_r 16, rv_i 0 0, rv_i 0 199, rv_u], [rv_r 16], []), [13], 2343062, [(2, (-11774))], [1]),
  (13, ([rv_r 16, rv_i 0 0, rv_i 0 199, rv_u], [rv_i (-1) 255], []), [14], 2343061, [(2, (-11774))], []),
  (14, ([rv_r 16, rv_i 0 0, rv_i 0 199, rv_u], [rv_i 42 42, rv_i (-1) 255], []), [15, 23], 2343060, [(2, (-11774))], []),
  (15, ([rv_r 16, rv_i 0 0, rv_i 0 199, rv_u], [], []), [16], 2343059, [(2, (-11774))], [])]
def n_X3_readTerm_0_1 : List rv_N := [
  (16, ([rv_r 16, rv_i 0 0, rv_i 0 199, rv_u], [rv_r 16], []), [17], 2343058, [(2, (-11774))], [2]),
  (17, ([rv_r 16, rv_i 0 0, rv_i 0 199, rv_u], [rv_i (-1) 255], []), [18], 2343057, [(2, (-11774))], []),
  (18, ([rv_r 16, rv_i 0 0, rv_i 0 199, rv_u], [rv_i 47 47, rv_i (-1) 255], []), [19, 23], 2343056, [(2, (-11774))], []),
  (19, ([rv_r 16, rv_i 0 0, rv_i 0 199, rv_u], [], []), [20], 2343055, [(2, (-11774))], []),
  (20, ([rv_r 16, rv_i 0 0, rv_i 0 199, rv_u], [rv_r 16], []), [21], 2343054, [(2, (-11774))], [3]),
  (21, ([rv_r 16, rv_i 0 0, rv_i 0 199, rv_u], [rv_i (-1) 255], []), [22], 2343053, [(2, (-11774))], []),
  (22, ([rv_r 16, rv_i 0 0, rv_i 0 199, rv_u], [rv_i 37 37, rv_i (-1) 255], []), [23, 46], 2343052, [(2, (-11774))], []),
  (23, ([rv_r 16, rv_i 0 0, rv_i 0 199, rv_u], [], []), [24], 2343051, [(2, (-11774))], []),
  (24, ([rv_r 16, rv_i 0 0, rv_i 0 199, rv_u], [rv_r 16], []), [25], 2343050, [(2, (-11774))], [4]),
  (25, ([rv_r 16, rv_i 0 0, rv_i 0 199, rv_u], [rv_i (-1) 255], []), [26], 2343049, [(2, (-11774))], []),
  (26, ([rv_r 16, rv_i 0 0, rv_i 0 199, rv_i (-1) 255], [], []), [27], 2343048, [(2, (-11774))], []),
  (27, ([rv_r 16, rv_i 0 0, rv_i 0 199, rv_i (-1) 255], [rv_r 16], []), [28], 2343047, [(2, (-11774))], []),
  (28, ([rv_r 16, rv_i 0 0, rv_i 0 199, rv_i (-1) 255], [rv_r 16, rv_r 16], []), [29], 2343046, [(2, (-11774))], []),
  (29, ([rv_r 16, rv_i 0 0, rv_i 0 199, rv_i (-1) 255], [(1, 0, (-2147483648), 2147483647, [(.inr (16, 3), 0)], []), rv_r 16], []), [30], 2343045, [(2, (-11774))], []),
  (30, ([rv_r 16, rv_i 0 0, rv_i 0 199, rv_i (-1) 255], [rv_i 1 1, (1, 0, (-2147483648), 2147483647, [(.inr (16, 3), 0)], []), rv_r 16], []), [31], 2343044, [(2, (-11774))], []),
  (31, ([rv_r 16, rv_i 0 0, rv_i 0 199, rv_i (-1) 255], [(1, 0, (-2147483648), 2147483647, [(.inr (16, 3), 1)], []), rv_r 16], []), [32], 2343043, [(2, (-11774))], [])]
def n_X3_readTerm_0_2 : List rv_N := [
  (32, ([rv_r 16, rv_i 0 0, rv_i 0 199, rv_i (-1) 255], [], []), [33], 2343042, [(2, (-11774))], []),
  (33, ([rv_r 16, rv_i 0 0, rv_i 0 199, rv_i (-1) 255], [rv_r 16], []), [34], 2343041, [(2, (-11774))], []),
  (34, ([rv_r 16, rv_i 0 0, rv_i 0 199, rv_i (-1) 255], [(1, 0, 0, 0, [(.inl 1, 0)], []), rv_r 16], []), [35], 2343040, [(2, (-11774))], [5]),
  (35, ([rv_r 16, rv_i 0 0, rv_i 0 199, rv_i (-1) 255], [rv_i 0 1], []), [36, 38], 2343039, [(2, (-11774))], []),
  (36, ([rv_r 16, rv_i 0 0, rv_i 0 199, rv_i (-1) 255], [], []), [37], 1, [], []),
  (37, ([rv_r 16, rv_i 0 0, rv_i 0 199, rv_i (-1) 255], [rv_i 0 0], []), [], 0, [], []),
  (38, ([rv_r 16, rv_i 0 0, rv_i 0 199, rv_i (-1) 255], [], []), [39], 2343038, [(2, (-11774))], []),
  (39, ([rv_r 16, rv_i 0 0, rv_i 0 199, rv_i (-1) 255], [rv_r 16], []), [40], 2343037, [(2, (-11774))], []),
  (40, ([rv_r 16, rv_i 0 0, rv_i 0 199, rv_i (-1) 255], [rv_r 17], []), [41], 2343036, [(2, (-11774))], []),
  (41, ([rv_r 16, rv_i 0 0, rv_i 0 199, rv_i (-1) 255], [(1, 0, (-1), 255, [(.inl 3, 0)], []), rv_r 17], []), [42], 2343035, [(2, (-11774))], []),
  (42, ([rv_r 16, rv_i 0 0, rv_i 0 199, rv_i (-1) 255], [rv_i 0 0, (1, 0, (-1), 255, [(.inl 3, 0)], []), rv_r 17], []), [43], 2343034, [(2, (-11774))], [6]),
  (43, ([rv_r 16, rv_i 0 0, rv_i 0 199, rv_i (-1) 255], [rv_i (-1) 199], []), [44], 2343033, [(2, (-11774))], []),
  (44, ([rv_r 16, rv_i 0 0, rv_i 0 199, rv_i (-1) 255], [], []), [45], 2343032, [(2, (-11774))], []),
  (45, ([rv_r 16, rv_i 0 0, rv_i 1 200, rv_i (-1) 255], [], []), [8], 2354805, [(2, (-11774))], []),
  (46, ([rv_r 16, rv_i 0 0, rv_i 0 200, rv_u], [], []), [47], 1, [], []),
  (47, ([rv_r 16, rv_i 0 0, rv_i 0 200, rv_u], [rv_i 1 1], []), [], 0, [], [])]
def n_X3_readTerm_0 : List rv_N := n_X3_readTerm_0_0 ++ (n_X3_readTerm_0_1 ++ (n_X3_readTerm_0_2))
noncomputable def gn_X3_readTerm_0 : Nat → Option rv_N := rv_ap 16 (rv_at n_X3_readTerm_0_0) (rv_ap 16 (rv_at n_X3_readTerm_0_1) (rv_at n_X3_readTerm_0_2))
theorem hn_X3_readTerm_0 : ∀ i : Nat, n_X3_readTerm_0[i]? = gn_X3_readTerm_0 i := rv_ap_eq (l := n_X3_readTerm_0_0) (c := 16) (rv_ap_eq (l := n_X3_readTerm_0_1) (c := 16) (rv_at_eq n_X3_readTerm_0_2) rfl) rfl
set_option maxRecDepth 100000 in
theorem a_X3_readTerm_0 : rv_all (fm_tm, flX3, fm_wr, kcX3, klX3, K_X3_readTerm_0.2.2.1, [], 4) ct_X3_readTerm_0 cd_X3_readTerm n_X3_readTerm_0 K_X3_readTerm_0 [] 0 n_X3_readTerm_0 = true := rv_fast hn_X3_readTerm_0 hc_X3_readTerm (by decide +kernel)
theorem m_X3_readTerm_0 {l : Launch} {D : va_G} {ad : Nat → Nat} {cy : Nat → ClassId} {Z : State → Heap → Prop} {Gp : fm_V → Prop} (hAd : fm_Ad fm_tm ad) (hZ : fm_Zk (fm_A fm_tm ad) Z) (hGd : fm_Gd Gp) : rv_Met l D fm_cl fm_tm ad cy fm_nt Z Gp yX3_readTerm (.code yX3_readTerm prog_5_method_13_code 4 (some .boolean) :: fm_Ts) { frames := 23, cells := 0, slots := 0, locals := 2300 } K_X3_readTerm_0 := rv_met hAd hZ (Or.inl (by decide +kernel)) evX3 dc_X3_readTerm a_X3_readTerm_0 ⟨rfl, rfl, rfl⟩ (by decide +kernel) (by decide +kernel) (by decide) (fm_gm hGd (by decide +kernel)) (Or.inr ⟨rfl, by decide, by decide⟩) (fun p e s m args below meth c Q X Y => List.forall_mem_cons.mpr ⟨rv_ctV X Y fm_Ts_good dc_X3_readTerm (pc := 2) (i := 2) (idx := 122) rfl (m_X3_readFactor_0 hAd hZ hGd) wl_X3_122 wm_X3_readFactor wy_X3_readFactor (by decide) ⟨rfl, rfl, rfl⟩ ⟨rfl, rfl⟩, List.forall_mem_cons.mpr ⟨rv_ctV X Y fm_Ts_good dc_X3_readTerm (pc := 20) (i := 12) (idx := 39) rfl (m_X3_next_0 hAd hZ hGd) wl_X3_39 wm_X3_next wy_X3_next (by decide) ⟨rfl, rfl, rfl⟩ ⟨rfl, rfl⟩, List.forall_mem_cons.mpr ⟨rv_ctV X Y fm_Ts_good dc_X3_readTerm (pc := 29) (i := 16) (idx := 39) rfl (m_X3_next_0 hAd hZ hGd) wl_X3_39 wm_X3_next wy_X3_next (by decide) ⟨rfl, rfl, rfl⟩ ⟨rfl, rfl⟩, List.forall_mem_cons.mpr ⟨rv_ctV X Y fm_Ts_good dc_X3_readTerm (pc := 38) (i := 20) (idx := 39) rfl (m_X3_next_0 hAd hZ hGd) wl_X3_39 wm_X3_next wy_X3_next (by decide) ⟨rfl, rfl, rfl⟩ ⟨rfl, rfl⟩, List.forall_mem_cons.mpr ⟨rv_ctV X Y fm_Ts_good dc_X3_readTerm (pc := 47) (i := 24) (idx := 39) rfl (m_X3_next_0 hAd hZ hGd) wl_X3_39 wm_X3_next wy_X3_next (by decide) ⟨rfl, rfl, rfl⟩ ⟨rfl, rfl⟩, List.forall_mem_cons.mpr ⟨rv_ctV X Y fm_Ts_good dc_X3_readTerm (pc := 63) (i := 34) (idx := 122) rfl (m_X3_readFactor_0 hAd hZ hGd) wl_X3_122 wm_X3_readFactor wy_X3_readFactor (by decide) ⟨rfl, rfl, rfl⟩ ⟨rfl, rfl⟩, List.forall_mem_cons.mpr ⟨rv_ctV X Y fm_Ts_good dc_X3_readTerm (pc := 77) (i := 42) (idx := 108) rfl (m_X1_putStep_0 hAd hZ hGd) wl_X3_108 wm_X1_putStep wy_X1_putStep (by decide) ⟨rfl, rfl, rfl⟩ ⟨rfl, rfl⟩, fun _ h => absurd h List.not_mem_nil⟩⟩⟩⟩⟩⟩⟩) (fun _ _ _ _ _ _ _ _ _ _ _ _ _ _ _ _ h => absurd h List.not_mem_nil)
def K_X3_readSum_0 : rv_K := ([rv_r 16, rv_i 0 0], [], [(16, 3), (16, 4), (17, 2), (18, 9999), (19, 9999)], [(0, 0, 1)], [], [])
def ct_X3_readSum_0 : List (Nat × rv_K) := [(2, K_X3_readTerm_0), (12, K_X3_next_0), (16, K_X3_next_0), (20, K_X3_next_0), (30, K_X3_readTerm_0), (38, K_X1_putStep_0)]
def n_X3_readSum_0_0 : List rv_N := [
  (0, ([rv_r 16, rv_i 0 0, rv_u, rv_u], [], []), [1], 2192410, [], []),
  (1, ([rv_r 16, rv_i 0 0, rv_u, rv_u], [rv_r 16], []), [2], 2192409, [], []),
  (2, ([rv_r 16, rv_i 0 0, rv_u, rv_u], [(1, 0, 0, 0, [(.inl 1, 0)], []), rv_r 16], []), [3], 2192408, [], [0]),
  (3, ([rv_r 16, rv_i 0 0, rv_u, rv_u], [rv_i 0 1], []), [4, 6], 2192407, [], []),
  (4, ([rv_r 16, rv_i 0 0, rv_u, rv_u], [], []), [5], 1, [], []),
  (5, ([rv_r 16, rv_i 0 0, rv_u, rv_u], [rv_i 0 0], []), [], 0, [], []),
  (6, ([rv_r 16, rv_i 0 0, rv_u, rv_u], [], []), [7], 2192406, [], []),
  (7, ([rv_r 16, rv_i 0 0, rv_u, rv_u], [rv_i 0 0], []), [8], 2192405, [], []),
  (8, ([rv_r 16, rv_i 0 0, rv_i 0 200, rv_u], [], []), [9], 2192404, [(2, (-10962))], []),
  (9, ([rv_r 16, rv_i 0 0, rv_i 0 200, rv_u], [(1, 0, 0, 200, [(.inl 2, 0)], [])], []), [10], 2192403, [(2, (-10962))], []),
  (10, ([rv_r 16, rv_i 0 0, rv_i 0 200, rv_u], [rv_i 200 200, (1, 0, 0, 200, [(.inl 2, 0)], [])], []), [11, 42], 2192402, [(2, (-10962))], []),
  (11, ([rv_r 16, rv_i 0 0, rv_i 0 199, rv_u], [], []), [12], 2181471, [(2, (-10962))], []),
  (12, ([rv_r 16, rv_i 0 0, rv_i 0 199, rv_u], [rv_r 16], []), [13], 2181470, [(2, (-10962))], [1]),
  (13, ([rv_r 16, rv_i 0 0, rv_i 0 199, rv_u], [rv_i (-1) 255], []), [14], 2181469, [(2, (-10962))], []),
  (14, ([rv_r 16, rv_i 0 0, rv_i 0 199, rv_u], [rv_i 43 43, rv_i (-1) 255], []), [15, 19], 2181468, [(2, (-10962))], []),
  (15, ([rv_r 16, rv_i 0 0, rv_i 0 199, rv_u], [], []), [16], 2181467, [(2, (-10962))], [])]
def n_X3_readSum_0_1 : List rv_N := [
  (16, ([rv_r 16, rv_i 0 0, rv_i 0 199, rv_u], [rv_r 16], []), [17], 2181466, [(2, (-10962))], [2]),
  (17, ([rv_r 16, rv_i 0 0, rv_i 0 199, rv_u], [rv_i (-1) 255], []), [18], 2181465, [(2, (-10962))], []),
  (18, ([rv_r 16, rv_i 0 0, rv_i 0 199, rv_u], [rv_i 45 45, rv_i (-1) 255], []), [19, 42], 2181464, [(2, (-10962))], []),
  (19, ([rv_r 16, rv_i 0 0, rv_i 0 199, rv_u], [], []), [20], 2181463, [(2, (-10962))], []),
  (20, ([rv_r 16, rv_i 0 0, rv_i 0 199, rv_u], [rv_r 16], []), [21], 2181462, [(2, (-10962))], [3]),
  (21, ([rv_r 16, rv_i 0 0, rv_i 0 199, rv_u], [rv_i (-1) 255], []), [22], 2181461, [(2, (-10962))], []),
  (22, ([rv_r 16, rv_i 0 0, rv_i 0 199, rv_i (-1) 255], [], []), [23], 2181460, [(2, (-10962))], []),
  (23, ([rv_r 16, rv_i 0 0, rv_i 0 199, rv_i (-1) 255], [rv_r 16], []), [24], 2181459, [(2, (-10962))], []),
  (24, ([rv_r 16, rv_i 0 0, rv_i 0 199, rv_i (-1) 255], [rv_r 16, rv_r 16], []), [25], 2181458, [(2, (-10962))], []),
  (25, ([rv_r 16, rv_i 0 0, rv_i 0 199, rv_i (-1) 255], [(1, 0, (-2147483648), 2147483647, [(.inr (16, 3), 0)], []), rv_r 16], []), [26], 2181457, [(2, (-10962))], []),
  (26, ([rv_r 16, rv_i 0 0, rv_i 0 199, rv_i (-1) 255], [rv_i 1 1, (1, 0, (-2147483648), 2147483647, [(.inr (16, 3), 0)], []), rv_r 16], []), [27], 2181456, [(2, (-10962))], []),
  (27, ([rv_r 16, rv_i 0 0, rv_i 0 199, rv_i (-1) 255], [(1, 0, (-2147483648), 2147483647, [(.inr (16, 3), 1)], []), rv_r 16], []), [28], 2181455, [(2, (-10962))], []),
  (28, ([rv_r 16, rv_i 0 0, rv_i 0 199, rv_i (-1) 255], [], []), [29], 2181454, [(2, (-10962))], []),
  (29, ([rv_r 16, rv_i 0 0, rv_i 0 199, rv_i (-1) 255], [rv_r 16], []), [30], 2181453, [(2, (-10962))], []),
  (30, ([rv_r 16, rv_i 0 0, rv_i 0 199, rv_i (-1) 255], [(1, 0, 0, 0, [(.inl 1, 0)], []), rv_r 16], []), [31], 2181452, [(2, (-10962))], [4]),
  (31, ([rv_r 16, rv_i 0 0, rv_i 0 199, rv_i (-1) 255], [rv_i 0 1], []), [32, 34], 2181451, [(2, (-10962))], [])]
def n_X3_readSum_0_2 : List rv_N := [
  (32, ([rv_r 16, rv_i 0 0, rv_i 0 199, rv_i (-1) 255], [], []), [33], 1, [], []),
  (33, ([rv_r 16, rv_i 0 0, rv_i 0 199, rv_i (-1) 255], [rv_i 0 0], []), [], 0, [], []),
  (34, ([rv_r 16, rv_i 0 0, rv_i 0 199, rv_i (-1) 255], [], []), [35], 2181450, [(2, (-10962))], []),
  (35, ([rv_r 16, rv_i 0 0, rv_i 0 199, rv_i (-1) 255], [rv_r 16], []), [36], 2181449, [(2, (-10962))], []),
  (36, ([rv_r 16, rv_i 0 0, rv_i 0 199, rv_i (-1) 255], [rv_r 17], []), [37], 2181448, [(2, (-10962))], []),
  (37, ([rv_r 16, rv_i 0 0, rv_i 0 199, rv_i (-1) 255], [(1, 0, (-1), 255, [(.inl 3, 0)], []), rv_r 17], []), [38], 2181447, [(2, (-10962))], []),
  (38, ([rv_r 16, rv_i 0 0, rv_i 0 199, rv_i (-1) 255], [rv_i 0 0, (1, 0, (-1), 255, [(.inl 3, 0)], []), rv_r 17], []), [39], 2181446, [(2, (-10962))], [5]),
  (39, ([rv_r 16, rv_i 0 0, rv_i 0 199, rv_i (-1) 255], [rv_i (-1) 199], []), [40], 2181445, [(2, (-10962))], []),
  (40, ([rv_r 16, rv_i 0 0, rv_i 0 199, rv_i (-1) 255], [], []), [41], 2181444, [(2, (-10962))], []),
  (41, ([rv_r 16, rv_i 0 0, rv_i 1 200, rv_i (-1) 255], [], []), [8], 2192405, [(2, (-10962))], []),
  (42, ([rv_r 16, rv_i 0 0, rv_i 0 200, rv_u], [], []), [43], 1, [], []),
  (43, ([rv_r 16, rv_i 0 0, rv_i 0 200, rv_u], [rv_i 1 1], []), [], 0, [], [])]
def n_X3_readSum_0 : List rv_N := n_X3_readSum_0_0 ++ (n_X3_readSum_0_1 ++ (n_X3_readSum_0_2))
noncomputable def gn_X3_readSum_0 : Nat → Option rv_N := rv_ap 16 (rv_at n_X3_readSum_0_0) (rv_ap 16 (rv_at n_X3_readSum_0_1) (rv_at n_X3_readSum_0_2))
theorem hn_X3_readSum_0 : ∀ i : Nat, n_X3_readSum_0[i]? = gn_X3_readSum_0 i := rv_ap_eq (l := n_X3_readSum_0_0) (c := 16) (rv_ap_eq (l := n_X3_readSum_0_1) (c := 16) (rv_at_eq n_X3_readSum_0_2) rfl) rfl
set_option maxRecDepth 100000 in
theorem a_X3_readSum_0 : rv_all (fm_tm, flX3, fm_wr, kcX3, klX3, K_X3_readSum_0.2.2.1, [], 4) ct_X3_readSum_0 cd_X3_readSum n_X3_readSum_0 K_X3_readSum_0 [] 0 n_X3_readSum_0 = true := rv_fast hn_X3_readSum_0 hc_X3_readSum (by decide +kernel)
theorem m_X3_readSum_0 {l : Launch} {D : va_G} {ad : Nat → Nat} {cy : Nat → ClassId} {Z : State → Heap → Prop} {Gp : fm_V → Prop} (hAd : fm_Ad fm_tm ad) (hZ : fm_Zk (fm_A fm_tm ad) Z) (hGd : fm_Gd Gp) : rv_Met l D fm_cl fm_tm ad cy fm_nt Z Gp yX3_readSum (.code yX3_readSum prog_5_method_12_code 4 (some .boolean) :: fm_Ts) { frames := 24, cells := 0, slots := 0, locals := 2400 } K_X3_readSum_0 := rv_met hAd hZ (Or.inl (by decide +kernel)) evX3 dc_X3_readSum a_X3_readSum_0 ⟨rfl, rfl, rfl⟩ (by decide +kernel) (by decide +kernel) (by decide) (fm_gm hGd (by decide +kernel)) (Or.inr ⟨rfl, by decide, by decide⟩) (fun p e s m args below meth c Q X Y => List.forall_mem_cons.mpr ⟨rv_ctV X Y fm_Ts_good dc_X3_readSum (pc := 2) (i := 2) (idx := 119) rfl (m_X3_readTerm_0 hAd hZ hGd) wl_X3_119 wm_X3_readTerm wy_X3_readTerm (by decide) ⟨rfl, rfl, rfl⟩ ⟨rfl, rfl⟩, List.forall_mem_cons.mpr ⟨rv_ctV X Y fm_Ts_good dc_X3_readSum (pc := 20) (i := 12) (idx := 39) rfl (m_X3_next_0 hAd hZ hGd) wl_X3_39 wm_X3_next wy_X3_next (by decide) ⟨rfl, rfl, rfl⟩ ⟨rfl, rfl⟩, List.forall_mem_cons.mpr ⟨rv_ctV X Y fm_Ts_good dc_X3_readSum (pc := 29) (i := 16) (idx := 39) rfl (m_X3_next_0 hAd hZ hGd) wl_X3_39 wm_X3_next wy_X3_next (by decide) ⟨rfl, rfl, rfl⟩ ⟨rfl, rfl⟩, List.forall_mem_cons.mpr ⟨rv_ctV X Y fm_Ts_good dc_X3_readSum (pc := 38) (i := 20) (idx := 39) rfl (m_X3_next_0 hAd hZ hGd) wl_X3_39 wm_X3_next wy_X3_next (by decide) ⟨rfl, rfl, rfl⟩ ⟨rfl, rfl⟩, List.forall_mem_cons.mpr ⟨rv_ctV X Y fm_Ts_good dc_X3_readSum (pc := 54) (i := 30) (idx := 119) rfl (m_X3_readTerm_0 hAd hZ hGd) wl_X3_119 wm_X3_readTerm wy_X3_readTerm (by decide) ⟨rfl, rfl, rfl⟩ ⟨rfl, rfl⟩, List.forall_mem_cons.mpr ⟨rv_ctV X Y fm_Ts_good dc_X3_readSum (pc := 68) (i := 38) (idx := 108) rfl (m_X1_putStep_0 hAd hZ hGd) wl_X3_108 wm_X1_putStep wy_X1_putStep (by decide) ⟨rfl, rfl, rfl⟩ ⟨rfl, rfl⟩, fun _ h => absurd h List.not_mem_nil⟩⟩⟩⟩⟩⟩) (fun _ _ _ _ _ _ _ _ _ _ _ _ _ _ _ _ h => absurd h List.not_mem_nil)
def cd_X3_readPiece : List (Nat × Instr × Nat) := [(0, .aload_n 0, 1), (1, .invokevirtual 39, 3), (4, .istore_n 2, 1), (5, .iload_n 2, 1), (6, .bipush 33, 2), (8, .if_icmp .ne 37, 3), (11, .aload_n 0, 1), (12, .bipush 33, 2), (14, .iload_n 1, 1), (15, .invokevirtual 79, 3), (18, .ifCond .eq 13, 3), (21, .aload_n 0, 1), (22, .iload_n 1, 1), (23, .iconst 1, 1), (24, .iadd, 1), (25, .invokevirtual 116, 3), (28, .ifCond .ne 5, 3), (31, .iconst 0, 1), (32, .ireturn, 1), (33, .aload_n 0, 1), (34, .getfield 12, 3), (37, .iconst 4, 1), (38, .iconst 0, 1), (39, .invokevirtual 108, 3), (42, .pop, 1), (43, .iconst 1, 1), (44, .ireturn, 1), (45, .iload_n 2, 1), (46, .bipush 40, 2), (48, .if_icmp .ne 38, 3), (51, .aload_n 0, 1), (52, .bipush 40, 2), (54, .iload_n 1, 1), (55, .invokevirtual 79, 3), (58, .ifCond .eq 26, 3), (61, .aload_n 0, 1), (62, .iload_n 1, 1), (63, .iconst 1, 1), (64, .iadd, 1), (65, .invokevirtual 83, 3), (68, .ifCond .eq 16, 3), (71, .aload_n 0, 1), (72, .bipush 41, 2), (74, .invokevirtual 86, 3), (77, .ifCond .eq 7, 3), (80, .iconst 1, 1), (81, .goto 4, 3), (84, .iconst 0, 1), (85, .ireturn, 1), (86, .aload_n 0, 1), (87, .iload_n 1, 1), (88, .invokevirtual 73, 3), (91, .ifCond .ne 5, 3), (94, .iconst 0, 1), (95, .ireturn, 1), (96, .aload_n 0, 1), (97, .invokevirtual 39, 3), (100, .istore_n 3, 1), (101, .iload_n 3, 1), (102, .bipush 60, 2), (104, .if_icmp .eq 21, 3), (107, .iload_n 3, 1), (108, .bipush 62, 2), (110, .if_icmp .eq 15, 3), (113, .iload_n 3, 1), (114, .bipush 61, 2), (116, .if_icmp .eq 9, 3), (119, .aload_n 0, 1), (120, .iconst 1, 1), (121, .invokevirtual 43, 3), (124, .ireturn, 1), (125, .aload_n 0, 1), (126, .dup, 1), (127, .getfield 22, 3), (130, .iconst 1, 1), (131, .iadd, 1), (132, .putfield 22, 3), (135, .aload_n 0, 1), (136, .iload_n 1, 1), (137, .invokevirtual 73, 3), (140, .ifCond .ne 5, 3), (143, .iconst 0, 1), (144, .ireturn, 1), (145, .aload_n 0, 1), (146, .getfield 12, 3), (149, .iload_n 3, 1), (150, .iconst 0, 1), (151, .invokevirtual 108, 3), (154, .pop, 1), (155, .iconst 1, 1), (156, .ireturn, 1)]
theorem dc_X3_readPiece : ∀ q ∈ cd_X3_readPiece, decode prog_5_method_11_code q.1 = .ok (q.2.1, q.2.2) := by decide +kernel
def ch_X3_readPiece_0 : List (Nat × Instr × Nat) := [(0, .aload_n 0, 1), (1, .invokevirtual 39, 3), (4, .istore_n 2, 1), (5, .iload_n 2, 1), (6, .bipush 33, 2), (8, .if_icmp .ne 37, 3), (11, .aload_n 0, 1), (12, .bipush 33, 2), (14, .iload_n 1, 1), (15, .invokevirtual 79, 3), (18, .ifCond .eq 13, 3), (21, .aload_n 0, 1), (22, .iload_n 1, 1), (23, .iconst 1, 1), (24, .iadd, 1), (25, .invokevirtual 116, 3)]
def ch_X3_readPiece_1 : List (Nat × Instr × Nat) := [(28, .ifCond .ne 5, 3), (31, .iconst 0, 1), (32, .ireturn, 1), (33, .aload_n 0, 1), (34, .getfield 12, 3), (37, .iconst 4, 1), (38, .iconst 0, 1), (39, .invokevirtual 108, 3), (42, .pop, 1), (43, .iconst 1, 1), (44, .ireturn, 1), (45, .iload_n 2, 1), (46, .bipush 40, 2), (48, .if_icmp .ne 38, 3), (51, .aload_n 0, 1), (52, .bipush 40, 2)]
def ch_X3_readPiece_2 : List (Nat × Instr × Nat) := [(54, .iload_n 1, 1), (55, .invokevirtual 79, 3), (58, .ifCond .eq 26, 3), (61, .aload_n 0, 1), (62, .iload_n 1, 1), (63, .iconst 1, 1), (64, .iadd, 1), (65, .invokevirtual 83, 3), (68, .ifCond .eq 16, 3), (71, .aload_n 0, 1), (72, .bipush 41, 2), (74, .invokevirtual 86, 3), (77, .ifCond .eq 7, 3), (80, .iconst 1, 1), (81, .goto 4, 3), (84, .iconst 0, 1)]
def ch_X3_readPiece_3 : List (Nat × Instr × Nat) := [(85, .ireturn, 1), (86, .aload_n 0, 1), (87, .iload_n 1, 1), (88, .invokevirtual 73, 3), (91, .ifCond .ne 5, 3), (94, .iconst 0, 1), (95, .ireturn, 1), (96, .aload_n 0, 1), (97, .invokevirtual 39, 3), (100, .istore_n 3, 1), (101, .iload_n 3, 1), (102, .bipush 60, 2), (104, .if_icmp .eq 21, 3), (107, .iload_n 3, 1), (108, .bipush 62, 2), (110, .if_icmp .eq 15, 3)]
def ch_X3_readPiece_4 : List (Nat × Instr × Nat) := [(113, .iload_n 3, 1), (114, .bipush 61, 2), (116, .if_icmp .eq 9, 3), (119, .aload_n 0, 1), (120, .iconst 1, 1), (121, .invokevirtual 43, 3), (124, .ireturn, 1), (125, .aload_n 0, 1), (126, .dup, 1), (127, .getfield 22, 3), (130, .iconst 1, 1), (131, .iadd, 1), (132, .putfield 22, 3), (135, .aload_n 0, 1), (136, .iload_n 1, 1), (137, .invokevirtual 73, 3)]
def ch_X3_readPiece_5 : List (Nat × Instr × Nat) := [(140, .ifCond .ne 5, 3), (143, .iconst 0, 1), (144, .ireturn, 1), (145, .aload_n 0, 1), (146, .getfield 12, 3), (149, .iload_n 3, 1), (150, .iconst 0, 1), (151, .invokevirtual 108, 3), (154, .pop, 1), (155, .iconst 1, 1), (156, .ireturn, 1)]
set_option maxRecDepth 100000 in
theorem he_X3_readPiece : cd_X3_readPiece = ch_X3_readPiece_0 ++ (ch_X3_readPiece_1 ++ (ch_X3_readPiece_2 ++ (ch_X3_readPiece_3 ++ (ch_X3_readPiece_4 ++ (ch_X3_readPiece_5))))) := rfl
noncomputable def gc_X3_readPiece : Nat → Option (Nat × Instr × Nat) := rv_ap 16 (rv_at ch_X3_readPiece_0) (rv_ap 16 (rv_at ch_X3_readPiece_1) (rv_ap 16 (rv_at ch_X3_readPiece_2) (rv_ap 16 (rv_at ch_X3_readPiece_3) (rv_ap 16 (rv_at ch_X3_readPiece_4) (rv_at ch_X3_readPiece_5)))))
theorem hc_X3_readPiece : ∀ i : Nat, cd_X3_readPiece[i]? = gc_X3_readPiece i := by
  rw [he_X3_readPiece]
  exact rv_ap_eq (l := ch_X3_readPiece_0) (c := 16) (rv_ap_eq (l := ch_X3_readPiece_1) (c := 16) (rv_ap_eq (l := ch_X3_readPiece_2) (c := 16) (rv_ap_eq (l := ch_X3_readPiece_3) (c := 16) (rv_ap_eq (l := ch_X3_readPiece_4) (c := 16) (rv_at_eq ch_X3_readPiece_5) rfl) rfl) rfl) rfl) rfl
def K_X3_readPiece_5 : rv_K := ([rv_r 16, rv_i 6 6], [], [(16, 3), (16, 4), (17, 2), (18, 9999), (19, 9999)], [(0, 0, 1)], [], [])
def ct_X3_readPiece_5 : List (Nat × rv_K) := [(1, K_X3_next_0), (9, K_X3_open_0), (33, K_X3_open_0), (51, K_X3_readSum_6), (56, K_X3_next_0), (69, K_X3_fail_0), (79, K_X3_readSum_6), (87, K_X1_putStep_0)]
def n_X3_readPiece_5_0 : List rv_N := [
  (0, ([rv_r 16, rv_i 6 6, rv_u, rv_u], [], []), [1], 42, [], []),
  (1, ([rv_r 16, rv_i 6 6, rv_u, rv_u], [rv_r 16], []), [2], 41, [], [0]),
  (2, ([rv_r 16, rv_i 6 6, rv_u, rv_u], [rv_i (-1) 255], []), [3], 40, [], []),
  (3, ([rv_r 16, rv_i 6 6, rv_i (-1) 255, rv_u], [], []), [4], 39, [], []),
  (4, ([rv_r 16, rv_i 6 6, rv_i (-1) 255, rv_u], [(1, 0, (-1), 255, [(.inl 2, 0)], [])], []), [5], 38, [], []),
  (5, ([rv_r 16, rv_i 6 6, rv_i (-1) 255, rv_u], [rv_i 33 33, (1, 0, (-1), 255, [(.inl 2, 0)], [])], []), [6, 13], 37, [], []),
  (6, ([rv_r 16, rv_i 6 6, rv_i 33 33, rv_u], [], []), [7], 6, [], []),
  (7, ([rv_r 16, rv_i 6 6, rv_i 33 33, rv_u], [rv_r 16], []), [8], 5, [], []),
  (8, ([rv_r 16, rv_i 6 6, rv_i 33 33, rv_u], [rv_i 33 33, rv_r 16], []), [9], 4, [], []),
  (9, ([rv_r 16, rv_i 6 6, rv_i 33 33, rv_u], [(1, 0, 6, 6, [(.inl 1, 0)], []), rv_i 33 33, rv_r 16], []), [10], 3, [], [1]),
  (10, ([rv_r 16, rv_i 6 6, rv_i 33 33, rv_u], [(1, 0, 0, 1, [], [(.inl 1, (-2147483648), 5)])], []), [11], 2, [], []),
  (17, ([rv_r 16, rv_i 6 6, rv_i 33 33, rv_u], [], []), [12], 1, [], []),
  (18, ([rv_r 16, rv_i 6 6, rv_i 33 33, rv_u], [rv_i 0 0], []), [], 0, [], []),
  (27, ([rv_r 16, rv_i 6 6, rv_i (-1) 255, rv_u], [], []), [14], 36, [], []),
  (28, ([rv_r 16, rv_i 6 6, rv_i (-1) 255, rv_u], [(1, 0, (-1), 255, [(.inl 2, 0)], [])], []), [15], 35, [], []),
  (29, ([rv_r 16, rv_i 6 6, rv_i (-1) 255, rv_u], [rv_i 40 40, (1, 0, (-1), 255, [(.inl 2, 0)], [])], []), [16, 23], 34, [], [])]
def n_X3_readPiece_5_1 : List rv_N := [
  (30, ([rv_r 16, rv_i 6 6, rv_i 40 40, rv_u], [], []), [17], 6, [], []),
  (31, ([rv_r 16, rv_i 6 6, rv_i 40 40, rv_u], [rv_r 16], []), [18], 5, [], []),
  (32, ([rv_r 16, rv_i 6 6, rv_i 40 40, rv_u], [rv_i 40 40, rv_r 16], []), [19], 4, [], []),
  (33, ([rv_r 16, rv_i 6 6, rv_i 40 40, rv_u], [(1, 0, 6, 6, [(.inl 1, 0)], []), rv_i 40 40, rv_r 16], []), [20], 3, [], [2]),
  (34, ([rv_r 16, rv_i 6 6, rv_i 40 40, rv_u], [(1, 0, 0, 1, [], [(.inl 1, (-2147483648), 5)])], []), [21], 2, [], []),
  (47, ([rv_r 16, rv_i 6 6, rv_i 40 40, rv_u], [], []), [22], 1, [], []),
  (48, ([rv_r 16, rv_i 6 6, rv_i 40 40, rv_u], [rv_i 0 0], []), [], 0, [], []),
  (49, ([rv_r 16, rv_i 6 6, rv_i (-1) 255, rv_u], [], []), [24], 33, [], []),
  (50, ([rv_r 16, rv_i 6 6, rv_i (-1) 255, rv_u], [rv_r 16], []), [25], 32, [], []),
  (51, ([rv_r 16, rv_i 6 6, rv_i (-1) 255, rv_u], [(1, 0, 6, 6, [(.inl 1, 0)], []), rv_r 16], []), [26], 31, [], [3]),
  (52, ([rv_r 16, rv_i 6 6, rv_i (-1) 255, rv_u], [rv_i 0 1], []), [27, 29], 30, [], []),
  (53, ([rv_r 16, rv_i 6 6, rv_i (-1) 255, rv_u], [], []), [28], 1, [], []),
  (54, ([rv_r 16, rv_i 6 6, rv_i (-1) 255, rv_u], [rv_i 0 0], []), [], 0, [], []),
  (55, ([rv_r 16, rv_i 6 6, rv_i (-1) 255, rv_u], [], []), [30], 29, [], []),
  (56, ([rv_r 16, rv_i 6 6, rv_i (-1) 255, rv_u], [rv_r 16], []), [31], 28, [], [4]),
  (57, ([rv_r 16, rv_i 6 6, rv_i (-1) 255, rv_u], [rv_i (-1) 255], []), [32], 27, [], [])]
def n_X3_readPiece_5_2 : List rv_N := [
  (58, ([rv_r 16, rv_i 6 6, rv_i (-1) 255, rv_i (-1) 255], [], []), [33], 26, [], []),
  (59, ([rv_r 16, rv_i 6 6, rv_i (-1) 255, rv_i (-1) 255], [(1, 0, (-1), 255, [(.inl 3, 0)], [])], []), [34], 25, [], []),
  (60, ([rv_r 16, rv_i 6 6, rv_i (-1) 255, rv_i (-1) 255], [rv_i 60 60, (1, 0, (-1), 255, [(.inl 3, 0)], [])], []), [35, 45], 24, [], []),
  (61, ([rv_r 16, rv_i 6 6, rv_i (-1) 255, rv_i (-1) 255], [], []), [36], 23, [], []),
  (62, ([rv_r 16, rv_i 6 6, rv_i (-1) 255, rv_i (-1) 255], [(1, 0, (-1), 255, [(.inl 3, 0)], [])], []), [37], 22, [], []),
  (63, ([rv_r 16, rv_i 6 6, rv_i (-1) 255, rv_i (-1) 255], [rv_i 62 62, (1, 0, (-1), 255, [(.inl 3, 0)], [])], []), [38, 45], 21, [], []),
  (64, ([rv_r 16, rv_i 6 6, rv_i (-1) 255, rv_i (-1) 255], [], []), [39], 20, [], []),
  (65, ([rv_r 16, rv_i 6 6, rv_i (-1) 255, rv_i (-1) 255], [(1, 0, (-1), 255, [(.inl 3, 0)], [])], []), [40], 19, [], []),
  (66, ([rv_r 16, rv_i 6 6, rv_i (-1) 255, rv_i (-1) 255], [rv_i 61 61, (1, 0, (-1), 255, [(.inl 3, 0)], [])], []), [41, 45], 18, [], []),
  (67, ([rv_r 16, rv_i 6 6, rv_i (-1) 255, rv_i (-1) 255], [], []), [42], 3, [], []),
  (68, ([rv_r 16, rv_i 6 6, rv_i (-1) 255, rv_i (-1) 255], [rv_r 16], []), [43], 2, [], []),
  (69, ([rv_r 16, rv_i 6 6, rv_i (-1) 255, rv_i (-1) 255], [rv_i 1 1, rv_r 16], []), [44], 1, [], [5]),
  (70, ([rv_r 16, rv_i 6 6, rv_i (-1) 255, rv_i (-1) 255], [rv_i 0 0], []), [], 0, [], []),
  (71, ([rv_r 16, rv_i 6 6, rv_i (-1) 255, rv_i 60 62], [], []), [46], 17, [], []),
  (72, ([rv_r 16, rv_i 6 6, rv_i (-1) 255, rv_i 60 62], [rv_r 16], []), [47], 16, [], []),
  (73, ([rv_r 16, rv_i 6 6, rv_i (-1) 255, rv_i 60 62], [rv_r 16, rv_r 16], []), [48], 15, [], [])]
def n_X3_readPiece_5_3 : List rv_N := [
  (74, ([rv_r 16, rv_i 6 6, rv_i (-1) 255, rv_i 60 62], [(1, 0, (-2147483648), 2147483647, [(.inr (16, 3), 0)], []), rv_r 16], []), [49], 14, [], []),
  (75, ([rv_r 16, rv_i 6 6, rv_i (-1) 255, rv_i 60 62], [rv_i 1 1, (1, 0, (-2147483648), 2147483647, [(.inr (16, 3), 0)], []), rv_r 16], []), [50], 13, [], []),
  (76, ([rv_r 16, rv_i 6 6, rv_i (-1) 255, rv_i 60 62], [(1, 0, (-2147483648), 2147483647, [(.inr (16, 3), 1)], []), rv_r 16], []), [51], 12, [], []),
  (77, ([rv_r 16, rv_i 6 6, rv_i (-1) 255, rv_i 60 62], [], []), [52], 11, [], []),
  (78, ([rv_r 16, rv_i 6 6, rv_i (-1) 255, rv_i 60 62], [rv_r 16], []), [53], 10, [], []),
  (79, ([rv_r 16, rv_i 6 6, rv_i (-1) 255, rv_i 60 62], [(1, 0, 6, 6, [(.inl 1, 0)], []), rv_r 16], []), [54], 9, [], [6]),
  (80, ([rv_r 16, rv_i 6 6, rv_i (-1) 255, rv_i 60 62], [rv_i 0 1], []), [55, 57], 8, [], []),
  (81, ([rv_r 16, rv_i 6 6, rv_i (-1) 255, rv_i 60 62], [], []), [56], 1, [], []),
  (82, ([rv_r 16, rv_i 6 6, rv_i (-1) 255, rv_i 60 62], [rv_i 0 0], []), [], 0, [], []),
  (83, ([rv_r 16, rv_i 6 6, rv_i (-1) 255, rv_i 60 62], [], []), [58], 7, [], []),
  (84, ([rv_r 16, rv_i 6 6, rv_i (-1) 255, rv_i 60 62], [rv_r 16], []), [59], 6, [], []),
  (85, ([rv_r 16, rv_i 6 6, rv_i (-1) 255, rv_i 60 62], [rv_r 17], []), [60], 5, [], []),
  (86, ([rv_r 16, rv_i 6 6, rv_i (-1) 255, rv_i 60 62], [(1, 0, 60, 62, [(.inl 3, 0)], []), rv_r 17], []), [61], 4, [], []),
  (87, ([rv_r 16, rv_i 6 6, rv_i (-1) 255, rv_i 60 62], [rv_i 0 0, (1, 0, 60, 62, [(.inl 3, 0)], []), rv_r 17], []), [62], 3, [], [7]),
  (88, ([rv_r 16, rv_i 6 6, rv_i (-1) 255, rv_i 60 62], [rv_i (-1) 199], []), [63], 2, [], []),
  (89, ([rv_r 16, rv_i 6 6, rv_i (-1) 255, rv_i 60 62], [], []), [64], 1, [], [])]
def n_X3_readPiece_5_4 : List rv_N := [
  (90, ([rv_r 16, rv_i 6 6, rv_i (-1) 255, rv_i 60 62], [rv_i 1 1], []), [], 0, [], [])]
def n_X3_readPiece_5 : List rv_N := n_X3_readPiece_5_0 ++ (n_X3_readPiece_5_1 ++ (n_X3_readPiece_5_2 ++ (n_X3_readPiece_5_3 ++ (n_X3_readPiece_5_4))))
noncomputable def gn_X3_readPiece_5 : Nat → Option rv_N := rv_ap 16 (rv_at n_X3_readPiece_5_0) (rv_ap 16 (rv_at n_X3_readPiece_5_1) (rv_ap 16 (rv_at n_X3_readPiece_5_2) (rv_ap 16 (rv_at n_X3_readPiece_5_3) (rv_at n_X3_readPiece_5_4))))
theorem hn_X3_readPiece_5 : ∀ i : Nat, n_X3_readPiece_5[i]? = gn_X3_readPiece_5 i := rv_ap_eq (l := n_X3_readPiece_5_0) (c := 16) (rv_ap_eq (l := n_X3_readPiece_5_1) (c := 16) (rv_ap_eq (l := n_X3_readPiece_5_2) (c := 16) (rv_ap_eq (l := n_X3_readPiece_5_3) (c := 16) (rv_at_eq n_X3_readPiece_5_4) rfl) rfl) rfl) rfl
set_option maxRecDepth 100000 in
theorem a_X3_readPiece_5 : rv_all (fm_tm, flX3, fm_wr, kcX3, klX3, K_X3_readPiece_5.2.2.1, [], 4) ct_X3_readPiece_5 cd_X3_readPiece n_X3_readPiece_5 K_X3_readPiece_5 [] 0 n_X3_readPiece_5 = true := rv_fast hn_X3_readPiece_5 hc_X3_readPiece (by decide +kernel)
theorem m_X3_readPiece_5 {l : Launch} {D : va_G} {ad : Nat → Nat} {cy : Nat → ClassId} {Z : State → Heap → Prop} {Gp : fm_V → Prop} (hAd : fm_Ad fm_tm ad) (hZ : fm_Zk (fm_A fm_tm ad) Z) (hGd : fm_Gd Gp) : rv_Met l D fm_cl fm_tm ad cy fm_nt Z Gp yX3_readPiece (.code yX3_readPiece prog_5_method_11_code 4 (some .boolean) :: fm_Ts) { frames := 7, cells := 0, slots := 0, locals := 700 } K_X3_readPiece_5 := rv_met hAd hZ (Or.inl (by decide +kernel)) evX3 dc_X3_readPiece a_X3_readPiece_5 ⟨rfl, rfl, rfl⟩ (by decide +kernel) (by decide +kernel) (by decide) (fm_gm hGd (by decide +kernel)) (Or.inr ⟨rfl, by decide, by decide⟩) (fun p e s m args below meth c Q X Y => List.forall_mem_cons.mpr ⟨rv_ctV X Y fm_Ts_good dc_X3_readPiece (pc := 1) (i := 1) (idx := 39) rfl (m_X3_next_0 hAd hZ hGd) wl_X3_39 wm_X3_next wy_X3_next (by decide) ⟨rfl, rfl, rfl⟩ ⟨rfl, rfl⟩, List.forall_mem_cons.mpr ⟨rv_ctV X Y fm_Ts_good dc_X3_readPiece (pc := 15) (i := 9) (idx := 79) rfl (m_X3_open_0 hAd hZ hGd) wl_X3_79 wm_X3_open wy_X3_open (by decide) ⟨rfl, rfl, rfl⟩ ⟨rfl, rfl⟩, List.forall_mem_cons.mpr ⟨rv_ctV X Y fm_Ts_good dc_X3_readPiece (pc := 55) (i := 33) (idx := 79) rfl (m_X3_open_0 hAd hZ hGd) wl_X3_79 wm_X3_open wy_X3_open (by decide) ⟨rfl, rfl, rfl⟩ ⟨rfl, rfl⟩, List.forall_mem_cons.mpr ⟨rv_ctV X Y fm_Ts_good dc_X3_readPiece (pc := 88) (i := 51) (idx := 73) rfl (m_X3_readSum_6 hAd hZ hGd) wl_X3_73 wm_X3_readSum wy_X3_readSum (by decide) ⟨rfl, rfl, rfl⟩ ⟨rfl, rfl⟩, List.forall_mem_cons.mpr ⟨rv_ctV X Y fm_Ts_good dc_X3_readPiece (pc := 97) (i := 56) (idx := 39) rfl (m_X3_next_0 hAd hZ hGd) wl_X3_39 wm_X3_next wy_X3_next (by decide) ⟨rfl, rfl, rfl⟩ ⟨rfl, rfl⟩, List.forall_mem_cons.mpr ⟨rv_ctV X Y fm_Ts_good dc_X3_readPiece (pc := 121) (i := 69) (idx := 43) rfl (m_X3_fail_0 hAd hZ hGd) wl_X3_43 wm_X3_fail wy_X3_fail (by decide) ⟨rfl, rfl, rfl⟩ ⟨rfl, rfl⟩, List.forall_mem_cons.mpr ⟨rv_ctV X Y fm_Ts_good dc_X3_readPiece (pc := 137) (i := 79) (idx := 73) rfl (m_X3_readSum_6 hAd hZ hGd) wl_X3_73 wm_X3_readSum wy_X3_readSum (by decide) ⟨rfl, rfl, rfl⟩ ⟨rfl, rfl⟩, List.forall_mem_cons.mpr ⟨rv_ctV X Y fm_Ts_good dc_X3_readPiece (pc := 151) (i := 87) (idx := 108) rfl (m_X1_putStep_0 hAd hZ hGd) wl_X3_108 wm_X1_putStep wy_X1_putStep (by decide) ⟨rfl, rfl, rfl⟩ ⟨rfl, rfl⟩, fun _ h => absurd h List.not_mem_nil⟩⟩⟩⟩⟩⟩⟩⟩) (fun _ _ _ _ _ _ _ _ _ _ _ _ _ _ _ _ h => absurd h List.not_mem_nil)
def cd_X1_leadToEnd : List (Nat × Instr × Nat) := [(0, .iload_n 1, 1), (1, .ifCond .lt 22, 3), (4, .iload_n 1, 1), (5, .sipush 200, 3), (8, .if_icmp .ge 15, 3), (11, .aload_n 0, 1), (12, .getfield 15, 3), (15, .iload_n 1, 1), (16, .aload_n 0, 1), (17, .getfield 18, 3), (20, .iconst 1, 1), (21, .isub, 1), (22, .iastore, 1), (23, .return_, 1)]
theorem dc_X1_leadToEnd : ∀ q ∈ cd_X1_leadToEnd, decode prog_3_method_5_code q.1 = .ok (q.2.1, q.2.2) := by decide +kernel
def K_X1_leadToEnd_0 : rv_K := ([rv_r 17, rv_full], [], [(19, 9999)], [], [], [])
def ct_X1_leadToEnd_0 : List (Nat × rv_K) := []
def n_X1_leadToEnd_0 : List rv_N := [
  (0, ([rv_r 17, rv_full], [], []), [1], 13, [], []),
  (1, ([rv_r 17, rv_full], [(1, 0, (-2147483648), 2147483647, [(.inl 1, 0)], [])], []), [2, 13], 12, [], []),
  (2, ([rv_r 17, rv_i 0 2147483647], [], []), [3], 11, [], []),
  (3, ([rv_r 17, rv_i 0 2147483647], [(1, 0, 0, 2147483647, [(.inl 1, 0)], [])], []), [4], 10, [], []),
  (4, ([rv_r 17, rv_i 0 2147483647], [rv_i 200 200, (1, 0, 0, 2147483647, [(.inl 1, 0)], [])], []), [5, 13], 9, [], []),
  (5, ([rv_r 17, rv_i 0 199], [], []), [6], 8, [], []),
  (6, ([rv_r 17, rv_i 0 199], [rv_r 17], []), [7], 7, [], []),
  (7, ([rv_r 17, rv_i 0 199], [rv_r 19], []), [8], 6, [], []),
  (8, ([rv_r 17, rv_i 0 199], [(1, 0, 0, 199, [(.inl 1, 0)], []), rv_r 19], []), [9], 5, [], []),
  (9, ([rv_r 17, rv_i 0 199], [rv_r 17, (1, 0, 0, 199, [(.inl 1, 0)], []), rv_r 19], []), [10], 4, [], []),
  (10, ([rv_r 17, rv_i 0 199], [(1, 0, 0, 200, [(.inr (17, 2), 0)], []), (1, 0, 0, 199, [(.inl 1, 0)], []), rv_r 19], []), [11], 3, [], []),
  (11, ([rv_r 17, rv_i 0 199], [rv_i 1 1, (1, 0, 0, 200, [(.inr (17, 2), 0)], []), (1, 0, 0, 199, [(.inl 1, 0)], []), rv_r 19], []), [12], 2, [], []),
  (12, ([rv_r 17, rv_i 0 199], [(1, 0, (-1), 199, [(.inr (17, 2), (-1))], []), (1, 0, 0, 199, [(.inl 1, 0)], []), rv_r 19], []), [13], 1, [], []),
  (13, ([rv_r 17, rv_full], [], []), [], 0, [], [])]
set_option maxRecDepth 100000 in
theorem a_X1_leadToEnd_0 : rv_all (fm_tm, flX1, fm_wr, kcX1, klX1, K_X1_leadToEnd_0.2.2.1, [], 2) ct_X1_leadToEnd_0 cd_X1_leadToEnd n_X1_leadToEnd_0 K_X1_leadToEnd_0 [] 0 n_X1_leadToEnd_0 = true := rv_fast (rv_at_eq n_X1_leadToEnd_0) (rv_at_eq cd_X1_leadToEnd) (by decide +kernel)
theorem m_X1_leadToEnd_0 {l : Launch} {D : va_G} {ad : Nat → Nat} {cy : Nat → ClassId} {Z : State → Heap → Prop} {Gp : fm_V → Prop} (hAd : fm_Ad fm_tm ad) (hZ : fm_Zk (fm_A fm_tm ad) Z) (hGd : fm_Gd Gp) : rv_Met l D fm_cl fm_tm ad cy fm_nt Z Gp yX1_leadToEnd (.code yX1_leadToEnd prog_3_method_5_code 2 none :: fm_Ts) { frames := 0, cells := 0, slots := 0, locals := 0 } K_X1_leadToEnd_0 := rv_met hAd hZ (Or.inl (by decide +kernel)) evX1 dc_X1_leadToEnd a_X1_leadToEnd_0 ⟨rfl, rfl, rfl⟩ (by decide +kernel) (by decide +kernel) (by decide) (fm_gm hGd (by decide +kernel)) (rfl) (fun p e s m args below meth c Q X Y => fun _ h => absurd h List.not_mem_nil) (fun _ _ _ _ _ _ _ _ _ _ _ _ _ _ _ _ h => absurd h List.not_mem_nil)
def cd_X3_readPieces : List (Nat × Instr × Nat) := [(0, .aload_n 0, 1), (1, .iload_n 1, 1), (2, .invokevirtual 116, 3), (5, .ifCond .ne 5, 3), (8, .iconst 0, 1), (9, .ireturn, 1), (10, .iconst 0, 1), (11, .istore_n 2, 1), (12, .iload_n 2, 1), (13, .sipush 200, 3), (16, .if_icmp .ge 56, 3), (19, .aload_n 0, 1), (20, .invokevirtual 39, 3), (23, .bipush 38, 2), (25, .if_icmp .ne 47, 3), (28, .aload_n 0, 1), (29, .dup, 1), (30, .getfield 22, 3), (33, .iconst 1, 1), (34, .iadd, 1), (35, .putfield 22, 3), (38, .aload_n 0, 1), (39, .getfield 12, 3), (42, .iconst 3, 1), (43, .iconst 0, 1), (44, .invokevirtual 108, 3), (47, .istore_n 3, 1), (48, .aload_n 0, 1), (49, .iload_n 1, 1), (50, .invokevirtual 116, 3), (53, .ifCond .ne 5, 3), (56, .iconst 0, 1), (57, .ireturn, 1), (58, .aload_n 0, 1), (59, .getfield 12, 3), (62, .iload_n 3, 1), (63, .invokevirtual 112, 3), (66, .iinc 2 1, 3), (69, .goto (-57), 3), (72, .iconst 1, 1), (73, .ireturn, 1)]
theorem dc_X3_readPieces : ∀ q ∈ cd_X3_readPieces, decode prog_5_method_10_code q.1 = .ok (q.2.1, q.2.2) := by decide +kernel
def ch_X3_readPieces_0 : List (Nat × Instr × Nat) := [(0, .aload_n 0, 1), (1, .iload_n 1, 1), (2, .invokevirtual 116, 3), (5, .ifCond .ne 5, 3), (8, .iconst 0, 1), (9, .ireturn, 1), (10, .iconst 0, 1), (11, .istore_n 2, 1), (12, .iload_n 2, 1), (13, .sipush 200, 3), (16, .if_icmp .ge 56, 3), (19, .aload_n 0, 1), (20, .invokevirtual 39, 3), (23, .bipush 38, 2), (25, .if_icmp .ne 47, 3), (28, .aload_n 0, 1)]
def ch_X3_readPieces_1 : List (Nat × Instr × Nat) := [(29, .dup, 1), (30, .getfield 22, 3), (33, .iconst 1, 1), (34, .iadd, 1), (35, .putfield 22, 3), (38, .aload_n 0, 1), (39, .getfield 12, 3), (42, .iconst 3, 1), (43, .iconst 0, 1), (44, .invokevirtual 108, 3), (47, .istore_n 3, 1), (48, .aload_n 0, 1), (49, .iload_n 1, 1), (50, .invokevirtual 116, 3), (53, .ifCond .ne 5, 3), (56, .iconst 0, 1)]
def ch_X3_readPieces_2 : List (Nat × Instr × Nat) := [(57, .ireturn, 1), (58, .aload_n 0, 1), (59, .getfield 12, 3), (62, .iload_n 3, 1), (63, .invokevirtual 112, 3), (66, .iinc 2 1, 3), (69, .goto (-57), 3), (72, .iconst 1, 1), (73, .ireturn, 1)]
set_option maxRecDepth 100000 in
theorem he_X3_readPieces : cd_X3_readPieces = ch_X3_readPieces_0 ++ (ch_X3_readPieces_1 ++ (ch_X3_readPieces_2)) := rfl
noncomputable def gc_X3_readPieces : Nat → Option (Nat × Instr × Nat) := rv_ap 16 (rv_at ch_X3_readPieces_0) (rv_ap 16 (rv_at ch_X3_readPieces_1) (rv_at ch_X3_readPieces_2))
theorem hc_X3_readPieces : ∀ i : Nat, cd_X3_readPieces[i]? = gc_X3_readPieces i := by
  rw [he_X3_readPieces]
  exact rv_ap_eq (l := ch_X3_readPieces_0) (c := 16) (rv_ap_eq (l := ch_X3_readPieces_1) (c := 16) (rv_at_eq ch_X3_readPieces_2) rfl) rfl
def K_X3_readPieces_1 : rv_K := ([rv_r 16, rv_i 6 6], [], [(16, 3), (16, 4), (17, 2), (18, 9999), (19, 9999)], [(0, 0, 1)], [], [])
def ct_X3_readPieces_1 : List (Nat × rv_K) := [(2, K_X3_readPiece_5), (12, K_X3_next_0), (25, K_X1_putStep_0), (29, K_X3_readPiece_5), (36, K_X1_leadToEnd_0)]
def n_X3_readPieces_1_0 : List rv_N := [
  (0, ([rv_r 16, rv_i 6 6, rv_u, rv_u], [], []), [1], 2070610, [], []),
  (1, ([rv_r 16, rv_i 6 6, rv_u, rv_u], [rv_r 16], []), [2], 2070609, [], []),
  (2, ([rv_r 16, rv_i 6 6, rv_u, rv_u], [(1, 0, 6, 6, [(.inl 1, 0)], []), rv_r 16], []), [3], 2070608, [], [0]),
  (3, ([rv_r 16, rv_i 6 6, rv_u, rv_u], [rv_i 0 1], []), [4, 6], 2070607, [], []),
  (4, ([rv_r 16, rv_i 6 6, rv_u, rv_u], [], []), [5], 1, [], []),
  (5, ([rv_r 16, rv_i 6 6, rv_u, rv_u], [rv_i 0 0], []), [], 0, [], []),
  (6, ([rv_r 16, rv_i 6 6, rv_u, rv_u], [], []), [7], 2070606, [], []),
  (7, ([rv_r 16, rv_i 6 6, rv_u, rv_u], [rv_i 0 0], []), [8], 2070605, [], []),
  (8, ([rv_r 16, rv_i 6 6, rv_i 0 200, rv_u], [], []), [9], 2070604, [(2, (-10353))], []),
  (9, ([rv_r 16, rv_i 6 6, rv_i 0 200, rv_u], [(1, 0, 0, 200, [(.inl 2, 0)], [])], []), [10], 2070603, [(2, (-10353))], []),
  (10, ([rv_r 16, rv_i 6 6, rv_i 0 200, rv_u], [rv_i 200 200, (1, 0, 0, 200, [(.inl 2, 0)], [])], []), [11, 39], 2070602, [(2, (-10353))], []),
  (11, ([rv_r 16, rv_i 6 6, rv_i 0 199, rv_u], [], []), [12], 2060277, [(2, (-10353))], []),
  (12, ([rv_r 16, rv_i 6 6, rv_i 0 199, rv_u], [rv_r 16], []), [13], 2060276, [(2, (-10353))], [1]),
  (13, ([rv_r 16, rv_i 6 6, rv_i 0 199, rv_u], [rv_i (-1) 255], []), [14], 2060275, [(2, (-10353))], []),
  (14, ([rv_r 16, rv_i 6 6, rv_i 0 199, rv_u], [rv_i 38 38, rv_i (-1) 255], []), [15, 39], 2060274, [(2, (-10353))], []),
  (15, ([rv_r 16, rv_i 6 6, rv_i 0 199, rv_u], [], []), [16], 2060273, [(2, (-10353))], [])]
def n_X3_readPieces_1_1 : List rv_N := [
  (16, ([rv_r 16, rv_i 6 6, rv_i 0 199, rv_u], [rv_r 16], []), [17], 2060272, [(2, (-10353))], []),
  (17, ([rv_r 16, rv_i 6 6, rv_i 0 199, rv_u], [rv_r 16, rv_r 16], []), [18], 2060271, [(2, (-10353))], []),
  (18, ([rv_r 16, rv_i 6 6, rv_i 0 199, rv_u], [(1, 0, (-2147483648), 2147483647, [(.inr (16, 3), 0)], []), rv_r 16], []), [19], 2060270, [(2, (-10353))], []),
  (19, ([rv_r 16, rv_i 6 6, rv_i 0 199, rv_u], [rv_i 1 1, (1, 0, (-2147483648), 2147483647, [(.inr (16, 3), 0)], []), rv_r 16], []), [20], 2060269, [(2, (-10353))], []),
  (20, ([rv_r 16, rv_i 6 6, rv_i 0 199, rv_u], [(1, 0, (-2147483648), 2147483647, [(.inr (16, 3), 1)], []), rv_r 16], []), [21], 2060268, [(2, (-10353))], []),
  (21, ([rv_r 16, rv_i 6 6, rv_i 0 199, rv_u], [], []), [22], 2060267, [(2, (-10353))], []),
  (22, ([rv_r 16, rv_i 6 6, rv_i 0 199, rv_u], [rv_r 16], []), [23], 2060266, [(2, (-10353))], []),
  (23, ([rv_r 16, rv_i 6 6, rv_i 0 199, rv_u], [rv_r 17], []), [24], 2060265, [(2, (-10353))], []),
  (24, ([rv_r 16, rv_i 6 6, rv_i 0 199, rv_u], [rv_i 3 3, rv_r 17], []), [25], 2060264, [(2, (-10353))], []),
  (25, ([rv_r 16, rv_i 6 6, rv_i 0 199, rv_u], [rv_i 0 0, rv_i 3 3, rv_r 17], []), [26], 2060263, [(2, (-10353))], [2]),
  (26, ([rv_r 16, rv_i 6 6, rv_i 0 199, rv_u], [rv_i (-1) 199], []), [27], 2060262, [(2, (-10353))], []),
  (27, ([rv_r 16, rv_i 6 6, rv_i 0 199, rv_i (-1) 199], [], []), [28], 2060261, [(2, (-10353))], []),
  (28, ([rv_r 16, rv_i 6 6, rv_i 0 199, rv_i (-1) 199], [rv_r 16], []), [29], 2060260, [(2, (-10353))], []),
  (29, ([rv_r 16, rv_i 6 6, rv_i 0 199, rv_i (-1) 199], [(1, 0, 6, 6, [(.inl 1, 0)], []), rv_r 16], []), [30], 2060259, [(2, (-10353))], [3]),
  (30, ([rv_r 16, rv_i 6 6, rv_i 0 199, rv_i (-1) 199], [rv_i 0 1], []), [31, 33], 2060258, [(2, (-10353))], []),
  (31, ([rv_r 16, rv_i 6 6, rv_i 0 199, rv_i (-1) 199], [], []), [32], 1, [], [])]
def n_X3_readPieces_1_2 : List rv_N := [
  (32, ([rv_r 16, rv_i 6 6, rv_i 0 199, rv_i (-1) 199], [rv_i 0 0], []), [], 0, [], []),
  (33, ([rv_r 16, rv_i 6 6, rv_i 0 199, rv_i (-1) 199], [], []), [34], 2060257, [(2, (-10353))], []),
  (34, ([rv_r 16, rv_i 6 6, rv_i 0 199, rv_i (-1) 199], [rv_r 16], []), [35], 2060256, [(2, (-10353))], []),
  (35, ([rv_r 16, rv_i 6 6, rv_i 0 199, rv_i (-1) 199], [rv_r 17], []), [36], 2060255, [(2, (-10353))], []),
  (36, ([rv_r 16, rv_i 6 6, rv_i 0 199, rv_i (-1) 199], [(1, 0, (-1), 199, [(.inl 3, 0)], []), rv_r 17], []), [37], 2060254, [(2, (-10353))], [4]),
  (37, ([rv_r 16, rv_i 6 6, rv_i 0 199, rv_i (-1) 199], [], []), [38], 2060253, [(2, (-10353))], []),
  (38, ([rv_r 16, rv_i 6 6, rv_i 1 200, rv_i (-1) 199], [], []), [8], 2070605, [(2, (-10353))], []),
  (39, ([rv_r 16, rv_i 6 6, rv_i 0 200, rv_u], [], []), [40], 1, [], []),
  (40, ([rv_r 16, rv_i 6 6, rv_i 0 200, rv_u], [rv_i 1 1], []), [], 0, [], [])]
def n_X3_readPieces_1 : List rv_N := n_X3_readPieces_1_0 ++ (n_X3_readPieces_1_1 ++ (n_X3_readPieces_1_2))
noncomputable def gn_X3_readPieces_1 : Nat → Option rv_N := rv_ap 16 (rv_at n_X3_readPieces_1_0) (rv_ap 16 (rv_at n_X3_readPieces_1_1) (rv_at n_X3_readPieces_1_2))
theorem hn_X3_readPieces_1 : ∀ i : Nat, n_X3_readPieces_1[i]? = gn_X3_readPieces_1 i := rv_ap_eq (l := n_X3_readPieces_1_0) (c := 16) (rv_ap_eq (l := n_X3_readPieces_1_1) (c := 16) (rv_at_eq n_X3_readPieces_1_2) rfl) rfl
set_option maxRecDepth 100000 in
theorem a_X3_readPieces_1 : rv_all (fm_tm, flX3, fm_wr, kcX3, klX3, K_X3_readPieces_1.2.2.1, [], 4) ct_X3_readPieces_1 cd_X3_readPieces n_X3_readPieces_1 K_X3_readPieces_1 [] 0 n_X3_readPieces_1 = true := rv_fast hn_X3_readPieces_1 hc_X3_readPieces (by decide +kernel)
theorem m_X3_readPieces_1 {l : Launch} {D : va_G} {ad : Nat → Nat} {cy : Nat → ClassId} {Z : State → Heap → Prop} {Gp : fm_V → Prop} (hAd : fm_Ad fm_tm ad) (hZ : fm_Zk (fm_A fm_tm ad) Z) (hGd : fm_Gd Gp) : rv_Met l D fm_cl fm_tm ad cy fm_nt Z Gp yX3_readPieces (.code yX3_readPieces prog_5_method_10_code 4 (some .boolean) :: fm_Ts) { frames := 8, cells := 0, slots := 0, locals := 800 } K_X3_readPieces_1 := rv_met hAd hZ (Or.inl (by decide +kernel)) evX3 dc_X3_readPieces a_X3_readPieces_1 ⟨rfl, rfl, rfl⟩ (by decide +kernel) (by decide +kernel) (by decide) (fm_gm hGd (by decide +kernel)) (Or.inr ⟨rfl, by decide, by decide⟩) (fun p e s m args below meth c Q X Y => List.forall_mem_cons.mpr ⟨rv_ctV X Y fm_Ts_good dc_X3_readPieces (pc := 2) (i := 2) (idx := 116) rfl (m_X3_readPiece_5 hAd hZ hGd) wl_X3_116 wm_X3_readPiece wy_X3_readPiece (by decide) ⟨rfl, rfl, rfl⟩ ⟨rfl, rfl⟩, List.forall_mem_cons.mpr ⟨rv_ctV X Y fm_Ts_good dc_X3_readPieces (pc := 20) (i := 12) (idx := 39) rfl (m_X3_next_0 hAd hZ hGd) wl_X3_39 wm_X3_next wy_X3_next (by decide) ⟨rfl, rfl, rfl⟩ ⟨rfl, rfl⟩, List.forall_mem_cons.mpr ⟨rv_ctV X Y fm_Ts_good dc_X3_readPieces (pc := 44) (i := 25) (idx := 108) rfl (m_X1_putStep_0 hAd hZ hGd) wl_X3_108 wm_X1_putStep wy_X1_putStep (by decide) ⟨rfl, rfl, rfl⟩ ⟨rfl, rfl⟩, List.forall_mem_cons.mpr ⟨rv_ctV X Y fm_Ts_good dc_X3_readPieces (pc := 50) (i := 29) (idx := 116) rfl (m_X3_readPiece_5 hAd hZ hGd) wl_X3_116 wm_X3_readPiece wy_X3_readPiece (by decide) ⟨rfl, rfl, rfl⟩ ⟨rfl, rfl⟩, List.forall_mem_cons.mpr ⟨rv_ctV X Y fm_Ts_good dc_X3_readPieces (pc := 63) (i := 36) (idx := 112) rfl (m_X1_leadToEnd_0 hAd hZ hGd) wl_X3_112 wm_X1_leadToEnd wy_X1_leadToEnd (by decide) ⟨rfl, rfl, rfl⟩ ⟨rfl, rfl⟩, fun _ h => absurd h List.not_mem_nil⟩⟩⟩⟩⟩) (fun _ _ _ _ _ _ _ _ _ _ _ _ _ _ _ _ h => absurd h List.not_mem_nil)
def cd_X3_readParts : List (Nat × Instr × Nat) := [(0, .aload_n 0, 1), (1, .iload_n 1, 1), (2, .invokevirtual 105, 3), (5, .ifCond .ne 5, 3), (8, .iconst 0, 1), (9, .ireturn, 1), (10, .iconst 0, 1), (11, .istore_n 2, 1), (12, .iload_n 2, 1), (13, .sipush 200, 3), (16, .if_icmp .ge 56, 3), (19, .aload_n 0, 1), (20, .invokevirtual 39, 3), (23, .bipush 124, 2), (25, .if_icmp .ne 47, 3), (28, .aload_n 0, 1), (29, .dup, 1), (30, .getfield 22, 3), (33, .iconst 1, 1), (34, .iadd, 1), (35, .putfield 22, 3), (38, .aload_n 0, 1), (39, .getfield 12, 3), (42, .iconst 2, 1), (43, .iconst 0, 1), (44, .invokevirtual 108, 3), (47, .istore_n 3, 1), (48, .aload_n 0, 1), (49, .iload_n 1, 1), (50, .invokevirtual 105, 3), (53, .ifCond .ne 5, 3), (56, .iconst 0, 1), (57, .ireturn, 1), (58, .aload_n 0, 1), (59, .getfield 12, 3), (62, .iload_n 3, 1), (63, .invokevirtual 112, 3), (66, .iinc 2 1, 3), (69, .goto (-57), 3), (72, .iconst 1, 1), (73, .ireturn, 1)]
theorem dc_X3_readParts : ∀ q ∈ cd_X3_readParts, decode prog_5_method_9_code q.1 = .ok (q.2.1, q.2.2) := by decide +kernel
def ch_X3_readParts_0 : List (Nat × Instr × Nat) := [(0, .aload_n 0, 1), (1, .iload_n 1, 1), (2, .invokevirtual 105, 3), (5, .ifCond .ne 5, 3), (8, .iconst 0, 1), (9, .ireturn, 1), (10, .iconst 0, 1), (11, .istore_n 2, 1), (12, .iload_n 2, 1), (13, .sipush 200, 3), (16, .if_icmp .ge 56, 3), (19, .aload_n 0, 1), (20, .invokevirtual 39, 3), (23, .bipush 124, 2), (25, .if_icmp .ne 47, 3), (28, .aload_n 0, 1)]
def ch_X3_readParts_1 : List (Nat × Instr × Nat) := [(29, .dup, 1), (30, .getfield 22, 3), (33, .iconst 1, 1), (34, .iadd, 1), (35, .putfield 22, 3), (38, .aload_n 0, 1), (39, .getfield 12, 3), (42, .iconst 2, 1), (43, .iconst 0, 1), (44, .invokevirtual 108, 3), (47, .istore_n 3, 1), (48, .aload_n 0, 1), (49, .iload_n 1, 1), (50, .invokevirtual 105, 3), (53, .ifCond .ne 5, 3), (56, .iconst 0, 1)]
def ch_X3_readParts_2 : List (Nat × Instr × Nat) := [(57, .ireturn, 1), (58, .aload_n 0, 1), (59, .getfield 12, 3), (62, .iload_n 3, 1), (63, .invokevirtual 112, 3), (66, .iinc 2 1, 3), (69, .goto (-57), 3), (72, .iconst 1, 1), (73, .ireturn, 1)]
set_option maxRecDepth 100000 in
theorem he_X3_readParts : cd_X3_readParts = ch_X3_readParts_0 ++ (ch_X3_readParts_1 ++ (ch_X3_readParts_2)) := rfl
noncomputable def gc_X3_readParts : Nat → Option (Nat × Instr × Nat) := rv_ap 16 (rv_at ch_X3_readParts_0) (rv_ap 16 (rv_at ch_X3_readParts_1) (rv_at ch_X3_readParts_2))
theorem hc_X3_readParts : ∀ i : Nat, cd_X3_readParts[i]? = gc_X3_readParts i := by
  rw [he_X3_readParts]
  exact rv_ap_eq (l := ch_X3_readParts_0) (c := 16) (rv_ap_eq (l := ch_X3_readParts_1) (c := 16) (rv_at_eq ch_X3_readParts_2) rfl) rfl
def K_X3_readParts_1 : rv_K := ([rv_r 16, rv_i 6 6], [], [(16, 3), (16, 4), (17, 2), (18, 9999), (19, 9999)], [(0, 0, 1)], [], [])
def ct_X3_readParts_1 : List (Nat × rv_K) := [(2, K_X3_readPieces_1), (12, K_X3_next_0), (25, K_X1_putStep_0), (29, K_X3_readPieces_1), (36, K_X1_leadToEnd_0)]
def n_X3_readParts_1_0 : List rv_N := [
  (0, ([rv_r 16, rv_i 6 6, rv_u, rv_u], [], []), [1], 2070610, [], []),
  (1, ([rv_r 16, rv_i 6 6, rv_u, rv_u], [rv_r 16], []), [2], 2070609, [], []),
  (2, ([rv_r 16, rv_i 6 6, rv_u, rv_u], [(1, 0, 6, 6, [(.inl 1, 0)], []), rv_r 16], []), [3], 2070608, [], [0]),
  (3, ([rv_r 16, rv_i 6 6, rv_u, rv_u], [rv_i 0 1], []), [4, 6], 2070607, [], []),
  (4, ([rv_r 16, rv_i 6 6, rv_u, rv_u], [], []), [5], 1, [], []),
  (5, ([rv_r 16, rv_i 6 6, rv_u, rv_u], [rv_i 0 0], []), [], 0, [], []),
  (6, ([rv_r 16, rv_i 6 6, rv_u, rv_u], [], []), [7], 2070606, [], []),
  (7, ([rv_r 16, rv_i 6 6, rv_u, rv_u], [rv_i 0 0], []), [8], 2070605, [], []),
  (8, ([rv_r 16, rv_i 6 6, rv_i 0 200, rv_u], [], []), [9], 2070604, [(2, (-10353))], []),
  (9, ([rv_r 16, rv_i 6 6, rv_i 0 200, rv_u], [(1, 0, 0, 200, [(.inl 2, 0)], [])], []), [10], 2070603, [(2, (-10353))], []),
  (10, ([rv_r 16, rv_i 6 6, rv_i 0 200, rv_u], [rv_i 200 200, (1, 0, 0, 200, [(.inl 2, 0)], [])], []), [11, 39], 2070602, [(2, (-10353))], []),
  (11, ([rv_r 16, rv_i 6 6, rv_i 0 199, rv_u], [], []), [12], 2060277, [(2, (-10353))], []),
  (12, ([rv_r 16, rv_i 6 6, rv_i 0 199, rv_u], [rv_r 16], []), [13], 2060276, [(2, (-10353))], [1]),
  (13, ([rv_r 16, rv_i 6 6, rv_i 0 199, rv_u], [rv_i (-1) 255], []), [14], 2060275, [(2, (-10353))], []),
  (14, ([rv_r 16, rv_i 6 6, rv_i 0 199, rv_u], [rv_i 124 124, rv_i (-1) 255], []), [15, 39], 2060274, [(2, (-10353))], []),
  (15, ([rv_r 16, rv_i 6 6, rv_i 0 199, rv_u], [], []), [16], 2060273, [(2, (-10353))], [])]
def n_X3_readParts_1_1 : List rv_N := [
  (16, ([rv_r 16, rv_i 6 6, rv_i 0 199, rv_u], [rv_r 16], []), [17], 2060272, [(2, (-10353))], []),
  (17, ([rv_r 16, rv_i 6 6, rv_i 0 199, rv_u], [rv_r 16, rv_r 16], []), [18], 2060271, [(2, (-10353))], []),
  (18, ([rv_r 16, rv_i 6 6, rv_i 0 199, rv_u], [(1, 0, (-2147483648), 2147483647, [(.inr (16, 3), 0)], []), rv_r 16], []), [19], 2060270, [(2, (-10353))], []),
  (19, ([rv_r 16, rv_i 6 6, rv_i 0 199, rv_u], [rv_i 1 1, (1, 0, (-2147483648), 2147483647, [(.inr (16, 3), 0)], []), rv_r 16], []), [20], 2060269, [(2, (-10353))], []),
  (20, ([rv_r 16, rv_i 6 6, rv_i 0 199, rv_u], [(1, 0, (-2147483648), 2147483647, [(.inr (16, 3), 1)], []), rv_r 16], []), [21], 2060268, [(2, (-10353))], []),
  (21, ([rv_r 16, rv_i 6 6, rv_i 0 199, rv_u], [], []), [22], 2060267, [(2, (-10353))], []),
  (22, ([rv_r 16, rv_i 6 6, rv_i 0 199, rv_u], [rv_r 16], []), [23], 2060266, [(2, (-10353))], []),
  (23, ([rv_r 16, rv_i 6 6, rv_i 0 199, rv_u], [rv_r 17], []), [24], 2060265, [(2, (-10353))], []),
  (24, ([rv_r 16, rv_i 6 6, rv_i 0 199, rv_u], [rv_i 2 2, rv_r 17], []), [25], 2060264, [(2, (-10353))], []),
  (25, ([rv_r 16, rv_i 6 6, rv_i 0 199, rv_u], [rv_i 0 0, rv_i 2 2, rv_r 17], []), [26], 2060263, [(2, (-10353))], [2]),
  (26, ([rv_r 16, rv_i 6 6, rv_i 0 199, rv_u], [rv_i (-1) 199], []), [27], 2060262, [(2, (-10353))], []),
  (27, ([rv_r 16, rv_i 6 6, rv_i 0 199, rv_i (-1) 199], [], []), [28], 2060261, [(2, (-10353))], []),
  (28, ([rv_r 16, rv_i 6 6, rv_i 0 199, rv_i (-1) 199], [rv_r 16], []), [29], 2060260, [(2, (-10353))], []),
  (29, ([rv_r 16, rv_i 6 6, rv_i 0 199, rv_i (-1) 199], [(1, 0, 6, 6, [(.inl 1, 0)], []), rv_r 16], []), [30], 2060259, [(2, (-10353))], [3]),
  (30, ([rv_r 16, rv_i 6 6, rv_i 0 199, rv_i (-1) 199], [rv_i 0 1], []), [31, 33], 2060258, [(2, (-10353))], []),
  (31, ([rv_r 16, rv_i 6 6, rv_i 0 199, rv_i (-1) 199], [], []), [32], 1, [], [])]
def n_X3_readParts_1_2 : List rv_N := [
  (32, ([rv_r 16, rv_i 6 6, rv_i 0 199, rv_i (-1) 199], [rv_i 0 0], []), [], 0, [], []),
  (33, ([rv_r 16, rv_i 6 6, rv_i 0 199, rv_i (-1) 199], [], []), [34], 2060257, [(2, (-10353))], []),
  (34, ([rv_r 16, rv_i 6 6, rv_i 0 199, rv_i (-1) 199], [rv_r 16], []), [35], 2060256, [(2, (-10353))], []),
  (35, ([rv_r 16, rv_i 6 6, rv_i 0 199, rv_i (-1) 199], [rv_r 17], []), [36], 2060255, [(2, (-10353))], []),
  (36, ([rv_r 16, rv_i 6 6, rv_i 0 199, rv_i (-1) 199], [(1, 0, (-1), 199, [(.inl 3, 0)], []), rv_r 17], []), [37], 2060254, [(2, (-10353))], [4]),
  (37, ([rv_r 16, rv_i 6 6, rv_i 0 199, rv_i (-1) 199], [], []), [38], 2060253, [(2, (-10353))], []),
  (38, ([rv_r 16, rv_i 6 6, rv_i 1 200, rv_i (-1) 199], [], []), [8], 2070605, [(2, (-10353))], []),
  (39, ([rv_r 16, rv_i 6 6, rv_i 0 200, rv_u], [], []), [40], 1, [], []),
  (40, ([rv_r 16, rv_i 6 6, rv_i 0 200, rv_u], [rv_i 1 1], []), [], 0, [], [])]
def n_X3_readParts_1 : List rv_N := n_X3_readParts_1_0 ++ (n_X3_readParts_1_1 ++ (n_X3_readParts_1_2))
noncomputable def gn_X3_readParts_1 : Nat → Option rv_N := rv_ap 16 (rv_at n_X3_readParts_1_0) (rv_ap 16 (rv_at n_X3_readParts_1_1) (rv_at n_X3_readParts_1_2))
theorem hn_X3_readParts_1 : ∀ i : Nat, n_X3_readParts_1[i]? = gn_X3_readParts_1 i := rv_ap_eq (l := n_X3_readParts_1_0) (c := 16) (rv_ap_eq (l := n_X3_readParts_1_1) (c := 16) (rv_at_eq n_X3_readParts_1_2) rfl) rfl
set_option maxRecDepth 100000 in
theorem a_X3_readParts_1 : rv_all (fm_tm, flX3, fm_wr, kcX3, klX3, K_X3_readParts_1.2.2.1, [], 4) ct_X3_readParts_1 cd_X3_readParts n_X3_readParts_1 K_X3_readParts_1 [] 0 n_X3_readParts_1 = true := rv_fast hn_X3_readParts_1 hc_X3_readParts (by decide +kernel)
theorem m_X3_readParts_1 {l : Launch} {D : va_G} {ad : Nat → Nat} {cy : Nat → ClassId} {Z : State → Heap → Prop} {Gp : fm_V → Prop} (hAd : fm_Ad fm_tm ad) (hZ : fm_Zk (fm_A fm_tm ad) Z) (hGd : fm_Gd Gp) : rv_Met l D fm_cl fm_tm ad cy fm_nt Z Gp yX3_readParts (.code yX3_readParts prog_5_method_9_code 4 (some .boolean) :: fm_Ts) { frames := 9, cells := 0, slots := 0, locals := 900 } K_X3_readParts_1 := rv_met hAd hZ (Or.inl (by decide +kernel)) evX3 dc_X3_readParts a_X3_readParts_1 ⟨rfl, rfl, rfl⟩ (by decide +kernel) (by decide +kernel) (by decide) (fm_gm hGd (by decide +kernel)) (Or.inr ⟨rfl, by decide, by decide⟩) (fun p e s m args below meth c Q X Y => List.forall_mem_cons.mpr ⟨rv_ctV X Y fm_Ts_good dc_X3_readParts (pc := 2) (i := 2) (idx := 105) rfl (m_X3_readPieces_1 hAd hZ hGd) wl_X3_105 wm_X3_readPieces wy_X3_readPieces (by decide) ⟨rfl, rfl, rfl⟩ ⟨rfl, rfl⟩, List.forall_mem_cons.mpr ⟨rv_ctV X Y fm_Ts_good dc_X3_readParts (pc := 20) (i := 12) (idx := 39) rfl (m_X3_next_0 hAd hZ hGd) wl_X3_39 wm_X3_next wy_X3_next (by decide) ⟨rfl, rfl, rfl⟩ ⟨rfl, rfl⟩, List.forall_mem_cons.mpr ⟨rv_ctV X Y fm_Ts_good dc_X3_readParts (pc := 44) (i := 25) (idx := 108) rfl (m_X1_putStep_0 hAd hZ hGd) wl_X3_108 wm_X1_putStep wy_X1_putStep (by decide) ⟨rfl, rfl, rfl⟩ ⟨rfl, rfl⟩, List.forall_mem_cons.mpr ⟨rv_ctV X Y fm_Ts_good dc_X3_readParts (pc := 50) (i := 29) (idx := 105) rfl (m_X3_readPieces_1 hAd hZ hGd) wl_X3_105 wm_X3_readPieces wy_X3_readPieces (by decide) ⟨rfl, rfl, rfl⟩ ⟨rfl, rfl⟩, List.forall_mem_cons.mpr ⟨rv_ctV X Y fm_Ts_good dc_X3_readParts (pc := 63) (i := 36) (idx := 112) rfl (m_X1_leadToEnd_0 hAd hZ hGd) wl_X3_112 wm_X1_leadToEnd wy_X1_leadToEnd (by decide) ⟨rfl, rfl, rfl⟩ ⟨rfl, rfl⟩, fun _ h => absurd h List.not_mem_nil⟩⟩⟩⟩⟩) (fun _ _ _ _ _ _ _ _ _ _ _ _ _ _ _ _ h => absurd h List.not_mem_nil)
def K_X3_readPiece_4 : rv_K := ([rv_r 16, rv_i 5 5], [], [(16, 3), (16, 4), (17, 2), (18, 9999), (19, 9999)], [(0, 0, 1)], [], [])
def ct_X3_readPiece_4 : List (Nat × rv_K) := [(1, K_X3_next_0), (9, K_X3_open_0), (15, K_X3_readPiece_5), (23, K_X1_putStep_0), (33, K_X3_open_0), (39, K_X3_readParts_1), (43, K_X3_close_0), (51, K_X3_readSum_5), (56, K_X3_next_0), (69, K_X3_fail_0), (79, K_X3_readSum_5), (87, K_X1_putStep_0)]
def n_X3_readPiece_4_0 : List rv_N := [
  (0, ([rv_r 16, rv_i 5 5, rv_u, rv_u], [], []), [1], 42, [], []),
  (1, ([rv_r 16, rv_i 5 5, rv_u, rv_u], [rv_r 16], []), [2], 41, [], [0]),
  (2, ([rv_r 16, rv_i 5 5, rv_u, rv_u], [rv_i (-1) 255], []), [3], 40, [], []),
  (3, ([rv_r 16, rv_i 5 5, rv_i (-1) 255, rv_u], [], []), [4], 39, [], []),
  (4, ([rv_r 16, rv_i 5 5, rv_i (-1) 255, rv_u], [(1, 0, (-1), 255, [(.inl 2, 0)], [])], []), [5], 38, [], []),
  (5, ([rv_r 16, rv_i 5 5, rv_i (-1) 255, rv_u], [rv_i 33 33, (1, 0, (-1), 255, [(.inl 2, 0)], [])], []), [6, 27], 37, [], []),
  (6, ([rv_r 16, rv_i 5 5, rv_i 33 33, rv_u], [], []), [7], 18, [], []),
  (7, ([rv_r 16, rv_i 5 5, rv_i 33 33, rv_u], [rv_r 16], []), [8], 17, [], []),
  (8, ([rv_r 16, rv_i 5 5, rv_i 33 33, rv_u], [rv_i 33 33, rv_r 16], []), [9], 16, [], []),
  (9, ([rv_r 16, rv_i 5 5, rv_i 33 33, rv_u], [(1, 0, 5, 5, [(.inl 1, 0)], []), rv_i 33 33, rv_r 16], []), [10], 15, [], [1]),
  (10, ([rv_r 16, rv_i 5 5, rv_i 33 33, rv_u], [(1, 0, 0, 1, [], [(.inl 1, (-2147483648), 5)])], []), [11, 17], 14, [], []),
  (11, ([rv_r 16, rv_i 5 5, rv_i 33 33, rv_u], [], []), [12], 13, [], []),
  (12, ([rv_r 16, rv_i 5 5, rv_i 33 33, rv_u], [rv_r 16], []), [13], 12, [], []),
  (13, ([rv_r 16, rv_i 5 5, rv_i 33 33, rv_u], [(1, 0, 5, 5, [(.inl 1, 0)], []), rv_r 16], []), [14], 11, [], []),
  (14, ([rv_r 16, rv_i 5 5, rv_i 33 33, rv_u], [rv_i 1 1, (1, 0, 5, 5, [(.inl 1, 0)], []), rv_r 16], []), [15], 10, [], []),
  (15, ([rv_r 16, rv_i 5 5, rv_i 33 33, rv_u], [(1, 0, 6, 6, [(.inl 1, 1)], []), rv_r 16], []), [16], 9, [], [2])]
def n_X3_readPiece_4_1 : List rv_N := [
  (16, ([rv_r 16, rv_i 5 5, rv_i 33 33, rv_u], [rv_i 0 1], []), [17, 19], 8, [], []),
  (17, ([rv_r 16, rv_i 5 5, rv_i 33 33, rv_u], [], []), [18], 1, [], []),
  (18, ([rv_r 16, rv_i 5 5, rv_i 33 33, rv_u], [rv_i 0 0], []), [], 0, [], []),
  (19, ([rv_r 16, rv_i 5 5, rv_i 33 33, rv_u], [], []), [20], 7, [], []),
  (20, ([rv_r 16, rv_i 5 5, rv_i 33 33, rv_u], [rv_r 16], []), [21], 6, [], []),
  (21, ([rv_r 16, rv_i 5 5, rv_i 33 33, rv_u], [rv_r 17], []), [22], 5, [], []),
  (22, ([rv_r 16, rv_i 5 5, rv_i 33 33, rv_u], [rv_i 4 4, rv_r 17], []), [23], 4, [], []),
  (23, ([rv_r 16, rv_i 5 5, rv_i 33 33, rv_u], [rv_i 0 0, rv_i 4 4, rv_r 17], []), [24], 3, [], [3]),
  (24, ([rv_r 16, rv_i 5 5, rv_i 33 33, rv_u], [rv_i (-1) 199], []), [25], 2, [], []),
  (25, ([rv_r 16, rv_i 5 5, rv_i 33 33, rv_u], [], []), [26], 1, [], []),
  (26, ([rv_r 16, rv_i 5 5, rv_i 33 33, rv_u], [rv_i 1 1], []), [], 0, [], []),
  (27, ([rv_r 16, rv_i 5 5, rv_i (-1) 255, rv_u], [], []), [28], 36, [], []),
  (28, ([rv_r 16, rv_i 5 5, rv_i (-1) 255, rv_u], [(1, 0, (-1), 255, [(.inl 2, 0)], [])], []), [29], 35, [], []),
  (29, ([rv_r 16, rv_i 5 5, rv_i (-1) 255, rv_u], [rv_i 40 40, (1, 0, (-1), 255, [(.inl 2, 0)], [])], []), [30, 50], 34, [], []),
  (30, ([rv_r 16, rv_i 5 5, rv_i 40 40, rv_u], [], []), [31], 17, [], []),
  (31, ([rv_r 16, rv_i 5 5, rv_i 40 40, rv_u], [rv_r 16], []), [32], 16, [], [])]
def n_X3_readPiece_4_2 : List rv_N := [
  (32, ([rv_r 16, rv_i 5 5, rv_i 40 40, rv_u], [rv_i 40 40, rv_r 16], []), [33], 15, [], []),
  (33, ([rv_r 16, rv_i 5 5, rv_i 40 40, rv_u], [(1, 0, 5, 5, [(.inl 1, 0)], []), rv_i 40 40, rv_r 16], []), [34], 14, [], [4]),
  (34, ([rv_r 16, rv_i 5 5, rv_i 40 40, rv_u], [(1, 0, 0, 1, [], [(.inl 1, (-2147483648), 5)])], []), [35, 47], 13, [], []),
  (35, ([rv_r 16, rv_i 5 5, rv_i 40 40, rv_u], [], []), [36], 12, [], []),
  (36, ([rv_r 16, rv_i 5 5, rv_i 40 40, rv_u], [rv_r 16], []), [37], 11, [], []),
  (37, ([rv_r 16, rv_i 5 5, rv_i 40 40, rv_u], [(1, 0, 5, 5, [(.inl 1, 0)], []), rv_r 16], []), [38], 10, [], []),
  (38, ([rv_r 16, rv_i 5 5, rv_i 40 40, rv_u], [rv_i 1 1, (1, 0, 5, 5, [(.inl 1, 0)], []), rv_r 16], []), [39], 9, [], []),
  (39, ([rv_r 16, rv_i 5 5, rv_i 40 40, rv_u], [(1, 0, 6, 6, [(.inl 1, 1)], []), rv_r 16], []), [40], 8, [], [5]),
  (40, ([rv_r 16, rv_i 5 5, rv_i 40 40, rv_u], [rv_i 0 1], []), [41, 47], 7, [], []),
  (41, ([rv_r 16, rv_i 5 5, rv_i 40 40, rv_u], [], []), [42], 6, [], []),
  (42, ([rv_r 16, rv_i 5 5, rv_i 40 40, rv_u], [rv_r 16], []), [43], 5, [], []),
  (43, ([rv_r 16, rv_i 5 5, rv_i 40 40, rv_u], [rv_i 41 41, rv_r 16], []), [44], 4, [], [6]),
  (44, ([rv_r 16, rv_i 5 5, rv_i 40 40, rv_u], [rv_i 0 1], []), [45, 47], 3, [], []),
  (45, ([rv_r 16, rv_i 5 5, rv_i 40 40, rv_u], [], []), [46], 2, [], []),
  (46, ([rv_r 16, rv_i 5 5, rv_i 40 40, rv_u], [rv_i 1 1], []), [49], 1, [], []),
  (47, ([rv_r 16, rv_i 5 5, rv_i 40 40, rv_u], [], []), [48], 1, [], [])]
def n_X3_readPiece_4_3 : List rv_N := [
  (48, ([rv_r 16, rv_i 5 5, rv_i 40 40, rv_u], [rv_i 0 0], []), [], 0, [], []),
  (48, ([rv_r 16, rv_i 5 5, rv_i 40 40, rv_u], [rv_i 1 1], []), [], 0, [], []),
  (49, ([rv_r 16, rv_i 5 5, rv_i (-1) 255, rv_u], [], []), [51], 33, [], []),
  (50, ([rv_r 16, rv_i 5 5, rv_i (-1) 255, rv_u], [rv_r 16], []), [52], 32, [], []),
  (51, ([rv_r 16, rv_i 5 5, rv_i (-1) 255, rv_u], [(1, 0, 5, 5, [(.inl 1, 0)], []), rv_r 16], []), [53], 31, [], [7]),
  (52, ([rv_r 16, rv_i 5 5, rv_i (-1) 255, rv_u], [rv_i 0 1], []), [54, 56], 30, [], []),
  (53, ([rv_r 16, rv_i 5 5, rv_i (-1) 255, rv_u], [], []), [55], 1, [], []),
  (54, ([rv_r 16, rv_i 5 5, rv_i (-1) 255, rv_u], [rv_i 0 0], []), [], 0, [], []),
  (55, ([rv_r 16, rv_i 5 5, rv_i (-1) 255, rv_u], [], []), [57], 29, [], []),
  (56, ([rv_r 16, rv_i 5 5, rv_i (-1) 255, rv_u], [rv_r 16], []), [58], 28, [], [8]),
  (57, ([rv_r 16, rv_i 5 5, rv_i (-1) 255, rv_u], [rv_i (-1) 255], []), [59], 27, [], []),
  (58, ([rv_r 16, rv_i 5 5, rv_i (-1) 255, rv_i (-1) 255], [], []), [60], 26, [], []),
  (59, ([rv_r 16, rv_i 5 5, rv_i (-1) 255, rv_i (-1) 255], [(1, 0, (-1), 255, [(.inl 3, 0)], [])], []), [61], 25, [], []),
  (60, ([rv_r 16, rv_i 5 5, rv_i (-1) 255, rv_i (-1) 255], [rv_i 60 60, (1, 0, (-1), 255, [(.inl 3, 0)], [])], []), [62, 72], 24, [], []),
  (61, ([rv_r 16, rv_i 5 5, rv_i (-1) 255, rv_i (-1) 255], [], []), [63], 23, [], []),
  (62, ([rv_r 16, rv_i 5 5, rv_i (-1) 255, rv_i (-1) 255], [(1, 0, (-1), 255, [(.inl 3, 0)], [])], []), [64], 22, [], [])]
def n_X3_readPiece_4_4 : List rv_N := [
  (63, ([rv_r 16, rv_i 5 5, rv_i (-1) 255, rv_i (-1) 255], [rv_i 62 62, (1, 0, (-1), 255, [(.inl 3, 0)], [])], []), [65, 72], 21, [], []),
  (64, ([rv_r 16, rv_i 5 5, rv_i (-1) 255, rv_i (-1) 255], [], []), [66], 20, [], []),
  (65, ([rv_r 16, rv_i 5 5, rv_i (-1) 255, rv_i (-1) 255], [(1, 0, (-1), 255, [(.inl 3, 0)], [])], []), [67], 19, [], []),
  (66, ([rv_r 16, rv_i 5 5, rv_i (-1) 255, rv_i (-1) 255], [rv_i 61 61, (1, 0, (-1), 255, [(.inl 3, 0)], [])], []), [68, 72], 18, [], []),
  (67, ([rv_r 16, rv_i 5 5, rv_i (-1) 255, rv_i (-1) 255], [], []), [69], 3, [], []),
  (68, ([rv_r 16, rv_i 5 5, rv_i (-1) 255, rv_i (-1) 255], [rv_r 16], []), [70], 2, [], []),
  (69, ([rv_r 16, rv_i 5 5, rv_i (-1) 255, rv_i (-1) 255], [rv_i 1 1, rv_r 16], []), [71], 1, [], [9]),
  (70, ([rv_r 16, rv_i 5 5, rv_i (-1) 255, rv_i (-1) 255], [rv_i 0 0], []), [], 0, [], []),
  (71, ([rv_r 16, rv_i 5 5, rv_i (-1) 255, rv_i 60 62], [], []), [73], 17, [], []),
  (72, ([rv_r 16, rv_i 5 5, rv_i (-1) 255, rv_i 60 62], [rv_r 16], []), [74], 16, [], []),
  (73, ([rv_r 16, rv_i 5 5, rv_i (-1) 255, rv_i 60 62], [rv_r 16, rv_r 16], []), [75], 15, [], []),
  (74, ([rv_r 16, rv_i 5 5, rv_i (-1) 255, rv_i 60 62], [(1, 0, (-2147483648), 2147483647, [(.inr (16, 3), 0)], []), rv_r 16], []), [76], 14, [], []),
  (75, ([rv_r 16, rv_i 5 5, rv_i (-1) 255, rv_i 60 62], [rv_i 1 1, (1, 0, (-2147483648), 2147483647, [(.inr (16, 3), 0)], []), rv_r 16], []), [77], 13, [], []),
  (76, ([rv_r 16, rv_i 5 5, rv_i (-1) 255, rv_i 60 62], [(1, 0, (-2147483648), 2147483647, [(.inr (16, 3), 1)], []), rv_r 16], []), [78], 12, [], []),
  (77, ([rv_r 16, rv_i 5 5, rv_i (-1) 255, rv_i 60 62], [], []), [79], 11, [], []),
  (78, ([rv_r 16, rv_i 5 5, rv_i (-1) 255, rv_i 60 62], [rv_r 16], []), [80], 10, [], [])]
def n_X3_readPiece_4_5 : List rv_N := [
  (79, ([rv_r 16, rv_i 5 5, rv_i (-1) 255, rv_i 60 62], [(1, 0, 5, 5, [(.inl 1, 0)], []), rv_r 16], []), [81], 9, [], [10]),
  (80, ([rv_r 16, rv_i 5 5, rv_i (-1) 255, rv_i 60 62], [rv_i 0 1], []), [82, 84], 8, [], []),
  (81, ([rv_r 16, rv_i 5 5, rv_i (-1) 255, rv_i 60 62], [], []), [83], 1, [], []),
  (82, ([rv_r 16, rv_i 5 5, rv_i (-1) 255, rv_i 60 62], [rv_i 0 0], []), [], 0, [], []),
  (83, ([rv_r 16, rv_i 5 5, rv_i (-1) 255, rv_i 60 62], [], []), [85], 7, [], []),
  (84, ([rv_r 16, rv_i 5 5, rv_i (-1) 255, rv_i 60 62], [rv_r 16], []), [86], 6, [], []),
  (85, ([rv_r 16, rv_i 5 5, rv_i (-1) 255, rv_i 60 62], [rv_r 17], []), [87], 5, [], []),
  (86, ([rv_r 16, rv_i 5 5, rv_i (-1) 255, rv_i 60 62], [(1, 0, 60, 62, [(.inl 3, 0)], []), rv_r 17], []), [88], 4, [], []),
  (87, ([rv_r 16, rv_i 5 5, rv_i (-1) 255, rv_i 60 62], [rv_i 0 0, (1, 0, 60, 62, [(.inl 3, 0)], []), rv_r 17], []), [89], 3, [], [11]),
  (88, ([rv_r 16, rv_i 5 5, rv_i (-1) 255, rv_i 60 62], [rv_i (-1) 199], []), [90], 2, [], []),
  (89, ([rv_r 16, rv_i 5 5, rv_i (-1) 255, rv_i 60 62], [], []), [91], 1, [], []),
  (90, ([rv_r 16, rv_i 5 5, rv_i (-1) 255, rv_i 60 62], [rv_i 1 1], []), [], 0, [], [])]
def n_X3_readPiece_4 : List rv_N := n_X3_readPiece_4_0 ++ (n_X3_readPiece_4_1 ++ (n_X3_readPiece_4_2 ++ (n_X3_readPiece_4_3 ++ (n_X3_readPiece_4_4 ++ (n_X3_readPiece_4_5)))))
noncomputable def gn_X3_readPiece_4 : Nat → Option rv_N := rv_ap 16 (rv_at n_X3_readPiece_4_0) (rv_ap 16 (rv_at n_X3_readPiece_4_1) (rv_ap 16 (rv_at n_X3_readPiece_4_2) (rv_ap 16 (rv_at n_X3_readPiece_4_3) (rv_ap 16 (rv_at n_X3_readPiece_4_4) (rv_at n_X3_readPiece_4_5)))))
theorem hn_X3_readPiece_4 : ∀ i : Nat, n_X3_readPiece_4[i]? = gn_X3_readPiece_4 i := rv_ap_eq (l := n_X3_readPiece_4_0) (c := 16) (rv_ap_eq (l := n_X3_readPiece_4_1) (c := 16) (rv_ap_eq (l := n_X3_readPiece_4_2) (c := 16) (rv_ap_eq (l := n_X3_readPiece_4_3) (c := 16) (rv_ap_eq (l := n_X3_readPiece_4_4) (c := 16) (rv_at_eq n_X3_readPiece_4_5) rfl) rfl) rfl) rfl) rfl
set_option maxRecDepth 100000 in
theorem a_X3_readPiece_4 : rv_all (fm_tm, flX3, fm_wr, kcX3, klX3, K_X3_readPiece_4.2.2.1, [], 4) ct_X3_readPiece_4 cd_X3_readPiece n_X3_readPiece_4 K_X3_readPiece_4 [] 0 n_X3_readPiece_4 = true := rv_fast hn_X3_readPiece_4 hc_X3_readPiece (by decide +kernel)
theorem m_X3_readPiece_4 {l : Launch} {D : va_G} {ad : Nat → Nat} {cy : Nat → ClassId} {Z : State → Heap → Prop} {Gp : fm_V → Prop} (hAd : fm_Ad fm_tm ad) (hZ : fm_Zk (fm_A fm_tm ad) Z) (hGd : fm_Gd Gp) : rv_Met l D fm_cl fm_tm ad cy fm_nt Z Gp yX3_readPiece (.code yX3_readPiece prog_5_method_11_code 4 (some .boolean) :: fm_Ts) { frames := 10, cells := 0, slots := 0, locals := 1000 } K_X3_readPiece_4 := rv_met hAd hZ (Or.inl (by decide +kernel)) evX3 dc_X3_readPiece a_X3_readPiece_4 ⟨rfl, rfl, rfl⟩ (by decide +kernel) (by decide +kernel) (by decide) (fm_gm hGd (by decide +kernel)) (Or.inr ⟨rfl, by decide, by decide⟩) (fun p e s m args below meth c Q X Y => List.forall_mem_cons.mpr ⟨rv_ctV X Y fm_Ts_good dc_X3_readPiece (pc := 1) (i := 1) (idx := 39) rfl (m_X3_next_0 hAd hZ hGd) wl_X3_39 wm_X3_next wy_X3_next (by decide) ⟨rfl, rfl, rfl⟩ ⟨rfl, rfl⟩, List.forall_mem_cons.mpr ⟨rv_ctV X Y fm_Ts_good dc_X3_readPiece (pc := 15) (i := 9) (idx := 79) rfl (m_X3_open_0 hAd hZ hGd) wl_X3_79 wm_X3_open wy_X3_open (by decide) ⟨rfl, rfl, rfl⟩ ⟨rfl, rfl⟩, List.forall_mem_cons.mpr ⟨rv_ctV X Y fm_Ts_good dc_X3_readPiece (pc := 25) (i := 15) (idx := 116) rfl (m_X3_readPiece_5 hAd hZ hGd) wl_X3_116 wm_X3_readPiece wy_X3_readPiece (by decide) ⟨rfl, rfl, rfl⟩ ⟨rfl, rfl⟩, List.forall_mem_cons.mpr ⟨rv_ctV X Y fm_Ts_good dc_X3_readPiece (pc := 39) (i := 23) (idx := 108) rfl (m_X1_putStep_0 hAd hZ hGd) wl_X3_108 wm_X1_putStep wy_X1_putStep (by decide) ⟨rfl, rfl, rfl⟩ ⟨rfl, rfl⟩, List.forall_mem_cons.mpr ⟨rv_ctV X Y fm_Ts_good dc_X3_readPiece (pc := 55) (i := 33) (idx := 79) rfl (m_X3_open_0 hAd hZ hGd) wl_X3_79 wm_X3_open wy_X3_open (by decide) ⟨rfl, rfl, rfl⟩ ⟨rfl, rfl⟩, List.forall_mem_cons.mpr ⟨rv_ctV X Y fm_Ts_good dc_X3_readPiece (pc := 65) (i := 39) (idx := 83) rfl (m_X3_readParts_1 hAd hZ hGd) wl_X3_83 wm_X3_readParts wy_X3_readParts (by decide) ⟨rfl, rfl, rfl⟩ ⟨rfl, rfl⟩, List.forall_mem_cons.mpr ⟨rv_ctV X Y fm_Ts_good dc_X3_readPiece (pc := 74) (i := 43) (idx := 86) rfl (m_X3_close_0 hAd hZ hGd) wl_X3_86 wm_X3_close wy_X3_close (by decide) ⟨rfl, rfl, rfl⟩ ⟨rfl, rfl⟩, List.forall_mem_cons.mpr ⟨rv_ctV X Y fm_Ts_good dc_X3_readPiece (pc := 88) (i := 51) (idx := 73) rfl (m_X3_readSum_5 hAd hZ hGd) wl_X3_73 wm_X3_readSum wy_X3_readSum (by decide) ⟨rfl, rfl, rfl⟩ ⟨rfl, rfl⟩, List.forall_mem_cons.mpr ⟨rv_ctV X Y fm_Ts_good dc_X3_readPiece (pc := 97) (i := 56) (idx := 39) rfl (m_X3_next_0 hAd hZ hGd) wl_X3_39 wm_X3_next wy_X3_next (by decide) ⟨rfl, rfl, rfl⟩ ⟨rfl, rfl⟩, List.forall_mem_cons.mpr ⟨rv_ctV X Y fm_Ts_good dc_X3_readPiece (pc := 121) (i := 69) (idx := 43) rfl (m_X3_fail_0 hAd hZ hGd) wl_X3_43 wm_X3_fail wy_X3_fail (by decide) ⟨rfl, rfl, rfl⟩ ⟨rfl, rfl⟩, List.forall_mem_cons.mpr ⟨rv_ctV X Y fm_Ts_good dc_X3_readPiece (pc := 137) (i := 79) (idx := 73) rfl (m_X3_readSum_5 hAd hZ hGd) wl_X3_73 wm_X3_readSum wy_X3_readSum (by decide) ⟨rfl, rfl, rfl⟩ ⟨rfl, rfl⟩, List.forall_mem_cons.mpr ⟨rv_ctV X Y fm_Ts_good dc_X3_readPiece (pc := 151) (i := 87) (idx := 108) rfl (m_X1_putStep_0 hAd hZ hGd) wl_X3_108 wm_X1_putStep wy_X1_putStep (by decide) ⟨rfl, rfl, rfl⟩ ⟨rfl, rfl⟩, fun _ h => absurd h List.not_mem_nil⟩⟩⟩⟩⟩⟩⟩⟩⟩⟩⟩⟩) (fun _ _ _ _ _ _ _ _ _ _ _ _ _ _ _ _ h => absurd h List.not_mem_nil)
def K_X3_readPieces_2 : rv_K := ([rv_r 16, rv_i 5 5], [], [(16, 3), (16, 4), (17, 2), (18, 9999), (19, 9999)], [(0, 0, 1)], [], [])
def ct_X3_readPieces_2 : List (Nat × rv_K) := [(2, K_X3_readPiece_4), (12, K_X3_next_0), (25, K_X1_putStep_0), (29, K_X3_readPiece_4), (36, K_X1_leadToEnd_0)]
def n_X3_readPieces_2_0 : List rv_N := [
  (0, ([rv_r 16, rv_i 5 5, rv_u, rv_u], [], []), [1], 2070610, [], []),
  (1, ([rv_r 16, rv_i 5 5, rv_u, rv_u], [rv_r 16], []), [2], 2070609, [], []),
  (2, ([rv_r 16, rv_i 5 5, rv_u, rv_u], [(1, 0, 5, 5, [(.inl 1, 0)], []), rv_r 16], []), [3], 2070608, [], [0]),
  (3, ([rv_r 16, rv_i 5 5, rv_u, rv_u], [rv_i 0 1], []), [4, 6], 2070607, [], []),
  (4, ([rv_r 16, rv_i 5 5, rv_u, rv_u], [], []), [5], 1, [], []),
  (5, ([rv_r 16, rv_i 5 5, rv_u, rv_u], [rv_i 0 0], []), [], 0, [], []),
  (6, ([rv_r 16, rv_i 5 5, rv_u, rv_u], [], []), [7], 2070606, [], []),
  (7, ([rv_r 16, rv_i 5 5, rv_u, rv_u], [rv_i 0 0], []), [8], 2070605, [], []),
  (8, ([rv_r 16, rv_i 5 5, rv_i 0 200, rv_u], [], []), [9], 2070604, [(2, (-10353))], []),
  (9, ([rv_r 16, rv_i 5 5, rv_i 0 200, rv_u], [(1, 0, 0, 200, [(.inl 2, 0)], [])], []), [10], 2070603, [(2, (-10353))], []),
  (10, ([rv_r 16, rv_i 5 5, rv_i 0 200, rv_u], [rv_i 200 200, (1, 0, 0, 200, [(.inl 2, 0)], [])], []), [11, 39], 2070602, [(2, (-10353))], []),
  (11, ([rv_r 16, rv_i 5 5, rv_i 0 199, rv_u], [], []), [12], 2060277, [(2, (-10353))], []),
  (12, ([rv_r 16, rv_i 5 5, rv_i 0 199, rv_u], [rv_r 16], []), [13], 2060276, [(2, (-10353))], [1]),
  (13, ([rv_r 16, rv_i 5 5, rv_i 0 199, rv_u], [rv_i (-1) 255], []), [14], 2060275, [(2, (-10353))], []),
  (14, ([rv_r 16, rv_i 5 5, rv_i 0 199, rv_u], [rv_i 38 38, rv_i (-1) 255], []), [15, 39], 2060274, [(2, (-10353))], []),
  (15, ([rv_r 16, rv_i 5 5, rv_i 0 199, rv_u], [], []), [16], 2060273, [(2, (-10353))], [])]
def n_X3_readPieces_2_1 : List rv_N := [
  (16, ([rv_r 16, rv_i 5 5, rv_i 0 199, rv_u], [rv_r 16], []), [17], 2060272, [(2, (-10353))], []),
  (17, ([rv_r 16, rv_i 5 5, rv_i 0 199, rv_u], [rv_r 16, rv_r 16], []), [18], 2060271, [(2, (-10353))], []),
  (18, ([rv_r 16, rv_i 5 5, rv_i 0 199, rv_u], [(1, 0, (-2147483648), 2147483647, [(.inr (16, 3), 0)], []), rv_r 16], []), [19], 2060270, [(2, (-10353))], []),
  (19, ([rv_r 16, rv_i 5 5, rv_i 0 199, rv_u], [rv_i 1 1, (1, 0, (-2147483648), 2147483647, [(.inr (16, 3), 0)], []), rv_r 16], []), [20], 2060269, [(2, (-10353))], []),
  (20, ([rv_r 16, rv_i 5 5, rv_i 0 199, rv_u], [(1, 0, (-2147483648), 2147483647, [(.inr (16, 3), 1)], []), rv_r 16], []), [21], 2060268, [(2, (-10353))], []),
  (21, ([rv_r 16, rv_i 5 5, rv_i 0 199, rv_u], [], []), [22], 2060267, [(2, (-10353))], []),
  (22, ([rv_r 16, rv_i 5 5, rv_i 0 199, rv_u], [rv_r 16], []), [23], 2060266, [(2, (-10353))], []),
  (23, ([rv_r 16, rv_i 5 5, rv_i 0 199, rv_u], [rv_r 17], []), [24], 2060265, [(2, (-10353))], []),
  (24, ([rv_r 16, rv_i 5 5, rv_i 0 199, rv_u], [rv_i 3 3, rv_r 17], []), [25], 2060264, [(2, (-10353))], []),
  (25, ([rv_r 16, rv_i 5 5, rv_i 0 199, rv_u], [rv_i 0 0, rv_i 3 3, rv_r 17], []), [26], 2060263, [(2, (-10353))], [2]),
  (26, ([rv_r 16, rv_i 5 5, rv_i 0 199, rv_u], [rv_i (-1) 199], []), [27], 2060262, [(2, (-10353))], []),
  (27, ([rv_r 16, rv_i 5 5, rv_i 0 199, rv_i (-1) 199], [], []), [28], 2060261, [(2, (-10353))], []),
  (28, ([rv_r 16, rv_i 5 5, rv_i 0 199, rv_i (-1) 199], [rv_r 16], []), [29], 2060260, [(2, (-10353))], []),
  (29, ([rv_r 16, rv_i 5 5, rv_i 0 199, rv_i (-1) 199], [(1, 0, 5, 5, [(.inl 1, 0)], []), rv_r 16], []), [30], 2060259, [(2, (-10353))], [3]),
  (30, ([rv_r 16, rv_i 5 5, rv_i 0 199, rv_i (-1) 199], [rv_i 0 1], []), [31, 33], 2060258, [(2, (-10353))], []),
  (31, ([rv_r 16, rv_i 5 5, rv_i 0 199, rv_i (-1) 199], [], []), [32], 1, [], [])]
def n_X3_readPieces_2_2 : List rv_N := [
  (32, ([rv_r 16, rv_i 5 5, rv_i 0 199, rv_i (-1) 199], [rv_i 0 0], []), [], 0, [], []),
  (33, ([rv_r 16, rv_i 5 5, rv_i 0 199, rv_i (-1) 199], [], []), [34], 2060257, [(2, (-10353))], []),
  (34, ([rv_r 16, rv_i 5 5, rv_i 0 199, rv_i (-1) 199], [rv_r 16], []), [35], 2060256, [(2, (-10353))], []),
  (35, ([rv_r 16, rv_i 5 5, rv_i 0 199, rv_i (-1) 199], [rv_r 17], []), [36], 2060255, [(2, (-10353))], []),
  (36, ([rv_r 16, rv_i 5 5, rv_i 0 199, rv_i (-1) 199], [(1, 0, (-1), 199, [(.inl 3, 0)], []), rv_r 17], []), [37], 2060254, [(2, (-10353))], [4]),
  (37, ([rv_r 16, rv_i 5 5, rv_i 0 199, rv_i (-1) 199], [], []), [38], 2060253, [(2, (-10353))], []),
  (38, ([rv_r 16, rv_i 5 5, rv_i 1 200, rv_i (-1) 199], [], []), [8], 2070605, [(2, (-10353))], []),
  (39, ([rv_r 16, rv_i 5 5, rv_i 0 200, rv_u], [], []), [40], 1, [], []),
  (40, ([rv_r 16, rv_i 5 5, rv_i 0 200, rv_u], [rv_i 1 1], []), [], 0, [], [])]
def n_X3_readPieces_2 : List rv_N := n_X3_readPieces_2_0 ++ (n_X3_readPieces_2_1 ++ (n_X3_readPieces_2_2))
noncomputable def gn_X3_readPieces_2 : Nat → Option rv_N := rv_ap 16 (rv_at n_X3_readPieces_2_0) (rv_ap 16 (rv_at n_X3_readPieces_2_1) (rv_at n_X3_readPieces_2_2))
theorem hn_X3_readPieces_2 : ∀ i : Nat, n_X3_readPieces_2[i]? = gn_X3_readPieces_2 i := rv_ap_eq (l := n_X3_readPieces_2_0) (c := 16) (rv_ap_eq (l := n_X3_readPieces_2_1) (c := 16) (rv_at_eq n_X3_readPieces_2_2) rfl) rfl
set_option maxRecDepth 100000 in
theorem a_X3_readPieces_2 : rv_all (fm_tm, flX3, fm_wr, kcX3, klX3, K_X3_readPieces_2.2.2.1, [], 4) ct_X3_readPieces_2 cd_X3_readPieces n_X3_readPieces_2 K_X3_readPieces_2 [] 0 n_X3_readPieces_2 = true := rv_fast hn_X3_readPieces_2 hc_X3_readPieces (by decide +kernel)
theorem m_X3_readPieces_2 {l : Launch} {D : va_G} {ad : Nat → Nat} {cy : Nat → ClassId} {Z : State → Heap → Prop} {Gp : fm_V → Prop} (hAd : fm_Ad fm_tm ad) (hZ : fm_Zk (fm_A fm_tm ad) Z) (hGd : fm_Gd Gp) : rv_Met l D fm_cl fm_tm ad cy fm_nt Z Gp yX3_readPieces (.code yX3_readPieces prog_5_method_10_code 4 (some .boolean) :: fm_Ts) { frames := 11, cells := 0, slots := 0, locals := 1100 } K_X3_readPieces_2 := rv_met hAd hZ (Or.inl (by decide +kernel)) evX3 dc_X3_readPieces a_X3_readPieces_2 ⟨rfl, rfl, rfl⟩ (by decide +kernel) (by decide +kernel) (by decide) (fm_gm hGd (by decide +kernel)) (Or.inr ⟨rfl, by decide, by decide⟩) (fun p e s m args below meth c Q X Y => List.forall_mem_cons.mpr ⟨rv_ctV X Y fm_Ts_good dc_X3_readPieces (pc := 2) (i := 2) (idx := 116) rfl (m_X3_readPiece_4 hAd hZ hGd) wl_X3_116 wm_X3_readPiece wy_X3_readPiece (by decide) ⟨rfl, rfl, rfl⟩ ⟨rfl, rfl⟩, List.forall_mem_cons.mpr ⟨rv_ctV X Y fm_Ts_good dc_X3_readPieces (pc := 20) (i := 12) (idx := 39) rfl (m_X3_next_0 hAd hZ hGd) wl_X3_39 wm_X3_next wy_X3_next (by decide) ⟨rfl, rfl, rfl⟩ ⟨rfl, rfl⟩, List.forall_mem_cons.mpr ⟨rv_ctV X Y fm_Ts_good dc_X3_readPieces (pc := 44) (i := 25) (idx := 108) rfl (m_X1_putStep_0 hAd hZ hGd) wl_X3_108 wm_X1_putStep wy_X1_putStep (by decide) ⟨rfl, rfl, rfl⟩ ⟨rfl, rfl⟩, List.forall_mem_cons.mpr ⟨rv_ctV X Y fm_Ts_good dc_X3_readPieces (pc := 50) (i := 29) (idx := 116) rfl (m_X3_readPiece_4 hAd hZ hGd) wl_X3_116 wm_X3_readPiece wy_X3_readPiece (by decide) ⟨rfl, rfl, rfl⟩ ⟨rfl, rfl⟩, List.forall_mem_cons.mpr ⟨rv_ctV X Y fm_Ts_good dc_X3_readPieces (pc := 63) (i := 36) (idx := 112) rfl (m_X1_leadToEnd_0 hAd hZ hGd) wl_X3_112 wm_X1_leadToEnd wy_X1_leadToEnd (by decide) ⟨rfl, rfl, rfl⟩ ⟨rfl, rfl⟩, fun _ h => absurd h List.not_mem_nil⟩⟩⟩⟩⟩) (fun _ _ _ _ _ _ _ _ _ _ _ _ _ _ _ _ h => absurd h List.not_mem_nil)
def K_X3_readParts_2 : rv_K := ([rv_r 16, rv_i 5 5], [], [(16, 3), (16, 4), (17, 2), (18, 9999), (19, 9999)], [(0, 0, 1)], [], [])
def ct_X3_readParts_2 : List (Nat × rv_K) := [(2, K_X3_readPieces_2), (12, K_X3_next_0), (25, K_X1_putStep_0), (29, K_X3_readPieces_2), (36, K_X1_leadToEnd_0)]
def n_X3_readParts_2_0 : List rv_N := [
  (0, ([rv_r 16, rv_i 5 5, rv_u, rv_u], [], []), [1], 2070610, [], []),
  (1, ([rv_r 16, rv_i 5 5, rv_u, rv_u], [rv_r 16], []), [2], 2070609, [], []),
  (2, ([rv_r 16, rv_i 5 5, rv_u, rv_u], [(1, 0, 5, 5, [(.inl 1, 0)], []), rv_r 16], []), [3], 2070608, [], [0]),
  (3, ([rv_r 16, rv_i 5 5, rv_u, rv_u], [rv_i 0 1], []), [4, 6], 2070607, [], []),
  (4, ([rv_r 16, rv_i 5 5, rv_u, rv_u], [], []), [5], 1, [], []),
  (5, ([rv_r 16, rv_i 5 5, rv_u, rv_u], [rv_i 0 0], []), [], 0, [], []),
  (6, ([rv_r 16, rv_i 5 5, rv_u, rv_u], [], []), [7], 2070606, [], []),
  (7, ([rv_r 16, rv_i 5 5, rv_u, rv_u], [rv_i 0 0], []), [8], 2070605, [], []),
  (8, ([rv_r 16, rv_i 5 5, rv_i 0 200, rv_u], [], []), [9], 2070604, [(2, (-10353))], []),
  (9, ([rv_r 16, rv_i 5 5, rv_i 0 200, rv_u], [(1, 0, 0, 200, [(.inl 2, 0)], [])], []), [10], 2070603, [(2, (-10353))], []),
  (10, ([rv_r 16, rv_i 5 5, rv_i 0 200, rv_u], [rv_i 200 200, (1, 0, 0, 200, [(.inl 2, 0)], [])], []), [11, 39], 2070602, [(2, (-10353))], []),
  (11, ([rv_r 16, rv_i 5 5, rv_i 0 199, rv_u], [], []), [12], 2060277, [(2, (-10353))], []),
  (12, ([rv_r 16, rv_i 5 5, rv_i 0 199, rv_u], [rv_r 16], []), [13], 2060276, [(2, (-10353))], [1]),
  (13, ([rv_r 16, rv_i 5 5, rv_i 0 199, rv_u], [rv_i (-1) 255], []), [14], 2060275, [(2, (-10353))], []),
  (14, ([rv_r 16, rv_i 5 5, rv_i 0 199, rv_u], [rv_i 124 124, rv_i (-1) 255], []), [15, 39], 2060274, [(2, (-10353))], []),
  (15, ([rv_r 16, rv_i 5 5, rv_i 0 199, rv_u], [], []), [16], 2060273, [(2, (-10353))], [])]
def n_X3_readParts_2_1 : List rv_N := [
  (16, ([rv_r 16, rv_i 5 5, rv_i 0 199, rv_u], [rv_r 16], []), [17], 2060272, [(2, (-10353))], []),
  (17, ([rv_r 16, rv_i 5 5, rv_i 0 199, rv_u], [rv_r 16, rv_r 16], []), [18], 2060271, [(2, (-10353))], []),
  (18, ([rv_r 16, rv_i 5 5, rv_i 0 199, rv_u], [(1, 0, (-2147483648), 2147483647, [(.inr (16, 3), 0)], []), rv_r 16], []), [19], 2060270, [(2, (-10353))], []),
  (19, ([rv_r 16, rv_i 5 5, rv_i 0 199, rv_u], [rv_i 1 1, (1, 0, (-2147483648), 2147483647, [(.inr (16, 3), 0)], []), rv_r 16], []), [20], 2060269, [(2, (-10353))], []),
  (20, ([rv_r 16, rv_i 5 5, rv_i 0 199, rv_u], [(1, 0, (-2147483648), 2147483647, [(.inr (16, 3), 1)], []), rv_r 16], []), [21], 2060268, [(2, (-10353))], []),
  (21, ([rv_r 16, rv_i 5 5, rv_i 0 199, rv_u], [], []), [22], 2060267, [(2, (-10353))], []),
  (22, ([rv_r 16, rv_i 5 5, rv_i 0 199, rv_u], [rv_r 16], []), [23], 2060266, [(2, (-10353))], []),
  (23, ([rv_r 16, rv_i 5 5, rv_i 0 199, rv_u], [rv_r 17], []), [24], 2060265, [(2, (-10353))], []),
  (24, ([rv_r 16, rv_i 5 5, rv_i 0 199, rv_u], [rv_i 2 2, rv_r 17], []), [25], 2060264, [(2, (-10353))], []),
  (25, ([rv_r 16, rv_i 5 5, rv_i 0 199, rv_u], [rv_i 0 0, rv_i 2 2, rv_r 17], []), [26], 2060263, [(2, (-10353))], [2]),
  (26, ([rv_r 16, rv_i 5 5, rv_i 0 199, rv_u], [rv_i (-1) 199], []), [27], 2060262, [(2, (-10353))], []),
  (27, ([rv_r 16, rv_i 5 5, rv_i 0 199, rv_i (-1) 199], [], []), [28], 2060261, [(2, (-10353))], []),
  (28, ([rv_r 16, rv_i 5 5, rv_i 0 199, rv_i (-1) 199], [rv_r 16], []), [29], 2060260, [(2, (-10353))], []),
  (29, ([rv_r 16, rv_i 5 5, rv_i 0 199, rv_i (-1) 199], [(1, 0, 5, 5, [(.inl 1, 0)], []), rv_r 16], []), [30], 2060259, [(2, (-10353))], [3]),
  (30, ([rv_r 16, rv_i 5 5, rv_i 0 199, rv_i (-1) 199], [rv_i 0 1], []), [31, 33], 2060258, [(2, (-10353))], []),
  (31, ([rv_r 16, rv_i 5 5, rv_i 0 199, rv_i (-1) 199], [], []), [32], 1, [], [])]
def n_X3_readParts_2_2 : List rv_N := [
  (32, ([rv_r 16, rv_i 5 5, rv_i 0 199, rv_i (-1) 199], [rv_i 0 0], []), [], 0, [], []),
  (33, ([rv_r 16, rv_i 5 5, rv_i 0 199, rv_i (-1) 199], [], []), [34], 2060257, [(2, (-10353))], []),
  (34, ([rv_r 16, rv_i 5 5, rv_i 0 199, rv_i (-1) 199], [rv_r 16], []), [35], 2060256, [(2, (-10353))], []),
  (35, ([rv_r 16, rv_i 5 5, rv_i 0 199, rv_i (-1) 199], [rv_r 17], []), [36], 2060255, [(2, (-10353))], []),
  (36, ([rv_r 16, rv_i 5 5, rv_i 0 199, rv_i (-1) 199], [(1, 0, (-1), 199, [(.inl 3, 0)], []), rv_r 17], []), [37], 2060254, [(2, (-10353))], [4]),
  (37, ([rv_r 16, rv_i 5 5, rv_i 0 199, rv_i (-1) 199], [], []), [38], 2060253, [(2, (-10353))], []),
  (38, ([rv_r 16, rv_i 5 5, rv_i 1 200, rv_i (-1) 199], [], []), [8], 2070605, [(2, (-10353))], []),
  (39, ([rv_r 16, rv_i 5 5, rv_i 0 200, rv_u], [], []), [40], 1, [], []),
  (40, ([rv_r 16, rv_i 5 5, rv_i 0 200, rv_u], [rv_i 1 1], []), [], 0, [], [])]
def n_X3_readParts_2 : List rv_N := n_X3_readParts_2_0 ++ (n_X3_readParts_2_1 ++ (n_X3_readParts_2_2))
noncomputable def gn_X3_readParts_2 : Nat → Option rv_N := rv_ap 16 (rv_at n_X3_readParts_2_0) (rv_ap 16 (rv_at n_X3_readParts_2_1) (rv_at n_X3_readParts_2_2))
theorem hn_X3_readParts_2 : ∀ i : Nat, n_X3_readParts_2[i]? = gn_X3_readParts_2 i := rv_ap_eq (l := n_X3_readParts_2_0) (c := 16) (rv_ap_eq (l := n_X3_readParts_2_1) (c := 16) (rv_at_eq n_X3_readParts_2_2) rfl) rfl
set_option maxRecDepth 100000 in
theorem a_X3_readParts_2 : rv_all (fm_tm, flX3, fm_wr, kcX3, klX3, K_X3_readParts_2.2.2.1, [], 4) ct_X3_readParts_2 cd_X3_readParts n_X3_readParts_2 K_X3_readParts_2 [] 0 n_X3_readParts_2 = true := rv_fast hn_X3_readParts_2 hc_X3_readParts (by decide +kernel)
theorem m_X3_readParts_2 {l : Launch} {D : va_G} {ad : Nat → Nat} {cy : Nat → ClassId} {Z : State → Heap → Prop} {Gp : fm_V → Prop} (hAd : fm_Ad fm_tm ad) (hZ : fm_Zk (fm_A fm_tm ad) Z) (hGd : fm_Gd Gp) : rv_Met l D fm_cl fm_tm ad cy fm_nt Z Gp yX3_readParts (.code yX3_readParts prog_5_method_9_code 4 (some .boolean) :: fm_Ts) { frames := 12, cells := 0, slots := 0, locals := 1200 } K_X3_readParts_2 := rv_met hAd hZ (Or.inl (by decide +kernel)) evX3 dc_X3_readParts a_X3_readParts_2 ⟨rfl, rfl, rfl⟩ (by decide +kernel) (by decide +kernel) (by decide) (fm_gm hGd (by decide +kernel)) (Or.inr ⟨rfl, by decide, by decide⟩) (fun p e s m args below meth c Q X Y => List.forall_mem_cons.mpr ⟨rv_ctV X Y fm_Ts_good dc_X3_readParts (pc := 2) (i := 2) (idx := 105) rfl (m_X3_readPieces_2 hAd hZ hGd) wl_X3_105 wm_X3_readPieces wy_X3_readPieces (by decide) ⟨rfl, rfl, rfl⟩ ⟨rfl, rfl⟩, List.forall_mem_cons.mpr ⟨rv_ctV X Y fm_Ts_good dc_X3_readParts (pc := 20) (i := 12) (idx := 39) rfl (m_X3_next_0 hAd hZ hGd) wl_X3_39 wm_X3_next wy_X3_next (by decide) ⟨rfl, rfl, rfl⟩ ⟨rfl, rfl⟩, List.forall_mem_cons.mpr ⟨rv_ctV X Y fm_Ts_good dc_X3_readParts (pc := 44) (i := 25) (idx := 108) rfl (m_X1_putStep_0 hAd hZ hGd) wl_X3_108 wm_X1_putStep wy_X1_putStep (by decide) ⟨rfl, rfl, rfl⟩ ⟨rfl, rfl⟩, List.forall_mem_cons.mpr ⟨rv_ctV X Y fm_Ts_good dc_X3_readParts (pc := 50) (i := 29) (idx := 105) rfl (m_X3_readPieces_2 hAd hZ hGd) wl_X3_105 wm_X3_readPieces wy_X3_readPieces (by decide) ⟨rfl, rfl, rfl⟩ ⟨rfl, rfl⟩, List.forall_mem_cons.mpr ⟨rv_ctV X Y fm_Ts_good dc_X3_readParts (pc := 63) (i := 36) (idx := 112) rfl (m_X1_leadToEnd_0 hAd hZ hGd) wl_X3_112 wm_X1_leadToEnd wy_X1_leadToEnd (by decide) ⟨rfl, rfl, rfl⟩ ⟨rfl, rfl⟩, fun _ h => absurd h List.not_mem_nil⟩⟩⟩⟩⟩) (fun _ _ _ _ _ _ _ _ _ _ _ _ _ _ _ _ h => absurd h List.not_mem_nil)
def K_X3_readPiece_3 : rv_K := ([rv_r 16, rv_i 4 4], [], [(16, 3), (16, 4), (17, 2), (18, 9999), (19, 9999)], [(0, 0, 1)], [], [])
def ct_X3_readPiece_3 : List (Nat × rv_K) := [(1, K_X3_next_0), (9, K_X3_open_0), (15, K_X3_readPiece_4), (23, K_X1_putStep_0), (33, K_X3_open_0), (39, K_X3_readParts_2), (43, K_X3_close_0), (51, K_X3_readSum_4), (56, K_X3_next_0), (69, K_X3_fail_0), (79, K_X3_readSum_4), (87, K_X1_putStep_0)]
def n_X3_readPiece_3_0 : List rv_N := [
  (0, ([rv_r 16, rv_i 4 4, rv_u, rv_u], [], []), [1], 42, [], []),
  (1, ([rv_r 16, rv_i 4 4, rv_u, rv_u], [rv_r 16], []), [2], 41, [], [0]),
  (2, ([rv_r 16, rv_i 4 4, rv_u, rv_u], [rv_i (-1) 255], []), [3], 40, [], []),
  (3, ([rv_r 16, rv_i 4 4, rv_i (-1) 255, rv_u], [], []), [4], 39, [], []),
  (4, ([rv_r 16, rv_i 4 4, rv_i (-1) 255, rv_u], [(1, 0, (-1), 255, [(.inl 2, 0)], [])], []), [5], 38, [], []),
  (5, ([rv_r 16, rv_i 4 4, rv_i (-1) 255, rv_u], [rv_i 33 33, (1, 0, (-1), 255, [(.inl 2, 0)], [])], []), [6, 27], 37, [], []),
  (6, ([rv_r 16, rv_i 4 4, rv_i 33 33, rv_u], [], []), [7], 18, [], []),
  (7, ([rv_r 16, rv_i 4 4, rv_i 33 33, rv_u], [rv_r 16], []), [8], 17, [], []),
  (8, ([rv_r 16, rv_i 4 4, rv_i 33 33, rv_u], [rv_i 33 33, rv_r 16], []), [9], 16, [], []),
  (9, ([rv_r 16, rv_i 4 4, rv_i 33 33, rv_u], [(1, 0, 4, 4, [(.inl 1, 0)], []), rv_i 33 33, rv_r 16], []), [10], 15, [], [1]),
  (10, ([rv_r 16, rv_i 4 4, rv_i 33 33, rv_u], [(1, 0, 0, 1, [], [(.inl 1, (-2147483648), 5)])], []), [11, 17], 14, [], []),
  (11, ([rv_r 16, rv_i 4 4, rv_i 33 33, rv_u], [], []), [12], 13, [], []),
  (12, ([rv_r 16, rv_i 4 4, rv_i 33 33, rv_u], [rv_r 16], []), [13], 12, [], []),
  (13, ([rv_r 16, rv_i 4 4, rv_i 33 33, rv_u], [(1, 0, 4, 4, [(.inl 1, 0)], []), rv_r 16], []), [14], 11, [], []),
  (14, ([rv_r 16, rv_i 4 4, rv_i 33 33, rv_u], [rv_i 1 1, (1, 0, 4, 4, [(.inl 1, 0)], []), rv_r 16], []), [15], 10, [], []),
  (15, ([rv_r 16, rv_i 4 4, rv_i 33 33, rv_u], [(1, 0, 5, 5, [(.inl 1, 1)], []), rv_r 16], []), [16], 9, [], [2])]
def n_X3_readPiece_3_1 : List rv_N := [
  (16, ([rv_r 16, rv_i 4 4, rv_i 33 33, rv_u], [rv_i 0 1], []), [17, 19], 8, [], []),
  (17, ([rv_r 16, rv_i 4 4, rv_i 33 33, rv_u], [], []), [18], 1, [], []),
  (18, ([rv_r 16, rv_i 4 4, rv_i 33 33, rv_u], [rv_i 0 0], []), [], 0, [], []),
  (19, ([rv_r 16, rv_i 4 4, rv_i 33 33, rv_u], [], []), [20], 7, [], []),
  (20, ([rv_r 16, rv_i 4 4, rv_i 33 33, rv_u], [rv_r 16], []), [21], 6, [], []),
  (21, ([rv_r 16, rv_i 4 4, rv_i 33 33, rv_u], [rv_r 17], []), [22], 5, [], []),
  (22, ([rv_r 16, rv_i 4 4, rv_i 33 33, rv_u], [rv_i 4 4, rv_r 17], []), [23], 4, [], []),
  (23, ([rv_r 16, rv_i 4 4, rv_i 33 33, rv_u], [rv_i 0 0, rv_i 4 4, rv_r 17], []), [24], 3, [], [3]),
  (24, ([rv_r 16, rv_i 4 4, rv_i 33 33, rv_u], [rv_i (-1) 199], []), [25], 2, [], []),
  (25, ([rv_r 16, rv_i 4 4, rv_i 33 33, rv_u], [], []), [26], 1, [], []),
  (26, ([rv_r 16, rv_i 4 4, rv_i 33 33, rv_u], [rv_i 1 1], []), [], 0, [], []),
  (27, ([rv_r 16, rv_i 4 4, rv_i (-1) 255, rv_u], [], []), [28], 36, [], []),
  (28, ([rv_r 16, rv_i 4 4, rv_i (-1) 255, rv_u], [(1, 0, (-1), 255, [(.inl 2, 0)], [])], []), [29], 35, [], []),
  (29, ([rv_r 16, rv_i 4 4, rv_i (-1) 255, rv_u], [rv_i 40 40, (1, 0, (-1), 255, [(.inl 2, 0)], [])], []), [30, 50], 34, [], []),
  (30, ([rv_r 16, rv_i 4 4, rv_i 40 40, rv_u], [], []), [31], 17, [], []),
  (31, ([rv_r 16, rv_i 4 4, rv_i 40 40, rv_u], [rv_r 16], []), [32], 16, [], [])]
def n_X3_readPiece_3_2 : List rv_N := [
  (32, ([rv_r 16, rv_i 4 4, rv_i 40 40, rv_u], [rv_i 40 40, rv_r 16], []), [33], 15, [], []),
  (33, ([rv_r 16, rv_i 4 4, rv_i 40 40, rv_u], [(1, 0, 4, 4, [(.inl 1, 0)], []), rv_i 40 40, rv_r 16], []), [34], 14, [], [4]),
  (34, ([rv_r 16, rv_i 4 4, rv_i 40 40, rv_u], [(1, 0, 0, 1, [], [(.inl 1, (-2147483648), 5)])], []), [35, 47], 13, [], []),
  (35, ([rv_r 16, rv_i 4 4, rv_i 40 40, rv_u], [], []), [36], 12, [], []),
  (36, ([rv_r 16, rv_i 4 4, rv_i 40 40, rv_u], [rv_r 16], []), [37], 11, [], []),
  (37, ([rv_r 16, rv_i 4 4, rv_i 40 40, rv_u], [(1, 0, 4, 4, [(.inl 1, 0)], []), rv_r 16], []), [38], 10, [], []),
  (38, ([rv_r 16, rv_i 4 4, rv_i 40 40, rv_u], [rv_i 1 1, (1, 0, 4, 4, [(.inl 1, 0)], []), rv_r 16], []), [39], 9, [], []),
  (39, ([rv_r 16, rv_i 4 4, rv_i 40 40, rv_u], [(1, 0, 5, 5, [(.inl 1, 1)], []), rv_r 16], []), [40], 8, [], [5]),
  (40, ([rv_r 16, rv_i 4 4, rv_i 40 40, rv_u], [rv_i 0 1], []), [41, 47], 7, [], []),
  (41, ([rv_r 16, rv_i 4 4, rv_i 40 40, rv_u], [], []), [42], 6, [], []),
  (42, ([rv_r 16, rv_i 4 4, rv_i 40 40, rv_u], [rv_r 16], []), [43], 5, [], []),
  (43, ([rv_r 16, rv_i 4 4, rv_i 40 40, rv_u], [rv_i 41 41, rv_r 16], []), [44], 4, [], [6]),
  (44, ([rv_r 16, rv_i 4 4, rv_i 40 40, rv_u], [rv_i 0 1], []), [45, 47], 3, [], []),
  (45, ([rv_r 16, rv_i 4 4, rv_i 40 40, rv_u], [], []), [46], 2, [], []),
  (46, ([rv_r 16, rv_i 4 4, rv_i 40 40, rv_u], [rv_i 1 1], []), [49], 1, [], []),
  (47, ([rv_r 16, rv_i 4 4, rv_i 40 40, rv_u], [], []), [48], 1, [], [])]
def n_X3_readPiece_3_3 : List rv_N := [
  (48, ([rv_r 16, rv_i 4 4, rv_i 40 40, rv_u], [rv_i 0 0], []), [], 0, [], []),
  (48, ([rv_r 16, rv_i 4 4, rv_i 40 40, rv_u], [rv_i 1 1], []), [], 0, [], []),
  (49, ([rv_r 16, rv_i 4 4, rv_i (-1) 255, rv_u], [], []), [51], 33, [], []),
  (50, ([rv_r 16, rv_i 4 4, rv_i (-1) 255, rv_u], [rv_r 16], []), [52], 32, [], []),
  (51, ([rv_r 16, rv_i 4 4, rv_i (-1) 255, rv_u], [(1, 0, 4, 4, [(.inl 1, 0)], []), rv_r 16], []), [53], 31, [], [7]),
  (52, ([rv_r 16, rv_i 4 4, rv_i (-1) 255, rv_u], [rv_i 0 1], []), [54, 56], 30, [], []),
  (53, ([rv_r 16, rv_i 4 4, rv_i (-1) 255, rv_u], [], []), [55], 1, [], []),
  (54, ([rv_r 16, rv_i 4 4, rv_i (-1) 255, rv_u], [rv_i 0 0], []), [], 0, [], []),
  (55, ([rv_r 16, rv_i 4 4, rv_i (-1) 255, rv_u], [], []), [57], 29, [], []),
  (56, ([rv_r 16, rv_i 4 4, rv_i (-1) 255, rv_u], [rv_r 16], []), [58], 28, [], [8]),
  (57, ([rv_r 16, rv_i 4 4, rv_i (-1) 255, rv_u], [rv_i (-1) 255], []), [59], 27, [], []),
  (58, ([rv_r 16, rv_i 4 4, rv_i (-1) 255, rv_i (-1) 255], [], []), [60], 26, [], []),
  (59, ([rv_r 16, rv_i 4 4, rv_i (-1) 255, rv_i (-1) 255], [(1, 0, (-1), 255, [(.inl 3, 0)], [])], []), [61], 25, [], []),
  (60, ([rv_r 16, rv_i 4 4, rv_i (-1) 255, rv_i (-1) 255], [rv_i 60 60, (1, 0, (-1), 255, [(.inl 3, 0)], [])], []), [62, 72], 24, [], []),
  (61, ([rv_r 16, rv_i 4 4, rv_i (-1) 255, rv_i (-1) 255], [], []), [63], 23, [], []),
  (62, ([rv_r 16, rv_i 4 4, rv_i (-1) 255, rv_i (-1) 255], [(1, 0, (-1), 255, [(.inl 3, 0)], [])], []), [64], 22, [], [])]
def n_X3_readPiece_3_4 : List rv_N := [
  (63, ([rv_r 16, rv_i 4 4, rv_i (-1) 255, rv_i (-1) 255], [rv_i 62 62, (1, 0, (-1), 255, [(.inl 3, 0)], [])], []), [65, 72], 21, [], []),
  (64, ([rv_r 16, rv_i 4 4, rv_i (-1) 255, rv_i (-1) 255], [], []), [66], 20, [], []),
  (65, ([rv_r 16, rv_i 4 4, rv_i (-1) 255, rv_i (-1) 255], [(1, 0, (-1), 255, [(.inl 3, 0)], [])], []), [67], 19, [], []),
  (66, ([rv_r 16, rv_i 4 4, rv_i (-1) 255, rv_i (-1) 255], [rv_i 61 61, (1, 0, (-1), 255, [(.inl 3, 0)], [])], []), [68, 72], 18, [], []),
  (67, ([rv_r 16, rv_i 4 4, rv_i (-1) 255, rv_i (-1) 255], [], []), [69], 3, [], []),
  (68, ([rv_r 16, rv_i 4 4, rv_i (-1) 255, rv_i (-1) 255], [rv_r 16], []), [70], 2, [], []),
  (69, ([rv_r 16, rv_i 4 4, rv_i (-1) 255, rv_i (-1) 255], [rv_i 1 1, rv_r 16], []), [71], 1, [], [9]),
  (70, ([rv_r 16, rv_i 4 4, rv_i (-1) 255, rv_i (-1) 255], [rv_i 0 0], []), [], 0, [], []),
  (71, ([rv_r 16, rv_i 4 4, rv_i (-1) 255, rv_i 60 62], [], []), [73], 17, [], []),
  (72, ([rv_r 16, rv_i 4 4, rv_i (-1) 255, rv_i 60 62], [rv_r 16], []), [74], 16, [], []),
  (73, ([rv_r 16, rv_i 4 4, rv_i (-1) 255, rv_i 60 62], [rv_r 16, rv_r 16], []), [75], 15, [], []),
  (74, ([rv_r 16, rv_i 4 4, rv_i (-1) 255, rv_i 60 62], [(1, 0, (-2147483648), 2147483647, [(.inr (16, 3), 0)], []), rv_r 16], []), [76], 14, [], []),
  (75, ([rv_r 16, rv_i 4 4, rv_i (-1) 255, rv_i 60 62], [rv_i 1 1, (1, 0, (-2147483648), 2147483647, [(.inr (16, 3), 0)], []), rv_r 16], []), [77], 13, [], []),
  (76, ([rv_r 16, rv_i 4 4, rv_i (-1) 255, rv_i 60 62], [(1, 0, (-2147483648), 2147483647, [(.inr (16, 3), 1)], []), rv_r 16], []), [78], 12, [], []),
  (77, ([rv_r 16, rv_i 4 4, rv_i (-1) 255, rv_i 60 62], [], []), [79], 11, [], []),
  (78, ([rv_r 16, rv_i 4 4, rv_i (-1) 255, rv_i 60 62], [rv_r 16], []), [80], 10, [], [])]
def n_X3_readPiece_3_5 : List rv_N := [
  (79, ([rv_r 16, rv_i 4 4, rv_i (-1) 255, rv_i 60 62], [(1, 0, 4, 4, [(.inl 1, 0)], []), rv_r 16], []), [81], 9, [], [10]),
  (80, ([rv_r 16, rv_i 4 4, rv_i (-1) 255, rv_i 60 62], [rv_i 0 1], []), [82, 84], 8, [], []),
  (81, ([rv_r 16, rv_i 4 4, rv_i (-1) 255, rv_i 60 62], [], []), [83], 1, [], []),
  (82, ([rv_r 16, rv_i 4 4, rv_i (-1) 255, rv_i 60 62], [rv_i 0 0], []), [], 0, [], []),
  (83, ([rv_r 16, rv_i 4 4, rv_i (-1) 255, rv_i 60 62], [], []), [85], 7, [], []),
  (84, ([rv_r 16, rv_i 4 4, rv_i (-1) 255, rv_i 60 62], [rv_r 16], []), [86], 6, [], []),
  (85, ([rv_r 16, rv_i 4 4, rv_i (-1) 255, rv_i 60 62], [rv_r 17], []), [87], 5, [], []),
  (86, ([rv_r 16, rv_i 4 4, rv_i (-1) 255, rv_i 60 62], [(1, 0, 60, 62, [(.inl 3, 0)], []), rv_r 17], []), [88], 4, [], []),
  (87, ([rv_r 16, rv_i 4 4, rv_i (-1) 255, rv_i 60 62], [rv_i 0 0, (1, 0, 60, 62, [(.inl 3, 0)], []), rv_r 17], []), [89], 3, [], [11]),
  (88, ([rv_r 16, rv_i 4 4, rv_i (-1) 255, rv_i 60 62], [rv_i (-1) 199], []), [90], 2, [], []),
  (89, ([rv_r 16, rv_i 4 4, rv_i (-1) 255, rv_i 60 62], [], []), [91], 1, [], []),
  (90, ([rv_r 16, rv_i 4 4, rv_i (-1) 255, rv_i 60 62], [rv_i 1 1], []), [], 0, [], [])]
def n_X3_readPiece_3 : List rv_N := n_X3_readPiece_3_0 ++ (n_X3_readPiece_3_1 ++ (n_X3_readPiece_3_2 ++ (n_X3_readPiece_3_3 ++ (n_X3_readPiece_3_4 ++ (n_X3_readPiece_3_5)))))
noncomputable def gn_X3_readPiece_3 : Nat → Option rv_N := rv_ap 16 (rv_at n_X3_readPiece_3_0) (rv_ap 16 (rv_at n_X3_readPiece_3_1) (rv_ap 16 (rv_at n_X3_readPiece_3_2) (rv_ap 16 (rv_at n_X3_readPiece_3_3) (rv_ap 16 (rv_at n_X3_readPiece_3_4) (rv_at n_X3_readPiece_3_5)))))
theorem hn_X3_readPiece_3 : ∀ i : Nat, n_X3_readPiece_3[i]? = gn_X3_readPiece_3 i := rv_ap_eq (l := n_X3_readPiece_3_0) (c := 16) (rv_ap_eq (l := n_X3_readPiece_3_1) (c := 16) (rv_ap_eq (l := n_X3_readPiece_3_2) (c := 16) (rv_ap_eq (l := n_X3_readPiece_3_3) (c := 16) (rv_ap_eq (l := n_X3_readPiece_3_4) (c := 16) (rv_at_eq n_X3_readPiece_3_5) rfl) rfl) rfl) rfl) rfl
set_option maxRecDepth 100000 in
theorem a_X3_readPiece_3 : rv_all (fm_tm, flX3, fm_wr, kcX3, klX3, K_X3_readPiece_3.2.2.1, [], 4) ct_X3_readPiece_3 cd_X3_readPiece n_X3_readPiece_3 K_X3_readPiece_3 [] 0 n_X3_readPiece_3 = true := rv_fast hn_X3_readPiece_3 hc_X3_readPiece (by decide +kernel)
theorem m_X3_readPiece_3 {l : Launch} {D : va_G} {ad : Nat → Nat} {cy : Nat → ClassId} {Z : State → Heap → Prop} {Gp : fm_V → Prop} (hAd : fm_Ad fm_tm ad) (hZ : fm_Zk (fm_A fm_tm ad) Z) (hGd : fm_Gd Gp) : rv_Met l D fm_cl fm_tm ad cy fm_nt Z Gp yX3_readPiece (.code yX3_readPiece prog_5_method_11_code 4 (some .boolean) :: fm_Ts) { frames := 13, cells := 0, slots := 0, locals := 1300 } K_X3_readPiece_3 := rv_met hAd hZ (Or.inl (by decide +kernel)) evX3 dc_X3_readPiece a_X3_readPiece_3 ⟨rfl, rfl, rfl⟩ (by decide +kernel) (by decide +kernel) (by decide) (fm_gm hGd (by decide +kernel)) (Or.inr ⟨rfl, by decide, by decide⟩) (fun p e s m args below meth c Q X Y => List.forall_mem_cons.mpr ⟨rv_ctV X Y fm_Ts_good dc_X3_readPiece (pc := 1) (i := 1) (idx := 39) rfl (m_X3_next_0 hAd hZ hGd) wl_X3_39 wm_X3_next wy_X3_next (by decide) ⟨rfl, rfl, rfl⟩ ⟨rfl, rfl⟩, List.forall_mem_cons.mpr ⟨rv_ctV X Y fm_Ts_good dc_X3_readPiece (pc := 15) (i := 9) (idx := 79) rfl (m_X3_open_0 hAd hZ hGd) wl_X3_79 wm_X3_open wy_X3_open (by decide) ⟨rfl, rfl, rfl⟩ ⟨rfl, rfl⟩, List.forall_mem_cons.mpr ⟨rv_ctV X Y fm_Ts_good dc_X3_readPiece (pc := 25) (i := 15) (idx := 116) rfl (m_X3_readPiece_4 hAd hZ hGd) wl_X3_116 wm_X3_readPiece wy_X3_readPiece (by decide) ⟨rfl, rfl, rfl⟩ ⟨rfl, rfl⟩, List.forall_mem_cons.mpr ⟨rv_ctV X Y fm_Ts_good dc_X3_readPiece (pc := 39) (i := 23) (idx := 108) rfl (m_X1_putStep_0 hAd hZ hGd) wl_X3_108 wm_X1_putStep wy_X1_putStep (by decide) ⟨rfl, rfl, rfl⟩ ⟨rfl, rfl⟩, List.forall_mem_cons.mpr ⟨rv_ctV X Y fm_Ts_good dc_X3_readPiece (pc := 55) (i := 33) (idx := 79) rfl (m_X3_open_0 hAd hZ hGd) wl_X3_79 wm_X3_open wy_X3_open (by decide) ⟨rfl, rfl, rfl⟩ ⟨rfl, rfl⟩, List.forall_mem_cons.mpr ⟨rv_ctV X Y fm_Ts_good dc_X3_readPiece (pc := 65) (i := 39) (idx := 83) rfl (m_X3_readParts_2 hAd hZ hGd) wl_X3_83 wm_X3_readParts wy_X3_readParts (by decide) ⟨rfl, rfl, rfl⟩ ⟨rfl, rfl⟩, List.forall_mem_cons.mpr ⟨rv_ctV X Y fm_Ts_good dc_X3_readPiece (pc := 74) (i := 43) (idx := 86) rfl (m_X3_close_0 hAd hZ hGd) wl_X3_86 wm_X3_close wy_X3_close (by decide) ⟨rfl, rfl, rfl⟩ ⟨rfl, rfl⟩, List.forall_mem_cons.mpr ⟨rv_ctV X Y fm_Ts_good dc_X3_readPiece (pc := 88) (i := 51) (idx := 73) rfl (m_X3_readSum_4 hAd hZ hGd) wl_X3_73 wm_X3_readSum wy_X3_readSum (by decide) ⟨rfl, rfl, rfl⟩ ⟨rfl, rfl⟩, List.forall_mem_cons.mpr ⟨rv_ctV X Y fm_Ts_good dc_X3_readPiece (pc := 97) (i := 56) (idx := 39) rfl (m_X3_next_0 hAd hZ hGd) wl_X3_39 wm_X3_next wy_X3_next (by decide) ⟨rfl, rfl, rfl⟩ ⟨rfl, rfl⟩, List.forall_mem_cons.mpr ⟨rv_ctV X Y fm_Ts_good dc_X3_readPiece (pc := 121) (i := 69) (idx := 43) rfl (m_X3_fail_0 hAd hZ hGd) wl_X3_43 wm_X3_fail wy_X3_fail (by decide) ⟨rfl, rfl, rfl⟩ ⟨rfl, rfl⟩, List.forall_mem_cons.mpr ⟨rv_ctV X Y fm_Ts_good dc_X3_readPiece (pc := 137) (i := 79) (idx := 73) rfl (m_X3_readSum_4 hAd hZ hGd) wl_X3_73 wm_X3_readSum wy_X3_readSum (by decide) ⟨rfl, rfl, rfl⟩ ⟨rfl, rfl⟩, List.forall_mem_cons.mpr ⟨rv_ctV X Y fm_Ts_good dc_X3_readPiece (pc := 151) (i := 87) (idx := 108) rfl (m_X1_putStep_0 hAd hZ hGd) wl_X3_108 wm_X1_putStep wy_X1_putStep (by decide) ⟨rfl, rfl, rfl⟩ ⟨rfl, rfl⟩, fun _ h => absurd h List.not_mem_nil⟩⟩⟩⟩⟩⟩⟩⟩⟩⟩⟩⟩) (fun _ _ _ _ _ _ _ _ _ _ _ _ _ _ _ _ h => absurd h List.not_mem_nil)
def K_X3_readPieces_3 : rv_K := ([rv_r 16, rv_i 4 4], [], [(16, 3), (16, 4), (17, 2), (18, 9999), (19, 9999)], [(0, 0, 1)], [], [])
def ct_X3_readPieces_3 : List (Nat × rv_K) := [(2, K_X3_readPiece_3), (12, K_X3_next_0), (25, K_X1_putStep_0), (29, K_X3_readPiece_3), (36, K_X1_leadToEnd_0)]
def n_X3_readPieces_3_0 : List rv_N := [
  (0, ([rv_r 16, rv_i 4 4, rv_u, rv_u], [], []), [1], 2070610, [], []),
  (1, ([rv_r 16, rv_i 4 4, rv_u, rv_u], [rv_r 16], []), [2], 2070609, [], []),
  (2, ([rv_r 16, rv_i 4 4, rv_u, rv_u], [(1, 0, 4, 4, [(.inl 1, 0)], []), rv_r 16], []), [3], 2070608, [], [0]),
  (3, ([rv_r 16, rv_i 4 4, rv_u, rv_u], [rv_i 0 1], []), [4, 6], 2070607, [], []),
  (4, ([rv_r 16, rv_i 4 4, rv_u, rv_u], [], []), [5], 1, [], []),
  (5, ([rv_r 16, rv_i 4 4, rv_u, rv_u], [rv_i 0 0], []), [], 0, [], []),
  (6, ([rv_r 16, rv_i 4 4, rv_u, rv_u], [], []), [7], 2070606, [], []),
  (7, ([rv_r 16, rv_i 4 4, rv_u, rv_u], [rv_i 0 0], []), [8], 2070605, [], []),
  (8, ([rv_r 16, rv_i 4 4, rv_i 0 200, rv_u], [], []), [9], 2070604, [(2, (-10353))], []),
  (9, ([rv_r 16, rv_i 4 4, rv_i 0 200, rv_u], [(1, 0, 0, 200, [(.inl 2, 0)], [])], []), [10], 2070603, [(2, (-10353))], []),
  (10, ([rv_r 16, rv_i 4 4, rv_i 0 200, rv_u], [rv_i 200 200, (1, 0, 0, 200, [(.inl 2, 0)], [])], []), [11, 39], 2070602, [(2, (-10353))], []),
  (11, ([rv_r 16, rv_i 4 4, rv_i 0 199, rv_u], [], []), [12], 2060277, [(2, (-10353))], []),
  (12, ([rv_r 16, rv_i 4 4, rv_i 0 199, rv_u], [rv_r 16], []), [13], 2060276, [(2, (-10353))], [1]),
  (13, ([rv_r 16, rv_i 4 4, rv_i 0 199, rv_u], [rv_i (-1) 255], []), [14], 2060275, [(2, (-10353))], []),
  (14, ([rv_r 16, rv_i 4 4, rv_i 0 199, rv_u], [rv_i 38 38, rv_i (-1) 255], []), [15, 39], 2060274, [(2, (-10353))], []),
  (15, ([rv_r 16, rv_i 4 4, rv_i 0 199, rv_u], [], []), [16], 2060273, [(2, (-10353))], [])]
def n_X3_readPieces_3_1 : List rv_N := [
  (16, ([rv_r 16, rv_i 4 4, rv_i 0 199, rv_u], [rv_r 16], []), [17], 2060272, [(2, (-10353))], []),
  (17, ([rv_r 16, rv_i 4 4, rv_i 0 199, rv_u], [rv_r 16, rv_r 16], []), [18], 2060271, [(2, (-10353))], []),
  (18, ([rv_r 16, rv_i 4 4, rv_i 0 199, rv_u], [(1, 0, (-2147483648), 2147483647, [(.inr (16, 3), 0)], []), rv_r 16], []), [19], 2060270, [(2, (-10353))], []),
  (19, ([rv_r 16, rv_i 4 4, rv_i 0 199, rv_u], [rv_i 1 1, (1, 0, (-2147483648), 2147483647, [(.inr (16, 3), 0)], []), rv_r 16], []), [20], 2060269, [(2, (-10353))], []),
  (20, ([rv_r 16, rv_i 4 4, rv_i 0 199, rv_u], [(1, 0, (-2147483648), 2147483647, [(.inr (16, 3), 1)], []), rv_r 16], []), [21], 2060268, [(2, (-10353))], []),
  (21, ([rv_r 16, rv_i 4 4, rv_i 0 199, rv_u], [], []), [22], 2060267, [(2, (-10353))], []),
  (22, ([rv_r 16, rv_i 4 4, rv_i 0 199, rv_u], [rv_r 16], []), [23], 2060266, [(2, (-10353))], []),
  (23, ([rv_r 16, rv_i 4 4, rv_i 0 199, rv_u], [rv_r 17], []), [24], 2060265, [(2, (-10353))], []),
  (24, ([rv_r 16, rv_i 4 4, rv_i 0 199, rv_u], [rv_i 3 3, rv_r 17], []), [25], 2060264, [(2, (-10353))], []),
  (25, ([rv_r 16, rv_i 4 4, rv_i 0 199, rv_u], [rv_i 0 0, rv_i 3 3, rv_r 17], []), [26], 2060263, [(2, (-10353))], [2]),
  (26, ([rv_r 16, rv_i 4 4, rv_i 0 199, rv_u], [rv_i (-1) 199], []), [27], 2060262, [(2, (-10353))], []),
  (27, ([rv_r 16, rv_i 4 4, rv_i 0 199, rv_i (-1) 199], [], []), [28], 2060261, [(2, (-10353))], []),
  (28, ([rv_r 16, rv_i 4 4, rv_i 0 199, rv_i (-1) 199], [rv_r 16], []), [29], 2060260, [(2, (-10353))], []),
  (29, ([rv_r 16, rv_i 4 4, rv_i 0 199, rv_i (-1) 199], [(1, 0, 4, 4, [(.inl 1, 0)], []), rv_r 16], []), [30], 2060259, [(2, (-10353))], [3]),
  (30, ([rv_r 16, rv_i 4 4, rv_i 0 199, rv_i (-1) 199], [rv_i 0 1], []), [31, 33], 2060258, [(2, (-10353))], []),
  (31, ([rv_r 16, rv_i 4 4, rv_i 0 199, rv_i (-1) 199], [], []), [32], 1, [], [])]
def n_X3_readPieces_3_2 : List rv_N := [
  (32, ([rv_r 16, rv_i 4 4, rv_i 0 199, rv_i (-1) 199], [rv_i 0 0], []), [], 0, [], []),
  (33, ([rv_r 16, rv_i 4 4, rv_i 0 199, rv_i (-1) 199], [], []), [34], 2060257, [(2, (-10353))], []),
  (34, ([rv_r 16, rv_i 4 4, rv_i 0 199, rv_i (-1) 199], [rv_r 16], []), [35], 2060256, [(2, (-10353))], []),
  (35, ([rv_r 16, rv_i 4 4, rv_i 0 199, rv_i (-1) 199], [rv_r 17], []), [36], 2060255, [(2, (-10353))], []),
  (36, ([rv_r 16, rv_i 4 4, rv_i 0 199, rv_i (-1) 199], [(1, 0, (-1), 199, [(.inl 3, 0)], []), rv_r 17], []), [37], 2060254, [(2, (-10353))], [4]),
  (37, ([rv_r 16, rv_i 4 4, rv_i 0 199, rv_i (-1) 199], [], []), [38], 2060253, [(2, (-10353))], []),
  (38, ([rv_r 16, rv_i 4 4, rv_i 1 200, rv_i (-1) 199], [], []), [8], 2070605, [(2, (-10353))], []),
  (39, ([rv_r 16, rv_i 4 4, rv_i 0 200, rv_u], [], []), [40], 1, [], []),
  (40, ([rv_r 16, rv_i 4 4, rv_i 0 200, rv_u], [rv_i 1 1], []), [], 0, [], [])]
def n_X3_readPieces_3 : List rv_N := n_X3_readPieces_3_0 ++ (n_X3_readPieces_3_1 ++ (n_X3_readPieces_3_2))
noncomputable def gn_X3_readPieces_3 : Nat → Option rv_N := rv_ap 16 (rv_at n_X3_readPieces_3_0) (rv_ap 16 (rv_at n_X3_readPieces_3_1) (rv_at n_X3_readPieces_3_2))
theorem hn_X3_readPieces_3 : ∀ i : Nat, n_X3_readPieces_3[i]? = gn_X3_readPieces_3 i := rv_ap_eq (l := n_X3_readPieces_3_0) (c := 16) (rv_ap_eq (l := n_X3_readPieces_3_1) (c := 16) (rv_at_eq n_X3_readPieces_3_2) rfl) rfl
set_option maxRecDepth 100000 in
theorem a_X3_readPieces_3 : rv_all (fm_tm, flX3, fm_wr, kcX3, klX3, K_X3_readPieces_3.2.2.1, [], 4) ct_X3_readPieces_3 cd_X3_readPieces n_X3_readPieces_3 K_X3_readPieces_3 [] 0 n_X3_readPieces_3 = true := rv_fast hn_X3_readPieces_3 hc_X3_readPieces (by decide +kernel)
theorem m_X3_readPieces_3 {l : Launch} {D : va_G} {ad : Nat → Nat} {cy : Nat → ClassId} {Z : State → Heap → Prop} {Gp : fm_V → Prop} (hAd : fm_Ad fm_tm ad) (hZ : fm_Zk (fm_A fm_tm ad) Z) (hGd : fm_Gd Gp) : rv_Met l D fm_cl fm_tm ad cy fm_nt Z Gp yX3_readPieces (.code yX3_readPieces prog_5_method_10_code 4 (some .boolean) :: fm_Ts) { frames := 14, cells := 0, slots := 0, locals := 1400 } K_X3_readPieces_3 := rv_met hAd hZ (Or.inl (by decide +kernel)) evX3 dc_X3_readPieces a_X3_readPieces_3 ⟨rfl, rfl, rfl⟩ (by decide +kernel) (by decide +kernel) (by decide) (fm_gm hGd (by decide +kernel)) (Or.inr ⟨rfl, by decide, by decide⟩) (fun p e s m args below meth c Q X Y => List.forall_mem_cons.mpr ⟨rv_ctV X Y fm_Ts_good dc_X3_readPieces (pc := 2) (i := 2) (idx := 116) rfl (m_X3_readPiece_3 hAd hZ hGd) wl_X3_116 wm_X3_readPiece wy_X3_readPiece (by decide) ⟨rfl, rfl, rfl⟩ ⟨rfl, rfl⟩, List.forall_mem_cons.mpr ⟨rv_ctV X Y fm_Ts_good dc_X3_readPieces (pc := 20) (i := 12) (idx := 39) rfl (m_X3_next_0 hAd hZ hGd) wl_X3_39 wm_X3_next wy_X3_next (by decide) ⟨rfl, rfl, rfl⟩ ⟨rfl, rfl⟩, List.forall_mem_cons.mpr ⟨rv_ctV X Y fm_Ts_good dc_X3_readPieces (pc := 44) (i := 25) (idx := 108) rfl (m_X1_putStep_0 hAd hZ hGd) wl_X3_108 wm_X1_putStep wy_X1_putStep (by decide) ⟨rfl, rfl, rfl⟩ ⟨rfl, rfl⟩, List.forall_mem_cons.mpr ⟨rv_ctV X Y fm_Ts_good dc_X3_readPieces (pc := 50) (i := 29) (idx := 116) rfl (m_X3_readPiece_3 hAd hZ hGd) wl_X3_116 wm_X3_readPiece wy_X3_readPiece (by decide) ⟨rfl, rfl, rfl⟩ ⟨rfl, rfl⟩, List.forall_mem_cons.mpr ⟨rv_ctV X Y fm_Ts_good dc_X3_readPieces (pc := 63) (i := 36) (idx := 112) rfl (m_X1_leadToEnd_0 hAd hZ hGd) wl_X3_112 wm_X1_leadToEnd wy_X1_leadToEnd (by decide) ⟨rfl, rfl, rfl⟩ ⟨rfl, rfl⟩, fun _ h => absurd h List.not_mem_nil⟩⟩⟩⟩⟩) (fun _ _ _ _ _ _ _ _ _ _ _ _ _ _ _ _ h => absurd h List.not_mem_nil)
def K_X3_readParts_3 : rv_K := ([rv_r 16, rv_i 4 4], [], [(16, 3), (16, 4), (17, 2), (18, 9999), (19, 9999)], [(0, 0, 1)], [], [])
def ct_X3_readParts_3 : List (Nat × rv_K) := [(2, K_X3_readPieces_3), (12, K_X3_next_0), (25, K_X1_putStep_0), (29, K_X3_readPieces_3), (36, K_X1_leadToEnd_0)]
def n_X3_readParts_3_0 : List rv_N := [
  (0, ([rv_r 16, rv_i 4 4, rv_u, rv_u], [], []), [1], 2070610, [], []),
  (1, ([rv_r 16, rv_i 4 4, rv_u, rv_u], [rv_r 16], []), [2], 2070609, [], []),
  (2, ([rv_r 16, rv_i 4 4, rv_u, rv_u], [(1, 0, 4, 4, [(.inl 1, 0)], []), rv_r 16], []), [3], 2070608, [], [0]),
  (3, ([rv_r 16, rv_i 4 4, rv_u, rv_u], [rv_i 0 1], []), [4, 6], 2070607, [], []),
  (4, ([rv_r 16, rv_i 4 4, rv_u, rv_u], [], []), [5], 1, [], []),
  (5, ([rv_r 16, rv_i 4 4, rv_u, rv_u], [rv_i 0 0], []), [], 0, [], []),
  (6, ([rv_r 16, rv_i 4 4, rv_u, rv_u], [], []), [7], 2070606, [], []),
  (7, ([rv_r 16, rv_i 4 4, rv_u, rv_u], [rv_i 0 0], []), [8], 2070605, [], []),
  (8, ([rv_r 16, rv_i 4 4, rv_i 0 200, rv_u], [], []), [9], 2070604, [(2, (-10353))], []),
  (9, ([rv_r 16, rv_i 4 4, rv_i 0 200, rv_u], [(1, 0, 0, 200, [(.inl 2, 0)], [])], []), [10], 2070603, [(2, (-10353))], []),
  (10, ([rv_r 16, rv_i 4 4, rv_i 0 200, rv_u], [rv_i 200 200, (1, 0, 0, 200, [(.inl 2, 0)], [])], []), [11, 39], 2070602, [(2, (-10353))], []),
  (11, ([rv_r 16, rv_i 4 4, rv_i 0 199, rv_u], [], []), [12], 2060277, [(2, (-10353))], []),
  (12, ([rv_r 16, rv_i 4 4, rv_i 0 199, rv_u], [rv_r 16], []), [13], 2060276, [(2, (-10353))], [1]),
  (13, ([rv_r 16, rv_i 4 4, rv_i 0 199, rv_u], [rv_i (-1) 255], []), [14], 2060275, [(2, (-10353))], []),
  (14, ([rv_r 16, rv_i 4 4, rv_i 0 199, rv_u], [rv_i 124 124, rv_i (-1) 255], []), [15, 39], 2060274, [(2, (-10353))], []),
  (15, ([rv_r 16, rv_i 4 4, rv_i 0 199, rv_u], [], []), [16], 2060273, [(2, (-10353))], [])]
def n_X3_readParts_3_1 : List rv_N := [
  (16, ([rv_r 16, rv_i 4 4, rv_i 0 199, rv_u], [rv_r 16], []), [17], 2060272, [(2, (-10353))], []),
  (17, ([rv_r 16, rv_i 4 4, rv_i 0 199, rv_u], [rv_r 16, rv_r 16], []), [18], 2060271, [(2, (-10353))], []),
  (18, ([rv_r 16, rv_i 4 4, rv_i 0 199, rv_u], [(1, 0, (-2147483648), 2147483647, [(.inr (16, 3), 0)], []), rv_r 16], []), [19], 2060270, [(2, (-10353))], []),
  (19, ([rv_r 16, rv_i 4 4, rv_i 0 199, rv_u], [rv_i 1 1, (1, 0, (-2147483648), 2147483647, [(.inr (16, 3), 0)], []), rv_r 16], []), [20], 2060269, [(2, (-10353))], []),
  (20, ([rv_r 16, rv_i 4 4, rv_i 0 199, rv_u], [(1, 0, (-2147483648), 2147483647, [(.inr (16, 3), 1)], []), rv_r 16], []), [21], 2060268, [(2, (-10353))], []),
  (21, ([rv_r 16, rv_i 4 4, rv_i 0 199, rv_u], [], []), [22], 2060267, [(2, (-10353))], []),
  (22, ([rv_r 16, rv_i 4 4, rv_i 0 199, rv_u], [rv_r 16], []), [23], 2060266, [(2, (-10353))], []),
  (23, ([rv_r 16, rv_i 4 4, rv_i 0 199, rv_u], [rv_r 17], []), [24], 2060265, [(2, (-10353))], []),
  (24, ([rv_r 16, rv_i 4 4, rv_i 0 199, rv_u], [rv_i 2 2, rv_r 17], []), [25], 2060264, [(2, (-10353))], []),
  (25, ([rv_r 16, rv_i 4 4, rv_i 0 199, rv_u], [rv_i 0 0, rv_i 2 2, rv_r 17], []), [26], 2060263, [(2, (-10353))], [2]),
  (26, ([rv_r 16, rv_i 4 4, rv_i 0 199, rv_u], [rv_i (-1) 199], []), [27], 2060262, [(2, (-10353))], []),
  (27, ([rv_r 16, rv_i 4 4, rv_i 0 199, rv_i (-1) 199], [], []), [28], 2060261, [(2, (-10353))], []),
  (28, ([rv_r 16, rv_i 4 4, rv_i 0 199, rv_i (-1) 199], [rv_r 16], []), [29], 2060260, [(2, (-10353))], []),
  (29, ([rv_r 16, rv_i 4 4, rv_i 0 199, rv_i (-1) 199], [(1, 0, 4, 4, [(.inl 1, 0)], []), rv_r 16], []), [30], 2060259, [(2, (-10353))], [3]),
  (30, ([rv_r 16, rv_i 4 4, rv_i 0 199, rv_i (-1) 199], [rv_i 0 1], []), [31, 33], 2060258, [(2, (-10353))], []),
  (31, ([rv_r 16, rv_i 4 4, rv_i 0 199, rv_i (-1) 199], [], []), [32], 1, [], [])]
def n_X3_readParts_3_2 : List rv_N := [
  (32, ([rv_r 16, rv_i 4 4, rv_i 0 199, rv_i (-1) 199], [rv_i 0 0], []), [], 0, [], []),
  (33, ([rv_r 16, rv_i 4 4, rv_i 0 199, rv_i (-1) 199], [], []), [34], 2060257, [(2, (-10353))], []),
  (34, ([rv_r 16, rv_i 4 4, rv_i 0 199, rv_i (-1) 199], [rv_r 16], []), [35], 2060256, [(2, (-10353))], []),
  (35, ([rv_r 16, rv_i 4 4, rv_i 0 199, rv_i (-1) 199], [rv_r 17], []), [36], 2060255, [(2, (-10353))], []),
  (36, ([rv_r 16, rv_i 4 4, rv_i 0 199, rv_i (-1) 199], [(1, 0, (-1), 199, [(.inl 3, 0)], []), rv_r 17], []), [37], 2060254, [(2, (-10353))], [4]),
  (37, ([rv_r 16, rv_i 4 4, rv_i 0 199, rv_i (-1) 199], [], []), [38], 2060253, [(2, (-10353))], []),
  (38, ([rv_r 16, rv_i 4 4, rv_i 1 200, rv_i (-1) 199], [], []), [8], 2070605, [(2, (-10353))], []),
  (39, ([rv_r 16, rv_i 4 4, rv_i 0 200, rv_u], [], []), [40], 1, [], []),
  (40, ([rv_r 16, rv_i 4 4, rv_i 0 200, rv_u], [rv_i 1 1], []), [], 0, [], [])]
def n_X3_readParts_3 : List rv_N := n_X3_readParts_3_0 ++ (n_X3_readParts_3_1 ++ (n_X3_readParts_3_2))
noncomputable def gn_X3_readParts_3 : Nat → Option rv_N := rv_ap 16 (rv_at n_X3_readParts_3_0) (rv_ap 16 (rv_at n_X3_readParts_3_1) (rv_at n_X3_readParts_3_2))
theorem hn_X3_readParts_3 : ∀ i : Nat, n_X3_readParts_3[i]? = gn_X3_readParts_3 i := rv_ap_eq (l := n_X3_readParts_3_0) (c := 16) (rv_ap_eq (l := n_X3_readParts_3_1) (c := 16) (rv_at_eq n_X3_readParts_3_2) rfl) rfl
set_option maxRecDepth 100000 in
theorem a_X3_readParts_3 : rv_all (fm_tm, flX3, fm_wr, kcX3, klX3, K_X3_readParts_3.2.2.1, [], 4) ct_X3_readParts_3 cd_X3_readParts n_X3_readParts_3 K_X3_readParts_3 [] 0 n_X3_readParts_3 = true := rv_fast hn_X3_readParts_3 hc_X3_readParts (by decide +kernel)
theorem m_X3_readParts_3 {l : Launch} {D : va_G} {ad : Nat → Nat} {cy : Nat → ClassId} {Z : State → Heap → Prop} {Gp : fm_V → Prop} (hAd : fm_Ad fm_tm ad) (hZ : fm_Zk (fm_A fm_tm ad) Z) (hGd : fm_Gd Gp) : rv_Met l D fm_cl fm_tm ad cy fm_nt Z Gp yX3_readParts (.code yX3_readParts prog_5_method_9_code 4 (some .boolean) :: fm_Ts) { frames := 15, cells := 0, slots := 0, locals := 1500 } K_X3_readParts_3 := rv_met hAd hZ (Or.inl (by decide +kernel)) evX3 dc_X3_readParts a_X3_readParts_3 ⟨rfl, rfl, rfl⟩ (by decide +kernel) (by decide +kernel) (by decide) (fm_gm hGd (by decide +kernel)) (Or.inr ⟨rfl, by decide, by decide⟩) (fun p e s m args below meth c Q X Y => List.forall_mem_cons.mpr ⟨rv_ctV X Y fm_Ts_good dc_X3_readParts (pc := 2) (i := 2) (idx := 105) rfl (m_X3_readPieces_3 hAd hZ hGd) wl_X3_105 wm_X3_readPieces wy_X3_readPieces (by decide) ⟨rfl, rfl, rfl⟩ ⟨rfl, rfl⟩, List.forall_mem_cons.mpr ⟨rv_ctV X Y fm_Ts_good dc_X3_readParts (pc := 20) (i := 12) (idx := 39) rfl (m_X3_next_0 hAd hZ hGd) wl_X3_39 wm_X3_next wy_X3_next (by decide) ⟨rfl, rfl, rfl⟩ ⟨rfl, rfl⟩, List.forall_mem_cons.mpr ⟨rv_ctV X Y fm_Ts_good dc_X3_readParts (pc := 44) (i := 25) (idx := 108) rfl (m_X1_putStep_0 hAd hZ hGd) wl_X3_108 wm_X1_putStep wy_X1_putStep (by decide) ⟨rfl, rfl, rfl⟩ ⟨rfl, rfl⟩, List.forall_mem_cons.mpr ⟨rv_ctV X Y fm_Ts_good dc_X3_readParts (pc := 50) (i := 29) (idx := 105) rfl (m_X3_readPieces_3 hAd hZ hGd) wl_X3_105 wm_X3_readPieces wy_X3_readPieces (by decide) ⟨rfl, rfl, rfl⟩ ⟨rfl, rfl⟩, List.forall_mem_cons.mpr ⟨rv_ctV X Y fm_Ts_good dc_X3_readParts (pc := 63) (i := 36) (idx := 112) rfl (m_X1_leadToEnd_0 hAd hZ hGd) wl_X3_112 wm_X1_leadToEnd wy_X1_leadToEnd (by decide) ⟨rfl, rfl, rfl⟩ ⟨rfl, rfl⟩, fun _ h => absurd h List.not_mem_nil⟩⟩⟩⟩⟩) (fun _ _ _ _ _ _ _ _ _ _ _ _ _ _ _ _ h => absurd h List.not_mem_nil)
def K_X3_readPiece_2 : rv_K := ([rv_r 16, rv_i 3 3], [], [(16, 3), (16, 4), (17, 2), (18, 9999), (19, 9999)], [(0, 0, 1)], [], [])
def ct_X3_readPiece_2 : List (Nat × rv_K) := [(1, K_X3_next_0), (9, K_X3_open_0), (15, K_X3_readPiece_3), (23, K_X1_putStep_0), (33, K_X3_open_0), (39, K_X3_readParts_3), (43, K_X3_close_0), (51, K_X3_readSum_3), (56, K_X3_next_0), (69, K_X3_fail_0), (79, K_X3_readSum_3), (87, K_X1_putStep_0)]
def n_X3_readPiece_2_0 : List rv_N := [
  (0, ([rv_r 16, rv_i 3 3, rv_u, rv_u], [], []), [1], 42, [], []),
  (1, ([rv_r 16, rv_i 3 3, rv_u, rv_u], [rv_r 16], []), [2], 41, [], [0]),
  (2, ([rv_r 16, rv_i 3 3, rv_u, rv_u], [rv_i (-1) 255], []), [3], 40, [], []),
  (3, ([rv_r 16, rv_i 3 3, rv_i (-1) 255, rv_u], [], []), [4], 39, [], []),
  (4, ([rv_r 16, rv_i 3 3, rv_i (-1) 255, rv_u], [(1, 0, (-1), 255, [(.inl 2, 0)], [])], []), [5], 38, [], []),
  (5, ([rv_r 16, rv_i 3 3, rv_i (-1) 255, rv_u], [rv_i 33 33, (1, 0, (-1), 255, [(.inl 2, 0)], [])], []), [6, 27], 37, [], []),
  (6, ([rv_r 16, rv_i 3 3, rv_i 33 33, rv_u], [], []), [7], 18, [], []),
  (7, ([rv_r 16, rv_i 3 3, rv_i 33 33, rv_u], [rv_r 16], []), [8], 17, [], []),
  (8, ([rv_r 16, rv_i 3 3, rv_i 33 33, rv_u], [rv_i 33 33, rv_r 16], []), [9], 16, [], []),
  (9, ([rv_r 16, rv_i 3 3, rv_i 33 33, rv_u], [(1, 0, 3, 3, [(.inl 1, 0)], []), rv_i 33 33, rv_r 16], []), [10], 15, [], [1]),
  (10, ([rv_r 16, rv_i 3 3, rv_i 33 33, rv_u], [(1, 0, 0, 1, [], [(.inl 1, (-2147483648), 5)])], []), [11, 17], 14, [], []),
  (11, ([rv_r 16, rv_i 3 3, rv_i 33 33, rv_u], [], []), [12], 13, [], []),
  (12, ([rv_r 16, rv_i 3 3, rv_i 33 33, rv_u], [rv_r 16], []), [13], 12, [], []),
  (13, ([rv_r 16, rv_i 3 3, rv_i 33 33, rv_u], [(1, 0, 3, 3, [(.inl 1, 0)], []), rv_r 16], []), [14], 11, [], []),
  (14, ([rv_r 16, rv_i 3 3, rv_i 33 33, rv_u], [rv_i 1 1, (1, 0, 3, 3, [(.inl 1, 0)], []), rv_r 16], []), [15], 10, [], []),
  (15, ([rv_r 16, rv_i 3 3, rv_i 33 33, rv_u], [(1, 0, 4, 4, [(.inl 1, 1)], []), rv_r 16], []), [16], 9, [], [2])]
def n_X3_readPiece_2_1 : List rv_N := [
  (16, ([rv_r 16, rv_i 3 3, rv_i 33 33, rv_u], [rv_i 0 1], []), [17, 19], 8, [], []),
  (17, ([rv_r 16, rv_i 3 3, rv_i 33 33, rv_u], [], []), [18], 1, [], []),
  (18, ([rv_r 16, rv_i 3 3, rv_i 33 33, rv_u], [rv_i 0 0], []), [], 0, [], []),
  (19, ([rv_r 16, rv_i 3 3, rv_i 33 33, rv_u], [], []), [20], 7, [], []),
  (20, ([rv_r 16, rv_i 3 3, rv_i 33 33, rv_u], [rv_r 16], []), [21], 6, [], []),
  (21, ([rv_r 16, rv_i 3 3, rv_i 33 33, rv_u], [rv_r 17], []), [22], 5, [], []),
  (22, ([rv_r 16, rv_i 3 3, rv_i 33 33, rv_u], [rv_i 4 4, rv_r 17], []), [23], 4, [], []),
  (23, ([rv_r 16, rv_i 3 3, rv_i 33 33, rv_u], [rv_i 0 0, rv_i 4 4, rv_r 17], []), [24], 3, [], [3]),
  (24, ([rv_r 16, rv_i 3 3, rv_i 33 33, rv_u], [rv_i (-1) 199], []), [25], 2, [], []),
  (25, ([rv_r 16, rv_i 3 3, rv_i 33 33, rv_u], [], []), [26], 1, [], []),
  (26, ([rv_r 16, rv_i 3 3, rv_i 33 33, rv_u], [rv_i 1 1], []), [], 0, [], []),
  (27, ([rv_r 16, rv_i 3 3, rv_i (-1) 255, rv_u], [], []), [28], 36, [], []),
  (28, ([rv_r 16, rv_i 3 3, rv_i (-1) 255, rv_u], [(1, 0, (-1), 255, [(.inl 2, 0)], [])], []), [29], 35, [], []),
  (29, ([rv_r 16, rv_i 3 3, rv_i (-1) 255, rv_u], [rv_i 40 40, (1, 0, (-1), 255, [(.inl 2, 0)], [])], []), [30, 50], 34, [], []),
  (30, ([rv_r 16, rv_i 3 3, rv_i 40 40, rv_u], [], []), [31], 17, [], []),
  (31, ([rv_r 16, rv_i 3 3, rv_i 40 40, rv_u], [rv_r 16], []), [32], 16, [], [])]
def n_X3_readPiece_2_2 : List rv_N := [
  (32, ([rv_r 16, rv_i 3 3, rv_i 40 40, rv_u], [rv_i 40 40, rv_r 16], []), [33], 15, [], []),
  (33, ([rv_r 16, rv_i 3 3, rv_i 40 40, rv_u], [(1, 0, 3, 3, [(.inl 1, 0)], []), rv_i 40 40, rv_r 16], []), [34], 14, [], [4]),
  (34, ([rv_r 16, rv_i 3 3, rv_i 40 40, rv_u], [(1, 0, 0, 1, [], [(.inl 1, (-2147483648), 5)])], []), [35, 47], 13, [], []),
  (35, ([rv_r 16, rv_i 3 3, rv_i 40 40, rv_u], [], []), [36], 12, [], []),
  (36, ([rv_r 16, rv_i 3 3, rv_i 40 40, rv_u], [rv_r 16], []), [37], 11, [], []),
  (37, ([rv_r 16, rv_i 3 3, rv_i 40 40, rv_u], [(1, 0, 3, 3, [(.inl 1, 0)], []), rv_r 16], []), [38], 10, [], []),
  (38, ([rv_r 16, rv_i 3 3, rv_i 40 40, rv_u], [rv_i 1 1, (1, 0, 3, 3, [(.inl 1, 0)], []), rv_r 16], []), [39], 9, [], []),
  (39, ([rv_r 16, rv_i 3 3, rv_i 40 40, rv_u], [(1, 0, 4, 4, [(.inl 1, 1)], []), rv_r 16], []), [40], 8, [], [5]),
  (40, ([rv_r 16, rv_i 3 3, rv_i 40 40, rv_u], [rv_i 0 1], []), [41, 47], 7, [], []),
  (41, ([rv_r 16, rv_i 3 3, rv_i 40 40, rv_u], [], []), [42], 6, [], []),
  (42, ([rv_r 16, rv_i 3 3, rv_i 40 40, rv_u], [rv_r 16], []), [43], 5, [], []),
  (43, ([rv_r 16, rv_i 3 3, rv_i 40 40, rv_u], [rv_i 41 41, rv_r 16], []), [44], 4, [], [6]),
  (44, ([rv_r 16, rv_i 3 3, rv_i 40 40, rv_u], [rv_i 0 1], []), [45, 47], 3, [], []),
  (45, ([rv_r 16, rv_i 3 3, rv_i 40 40, rv_u], [], []), [46], 2, [], []),
  (46, ([rv_r 16, rv_i 3 3, rv_i 40 40, rv_u], [rv_i 1 1], []), [49], 1, [], []),
  (47, ([rv_r 16, rv_i 3 3, rv_i 40 40, rv_u], [], []), [48], 1, [], [])]
def n_X3_readPiece_2_3 : List rv_N := [
  (48, ([rv_r 16, rv_i 3 3, rv_i 40 40, rv_u], [rv_i 0 0], []), [], 0, [], []),
  (48, ([rv_r 16, rv_i 3 3, rv_i 40 40, rv_u], [rv_i 1 1], []), [], 0, [], []),
  (49, ([rv_r 16, rv_i 3 3, rv_i (-1) 255, rv_u], [], []), [51], 33, [], []),
  (50, ([rv_r 16, rv_i 3 3, rv_i (-1) 255, rv_u], [rv_r 16], []), [52], 32, [], []),
  (51, ([rv_r 16, rv_i 3 3, rv_i (-1) 255, rv_u], [(1, 0, 3, 3, [(.inl 1, 0)], []), rv_r 16], []), [53], 31, [], [7]),
  (52, ([rv_r 16, rv_i 3 3, rv_i (-1) 255, rv_u], [rv_i 0 1], []), [54, 56], 30, [], []),
  (53, ([rv_r 16, rv_i 3 3, rv_i (-1) 255, rv_u], [], []), [55], 1, [], []),
  (54, ([rv_r 16, rv_i 3 3, rv_i (-1) 255, rv_u], [rv_i 0 0], []), [], 0, [], []),
  (55, ([rv_r 16, rv_i 3 3, rv_i (-1) 255, rv_u], [], []), [57], 29, [], []),
  (56, ([rv_r 16, rv_i 3 3, rv_i (-1) 255, rv_u], [rv_r 16], []), [58], 28, [], [8]),
  (57, ([rv_r 16, rv_i 3 3, rv_i (-1) 255, rv_u], [rv_i (-1) 255], []), [59], 27, [], []),
  (58, ([rv_r 16, rv_i 3 3, rv_i (-1) 255, rv_i (-1) 255], [], []), [60], 26, [], []),
  (59, ([rv_r 16, rv_i 3 3, rv_i (-1) 255, rv_i (-1) 255], [(1, 0, (-1), 255, [(.inl 3, 0)], [])], []), [61], 25, [], []),
  (60, ([rv_r 16, rv_i 3 3, rv_i (-1) 255, rv_i (-1) 255], [rv_i 60 60, (1, 0, (-1), 255, [(.inl 3, 0)], [])], []), [62, 72], 24, [], []),
  (61, ([rv_r 16, rv_i 3 3, rv_i (-1) 255, rv_i (-1) 255], [], []), [63], 23, [], []),
  (62, ([rv_r 16, rv_i 3 3, rv_i (-1) 255, rv_i (-1) 255], [(1, 0, (-1), 255, [(.inl 3, 0)], [])], []), [64], 22, [], [])]
def n_X3_readPiece_2_4 : List rv_N := [
  (63, ([rv_r 16, rv_i 3 3, rv_i (-1) 255, rv_i (-1) 255], [rv_i 62 62, (1, 0, (-1), 255, [(.inl 3, 0)], [])], []), [65, 72], 21, [], []),
  (64, ([rv_r 16, rv_i 3 3, rv_i (-1) 255, rv_i (-1) 255], [], []), [66], 20, [], []),
  (65, ([rv_r 16, rv_i 3 3, rv_i (-1) 255, rv_i (-1) 255], [(1, 0, (-1), 255, [(.inl 3, 0)], [])], []), [67], 19, [], []),
  (66, ([rv_r 16, rv_i 3 3, rv_i (-1) 255, rv_i (-1) 255], [rv_i 61 61, (1, 0, (-1), 255, [(.inl 3, 0)], [])], []), [68, 72], 18, [], []),
  (67, ([rv_r 16, rv_i 3 3, rv_i (-1) 255, rv_i (-1) 255], [], []), [69], 3, [], []),
  (68, ([rv_r 16, rv_i 3 3, rv_i (-1) 255, rv_i (-1) 255], [rv_r 16], []), [70], 2, [], []),
  (69, ([rv_r 16, rv_i 3 3, rv_i (-1) 255, rv_i (-1) 255], [rv_i 1 1, rv_r 16], []), [71], 1, [], [9]),
  (70, ([rv_r 16, rv_i 3 3, rv_i (-1) 255, rv_i (-1) 255], [rv_i 0 0], []), [], 0, [], []),
  (71, ([rv_r 16, rv_i 3 3, rv_i (-1) 255, rv_i 60 62], [], []), [73], 17, [], []),
  (72, ([rv_r 16, rv_i 3 3, rv_i (-1) 255, rv_i 60 62], [rv_r 16], []), [74], 16, [], []),
  (73, ([rv_r 16, rv_i 3 3, rv_i (-1) 255, rv_i 60 62], [rv_r 16, rv_r 16], []), [75], 15, [], []),
  (74, ([rv_r 16, rv_i 3 3, rv_i (-1) 255, rv_i 60 62], [(1, 0, (-2147483648), 2147483647, [(.inr (16, 3), 0)], []), rv_r 16], []), [76], 14, [], []),
  (75, ([rv_r 16, rv_i 3 3, rv_i (-1) 255, rv_i 60 62], [rv_i 1 1, (1, 0, (-2147483648), 2147483647, [(.inr (16, 3), 0)], []), rv_r 16], []), [77], 13, [], []),
  (76, ([rv_r 16, rv_i 3 3, rv_i (-1) 255, rv_i 60 62], [(1, 0, (-2147483648), 2147483647, [(.inr (16, 3), 1)], []), rv_r 16], []), [78], 12, [], []),
  (77, ([rv_r 16, rv_i 3 3, rv_i (-1) 255, rv_i 60 62], [], []), [79], 11, [], []),
  (78, ([rv_r 16, rv_i 3 3, rv_i (-1) 255, rv_i 60 62], [rv_r 16], []), [80], 10, [], [])]
def n_X3_readPiece_2_5 : List rv_N := [
  (79, ([rv_r 16, rv_i 3 3, rv_i (-1) 255, rv_i 60 62], [(1, 0, 3, 3, [(.inl 1, 0)], []), rv_r 16], []), [81], 9, [], [10]),
  (80, ([rv_r 16, rv_i 3 3, rv_i (-1) 255, rv_i 60 62], [rv_i 0 1], []), [82, 84], 8, [], []),
  (81, ([rv_r 16, rv_i 3 3, rv_i (-1) 255, rv_i 60 62], [], []), [83], 1, [], []),
  (82, ([rv_r 16, rv_i 3 3, rv_i (-1) 255, rv_i 60 62], [rv_i 0 0], []), [], 0, [], []),
  (83, ([rv_r 16, rv_i 3 3, rv_i (-1) 255, rv_i 60 62], [], []), [85], 7, [], []),
  (84, ([rv_r 16, rv_i 3 3, rv_i (-1) 255, rv_i 60 62], [rv_r 16], []), [86], 6, [], []),
  (85, ([rv_r 16, rv_i 3 3, rv_i (-1) 255, rv_i 60 62], [rv_r 17], []), [87], 5, [], []),
  (86, ([rv_r 16, rv_i 3 3, rv_i (-1) 255, rv_i 60 62], [(1, 0, 60, 62, [(.inl 3, 0)], []), rv_r 17], []), [88], 4, [], []),
  (87, ([rv_r 16, rv_i 3 3, rv_i (-1) 255, rv_i 60 62], [rv_i 0 0, (1, 0, 60, 62, [(.inl 3, 0)], []), rv_r 17], []), [89], 3, [], [11]),
  (88, ([rv_r 16, rv_i 3 3, rv_i (-1) 255, rv_i 60 62], [rv_i (-1) 199], []), [90], 2, [], []),
  (89, ([rv_r 16, rv_i 3 3, rv_i (-1) 255, rv_i 60 62], [], []), [91], 1, [], []),
  (90, ([rv_r 16, rv_i 3 3, rv_i (-1) 255, rv_i 60 62], [rv_i 1 1], []), [], 0, [], [])]
def n_X3_readPiece_2 : List rv_N := n_X3_readPiece_2_0 ++ (n_X3_readPiece_2_1 ++ (n_X3_readPiece_2_2 ++ (n_X3_readPiece_2_3 ++ (n_X3_readPiece_2_4 ++ (n_X3_readPiece_2_5)))))
noncomputable def gn_X3_readPiece_2 : Nat → Option rv_N := rv_ap 16 (rv_at n_X3_readPiece_2_0) (rv_ap 16 (rv_at n_X3_readPiece_2_1) (rv_ap 16 (rv_at n_X3_readPiece_2_2) (rv_ap 16 (rv_at n_X3_readPiece_2_3) (rv_ap 16 (rv_at n_X3_readPiece_2_4) (rv_at n_X3_readPiece_2_5)))))
theorem hn_X3_readPiece_2 : ∀ i : Nat, n_X3_readPiece_2[i]? = gn_X3_readPiece_2 i := rv_ap_eq (l := n_X3_readPiece_2_0) (c := 16) (rv_ap_eq (l := n_X3_readPiece_2_1) (c := 16) (rv_ap_eq (l := n_X3_readPiece_2_2) (c := 16) (rv_ap_eq (l := n_X3_readPiece_2_3) (c := 16) (rv_ap_eq (l := n_X3_readPiece_2_4) (c := 16) (rv_at_eq n_X3_readPiece_2_5) rfl) rfl) rfl) rfl) rfl
set_option maxRecDepth 100000 in
theorem a_X3_readPiece_2 : rv_all (fm_tm, flX3, fm_wr, kcX3, klX3, K_X3_readPiece_2.2.2.1, [], 4) ct_X3_readPiece_2 cd_X3_readPiece n_X3_readPiece_2 K_X3_readPiece_2 [] 0 n_X3_readPiece_2 = true := rv_fast hn_X3_readPiece_2 hc_X3_readPiece (by decide +kernel)
theorem m_X3_readPiece_2 {l : Launch} {D : va_G} {ad : Nat → Nat} {cy : Nat → ClassId} {Z : State → Heap → Prop} {Gp : fm_V → Prop} (hAd : fm_Ad fm_tm ad) (hZ : fm_Zk (fm_A fm_tm ad) Z) (hGd : fm_Gd Gp) : rv_Met l D fm_cl fm_tm ad cy fm_nt Z Gp yX3_readPiece (.code yX3_readPiece prog_5_method_11_code 4 (some .boolean) :: fm_Ts) { frames := 16, cells := 0, slots := 0, locals := 1600 } K_X3_readPiece_2 := rv_met hAd hZ (Or.inl (by decide +kernel)) evX3 dc_X3_readPiece a_X3_readPiece_2 ⟨rfl, rfl, rfl⟩ (by decide +kernel) (by decide +kernel) (by decide) (fm_gm hGd (by decide +kernel)) (Or.inr ⟨rfl, by decide, by decide⟩) (fun p e s m args below meth c Q X Y => List.forall_mem_cons.mpr ⟨rv_ctV X Y fm_Ts_good dc_X3_readPiece (pc := 1) (i := 1) (idx := 39) rfl (m_X3_next_0 hAd hZ hGd) wl_X3_39 wm_X3_next wy_X3_next (by decide) ⟨rfl, rfl, rfl⟩ ⟨rfl, rfl⟩, List.forall_mem_cons.mpr ⟨rv_ctV X Y fm_Ts_good dc_X3_readPiece (pc := 15) (i := 9) (idx := 79) rfl (m_X3_open_0 hAd hZ hGd) wl_X3_79 wm_X3_open wy_X3_open (by decide) ⟨rfl, rfl, rfl⟩ ⟨rfl, rfl⟩, List.forall_mem_cons.mpr ⟨rv_ctV X Y fm_Ts_good dc_X3_readPiece (pc := 25) (i := 15) (idx := 116) rfl (m_X3_readPiece_3 hAd hZ hGd) wl_X3_116 wm_X3_readPiece wy_X3_readPiece (by decide) ⟨rfl, rfl, rfl⟩ ⟨rfl, rfl⟩, List.forall_mem_cons.mpr ⟨rv_ctV X Y fm_Ts_good dc_X3_readPiece (pc := 39) (i := 23) (idx := 108) rfl (m_X1_putStep_0 hAd hZ hGd) wl_X3_108 wm_X1_putStep wy_X1_putStep (by decide) ⟨rfl, rfl, rfl⟩ ⟨rfl, rfl⟩, List.forall_mem_cons.mpr ⟨rv_ctV X Y fm_Ts_good dc_X3_readPiece (pc := 55) (i := 33) (idx := 79) rfl (m_X3_open_0 hAd hZ hGd) wl_X3_79 wm_X3_open wy_X3_open (by decide) ⟨rfl, rfl, rfl⟩ ⟨rfl, rfl⟩, List.forall_mem_cons.mpr ⟨rv_ctV X Y fm_Ts_good dc_X3_readPiece (pc := 65) (i := 39) (idx := 83) rfl (m_X3_readParts_3 hAd hZ hGd) wl_X3_83 wm_X3_readParts wy_X3_readParts (by decide) ⟨rfl, rfl, rfl⟩ ⟨rfl, rfl⟩, List.forall_mem_cons.mpr ⟨rv_ctV X Y fm_Ts_good dc_X3_readPiece (pc := 74) (i := 43) (idx := 86) rfl (m_X3_close_0 hAd hZ hGd) wl_X3_86 wm_X3_close wy_X3_close (by decide) ⟨rfl, rfl, rfl⟩ ⟨rfl, rfl⟩, List.forall_mem_cons.mpr ⟨rv_ctV X Y fm_Ts_good dc_X3_readPiece (pc := 88) (i := 51) (idx := 73) rfl (m_X3_readSum_3 hAd hZ hGd) wl_X3_73 wm_X3_readSum wy_X3_readSum (by decide) ⟨rfl, rfl, rfl⟩ ⟨rfl, rfl⟩, List.forall_mem_cons.mpr ⟨rv_ctV X Y fm_Ts_good dc_X3_readPiece (pc := 97) (i := 56) (idx := 39) rfl (m_X3_next_0 hAd hZ hGd) wl_X3_39 wm_X3_next wy_X3_next (by decide) ⟨rfl, rfl, rfl⟩ ⟨rfl, rfl⟩, List.forall_mem_cons.mpr ⟨rv_ctV X Y fm_Ts_good dc_X3_readPiece (pc := 121) (i := 69) (idx := 43) rfl (m_X3_fail_0 hAd hZ hGd) wl_X3_43 wm_X3_fail wy_X3_fail (by decide) ⟨rfl, rfl, rfl⟩ ⟨rfl, rfl⟩, List.forall_mem_cons.mpr ⟨rv_ctV X Y fm_Ts_good dc_X3_readPiece (pc := 137) (i := 79) (idx := 73) rfl (m_X3_readSum_3 hAd hZ hGd) wl_X3_73 wm_X3_readSum wy_X3_readSum (by decide) ⟨rfl, rfl, rfl⟩ ⟨rfl, rfl⟩, List.forall_mem_cons.mpr ⟨rv_ctV X Y fm_Ts_good dc_X3_readPiece (pc := 151) (i := 87) (idx := 108) rfl (m_X1_putStep_0 hAd hZ hGd) wl_X3_108 wm_X1_putStep wy_X1_putStep (by decide) ⟨rfl, rfl, rfl⟩ ⟨rfl, rfl⟩, fun _ h => absurd h List.not_mem_nil⟩⟩⟩⟩⟩⟩⟩⟩⟩⟩⟩⟩) (fun _ _ _ _ _ _ _ _ _ _ _ _ _ _ _ _ h => absurd h List.not_mem_nil)
def K_X3_readPieces_4 : rv_K := ([rv_r 16, rv_i 3 3], [], [(16, 3), (16, 4), (17, 2), (18, 9999), (19, 9999)], [(0, 0, 1)], [], [])
def ct_X3_readPieces_4 : List (Nat × rv_K) := [(2, K_X3_readPiece_2), (12, K_X3_next_0), (25, K_X1_putStep_0), (29, K_X3_readPiece_2), (36, K_X1_leadToEnd_0)]
def n_X3_readPieces_4_0 : List rv_N := [
  (0, ([rv_r 16, rv_i 3 3, rv_u, rv_u], [], []), [1], 2070610, [], []),
  (1, ([rv_r 16, rv_i 3 3, rv_u, rv_u], [rv_r 16], []), [2], 2070609, [], []),
  (2, ([rv_r 16, rv_i 3 3, rv_u, rv_u], [(1, 0, 3, 3, [(.inl 1, 0)], []), rv_r 16], []), [3], 2070608, [], [0]),
  (3, ([rv_r 16, rv_i 3 3, rv_u, rv_u], [rv_i 0 1], []), [4, 6], 2070607, [], []),
  (4, ([rv_r 16, rv_i 3 3, rv_u, rv_u], [], []), [5], 1, [], []),
  (5, ([rv_r 16, rv_i 3 3, rv_u, rv_u], [rv_i 0 0], []), [], 0, [], []),
  (6, ([rv_r 16, rv_i 3 3, rv_u, rv_u], [], []), [7], 2070606, [], []),
  (7, ([rv_r 16, rv_i 3 3, rv_u, rv_u], [rv_i 0 0], []), [8], 2070605, [], []),
  (8, ([rv_r 16, rv_i 3 3, rv_i 0 200, rv_u], [], []), [9], 2070604, [(2, (-10353))], []),
  (9, ([rv_r 16, rv_i 3 3, rv_i 0 200, rv_u], [(1, 0, 0, 200, [(.inl 2, 0)], [])], []), [10], 2070603, [(2, (-10353))], []),
  (10, ([rv_r 16, rv_i 3 3, rv_i 0 200, rv_u], [rv_i 200 200, (1, 0, 0, 200, [(.inl 2, 0)], [])], []), [11, 39], 2070602, [(2, (-10353))], []),
  (11, ([rv_r 16, rv_i 3 3, rv_i 0 199, rv_u], [], []), [12], 2060277, [(2, (-10353))], []),
  (12, ([rv_r 16, rv_i 3 3, rv_i 0 199, rv_u], [rv_r 16], []), [13], 2060276, [(2, (-10353))], [1]),
  (13, ([rv_r 16, rv_i 3 3, rv_i 0 199, rv_u], [rv_i (-1) 255], []), [14], 2060275, [(2, (-10353))], []),
  (14, ([rv_r 16, rv_i 3 3, rv_i 0 199, rv_u], [rv_i 38 38, rv_i (-1) 255], []), [15, 39], 2060274, [(2, (-10353))], []),
  (15, ([rv_r 16, rv_i 3 3, rv_i 0 199, rv_u], [], []), [16], 2060273, [(2, (-10353))], [])]
def n_X3_readPieces_4_1 : List rv_N := [
  (16, ([rv_r 16, rv_i 3 3, rv_i 0 199, rv_u], [rv_r 16], []), [17], 2060272, [(2, (-10353))], []),
  (17, ([rv_r 16, rv_i 3 3, rv_i 0 199, rv_u], [rv_r 16, rv_r 16], []), [18], 2060271, [(2, (-10353))], []),
  (18, ([rv_r 16, rv_i 3 3, rv_i 0 199, rv_u], [(1, 0, (-2147483648), 2147483647, [(.inr (16, 3), 0)], []), rv_r 16], []), [19], 2060270, [(2, (-10353))], []),
  (19, ([rv_r 16, rv_i 3 3, rv_i 0 199, rv_u], [rv_i 1 1, (1, 0, (-2147483648), 2147483647, [(.inr (16, 3), 0)], []), rv_r 16], []), [20], 2060269, [(2, (-10353))], []),
  (20, ([rv_r 16, rv_i 3 3, rv_i 0 199, rv_u], [(1, 0, (-2147483648), 2147483647, [(.inr (16, 3), 1)], []), rv_r 16], []), [21], 2060268, [(2, (-10353))], []),
  (21, ([rv_r 16, rv_i 3 3, rv_i 0 199, rv_u], [], []), [22], 2060267, [(2, (-10353))], []),
  (22, ([rv_r 16, rv_i 3 3, rv_i 0 199, rv_u], [rv_r 16], []), [23], 2060266, [(2, (-10353))], []),
  (23, ([rv_r 16, rv_i 3 3, rv_i 0 199, rv_u], [rv_r 17], []), [24], 2060265, [(2, (-10353))], []),
  (24, ([rv_r 16, rv_i 3 3, rv_i 0 199, rv_u], [rv_i 3 3, rv_r 17], []), [25], 2060264, [(2, (-10353))], []),
  (25, ([rv_r 16, rv_i 3 3, rv_i 0 199, rv_u], [rv_i 0 0, rv_i 3 3, rv_r 17], []), [26], 2060263, [(2, (-10353))], [2]),
  (26, ([rv_r 16, rv_i 3 3, rv_i 0 199, rv_u], [rv_i (-1) 199], []), [27], 2060262, [(2, (-10353))], []),
  (27, ([rv_r 16, rv_i 3 3, rv_i 0 199, rv_i (-1) 199], [], []), [28], 2060261, [(2, (-10353))], []),
  (28, ([rv_r 16, rv_i 3 3, rv_i 0 199, rv_i (-1) 199], [rv_r 16], []), [29], 2060260, [(2, (-10353))], []),
  (29, ([rv_r 16, rv_i 3 3, rv_i 0 199, rv_i (-1) 199], [(1, 0, 3, 3, [(.inl 1, 0)], []), rv_r 16], []), [30], 2060259, [(2, (-10353))], [3]),
  (30, ([rv_r 16, rv_i 3 3, rv_i 0 199, rv_i (-1) 199], [rv_i 0 1], []), [31, 33], 2060258, [(2, (-10353))], []),
  (31, ([rv_r 16, rv_i 3 3, rv_i 0 199, rv_i (-1) 199], [], []), [32], 1, [], [])]
def n_X3_readPieces_4_2 : List rv_N := [
  (32, ([rv_r 16, rv_i 3 3, rv_i 0 199, rv_i (-1) 199], [rv_i 0 0], []), [], 0, [], []),
  (33, ([rv_r 16, rv_i 3 3, rv_i 0 199, rv_i (-1) 199], [], []), [34], 2060257, [(2, (-10353))], []),
  (34, ([rv_r 16, rv_i 3 3, rv_i 0 199, rv_i (-1) 199], [rv_r 16], []), [35], 2060256, [(2, (-10353))], []),
  (35, ([rv_r 16, rv_i 3 3, rv_i 0 199, rv_i (-1) 199], [rv_r 17], []), [36], 2060255, [(2, (-10353))], []),
  (36, ([rv_r 16, rv_i 3 3, rv_i 0 199, rv_i (-1) 199], [(1, 0, (-1), 199, [(.inl 3, 0)], []), rv_r 17], []), [37], 2060254, [(2, (-10353))], [4]),
  (37, ([rv_r 16, rv_i 3 3, rv_i 0 199, rv_i (-1) 199], [], []), [38], 2060253, [(2, (-10353))], []),
  (38, ([rv_r 16, rv_i 3 3, rv_i 1 200, rv_i (-1) 199], [], []), [8], 2070605, [(2, (-10353))], []),
  (39, ([rv_r 16, rv_i 3 3, rv_i 0 200, rv_u], [], []), [40], 1, [], []),
  (40, ([rv_r 16, rv_i 3 3, rv_i 0 200, rv_u], [rv_i 1 1], []), [], 0, [], [])]
def n_X3_readPieces_4 : List rv_N := n_X3_readPieces_4_0 ++ (n_X3_readPieces_4_1 ++ (n_X3_readPieces_4_2))
noncomputable def gn_X3_readPieces_4 : Nat → Option rv_N := rv_ap 16 (rv_at n_X3_readPieces_4_0) (rv_ap 16 (rv_at n_X3_readPieces_4_1) (rv_at n_X3_readPieces_4_2))
theorem hn_X3_readPieces_4 : ∀ i : Nat, n_X3_readPieces_4[i]? = gn_X3_readPieces_4 i := rv_ap_eq (l := n_X3_readPieces_4_0) (c := 16) (rv_ap_eq (l := n_X3_readPieces_4_1) (c := 16) (rv_at_eq n_X3_readPieces_4_2) rfl) rfl
set_option maxRecDepth 100000 in
theorem a_X3_readPieces_4 : rv_all (fm_tm, flX3, fm_wr, kcX3, klX3, K_X3_readPieces_4.2.2.1, [], 4) ct_X3_readPieces_4 cd_X3_readPieces n_X3_readPieces_4 K_X3_readPieces_4 [] 0 n_X3_readPieces_4 = true := rv_fast hn_X3_readPieces_4 hc_X3_readPieces (by decide +kernel)
theorem m_X3_readPieces_4 {l : Launch} {D : va_G} {ad : Nat → Nat} {cy : Nat → ClassId} {Z : State → Heap → Prop} {Gp : fm_V → Prop} (hAd : fm_Ad fm_tm ad) (hZ : fm_Zk (fm_A fm_tm ad) Z) (hGd : fm_Gd Gp) : rv_Met l D fm_cl fm_tm ad cy fm_nt Z Gp yX3_readPieces (.code yX3_readPieces prog_5_method_10_code 4 (some .boolean) :: fm_Ts) { frames := 17, cells := 0, slots := 0, locals := 1700 } K_X3_readPieces_4 := rv_met hAd hZ (Or.inl (by decide +kernel)) evX3 dc_X3_readPieces a_X3_readPieces_4 ⟨rfl, rfl, rfl⟩ (by decide +kernel) (by decide +kernel) (by decide) (fm_gm hGd (by decide +kernel)) (Or.inr ⟨rfl, by decide, by decide⟩) (fun p e s m args below meth c Q X Y => List.forall_mem_cons.mpr ⟨rv_ctV X Y fm_Ts_good dc_X3_readPieces (pc := 2) (i := 2) (idx := 116) rfl (m_X3_readPiece_2 hAd hZ hGd) wl_X3_116 wm_X3_readPiece wy_X3_readPiece (by decide) ⟨rfl, rfl, rfl⟩ ⟨rfl, rfl⟩, List.forall_mem_cons.mpr ⟨rv_ctV X Y fm_Ts_good dc_X3_readPieces (pc := 20) (i := 12) (idx := 39) rfl (m_X3_next_0 hAd hZ hGd) wl_X3_39 wm_X3_next wy_X3_next (by decide) ⟨rfl, rfl, rfl⟩ ⟨rfl, rfl⟩, List.forall_mem_cons.mpr ⟨rv_ctV X Y fm_Ts_good dc_X3_readPieces (pc := 44) (i := 25) (idx := 108) rfl (m_X1_putStep_0 hAd hZ hGd) wl_X3_108 wm_X1_putStep wy_X1_putStep (by decide) ⟨rfl, rfl, rfl⟩ ⟨rfl, rfl⟩, List.forall_mem_cons.mpr ⟨rv_ctV X Y fm_Ts_good dc_X3_readPieces (pc := 50) (i := 29) (idx := 116) rfl (m_X3_readPiece_2 hAd hZ hGd) wl_X3_116 wm_X3_readPiece wy_X3_readPiece (by decide) ⟨rfl, rfl, rfl⟩ ⟨rfl, rfl⟩, List.forall_mem_cons.mpr ⟨rv_ctV X Y fm_Ts_good dc_X3_readPieces (pc := 63) (i := 36) (idx := 112) rfl (m_X1_leadToEnd_0 hAd hZ hGd) wl_X3_112 wm_X1_leadToEnd wy_X1_leadToEnd (by decide) ⟨rfl, rfl, rfl⟩ ⟨rfl, rfl⟩, fun _ h => absurd h List.not_mem_nil⟩⟩⟩⟩⟩) (fun _ _ _ _ _ _ _ _ _ _ _ _ _ _ _ _ h => absurd h List.not_mem_nil)
def K_X3_readParts_4 : rv_K := ([rv_r 16, rv_i 3 3], [], [(16, 3), (16, 4), (17, 2), (18, 9999), (19, 9999)], [(0, 0, 1)], [], [])
def ct_X3_readParts_4 : List (Nat × rv_K) := [(2, K_X3_readPieces_4), (12, K_X3_next_0), (25, K_X1_putStep_0), (29, K_X3_readPieces_4), (36, K_X1_leadToEnd_0)]
def n_X3_readParts_4_0 : List rv_N := [
  (0, ([rv_r 16, rv_i 3 3, rv_u, rv_u], [], []), [1], 2070610, [], []),
  (1, ([rv_r 16, rv_i 3 3, rv_u, rv_u], [rv_r 16], []), [2], 2070609, [], []),
  (2, ([rv_r 16, rv_i 3 3, rv_u, rv_u], [(1, 0, 3, 3, [(.inl 1, 0)], []), rv_r 16], []), [3], 2070608, [], [0]),
  (3, ([rv_r 16, rv_i 3 3, rv_u, rv_u], [rv_i 0 1], []), [4, 6], 2070607, [], []),
  (4, ([rv_r 16, rv_i 3 3, rv_u, rv_u], [], []), [5], 1, [], []),
  (5, ([rv_r 16, rv_i 3 3, rv_u, rv_u], [rv_i 0 0], []), [], 0, [], []),
  (6, ([rv_r 16, rv_i 3 3, rv_u, rv_u], [], []), [7], 2070606, [], []),
  (7, ([rv_r 16, rv_i 3 3, rv_u, rv_u], [rv_i 0 0], []), [8], 2070605, [], []),
  (8, ([rv_r 16, rv_i 3 3, rv_i 0 200, rv_u], [], []), [9], 2070604, [(2, (-10353))], []),
  (9, ([rv_r 16, rv_i 3 3, rv_i 0 200, rv_u], [(1, 0, 0, 200, [(.inl 2, 0)], [])], []), [10], 2070603, [(2, (-10353))], []),
  (10, ([rv_r 16, rv_i 3 3, rv_i 0 200, rv_u], [rv_i 200 200, (1, 0, 0, 200, [(.inl 2, 0)], [])], []), [11, 39], 2070602, [(2, (-10353))], []),
  (11, ([rv_r 16, rv_i 3 3, rv_i 0 199, rv_u], [], []), [12], 2060277, [(2, (-10353))], []),
  (12, ([rv_r 16, rv_i 3 3, rv_i 0 199, rv_u], [rv_r 16], []), [13], 2060276, [(2, (-10353))], [1]),
  (13, ([rv_r 16, rv_i 3 3, rv_i 0 199, rv_u], [rv_i (-1) 255], []), [14], 2060275, [(2, (-10353))], []),
  (14, ([rv_r 16, rv_i 3 3, rv_i 0 199, rv_u], [rv_i 124 124, rv_i (-1) 255], []), [15, 39], 2060274, [(2, (-10353))], []),
  (15, ([rv_r 16, rv_i 3 3, rv_i 0 199, rv_u], [], []), [16], 2060273, [(2, (-10353))], [])]
def n_X3_readParts_4_1 : List rv_N := [
  (16, ([rv_r 16, rv_i 3 3, rv_i 0 199, rv_u], [rv_r 16], []), [17], 2060272, [(2, (-10353))], []),
  (17, ([rv_r 16, rv_i 3 3, rv_i 0 199, rv_u], [rv_r 16, rv_r 16], []), [18], 2060271, [(2, (-10353))], []),
  (18, ([rv_r 16, rv_i 3 3, rv_i 0 199, rv_u], [(1, 0, (-2147483648), 2147483647, [(.inr (16, 3), 0)], []), rv_r 16], []), [19], 2060270, [(2, (-10353))], []),
  (19, ([rv_r 16, rv_i 3 3, rv_i 0 199, rv_u], [rv_i 1 1, (1, 0, (-2147483648), 2147483647, [(.inr (16, 3), 0)], []), rv_r 16], []), [20], 2060269, [(2, (-10353))], []),
  (20, ([rv_r 16, rv_i 3 3, rv_i 0 199, rv_u], [(1, 0, (-2147483648), 2147483647, [(.inr (16, 3), 1)], []), rv_r 16], []), [21], 2060268, [(2, (-10353))], []),
  (21, ([rv_r 16, rv_i 3 3, rv_i 0 199, rv_u], [], []), [22], 2060267, [(2, (-10353))], []),
  (22, ([rv_r 16, rv_i 3 3, rv_i 0 199, rv_u], [rv_r 16], []), [23], 2060266, [(2, (-10353))], []),
  (23, ([rv_r 16, rv_i 3 3, rv_i 0 199, rv_u], [rv_r 17], []), [24], 2060265, [(2, (-10353))], []),
  (24, ([rv_r 16, rv_i 3 3, rv_i 0 199, rv_u], [rv_i 2 2, rv_r 17], []), [25], 2060264, [(2, (-10353))], []),
  (25, ([rv_r 16, rv_i 3 3, rv_i 0 199, rv_u], [rv_i 0 0, rv_i 2 2, rv_r 17], []), [26], 2060263, [(2, (-10353))], [2]),
  (26, ([rv_r 16, rv_i 3 3, rv_i 0 199, rv_u], [rv_i (-1) 199], []), [27], 2060262, [(2, (-10353))], []),
  (27, ([rv_r 16, rv_i 3 3, rv_i 0 199, rv_i (-1) 199], [], []), [28], 2060261, [(2, (-10353))], []),
  (28, ([rv_r 16, rv_i 3 3, rv_i 0 199, rv_i (-1) 199], [rv_r 16], []), [29], 2060260, [(2, (-10353))], []),
  (29, ([rv_r 16, rv_i 3 3, rv_i 0 199, rv_i (-1) 199], [(1, 0, 3, 3, [(.inl 1, 0)], []), rv_r 16], []), [30], 2060259, [(2, (-10353))], [3]),
  (30, ([rv_r 16, rv_i 3 3, rv_i 0 199, rv_i (-1) 199], [rv_i 0 1], []), [31, 33], 2060258, [(2, (-10353))], []),
  (31, ([rv_r 16, rv_i 3 3, rv_i 0 199, rv_i (-1) 199], [], []), [32], 1, [], [])]
def n_X3_readParts_4_2 : List rv_N := [
  (32, ([rv_r 16, rv_i 3 3, rv_i 0 199, rv_i (-1) 199], [rv_i 0 0], []), [], 0, [], []),
  (33, ([rv_r 16, rv_i 3 3, rv_i 0 199, rv_i (-1) 199], [], []), [34], 2060257, [(2, (-10353))], []),
  (34, ([rv_r 16, rv_i 3 3, rv_i 0 199, rv_i (-1) 199], [rv_r 16], []), [35], 2060256, [(2, (-10353))], []),
  (35, ([rv_r 16, rv_i 3 3, rv_i 0 199, rv_i (-1) 199], [rv_r 17], []), [36], 2060255, [(2, (-10353))], []),
  (36, ([rv_r 16, rv_i 3 3, rv_i 0 199, rv_i (-1) 199], [(1, 0, (-1), 199, [(.inl 3, 0)], []), rv_r 17], []), [37], 2060254, [(2, (-10353))], [4]),
  (37, ([rv_r 16, rv_i 3 3, rv_i 0 199, rv_i (-1) 199], [], []), [38], 2060253, [(2, (-10353))], []),
  (38, ([rv_r 16, rv_i 3 3, rv_i 1 200, rv_i (-1) 199], [], []), [8], 2070605, [(2, (-10353))], []),
  (39, ([rv_r 16, rv_i 3 3, rv_i 0 200, rv_u], [], []), [40], 1, [], []),
  (40, ([rv_r 16, rv_i 3 3, rv_i 0 200, rv_u], [rv_i 1 1], []), [], 0, [], [])]
def n_X3_readParts_4 : List rv_N := n_X3_readParts_4_0 ++ (n_X3_readParts_4_1 ++ (n_X3_readParts_4_2))
noncomputable def gn_X3_readParts_4 : Nat → Option rv_N := rv_ap 16 (rv_at n_X3_readParts_4_0) (rv_ap 16 (rv_at n_X3_readParts_4_1) (rv_at n_X3_readParts_4_2))
theorem hn_X3_readParts_4 : ∀ i : Nat, n_X3_readParts_4[i]? = gn_X3_readParts_4 i := rv_ap_eq (l := n_X3_readParts_4_0) (c := 16) (rv_ap_eq (l := n_X3_readParts_4_1) (c := 16) (rv_at_eq n_X3_readParts_4_2) rfl) rfl
set_option maxRecDepth 100000 in
theorem a_X3_readParts_4 : rv_all (fm_tm, flX3, fm_wr, kcX3, klX3, K_X3_readParts_4.2.2.1, [], 4) ct_X3_readParts_4 cd_X3_readParts n_X3_readParts_4 K_X3_readParts_4 [] 0 n_X3_readParts_4 = true := rv_fast hn_X3_readParts_4 hc_X3_readParts (by decide +kernel)
theorem m_X3_readParts_4 {l : Launch} {D : va_G} {ad : Nat → Nat} {cy : Nat → ClassId} {Z : State → Heap → Prop} {Gp : fm_V → Prop} (hAd : fm_Ad fm_tm ad) (hZ : fm_Zk (fm_A fm_tm ad) Z) (hGd : fm_Gd Gp) : rv_Met l D fm_cl fm_tm ad cy fm_nt Z Gp yX3_readParts (.code yX3_readParts prog_5_method_9_code 4 (some .boolean) :: fm_Ts) { frames := 18, cells := 0, slots := 0, locals := 1800 } K_X3_readParts_4 := rv_met hAd hZ (Or.inl (by decide +kernel)) evX3 dc_X3_readParts a_X3_readParts_4 ⟨rfl, rfl, rfl⟩ (by decide +kernel) (by decide +kernel) (by decide) (fm_gm hGd (by decide +kernel)) (Or.inr ⟨rfl, by decide, by decide⟩) (fun p e s m args below meth c Q X Y => List.forall_mem_cons.mpr ⟨rv_ctV X Y fm_Ts_good dc_X3_readParts (pc := 2) (i := 2) (idx := 105) rfl (m_X3_readPieces_4 hAd hZ hGd) wl_X3_105 wm_X3_readPieces wy_X3_readPieces (by decide) ⟨rfl, rfl, rfl⟩ ⟨rfl, rfl⟩, List.forall_mem_cons.mpr ⟨rv_ctV X Y fm_Ts_good dc_X3_readParts (pc := 20) (i := 12) (idx := 39) rfl (m_X3_next_0 hAd hZ hGd) wl_X3_39 wm_X3_next wy_X3_next (by decide) ⟨rfl, rfl, rfl⟩ ⟨rfl, rfl⟩, List.forall_mem_cons.mpr ⟨rv_ctV X Y fm_Ts_good dc_X3_readParts (pc := 44) (i := 25) (idx := 108) rfl (m_X1_putStep_0 hAd hZ hGd) wl_X3_108 wm_X1_putStep wy_X1_putStep (by decide) ⟨rfl, rfl, rfl⟩ ⟨rfl, rfl⟩, List.forall_mem_cons.mpr ⟨rv_ctV X Y fm_Ts_good dc_X3_readParts (pc := 50) (i := 29) (idx := 105) rfl (m_X3_readPieces_4 hAd hZ hGd) wl_X3_105 wm_X3_readPieces wy_X3_readPieces (by decide) ⟨rfl, rfl, rfl⟩ ⟨rfl, rfl⟩, List.forall_mem_cons.mpr ⟨rv_ctV X Y fm_Ts_good dc_X3_readParts (pc := 63) (i := 36) (idx := 112) rfl (m_X1_leadToEnd_0 hAd hZ hGd) wl_X3_112 wm_X1_leadToEnd wy_X1_leadToEnd (by decide) ⟨rfl, rfl, rfl⟩ ⟨rfl, rfl⟩, fun _ h => absurd h List.not_mem_nil⟩⟩⟩⟩⟩) (fun _ _ _ _ _ _ _ _ _ _ _ _ _ _ _ _ h => absurd h List.not_mem_nil)
def K_X3_readPiece_1 : rv_K := ([rv_r 16, rv_i 2 2], [], [(16, 3), (16, 4), (17, 2), (18, 9999), (19, 9999)], [(0, 0, 1)], [], [])
def ct_X3_readPiece_1 : List (Nat × rv_K) := [(1, K_X3_next_0), (9, K_X3_open_0), (15, K_X3_readPiece_2), (23, K_X1_putStep_0), (33, K_X3_open_0), (39, K_X3_readParts_4), (43, K_X3_close_0), (51, K_X3_readSum_2), (56, K_X3_next_0), (69, K_X3_fail_0), (79, K_X3_readSum_2), (87, K_X1_putStep_0)]
def n_X3_readPiece_1_0 : List rv_N := [
  (0, ([rv_r 16, rv_i 2 2, rv_u, rv_u], [], []), [1], 42, [], []),
  (1, ([rv_r 16, rv_i 2 2, rv_u, rv_u], [rv_r 16], []), [2], 41, [], [0]),
  (2, ([rv_r 16, rv_i 2 2, rv_u, rv_u], [rv_i (-1) 255], []), [3], 40, [], []),
  (3, ([rv_r 16, rv_i 2 2, rv_i (-1) 255, rv_u], [], []), [4], 39, [], []),
  (4, ([rv_r 16, rv_i 2 2, rv_i (-1) 255, rv_u], [(1, 0, (-1), 255, [(.inl 2, 0)], [])], []), [5], 38, [], []),
  (5, ([rv_r 16, rv_i 2 2, rv_i (-1) 255, rv_u], [rv_i 33 33, (1, 0, (-1), 255, [(.inl 2, 0)], [])], []), [6, 27], 37, [], []),
  (6, ([rv_r 16, rv_i 2 2, rv_i 33 33, rv_u], [], []), [7], 18, [], []),
  (7, ([rv_r 16, rv_i 2 2, rv_i 33 33, rv_u], [rv_r 16], []), [8], 17, [], []),
  (8, ([rv_r 16, rv_i 2 2, rv_i 33 33, rv_u], [rv_i 33 33, rv_r 16], []), [9], 16, [], []),
  (9, ([rv_r 16, rv_i 2 2, rv_i 33 33, rv_u], [(1, 0, 2, 2, [(.inl 1, 0)], []), rv_i 33 33, rv_r 16], []), [10], 15, [], [1]),
  (10, ([rv_r 16, rv_i 2 2, rv_i 33 33, rv_u], [(1, 0, 0, 1, [], [(.inl 1, (-2147483648), 5)])], []), [11, 17], 14, [], []),
  (11, ([rv_r 16, rv_i 2 2, rv_i 33 33, rv_u], [], []), [12], 13, [], []),
  (12, ([rv_r 16, rv_i 2 2, rv_i 33 33, rv_u], [rv_r 16], []), [13], 12, [], []),
  (13, ([rv_r 16, rv_i 2 2, rv_i 33 33, rv_u], [(1, 0, 2, 2, [(.inl 1, 0)], []), rv_r 16], []), [14], 11, [], []),
  (14, ([rv_r 16, rv_i 2 2, rv_i 33 33, rv_u], [rv_i 1 1, (1, 0, 2, 2, [(.inl 1, 0)], []), rv_r 16], []), [15], 10, [], []),
  (15, ([rv_r 16, rv_i 2 2, rv_i 33 33, rv_u], [(1, 0, 3, 3, [(.inl 1, 1)], []), rv_r 16], []), [16], 9, [], [2])]
def n_X3_readPiece_1_1 : List rv_N := [
  (16, ([rv_r 16, rv_i 2 2, rv_i 33 33, rv_u], [rv_i 0 1], []), [17, 19], 8, [], []),
  (17, ([rv_r 16, rv_i 2 2, rv_i 33 33, rv_u], [], []), [18], 1, [], []),
  (18, ([rv_r 16, rv_i 2 2, rv_i 33 33, rv_u], [rv_i 0 0], []), [], 0, [], []),
  (19, ([rv_r 16, rv_i 2 2, rv_i 33 33, rv_u], [], []), [20], 7, [], []),
  (20, ([rv_r 16, rv_i 2 2, rv_i 33 33, rv_u], [rv_r 16], []), [21], 6, [], []),
  (21, ([rv_r 16, rv_i 2 2, rv_i 33 33, rv_u], [rv_r 17], []), [22], 5, [], []),
  (22, ([rv_r 16, rv_i 2 2, rv_i 33 33, rv_u], [rv_i 4 4, rv_r 17], []), [23], 4, [], []),
  (23, ([rv_r 16, rv_i 2 2, rv_i 33 33, rv_u], [rv_i 0 0, rv_i 4 4, rv_r 17], []), [24], 3, [], [3]),
  (24, ([rv_r 16, rv_i 2 2, rv_i 33 33, rv_u], [rv_i (-1) 199], []), [25], 2, [], []),
  (25, ([rv_r 16, rv_i 2 2, rv_i 33 33, rv_u], [], []), [26], 1, [], []),
  (26, ([rv_r 16, rv_i 2 2, rv_i 33 33, rv_u], [rv_i 1 1], []), [], 0, [], []),
  (27, ([rv_r 16, rv_i 2 2, rv_i (-1) 255, rv_u], [], []), [28], 36, [], []),
  (28, ([rv_r 16, rv_i 2 2, rv_i (-1) 255, rv_u], [(1, 0, (-1), 255, [(.inl 2, 0)], [])], []), [29], 35, [], []),
  (29, ([rv_r 16, rv_i 2 2, rv_i (-1) 255, rv_u], [rv_i 40 40, (1, 0, (-1), 255, [(.inl 2, 0)], [])], []), [30, 50], 34, [], []),
  (30, ([rv_r 16, rv_i 2 2, rv_i 40 40, rv_u], [], []), [31], 17, [], []),
  (31, ([rv_r 16, rv_i 2 2, rv_i 40 40, rv_u], [rv_r 16], []), [32], 16, [], [])]
def n_X3_readPiece_1_2 : List rv_N := [
  (32, ([rv_r 16, rv_i 2 2, rv_i 40 40, rv_u], [rv_i 40 40, rv_r 16], []), [33], 15, [], []),
  (33, ([rv_r 16, rv_i 2 2, rv_i 40 40, rv_u], [(1, 0, 2, 2, [(.inl 1, 0)], []), rv_i 40 40, rv_r 16], []), [34], 14, [], [4]),
  (34, ([rv_r 16, rv_i 2 2, rv_i 40 40, rv_u], [(1, 0, 0, 1, [], [(.inl 1, (-2147483648), 5)])], []), [35, 47], 13, [], []),
  (35, ([rv_r 16, rv_i 2 2, rv_i 40 40, rv_u], [], []), [36], 12, [], []),
  (36, ([rv_r 16, rv_i 2 2, rv_i 40 40, rv_u], [rv_r 16], []), [37], 11, [], []),
  (37, ([rv_r 16, rv_i 2 2, rv_i 40 40, rv_u], [(1, 0, 2, 2, [(.inl 1, 0)], []), rv_r 16], []), [38], 10, [], []),
  (38, ([rv_r 16, rv_i 2 2, rv_i 40 40, rv_u], [rv_i 1 1, (1, 0, 2, 2, [(.inl 1, 0)], []), rv_r 16], []), [39], 9, [], []),
  (39, ([rv_r 16, rv_i 2 2, rv_i 40 40, rv_u], [(1, 0, 3, 3, [(.inl 1, 1)], []), rv_r 16], []), [40], 8, [], [5]),
  (40, ([rv_r 16, rv_i 2 2, rv_i 40 40, rv_u], [rv_i 0 1], []), [41, 47], 7, [], []),
  (41, ([rv_r 16, rv_i 2 2, rv_i 40 40, rv_u], [], []), [42], 6, [], []),
  (42, ([rv_r 16, rv_i 2 2, rv_i 40 40, rv_u], [rv_r 16], []), [43], 5, [], []),
  (43, ([rv_r 16, rv_i 2 2, rv_i 40 40, rv_u], [rv_i 41 41, rv_r 16], []), [44], 4, [], [6]),
  (44, ([rv_r 16, rv_i 2 2, rv_i 40 40, rv_u], [rv_i 0 1], []), [45, 47], 3, [], []),
  (45, ([rv_r 16, rv_i 2 2, rv_i 40 40, rv_u], [], []), [46], 2, [], []),
  (46, ([rv_r 16, rv_i 2 2, rv_i 40 40, rv_u], [rv_i 1 1], []), [49], 1, [], []),
  (47, ([rv_r 16, rv_i 2 2, rv_i 40 40, rv_u], [], []), [48], 1, [], [])]
def n_X3_readPiece_1_3 : List rv_N := [
  (48, ([rv_r 16, rv_i 2 2, rv_i 40 40, rv_u], [rv_i 0 0], []), [], 0, [], []),
  (48, ([rv_r 16, rv_i 2 2, rv_i 40 40, rv_u], [rv_i 1 1], []), [], 0, [], []),
  (49, ([rv_r 16, rv_i 2 2, rv_i (-1) 255, rv_u], [], []), [51], 33, [], []),
  (50, ([rv_r 16, rv_i 2 2, rv_i (-1) 255, rv_u], [rv_r 16], []), [52], 32, [], []),
  (51, ([rv_r 16, rv_i 2 2, rv_i (-1) 255, rv_u], [(1, 0, 2, 2, [(.inl 1, 0)], []), rv_r 16], []), [53], 31, [], [7]),
  (52, ([rv_r 16, rv_i 2 2, rv_i (-1) 255, rv_u], [rv_i 0 1], []), [54, 56], 30, [], []),
  (53, ([rv_r 16, rv_i 2 2, rv_i (-1) 255, rv_u], [], []), [55], 1, [], []),
  (54, ([rv_r 16, rv_i 2 2, rv_i (-1) 255, rv_u], [rv_i 0 0], []), [], 0, [], []),
  (55, ([rv_r 16, rv_i 2 2, rv_i (-1) 255, rv_u], [], []), [57], 29, [], []),
  (56, ([rv_r 16, rv_i 2 2, rv_i (-1) 255, rv_u], [rv_r 16], []), [58], 28, [], [8]),
  (57, ([rv_r 16, rv_i 2 2, rv_i (-1) 255, rv_u], [rv_i (-1) 255], []), [59], 27, [], []),
  (58, ([rv_r 16, rv_i 2 2, rv_i (-1) 255, rv_i (-1) 255], [], []), [60], 26, [], []),
  (59, ([rv_r 16, rv_i 2 2, rv_i (-1) 255, rv_i (-1) 255], [(1, 0, (-1), 255, [(.inl 3, 0)], [])], []), [61], 25, [], []),
  (60, ([rv_r 16, rv_i 2 2, rv_i (-1) 255, rv_i (-1) 255], [rv_i 60 60, (1, 0, (-1), 255, [(.inl 3, 0)], [])], []), [62, 72], 24, [], []),
  (61, ([rv_r 16, rv_i 2 2, rv_i (-1) 255, rv_i (-1) 255], [], []), [63], 23, [], []),
  (62, ([rv_r 16, rv_i 2 2, rv_i (-1) 255, rv_i (-1) 255], [(1, 0, (-1), 255, [(.inl 3, 0)], [])], []), [64], 22, [], [])]
def n_X3_readPiece_1_4 : List rv_N := [
  (63, ([rv_r 16, rv_i 2 2, rv_i (-1) 255, rv_i (-1) 255], [rv_i 62 62, (1, 0, (-1), 255, [(.inl 3, 0)], [])], []), [65, 72], 21, [], []),
  (64, ([rv_r 16, rv_i 2 2, rv_i (-1) 255, rv_i (-1) 255], [], []), [66], 20, [], []),
  (65, ([rv_r 16, rv_i 2 2, rv_i (-1) 255, rv_i (-1) 255], [(1, 0, (-1), 255, [(.inl 3, 0)], [])], []), [67], 19, [], []),
  (66, ([rv_r 16, rv_i 2 2, rv_i (-1) 255, rv_i (-1) 255], [rv_i 61 61, (1, 0, (-1), 255, [(.inl 3, 0)], [])], []), [68, 72], 18, [], []),
  (67, ([rv_r 16, rv_i 2 2, rv_i (-1) 255, rv_i (-1) 255], [], []), [69], 3, [], []),
  (68, ([rv_r 16, rv_i 2 2, rv_i (-1) 255, rv_i (-1) 255], [rv_r 16], []), [70], 2, [], []),
  (69, ([rv_r 16, rv_i 2 2, rv_i (-1) 255, rv_i (-1) 255], [rv_i 1 1, rv_r 16], []), [71], 1, [], [9]),
  (70, ([rv_r 16, rv_i 2 2, rv_i (-1) 255, rv_i (-1) 255], [rv_i 0 0], []), [], 0, [], []),
  (71, ([rv_r 16, rv_i 2 2, rv_i (-1) 255, rv_i 60 62], [], []), [73], 17, [], []),
  (72, ([rv_r 16, rv_i 2 2, rv_i (-1) 255, rv_i 60 62], [rv_r 16], []), [74], 16, [], []),
  (73, ([rv_r 16, rv_i 2 2, rv_i (-1) 255, rv_i 60 62], [rv_r 16, rv_r 16], []), [75], 15, [], []),
  (74, ([rv_r 16, rv_i 2 2, rv_i (-1) 255, rv_i 60 62], [(1, 0, (-2147483648), 2147483647, [(.inr (16, 3), 0)], []), rv_r 16], []), [76], 14, [], []),
  (75, ([rv_r 16, rv_i 2 2, rv_i (-1) 255, rv_i 60 62], [rv_i 1 1, (1, 0, (-2147483648), 2147483647, [(.inr (16, 3), 0)], []), rv_r 16], []), [77], 13, [], []),
  (76, ([rv_r 16, rv_i 2 2, rv_i (-1) 255, rv_i 60 62], [(1, 0, (-2147483648), 2147483647, [(.inr (16, 3), 1)], []), rv_r 16], []), [78], 12, [], []),
  (77, ([rv_r 16, rv_i 2 2, rv_i (-1) 255, rv_i 60 62], [], []), [79], 11, [], []),
  (78, ([rv_r 16, rv_i 2 2, rv_i (-1) 255, rv_i 60 62], [rv_r 16], []), [80], 10, [], [])]
def n_X3_readPiece_1_5 : List rv_N := [
  (79, ([rv_r 16, rv_i 2 2, rv_i (-1) 255, rv_i 60 62], [(1, 0, 2, 2, [(.inl 1, 0)], []), rv_r 16], []), [81], 9, [], [10]),
  (80, ([rv_r 16, rv_i 2 2, rv_i (-1) 255, rv_i 60 62], [rv_i 0 1], []), [82, 84], 8, [], []),
  (81, ([rv_r 16, rv_i 2 2, rv_i (-1) 255, rv_i 60 62], [], []), [83], 1, [], []),
  (82, ([rv_r 16, rv_i 2 2, rv_i (-1) 255, rv_i 60 62], [rv_i 0 0], []), [], 0, [], []),
  (83, ([rv_r 16, rv_i 2 2, rv_i (-1) 255, rv_i 60 62], [], []), [85], 7, [], []),
  (84, ([rv_r 16, rv_i 2 2, rv_i (-1) 255, rv_i 60 62], [rv_r 16], []), [86], 6, [], []),
  (85, ([rv_r 16, rv_i 2 2, rv_i (-1) 255, rv_i 60 62], [rv_r 17], []), [87], 5, [], []),
  (86, ([rv_r 16, rv_i 2 2, rv_i (-1) 255, rv_i 60 62], [(1, 0, 60, 62, [(.inl 3, 0)], []), rv_r 17], []), [88], 4, [], []),
  (87, ([rv_r 16, rv_i 2 2, rv_i (-1) 255, rv_i 60 62], [rv_i 0 0, (1, 0, 60, 62, [(.inl 3, 0)], []), rv_r 17], []), [89], 3, [], [11]),
  (88, ([rv_r 16, rv_i 2 2, rv_i (-1) 255, rv_i 60 62], [rv_i (-1) 199], []), [90], 2, [], []),
  (89, ([rv_r 16, rv_i 2 2, rv_i (-1) 255, rv_i 60 62], [], []), [91], 1, [], []),
  (90, ([rv_r 16, rv_i 2 2, rv_i (-1) 255, rv_i 60 62], [rv_i 1 1], []), [], 0, [], [])]
def n_X3_readPiece_1 : List rv_N := n_X3_readPiece_1_0 ++ (n_X3_readPiece_1_1 ++ (n_X3_readPiece_1_2 ++ (n_X3_readPiece_1_3 ++ (n_X3_readPiece_1_4 ++ (n_X3_readPiece_1_5)))))
noncomputable def gn_X3_readPiece_1 : Nat → Option rv_N := rv_ap 16 (rv_at n_X3_readPiece_1_0) (rv_ap 16 (rv_at n_X3_readPiece_1_1) (rv_ap 16 (rv_at n_X3_readPiece_1_2) (rv_ap 16 (rv_at n_X3_readPiece_1_3) (rv_ap 16 (rv_at n_X3_readPiece_1_4) (rv_at n_X3_readPiece_1_5)))))
theorem hn_X3_readPiece_1 : ∀ i : Nat, n_X3_readPiece_1[i]? = gn_X3_readPiece_1 i := rv_ap_eq (l := n_X3_readPiece_1_0) (c := 16) (rv_ap_eq (l := n_X3_readPiece_1_1) (c := 16) (rv_ap_eq (l := n_X3_readPiece_1_2) (c := 16) (rv_ap_eq (l := n_X3_readPiece_1_3) (c := 16) (rv_ap_eq (l := n_X3_readPiece_1_4) (c := 16) (rv_at_eq n_X3_readPiece_1_5) rfl) rfl) rfl) rfl) rfl
set_option maxRecDepth 100000 in
theorem a_X3_readPiece_1 : rv_all (fm_tm, flX3, fm_wr, kcX3, klX3, K_X3_readPiece_1.2.2.1, [], 4) ct_X3_readPiece_1 cd_X3_readPiece n_X3_readPiece_1 K_X3_readPiece_1 [] 0 n_X3_readPiece_1 = true := rv_fast hn_X3_readPiece_1 hc_X3_readPiece (by decide +kernel)
theorem m_X3_readPiece_1 {l : Launch} {D : va_G} {ad : Nat → Nat} {cy : Nat → ClassId} {Z : State → Heap → Prop} {Gp : fm_V → Prop} (hAd : fm_Ad fm_tm ad) (hZ : fm_Zk (fm_A fm_tm ad) Z) (hGd : fm_Gd Gp) : rv_Met l D fm_cl fm_tm ad cy fm_nt Z Gp yX3_readPiece (.code yX3_readPiece prog_5_method_11_code 4 (some .boolean) :: fm_Ts) { frames := 19, cells := 0, slots := 0, locals := 1900 } K_X3_readPiece_1 := rv_met hAd hZ (Or.inl (by decide +kernel)) evX3 dc_X3_readPiece a_X3_readPiece_1 ⟨rfl, rfl, rfl⟩ (by decide +kernel) (by decide +kernel) (by decide) (fm_gm hGd (by decide +kernel)) (Or.inr ⟨rfl, by decide, by decide⟩) (fun p e s m args below meth c Q X Y => List.forall_mem_cons.mpr ⟨rv_ctV X Y fm_Ts_good dc_X3_readPiece (pc := 1) (i := 1) (idx := 39) rfl (m_X3_next_0 hAd hZ hGd) wl_X3_39 wm_X3_next wy_X3_next (by decide) ⟨rfl, rfl, rfl⟩ ⟨rfl, rfl⟩, List.forall_mem_cons.mpr ⟨rv_ctV X Y fm_Ts_good dc_X3_readPiece (pc := 15) (i := 9) (idx := 79) rfl (m_X3_open_0 hAd hZ hGd) wl_X3_79 wm_X3_open wy_X3_open (by decide) ⟨rfl, rfl, rfl⟩ ⟨rfl, rfl⟩, List.forall_mem_cons.mpr ⟨rv_ctV X Y fm_Ts_good dc_X3_readPiece (pc := 25) (i := 15) (idx := 116) rfl (m_X3_readPiece_2 hAd hZ hGd) wl_X3_116 wm_X3_readPiece wy_X3_readPiece (by decide) ⟨rfl, rfl, rfl⟩ ⟨rfl, rfl⟩, List.forall_mem_cons.mpr ⟨rv_ctV X Y fm_Ts_good dc_X3_readPiece (pc := 39) (i := 23) (idx := 108) rfl (m_X1_putStep_0 hAd hZ hGd) wl_X3_108 wm_X1_putStep wy_X1_putStep (by decide) ⟨rfl, rfl, rfl⟩ ⟨rfl, rfl⟩, List.forall_mem_cons.mpr ⟨rv_ctV X Y fm_Ts_good dc_X3_readPiece (pc := 55) (i := 33) (idx := 79) rfl (m_X3_open_0 hAd hZ hGd) wl_X3_79 wm_X3_open wy_X3_open (by decide) ⟨rfl, rfl, rfl⟩ ⟨rfl, rfl⟩, List.forall_mem_cons.mpr ⟨rv_ctV X Y fm_Ts_good dc_X3_readPiece (pc := 65) (i := 39) (idx := 83) rfl (m_X3_readParts_4 hAd hZ hGd) wl_X3_83 wm_X3_readParts wy_X3_readParts (by decide) ⟨rfl, rfl, rfl⟩ ⟨rfl, rfl⟩, List.forall_mem_cons.mpr ⟨rv_ctV X Y fm_Ts_good dc_X3_readPiece (pc := 74) (i := 43) (idx := 86) rfl (m_X3_close_0 hAd hZ hGd) wl_X3_86 wm_X3_close wy_X3_close (by decide) ⟨rfl, rfl, rfl⟩ ⟨rfl, rfl⟩, List.forall_mem_cons.mpr ⟨rv_ctV X Y fm_Ts_good dc_X3_readPiece (pc := 88) (i := 51) (idx := 73) rfl (m_X3_readSum_2 hAd hZ hGd) wl_X3_73 wm_X3_readSum wy_X3_readSum (by decide) ⟨rfl, rfl, rfl⟩ ⟨rfl, rfl⟩, List.forall_mem_cons.mpr ⟨rv_ctV X Y fm_Ts_good dc_X3_readPiece (pc := 97) (i := 56) (idx := 39) rfl (m_X3_next_0 hAd hZ hGd) wl_X3_39 wm_X3_next wy_X3_next (by decide) ⟨rfl, rfl, rfl⟩ ⟨rfl, rfl⟩, List.forall_mem_cons.mpr ⟨rv_ctV X Y fm_Ts_good dc_X3_readPiece (pc := 121) (i := 69) (idx := 43) rfl (m_X3_fail_0 hAd hZ hGd) wl_X3_43 wm_X3_fail wy_X3_fail (by decide) ⟨rfl, rfl, rfl⟩ ⟨rfl, rfl⟩, List.forall_mem_cons.mpr ⟨rv_ctV X Y fm_Ts_good dc_X3_readPiece (pc := 137) (i := 79) (idx := 73) rfl (m_X3_readSum_2 hAd hZ hGd) wl_X3_73 wm_X3_readSum wy_X3_readSum (by decide) ⟨rfl, rfl, rfl⟩ ⟨rfl, rfl⟩, List.forall_mem_cons.mpr ⟨rv_ctV X Y fm_Ts_good dc_X3_readPiece (pc := 151) (i := 87) (idx := 108) rfl (m_X1_putStep_0 hAd hZ hGd) wl_X3_108 wm_X1_putStep wy_X1_putStep (by decide) ⟨rfl, rfl, rfl⟩ ⟨rfl, rfl⟩, fun _ h => absurd h List.not_mem_nil⟩⟩⟩⟩⟩⟩⟩⟩⟩⟩⟩⟩) (fun _ _ _ _ _ _ _ _ _ _ _ _ _ _ _ _ h => absurd h List.not_mem_nil)
