def K_X3_readPieces_5 : rv_K := ([rv_r 16, rv_i 2 2], [], [(16, 3), (16, 4), (17, 2), (18, 9999), (19, 9999)], [(0, 0, 1)], [], [])
def ct_X3_readPieces_5 : List (Nat × rv_K) := [(2, K_X3_readPiece_1), (12, K_X3_next_0), (25, K_X1_putStep_0), (29, K_X3_readPiece_1), (36, K_X1_leadToEnd_0)]
def n_X3_readPieces_5_0 : List rv_N := [
  (0, ([rv_r 16, rv_i 2 2, rv_u, rv_u], [], []), [1], 2070610, [], []),
  (1, ([rv_r 16, rv_i 2 2, rv_u, rv_u], [rv_r 16], []), [2], 2070609, [], []),
  (2, ([rv_r 16, rv_i 2 2, rv_u, rv_u], [(1, 0, 2, 2, [(.inl 1, 0)], []), rv_r 16], []), [3], 2070608, [], [0]),
  (3, ([rv_r 16, rv_i 2 2, rv_u, rv_u], [rv_i 0 1], []), [4, 6], 2070607, [], []),
  (4, ([rv_r 16, rv_i 2 2, rv_u, rv_u], [], []), [5], 1, [], []),
  (5, ([rv_r 16, rv_i 2 2, rv_u, rv_u], [rv_i 0 0], []), [], 0, [], []),
  (6, ([rv_r 16, rv_i 2 2, rv_u, rv_u], [], []), [7], 2070606, [], []),
  (7, ([rv_r 16, rv_i 2 2, rv_u, rv_u], [rv_i 0 0], []), [8], 2070605, [], []),
  (8, ([rv_r 16, rv_i 2 2, rv_i 0 200, rv_u], [], []), [9], 2070604, [(2, (-10353))], []),
  (9, ([rv_r 16, rv_i 2 2, rv_i 0 200, rv_u], [(1, 0, 0, 200, [(.inl 2, 0)], [])], []), [10], 2070603, [(2, (-10353))], []),
  (10, ([rv_r 16, rv_i 2 2, rv_i 0 200, rv_u], [rv_i 200 200, (1, 0, 0, 200, [(.inl 2, 0)], [])], []), [11, 39], 2070602, [(2, (-10353))], []),
  (11, ([rv_r 16, rv_i 2 2, rv_i 0 199, rv_u], [], []), [12], 2060277, [(2, (-10353))], []),
  (12, ([rv_r 16, rv_i 2 2, rv_i 0 199, rv_u], [rv_r 16], []), [13], 2060276, [(2, (-10353))], [1]),
  (13, ([rv_r 16, rv_i 2 2, rv_i 0 199, rv_u], [rv_i (-1) 255], []), [14], 2060275, [(2, (-10353))], []),
  (14, ([rv_r 16, rv_i 2 2, rv_i 0 199, rv_u], [rv_i 38 38, rv_i (-1) 255], []), [15, 39], 2060274, [(2, (-10353))], []),
  (15, ([rv_r 16, rv_i 2 2, rv_i 0 199, rv_u], [], []), [16], 2060273, [(2, (-10353))], [])]
def n_X3_readPieces_5_1 : List rv_N := [
  (16, ([rv_r 16, rv_i 2 2, rv_i 0 199, rv_u], [rv_r 16], []), [17], 2060272, [(2, (-10353))], []),
  (17, ([rv_r 16, rv_i 2 2, rv_i 0 199, rv_u], [rv_r 16, rv_r 16], []), [18], 2060271, [(2, (-10353))], []),
  (18, ([rv_r 16, rv_i 2 2, rv_i 0 199, rv_u], [(1, 0, (-2147483648), 2147483647, [(.inr (16, 3), 0)], []), rv_r 16], []), [19], 2060270, [(2, (-10353))], []),
  (19, ([rv_r 16, rv_i 2 2, rv_i 0 199, rv_u], [rv_i 1 1, (1, 0, (-2147483648), 2147483647, [(.inr (16, 3), 0)], []), rv_r 16], []), [20], 2060269, [(2, (-10353))], []),
  (20, ([rv_r 16, rv_i 2 2, rv_i 0 199, rv_u], [(1, 0, (-2147483648), 2147483647, [(.inr (16, 3), 1)], []), rv_r 16], []), [21], 2060268, [(2, (-10353))], []),
  (21, ([rv_r 16, rv_i 2 2, rv_i 0 199, rv_u], [], []), [22], 2060267, [(2, (-10353))], []),
  (22, ([rv_r 16, rv_i 2 2, rv_i 0 199, rv_u], [rv_r 16], []), [23], 2060266, [(2, (-10353))], []),
  (23, ([rv_r 16, rv_i 2 2, rv_i 0 199, rv_u], [rv_r 17], []), [24], 2060265, [(2, (-10353))], []),
  (24, ([rv_r 16, rv_i 2 2, rv_i 0 199, rv_u], [rv_i 3 3, rv_r 17], []), [25], 2060264, [(2, (-10353))], []),
  (25, ([rv_r 16, rv_i 2 2, rv_i 0 199, rv_u], [rv_i 0 0, rv_i 3 3, rv_r 17], []), [26], 2060263, [(2, (-10353))], [2]),
  (26, ([rv_r 16, rv_i 2 2, rv_i 0 199, rv_u], [rv_i (-1) 199], []), [27], 2060262, [(2, (-10353))], []),
  (27, ([rv_r 16, rv_i 2 2, rv_i 0 199, rv_i (-1) 199], [], []), [28], 2060261, [(2, (-10353))], []),
  (28, ([rv_r 16, rv_i 2 2, rv_i 0 199, rv_i (-1) 199], [rv_r 16], []), [29], 2060260, [(2, (-10353))], []),
  (29, ([rv_r 16, rv_i 2 2, rv_i 0 199, rv_i (-1) 199], [(1, 0, 2, 2, [(.inl 1, 0)], []), rv_r 16], []), [30], 2060259, [(2, (-10353))], [3]),
  (30, ([rv_r 16, rv_i 2 2, rv_i 0 199, rv_i (-1) 199], [rv_i 0 1], []), [31, 33], 2060258, [(2, (-10353))], []),
  (31, ([rv_r 16, rv_i 2 2, rv_i 0 199, rv_i (-1) 199], [], []), [32], 1, [], [])]
def n_X3_readPieces_5_2 : List rv_N := [
  (32, ([rv_r 16, rv_i 2 2, rv_i 0 199, rv_i (-1) 199], [rv_i 0 0], []), [], 0, [], []),
  (33, ([rv_r 16, rv_i 2 2, rv_i 0 199, rv_i (-1) 199], [], []), [34], 2060257, [(2, (-10353))], []),
  (34, ([rv_r 16, rv_i 2 2, rv_i 0 199, rv_i (-1) 199], [rv_r 16], []), [35], 2060256, [(2, (-10353))], []),
  (35, ([rv_r 16, rv_i 2 2, rv_i 0 199, rv_i (-1) 199], [rv_r 17], []), [36], 2060255, [(2, (-10353))], []),
  (36, ([rv_r 16, rv_i 2 2, rv_i 0 199, rv_i (-1) 199], [(1, 0, (-1), 199, [(.inl 3, 0)], []), rv_r 17], []), [37], 2060254, [(2, (-10353))], [4]),
  (37, ([rv_r 16, rv_i 2 2, rv_i 0 199, rv_i (-1) 199], [], []), [38], 2060253, [(2, (-10353))], []),
  (38, ([rv_r 16, rv_i 2 2, rv_i 1 200, rv_i (-1) 199], [], []), [8], 2070605, [(2, (-10353))], []),
  (39, ([rv_r 16, rv_i 2 2, rv_i 0 200, rv_u], [], []), [40], 1, [], []),
  (40, ([rv_r 16, rv_i 2 2, rv_i 0 200, rv_u], [rv_i 1 1], []), [], 0, [], [])]
def n_X3_readPieces_5 : List rv_N := n_X3_readPieces_5_0 ++ (n_X3_readPieces_5_1 ++ (n_X3_readPieces_5_2))
noncomputable def gn_X3_readPieces_5 : Nat → Option rv_N := rv_ap 16 (rv_at n_X3_readPieces_5_0) (rv_ap 16 (rv_at n_X3_readPieces_5_1) (rv_at n_X3_readPieces_5_2))
theorem hn_X3_readPieces_5 : ∀ i : Nat, n_X3_readPieces_5[i]? = gn_X3_readPieces_5 i := rv_ap_eq (l := n_X3_readPieces_5_0) (c := 16) (rv_ap_eq (l := n_X3_readPieces_5_1) (c := 16) (rv_at_eq n_X3_readPieces_5_2) rfl) rfl
set_option maxRecDepth 100000 in
theorem a_X3_readPieces_5 : rv_all (fm_tm, flX3, fm_wr, kcX3, klX3, K_X3_readPieces_5.2.2.1, [], 4) ct_X3_readPieces_5 cd_X3_readPieces n_X3_readPieces_5 K_X3_readPieces_5 [] 0 n_X3_readPieces_5 = true := rv_fast hn_X3_readPieces_5 hc_X3_readPieces (by decide +kernel)
theorem m_X3_readPieces_5 {l : Launch} {D : va_G} {ad : Nat → Nat} {cy : Nat → ClassId} {Z : State → Heap → Prop} {Gp : fm_V → Prop} (hAd : fm_Ad fm_tm ad) (hZ : fm_Zk (fm_A fm_tm ad) Z) (hGd : fm_Gd Gp) : rv_Met l D fm_cl fm_tm ad cy fm_nt Z Gp yX3_readPieces (.code yX3_readPieces prog_5_method_10_code 4 (some .boolean) :: fm_Ts) { frames := 20, cells := 0, slots := 0, locals := 2000 } K_X3_readPieces_5 := rv_met hAd hZ (Or.inl (by decide +kernel)) evX3 dc_X3_readPieces a_X3_readPieces_5 ⟨rfl, rfl, rfl⟩ (by decide +kernel) (by decide +kernel) (by decide) (fm_gm hGd (by decide +kernel)) (Or.inr ⟨rfl, by decide, by decide⟩) (fun p e s m args below meth c Q X Y => List.forall_mem_cons.mpr ⟨rv_ctV X Y fm_Ts_good dc_X3_readPieces (pc := 2) (i := 2) (idx := 116) rfl (m_X3_readPiece_1 hAd hZ hGd) wl_X3_116 wm_X3_readPiece wy_X3_readPiece (by decide) ⟨rfl, rfl, rfl⟩ ⟨rfl, rfl⟩, List.forall_mem_cons.mpr ⟨rv_ctV X Y fm_Ts_good dc_X3_readPieces (pc := 20) (i := 12) (idx := 39) rfl (m_X3_next_0 hAd hZ hGd) wl_X3_39 wm_X3_next wy_X3_next (by decide) ⟨rfl, rfl, rfl⟩ ⟨rfl, rfl⟩, List.forall_mem_cons.mpr ⟨rv_ctV X Y fm_Ts_good dc_X3_readPieces (pc := 44) (i := 25) (idx := 108) rfl (m_X1_putStep_0 hAd hZ hGd) wl_X3_108 wm_X1_putStep wy_X1_putStep (by decide) ⟨rfl, rfl, rfl⟩ ⟨rfl, rfl⟩, List.forall_mem_cons.mpr ⟨rv_ctV X Y fm_Ts_good dc_X3_readPieces (pc := 50) (i := 29) (idx := 116) rfl (m_X3_readPiece_1 hAd hZ hGd) wl_X3_116 wm_X3_readPiece wy_X3_readPiece (by decide) ⟨rfl, rfl, rfl⟩ ⟨rfl, rfl⟩, List.forall_mem_cons.mpr ⟨rv_ctV X Y fm_Ts_good dc_X3_readPieces (pc := 63) (i := 36) (idx := 112) rfl (m_X1_leadToEnd_0 hAd hZ hGd) wl_X3_112 wm_X1_leadToEnd wy_X1_leadToEnd (by decide) ⟨rfl, rfl, rfl⟩ ⟨rfl, rfl⟩, fun _ h => absurd h List.not_mem_nil⟩⟩⟩⟩⟩) (fun _ _ _ _ _ _ _ _ _ _ _ _ _ _ _ _ h => absurd h List.not_mem_nil)
def K_X3_readParts_5 : rv_K := ([rv_r 16, rv_i 2 2], [], [(16, 3), (16, 4), (17, 2), (18, 9999), (19, 9999)], [(0, 0, 1)], [], [])
def ct_X3_readParts_5 : List (Nat × rv_K) := [(2, K_X3_readPieces_5), (12, K_X3_next_0), (25, K_X1_putStep_0), (29, K_X3_readPieces_5), (36, K_X1_leadToEnd_0)]
def n_X3_readParts_5_0 : List rv_N := [
  (0, ([rv_r 16, rv_i 2 2, rv_u, rv_u], [], []), [1], 2070610, [], []),
  (1, ([rv_r 16, rv_i 2 2, rv_u, rv_u], [rv_r 16], []), [2], 2070609, [], []),
  (2, ([rv_r 16, rv_i 2 2, rv_u, rv_u], [(1, 0, 2, 2, [(.inl 1, 0)], []), rv_r 16], []), [3], 2070608, [], [0]),
  (3, ([rv_r 16, rv_i 2 2, rv_u, rv_u], [rv_i 0 1], []), [4, 6], 2070607, [], []),
  (4, ([rv_r 16, rv_i 2 2, rv_u, rv_u], [], []), [5], 1, [], []),
  (5, ([rv_r 16, rv_i 2 2, rv_u, rv_u], [rv_i 0 0], []), [], 0, [], []),
  (6, ([rv_r 16, rv_i 2 2, rv_u, rv_u], [], []), [7], 2070606, [], []),
  (7, ([rv_r 16, rv_i 2 2, rv_u, rv_u], [rv_i 0 0], []), [8], 2070605, [], []),
  (8, ([rv_r 16, rv_i 2 2, rv_i 0 200, rv_u], [], []), [9], 2070604, [(2, (-10353))], []),
  (9, ([rv_r 16, rv_i 2 2, rv_i 0 200, rv_u], [(1, 0, 0, 200, [(.inl 2, 0)], [])], []), [10], 2070603, [(2, (-10353))], []),
  (10, ([rv_r 16, rv_i 2 2, rv_i 0 200, rv_u], [rv_i 200 200, (1, 0, 0, 200, [(.inl 2, 0)], [])], []), [11, 39], 2070602, [(2, (-10353))], []),
  (11, ([rv_r 16, rv_i 2 2, rv_i 0 199, rv_u], [], []), [12], 2060277, [(2, (-10353))], []),
  (12, ([rv_r 16, rv_i 2 2, rv_i 0 199, rv_u], [rv_r 16], []), [13], 2060276, [(2, (-10353))], [1]),
  (13, ([rv_r 16, rv_i 2 2, rv_i 0 199, rv_u], [rv_i (-1) 255], []), [14], 2060275, [(2, (-10353))], []),
  (14, ([rv_r 16, rv_i 2 2, rv_i 0 199, rv_u], [rv_i 124 124, rv_i (-1) 255], []), [15, 39], 2060274, [(2, (-10353))], []),
  (15, ([rv_r 16, rv_i 2 2, rv_i 0 199, rv_u], [], []), [16], 2060273, [(2, (-10353))], [])]
def n_X3_readParts_5_1 : List rv_N := [
  (16, ([rv_r 16, rv_i 2 2, rv_i 0 199, rv_u], [rv_r 16], []), [17], 2060272, [(2, (-10353))], []),
  (17, ([rv_r 16, rv_i 2 2, rv_i 0 199, rv_u], [rv_r 16, rv_r 16], []), [18], 2060271, [(2, (-10353))], []),
  (18, ([rv_r 16, rv_i 2 2, rv_i 0 199, rv_u], [(1, 0, (-2147483648), 2147483647, [(.inr (16, 3), 0)], []), rv_r 16], []), [19], 2060270, [(2, (-10353))], []),
  (19, ([rv_r 16, rv_i 2 2, rv_i 0 199, rv_u], [rv_i 1 1, (1, 0, (-2147483648), 2147483647, [(.inr (16, 3), 0)], []), rv_r 16], []), [20], 2060269, [(2, (-10353))], []),
  (20, ([rv_r 16, rv_i 2 2, rv_i 0 199, rv_u], [(1, 0, (-2147483648), 2147483647, [(.inr (16, 3), 1)], []), rv_r 16], []), [21], 2060268, [(2, (-10353))], []),
  (21, ([rv_r 16, rv_i 2 2, rv_i 0 199, rv_u], [], []), [22], 2060267, [(2, (-10353))], []),
  (22, ([rv_r 16, rv_i 2 2, rv_i 0 199, rv_u], [rv_r 16], []), [23], 2060266, [(2, (-10353))], []),
  (23, ([rv_r 16, rv_i 2 2, rv_i 0 199, rv_u], [rv_r 17], []), [24], 2060265, [(2, (-10353))], []),
  (24, ([rv_r 16, rv_i 2 2, rv_i 0 199, rv_u], [rv_i 2 2, rv_r 17], []), [25], 2060264, [(2, (-10353))], []),
  (25, ([rv_r 16, rv_i 2 2, rv_i 0 199, rv_u], [rv_i 0 0, rv_i 2 2, rv_r 17], []), [26], 2060263, [(2, (-10353))], [2]),
  (26, ([rv_r 16, rv_i 2 2, rv_i 0 199, rv_u], [rv_i (-1) 199], []), [27], 2060262, [(2, (-10353))], []),
  (27, ([rv_r 16, rv_i 2 2, rv_i 0 199, rv_i (-1) 199], [], []), [28], 2060261, [(2, (-10353))], []),
  (28, ([rv_r 16, rv_i 2 2, rv_i 0 199, rv_i (-1) 199], [rv_r 16], []), [29], 2060260, [(2, (-10353))], []),
  (29, ([rv_r 16, rv_i 2 2, rv_i 0 199, rv_i (-1) 199], [(1, 0, 2, 2, [(.inl 1, 0)], []), rv_r 16], []), [30], 2060259, [(2, (-10353))], [3]),
  (30, ([rv_r 16, rv_i 2 2, rv_i 0 199, rv_i (-1) 199], [rv_i 0 1], []), [31, 33], 2060258, [(2, (-10353))], []),
  (31, ([rv_r 16, rv_i 2 2, rv_i 0 199, rv_i (-1) 199], [], []), [32], 1, [], [])]
def n_X3_readParts_5_2 : List rv_N := [
  (32, ([rv_r 16, rv_i 2 2, rv_i 0 199, rv_i (-1) 199], [rv_i 0 0], []), [], 0, [], []),
  (33, ([rv_r 16, rv_i 2 2, rv_i 0 199, rv_i (-1) 199], [], []), [34], 2060257, [(2, (-10353))], []),
  (34, ([rv_r 16, rv_i 2 2, rv_i 0 199, rv_i (-1) 199], [rv_r 16], []), [35], 2060256, [(2, (-10353))], []),
  (35, ([rv_r 16, rv_i 2 2, rv_i 0 199, rv_i (-1) 199], [rv_r 17], []), [36], 2060255, [(2, (-10353))], []),
  (36, ([rv_r 16, rv_i 2 2, rv_i 0 199, rv_i (-1) 199], [(1, 0, (-1), 199, [(.inl 3, 0)], []), rv_r 17], []), [37], 2060254, [(2, (-10353))], [4]),
  (37, ([rv_r 16, rv_i 2 2, rv_i 0 199, rv_i (-1) 199], [], []), [38], 2060253, [(2, (-10353))], []),
  (38, ([rv_r 16, rv_i 2 2, rv_i 1 200, rv_i (-1) 199], [], []), [8], 2070605, [(2, (-10353))], []),
  (39, ([rv_r 16, rv_i 2 2, rv_i 0 200, rv_u], [], []), [40], 1, [], []),
  (40, ([rv_r 16, rv_i 2 2, rv_i 0 200, rv_u], [rv_i 1 1], []), [], 0, [], [])]
def n_X3_readParts_5 : List rv_N := n_X3_readParts_5_0 ++ (n_X3_readParts_5_1 ++ (n_X3_readParts_5_2))
noncomputable def gn_X3_readParts_5 : Nat → Option rv_N := rv_ap 16 (rv_at n_X3_readParts_5_0) (rv_ap 16 (rv_at n_X3_readParts_5_1) (rv_at n_X3_readParts_5_2))
theorem hn_X3_readParts_5 : ∀ i : Nat, n_X3_readParts_5[i]? = gn_X3_readParts_5 i := rv_ap_eq (l := n_X3_readParts_5_0) (c := 16) (rv_ap_eq (l := n_X3_readParts_5_1) (c := 16) (rv_at_eq n_X3_readParts_5_2) rfl) rfl
set_option maxRecDepth 100000 in
theorem a_X3_readParts_5 : rv_all (fm_tm, flX3, fm_wr, kcX3, klX3, K_X3_readParts_5.2.2.1, [], 4) ct_X3_readParts_5 cd_X3_readParts n_X3_readParts_5 K_X3_readParts_5 [] 0 n_X3_readParts_5 = true := rv_fast hn_X3_readParts_5 hc_X3_readParts (by decide +kernel)
theorem m_X3_readParts_5 {l : Launch} {D : va_G} {ad : Nat → Nat} {cy : Nat → ClassId} {Z : State → Heap → Prop} {Gp : fm_V → Prop} (hAd : fm_Ad fm_tm ad) (hZ : fm_Zk (fm_A fm_tm ad) Z) (hGd : fm_Gd Gp) : rv_Met l D fm_cl fm_tm ad cy fm_nt Z Gp yX3_readParts (.code yX3_readParts prog_5_method_9_code 4 (some .boolean) :: fm_Ts) { frames := 21, cells := 0, slots := 0, locals := 2100 } K_X3_readParts_5 := rv_met hAd hZ (Or.inl (by decide +kernel)) evX3 dc_X3_readParts a_X3_readParts_5 ⟨rfl, rfl, rfl⟩ (by decide +kernel) (by decide +kernel) (by decide) (fm_gm hGd (by decide +kernel)) (Or.inr ⟨rfl, by decide, by decide⟩) (fun p e s m args below meth c Q X Y => List.forall_mem_cons.mpr ⟨rv_ctV X Y fm_Ts_good dc_X3_readParts (pc := 2) (i := 2) (idx := 105) rfl (m_X3_readPieces_5 hAd hZ hGd) wl_X3_105 wm_X3_readPieces wy_X3_readPieces (by decide) ⟨rfl, rfl, rfl⟩ ⟨rfl, rfl⟩, List.forall_mem_cons.mpr ⟨rv_ctV X Y fm_Ts_good dc_X3_readParts (pc := 20) (i := 12) (idx := 39) rfl (m_X3_next_0 hAd hZ hGd) wl_X3_39 wm_X3_next wy_X3_next (by decide) ⟨rfl, rfl, rfl⟩ ⟨rfl, rfl⟩, List.forall_mem_cons.mpr ⟨rv_ctV X Y fm_Ts_good dc_X3_readParts (pc := 44) (i := 25) (idx := 108) rfl (m_X1_putStep_0 hAd hZ hGd) wl_X3_108 wm_X1_putStep wy_X1_putStep (by decide) ⟨rfl, rfl, rfl⟩ ⟨rfl, rfl⟩, List.forall_mem_cons.mpr ⟨rv_ctV X Y fm_Ts_good dc_X3_readParts (pc := 50) (i := 29) (idx := 105) rfl (m_X3_readPieces_5 hAd hZ hGd) wl_X3_105 wm_X3_readPieces wy_X3_readPieces (by decide) ⟨rfl, rfl, rfl⟩ ⟨rfl, rfl⟩, List.forall_mem_cons.mpr ⟨rv_ctV X Y fm_Ts_good dc_X3_readParts (pc := 63) (i := 36) (idx := 112) rfl (m_X1_leadToEnd_0 hAd hZ hGd) wl_X3_112 wm_X1_leadToEnd wy_X1_leadToEnd (by decide) ⟨rfl, rfl, rfl⟩ ⟨rfl, rfl⟩, fun _ h => absurd h List.not_mem_nil⟩⟩⟩⟩⟩) (fun _ _ _ _ _ _ _ _ _ _ _ _ _ _ _ _ h => absurd h List.not_mem_nil)
def K_X3_readPiece_0 : rv_K := ([rv_r 16, rv_i 1 1], [], [(16, 3), (16, 4), (17, 2), (18, 9999), (19, 9999)], [(0, 0, 1)], [], [])
def ct_X3_readPiece_0 : List (Nat × rv_K) := [(1, K_X3_next_0), (9, K_X3_open_0), (15, K_X3_readPiece_1), (23, K_X1_putStep_0), (33, K_X3_open_0), (39, K_X3_readParts_5), (43, K_X3_close_0), (51, K_X3_readSum_1), (56, K_X3_next_0), (69, K_X3_fail_0), (79, K_X3_readSum_1), (87, K_X1_putStep_0)]
def n_X3_readPiece_0_0 : List rv_N := [
  (0, ([rv_r 16, rv_i 1 1, rv_u, rv_u], [], []), [1], 42, [], []),
  (1, ([rv_r 16, rv_i 1 1, rv_u, rv_u], [rv_r 16], []), [2], 41, [], [0]),
  (2, ([rv_r 16, rv_i 1 1, rv_u, rv_u], [rv_i (-1) 255], []), [3], 40, [], []),
  (3, ([rv_r 16, rv_i 1 1, rv_i (-1) 255, rv_u], [], []), [4], 39, [], []),
  (4, ([rv_r 16, rv_i 1 1, rv_i (-1) 255, rv_u], [(1, 0, (-1), 255, [(.inl 2, 0)], [])], []), [5], 38, [], []),
  (5, ([rv_r 16, rv_i 1 1, rv_i (-1) 255, rv_u], [rv_i 33 33, (1, 0, (-1), 255, [(.inl 2, 0)], [])], []), [6, 27], 37, [], []),
  (6, ([rv_r 16, rv_i 1 1, rv_i 33 33, rv_u], [], []), [7], 18, [], []),
  (7, ([rv_r 16, rv_i 1 1, rv_i 33 33, rv_u], [rv_r 16], []), [8], 17, [], []),
  (8, ([rv_r 16, rv_i 1 1, rv_i 33 33, rv_u], [rv_i 33 33, rv_r 16], []), [9], 16, [], []),
  (9, ([rv_r 16, rv_i 1 1, rv_i 33 33, rv_u], [(1, 0, 1, 1, [(.inl 1, 0)], []), rv_i 33 33, rv_r 16], []), [10], 15, [], [1]),
  (10, ([rv_r 16, rv_i 1 1, rv_i 33 33, rv_u], [(1, 0, 0, 1, [], [(.inl 1, (-2147483648), 5)])], []), [11, 17], 14, [], []),
  (11, ([rv_r 16, rv_i 1 1, rv_i 33 33, rv_u], [], []), [12], 13, [], []),
  (12, ([rv_r 16, rv_i 1 1, rv_i 33 33, rv_u], [rv_r 16], []), [13], 12, [], []),
  (13, ([rv_r 16, rv_i 1 1, rv_i 33 33, rv_u], [(1, 0, 1, 1, [(.inl 1, 0)], []), rv_r 16], []), [14], 11, [], []),
  (14, ([rv_r 16, rv_i 1 1, rv_i 33 33, rv_u], [rv_i 1 1, (1, 0, 1, 1, [(.inl 1, 0)], []), rv_r 16], []), [15], 10, [], []),
  (15, ([rv_r 16, rv_i 1 1, rv_i 33 33, rv_u], [(1, 0, 2, 2, [(.inl 1, 1)], []), rv_r 16], []), [16], 9, [], [2])]
def n_X3_readPiece_0_1 : List rv_N := [
  (16, ([rv_r 16, rv_i 1 1, rv_i 33 33, rv_u], [rv_i 0 1], []), [17, 19], 8, [], []),
  (17, ([rv_r 16, rv_i 1 1, rv_i 33 33, rv_u], [], []), [18], 1, [], []),
  (18, ([rv_r 16, rv_i 1 1, rv_i 33 33, rv_u], [rv_i 0 0], []), [], 0, [], []),
  (19, ([rv_r 16, rv_i 1 1, rv_i 33 33, rv_u], [], []), [20], 7, [], []),
  (20, ([rv_r 16, rv_i 1 1, rv_i 33 33, rv_u], [rv_r 16], []), [21], 6, [], []),
  (21, ([rv_r 16, rv_i 1 1, rv_i 33 33, rv_u], [rv_r 17], []), [22], 5, [], []),
  (22, ([rv_r 16, rv_i 1 1, rv_i 33 33, rv_u], [rv_i 4 4, rv_r 17], []), [23], 4, [], []),
  (23, ([rv_r 16, rv_i 1 1, rv_i 33 33, rv_u], [rv_i 0 0, rv_i 4 4, rv_r 17], []), [24], 3, [], [3]),
  (24, ([rv_r 16, rv_i 1 1, rv_i 33 33, rv_u], [rv_i (-1) 199], []), [25], 2, [], []),
  (25, ([rv_r 16, rv_i 1 1, rv_i 33 33, rv_u], [], []), [26], 1, [], []),
  (26, ([rv_r 16, rv_i 1 1, rv_i 33 33, rv_u], [rv_i 1 1], []), [], 0, [], []),
  (27, ([rv_r 16, rv_i 1 1, rv_i (-1) 255, rv_u], [], []), [28], 36, [], []),
  (28, ([rv_r 16, rv_i 1 1, rv_i (-1) 255, rv_u], [(1, 0, (-1), 255, [(.inl 2, 0)], [])], []), [29], 35, [], []),
  (29, ([rv_r 16, rv_i 1 1, rv_i (-1) 255, rv_u], [rv_i 40 40, (1, 0, (-1), 255, [(.inl 2, 0)], [])], []), [30, 50], 34, [], []),
  (30, ([rv_r 16, rv_i 1 1, rv_i 40 40, rv_u], [], []), [31], 17, [], []),
  (31, ([rv_r 16, rv_i 1 1, rv_i 40 40, rv_u], [rv_r 16], []), [32], 16, [], [])]
def n_X3_readPiece_0_2 : List rv_N := [
  (32, ([rv_r 16, rv_i 1 1, rv_i 40 40, rv_u], [rv_i 40 40, rv_r 16], []), [33], 15, [], []),
  (33, ([rv_r 16, rv_i 1 1, rv_i 40 40, rv_u], [(1, 0, 1, 1, [(.inl 1, 0)], []), rv_i 40 40, rv_r 16], []), [34], 14, [], [4]),
  (34, ([rv_r 16, rv_i 1 1, rv_i 40 40, rv_u], [(1, 0, 0, 1, [], [(.inl 1, (-2147483648), 5)])], []), [35, 47], 13, [], []),
  (35, ([rv_r 16, rv_i 1 1, rv_i 40 40, rv_u], [], []), [36], 12, [], []),
  (36, ([rv_r 16, rv_i 1 1, rv_i 40 40, rv_u], [rv_r 16], []), [37], 11, [], []),
  (37, ([rv_r 16, rv_i 1 1, rv_i 40 40, rv_u], [(1, 0, 1, 1, [(.inl 1, 0)], []), rv_r 16], []), [38], 10, [], []),
  (38, ([rv_r 16, rv_i 1 1, rv_i 40 40, rv_u], [rv_i 1 1, (1, 0, 1, 1, [(.inl 1, 0)], []), rv_r 16], []), [39], 9, [], []),
  (39, ([rv_r 16, rv_i 1 1, rv_i 40 40, rv_u], [(1, 0, 2, 2, [(.inl 1, 1)], []), rv_r 16], []), [40], 8, [], [5]),
  (40, ([rv_r 16, rv_i 1 1, rv_i 40 40, rv_u], [rv_i 0 1], []), [41, 47], 7, [], []),
  (41, ([rv_r 16, rv_i 1 1, rv_i 40 40, rv_u], [], []), [42], 6, [], []),
  (42, ([rv_r 16, rv_i 1 1, rv_i 40 40, rv_u], [rv_r 16], []), [43], 5, [], []),
  (43, ([rv_r 16, rv_i 1 1, rv_i 40 40, rv_u], [rv_i 41 41, rv_r 16], []), [44], 4, [], [6]),
  (44, ([rv_r 16, rv_i 1 1, rv_i 40 40, rv_u], [rv_i 0 1], []), [45, 47], 3, [], []),
  (45, ([rv_r 16, rv_i 1 1, rv_i 40 40, rv_u], [], []), [46], 2, [], []),
  (46, ([rv_r 16, rv_i 1 1, rv_i 40 40, rv_u], [rv_i 1 1], []), [49], 1, [], []),
  (47, ([rv_r 16, rv_i 1 1, rv_i 40 40, rv_u], [], []), [48], 1, [], [])]
def n_X3_readPiece_0_3 : List rv_N := [
  (48, ([rv_r 16, rv_i 1 1, rv_i 40 40, rv_u], [rv_i 0 0], []), [], 0, [], []),
  (48, ([rv_r 16, rv_i 1 1, rv_i 40 40, rv_u], [rv_i 1 1], []), [], 0, [], []),
  (49, ([rv_r 16, rv_i 1 1, rv_i (-1) 255, rv_u], [], []), [51], 33, [], []),
  (50, ([rv_r 16, rv_i 1 1, rv_i (-1) 255, rv_u], [rv_r 16], []), [52], 32, [], []),
  (51, ([rv_r 16, rv_i 1 1, rv_i (-1) 255, rv_u], [(1, 0, 1, 1, [(.inl 1, 0)], []), rv_r 16], []), [53], 31, [], [7]),
  (52, ([rv_r 16, rv_i 1 1, rv_i (-1) 255, rv_u], [rv_i 0 1], []), [54, 56], 30, [], []),
  (53, ([rv_r 16, rv_i 1 1, rv_i (-1) 255, rv_u], [], []), [55], 1, [], []),
  (54, ([rv_r 16, rv_i 1 1, rv_i (-1) 255, rv_u], [rv_i 0 0], []), [], 0, [], []),
  (55, ([rv_r 16, rv_i 1 1, rv_i (-1) 255, rv_u], [], []), [57], 29, [], []),
  (56, ([rv_r 16, rv_i 1 1, rv_i (-1) 255, rv_u], [rv_r 16], []), [58], 28, [], [8]),
  (57, ([rv_r 16, rv_i 1 1, rv_i (-1) 255, rv_u], [rv_i (-1) 255], []), [59], 27, [], []),
  (58, ([rv_r 16, rv_i 1 1, rv_i (-1) 255, rv_i (-1) 255], [], []), [60], 26, [], []),
  (59, ([rv_r 16, rv_i 1 1, rv_i (-1) 255, rv_i (-1) 255], [(1, 0, (-1), 255, [(.inl 3, 0)], [])], []), [61], 25, [], []),
  (60, ([rv_r 16, rv_i 1 1, rv_i (-1) 255, rv_i (-1) 255], [rv_i 60 60, (1, 0, (-1), 255, [(.inl 3, 0)], [])], []), [62, 72], 24, [], []),
  (61, ([rv_r 16, rv_i 1 1, rv_i (-1) 255, rv_i (-1) 255], [], []), [63], 23, [], []),
  (62, ([rv_r 16, rv_i 1 1, rv_i (-1) 255, rv_i (-1) 255], [(1, 0, (-1), 255, [(.inl 3, 0)], [])], []), [64], 22, [], [])]
def n_X3_readPiece_0_4 : List rv_N := [
  (63, ([rv_r 16, rv_i 1 1, rv_i (-1) 255, rv_i (-1) 255], [rv_i 62 62, (1, 0, (-1), 255, [(.inl 3, 0)], [])], []), [65, 72], 21, [], []),
  (64, ([rv_r 16, rv_i 1 1, rv_i (-1) 255, rv_i (-1) 255], [], []), [66], 20, [], []),
  (65, ([rv_r 16, rv_i 1 1, rv_i (-1) 255, rv_i (-1) 255], [(1, 0, (-1), 255, [(.inl 3, 0)], [])], []), [67], 19, [], []),
  (66, ([rv_r 16, rv_i 1 1, rv_i (-1) 255, rv_i (-1) 255], [rv_i 61 61, (1, 0, (-1), 255, [(.inl 3, 0)], [])], []), [68, 72], 18, [], []),
  (67, ([rv_r 16, rv_i 1 1, rv_i (-1) 255, rv_i (-1) 255], [], []), [69], 3, [], []),
  (68, ([rv_r 16, rv_i 1 1, rv_i (-1) 255, rv_i (-1) 255], [rv_r 16], []), [70], 2, [], []),
  (69, ([rv_r 16, rv_i 1 1, rv_i (-1) 255, rv_i (-1) 255], [rv_i 1 1, rv_r 16], []), [71], 1, [], [9]),
  (70, ([rv_r 16, rv_i 1 1, rv_i (-1) 255, rv_i (-1) 255], [rv_i 0 0], []), [], 0, [], []),
  (71, ([rv_r 16, rv_i 1 1, rv_i (-1) 255, rv_i 60 62], [], []), [73], 17, [], []),
  (72, ([rv_r 16, rv_i 1 1, rv_i (-1) 255, rv_i 60 62], [rv_r 16], []), [74], 16, [], []),
  (73, ([rv_r 16, rv_i 1 1, rv_i (-1) 255, rv_i 60 62], [rv_r 16, rv_r 16], []), [75], 15, [], []),
  (74, ([rv_r 16, rv_i 1 1, rv_i (-1) 255, rv_i 60 62], [(1, 0, (-2147483648), 2147483647, [(.inr (16, 3), 0)], []), rv_r 16], []), [76], 14, [], []),
  (75, ([rv_r 16, rv_i 1 1, rv_i (-1) 255, rv_i 60 62], [rv_i 1 1, (1, 0, (-2147483648), 2147483647, [(.inr (16, 3), 0)], []), rv_r 16], []), [77], 13, [], []),
  (76, ([rv_r 16, rv_i 1 1, rv_i (-1) 255, rv_i 60 62], [(1, 0, (-2147483648), 2147483647, [(.inr (16, 3), 1)], []), rv_r 16], []), [78], 12, [], []),
  (77, ([rv_r 16, rv_i 1 1, rv_i (-1) 255, rv_i 60 62], [], []), [79], 11, [], []),
  (78, ([rv_r 16, rv_i 1 1, rv_i (-1) 255, rv_i 60 62], [rv_r 16], []), [80], 10, [], [])]
def n_X3_readPiece_0_5 : List rv_N := [
  (79, ([rv_r 16, rv_i 1 1, rv_i (-1) 255, rv_i 60 62], [(1, 0, 1, 1, [(.inl 1, 0)], []), rv_r 16], []), [81], 9, [], [10]),
  (80, ([rv_r 16, rv_i 1 1, rv_i (-1) 255, rv_i 60 62], [rv_i 0 1], []), [82, 84], 8, [], []),
  (81, ([rv_r 16, rv_i 1 1, rv_i (-1) 255, rv_i 60 62], [], []), [83], 1, [], []),
  (82, ([rv_r 16, rv_i 1 1, rv_i (-1) 255, rv_i 60 62], [rv_i 0 0], []), [], 0, [], []),
  (83, ([rv_r 16, rv_i 1 1, rv_i (-1) 255, rv_i 60 62], [], []), [85], 7, [], []),
  (84, ([rv_r 16, rv_i 1 1, rv_i (-1) 255, rv_i 60 62], [rv_r 16], []), [86], 6, [], []),
  (85, ([rv_r 16, rv_i 1 1, rv_i (-1) 255, rv_i 60 62], [rv_r 17], []), [87], 5, [], []),
  (86, ([rv_r 16, rv_i 1 1, rv_i (-1) 255, rv_i 60 62], [(1, 0, 60, 62, [(.inl 3, 0)], []), rv_r 17], []), [88], 4, [], []),
  (87, ([rv_r 16, rv_i 1 1, rv_i (-1) 255, rv_i 60 62], [rv_i 0 0, (1, 0, 60, 62, [(.inl 3, 0)], []), rv_r 17], []), [89], 3, [], [11]),
  (88, ([rv_r 16, rv_i 1 1, rv_i (-1) 255, rv_i 60 62], [rv_i (-1) 199], []), [90], 2, [], []),
  (89, ([rv_r 16, rv_i 1 1, rv_i (-1) 255, rv_i 60 62], [], []), [91], 1, [], []),
  (90, ([rv_r 16, rv_i 1 1, rv_i (-1) 255, rv_i 60 62], [rv_i 1 1], []), [], 0, [], [])]
def n_X3_readPiece_0 : List rv_N := n_X3_readPiece_0_0 ++ (n_X3_readPiece_0_1 ++ (n_X3_readPiece_0_2 ++ (n_X3_readPiece_0_3 ++ (n_X3_readPiece_0_4 ++ (n_X3_readPiece_0_5)))))
noncomputable def gn_X3_readPiece_0 : Nat → Option rv_N := rv_ap 16 (rv_at n_X3_readPiece_0_0) (rv_ap 16 (rv_at n_X3_readPiece_0_1) (rv_ap 16 (rv_at n_X3_readPiece_0_2) (rv_ap 16 (rv_at n_X3_readPiece_0_3) (rv_ap 16 (rv_at n_X3_readPiece_0_4) (rv_at n_X3_readPiece_0_5)))))
theorem hn_X3_readPiece_0 : ∀ i : Nat, n_X3_readPiece_0[i]? = gn_X3_readPiece_0 i := rv_ap_eq (l := n_X3_readPiece_0_0) (c := 16) (rv_ap_eq (l := n_X3_readPiece_0_1) (c := 16) (rv_ap_eq (l := n_X3_readPiece_0_2) (c := 16) (rv_ap_eq (l := n_X3_readPiece_0_3) (c := 16) (rv_ap_eq (l := n_X3_readPiece_0_4) (c := 16) (rv_at_eq n_X3_readPiece_0_5) rfl) rfl) rfl) rfl) rfl
set_option maxRecDepth 100000 in
theorem a_X3_readPiece_0 : rv_all (fm_tm, flX3, fm_wr, kcX3, klX3, K_X3_readPiece_0.2.2.1, [], 4) ct_X3_readPiece_0 cd_X3_readPiece n_X3_readPiece_0 K_X3_readPiece_0 [] 0 n_X3_readPiece_0 = true := rv_fast hn_X3_readPiece_0 hc_X3_readPiece (by decide +kernel)
theorem m_X3_readPiece_0 {l : Launch} {D : va_G} {ad : Nat → Nat} {cy : Nat → ClassId} {Z : State → Heap → Prop} {Gp : fm_V → Prop} (hAd : fm_Ad fm_tm ad) (hZ : fm_Zk (fm_A fm_tm ad) Z) (hGd : fm_Gd Gp) : rv_Met l D fm_cl fm_tm ad cy fm_nt Z Gp yX3_readPiece (.code yX3_readPiece prog_5_method_11_code 4 (some .boolean) :: fm_Ts) { frames := 22, cells := 0, slots := 0, locals := 2200 } K_X3_readPiece_0 := rv_met hAd hZ (Or.inl (by decide +kernel)) evX3 dc_X3_readPiece a_X3_readPiece_0 ⟨rfl, rfl, rfl⟩ (by decide +kernel) (by decide +kernel) (by decide) (fm_gm hGd (by decide +kernel)) (Or.inr ⟨rfl, by decide, by decide⟩) (fun p e s m args below meth c Q X Y => List.forall_mem_cons.mpr ⟨rv_ctV X Y fm_Ts_good dc_X3_readPiece (pc := 1) (i := 1) (idx := 39) rfl (m_X3_next_0 hAd hZ hGd) wl_X3_39 wm_X3_next wy_X3_next (by decide) ⟨rfl, rfl, rfl⟩ ⟨rfl, rfl⟩, List.forall_mem_cons.mpr ⟨rv_ctV X Y fm_Ts_good dc_X3_readPiece (pc := 15) (i := 9) (idx := 79) rfl (m_X3_open_0 hAd hZ hGd) wl_X3_79 wm_X3_open wy_X3_open (by decide) ⟨rfl, rfl, rfl⟩ ⟨rfl, rfl⟩, List.forall_mem_cons.mpr ⟨rv_ctV X Y fm_Ts_good dc_X3_readPiece (pc := 25) (i := 15) (idx := 116) rfl (m_X3_readPiece_1 hAd hZ hGd) wl_X3_116 wm_X3_readPiece wy_X3_readPiece (by decide) ⟨rfl, rfl, rfl⟩ ⟨rfl, rfl⟩, List.forall_mem_cons.mpr ⟨rv_ctV X Y fm_Ts_good dc_X3_readPiece (pc := 39) (i := 23) (idx := 108) rfl (m_X1_putStep_0 hAd hZ hGd) wl_X3_108 wm_X1_putStep wy_X1_putStep (by decide) ⟨rfl, rfl, rfl⟩ ⟨rfl, rfl⟩, List.forall_mem_cons.mpr ⟨rv_ctV X Y fm_Ts_good dc_X3_readPiece (pc := 55) (i := 33) (idx := 79) rfl (m_X3_open_0 hAd hZ hGd) wl_X3_79 wm_X3_open wy_X3_open (by decide) ⟨rfl, rfl, rfl⟩ ⟨rfl, rfl⟩, List.forall_mem_cons.mpr ⟨rv_ctV X Y fm_Ts_good dc_X3_readPiece (pc := 65) (i := 39) (idx := 83) rfl (m_X3_readParts_5 hAd hZ hGd) wl_X3_83 wm_X3_readParts wy_X3_readParts (by decide) ⟨rfl, rfl, rfl⟩ ⟨rfl, rfl⟩, List.forall_mem_cons.mpr ⟨rv_ctV X Y fm_Ts_good dc_X3_readPiece (pc := 74) (i := 43) (idx := 86) rfl (m_X3_close_0 hAd hZ hGd) wl_X3_86 wm_X3_close wy_X3_close (by decide) ⟨rfl, rfl, rfl⟩ ⟨rfl, rfl⟩, List.forall_mem_cons.mpr ⟨rv_ctV X Y fm_Ts_good dc_X3_readPiece (pc := 88) (i := 51) (idx := 73) rfl (m_X3_readSum_1 hAd hZ hGd) wl_X3_73 wm_X3_readSum wy_X3_readSum (by decide) ⟨rfl, rfl, rfl⟩ ⟨rfl, rfl⟩, List.forall_mem_cons.mpr ⟨rv_ctV X Y fm_Ts_good dc_X3_readPiece (pc := 97) (i := 56) (idx := 39) rfl (m_X3_next_0 hAd hZ hGd) wl_X3_39 wm_X3_next wy_X3_next (by decide) ⟨rfl, rfl, rfl⟩ ⟨rfl, rfl⟩, List.forall_mem_cons.mpr ⟨rv_ctV X Y fm_Ts_good dc_X3_readPiece (pc := 121) (i := 69) (idx := 43) rfl (m_X3_fail_0 hAd hZ hGd) wl_X3_43 wm_X3_fail wy_X3_fail (by decide) ⟨rfl, rfl, rfl⟩ ⟨rfl, rfl⟩, List.forall_mem_cons.mpr ⟨rv_ctV X Y fm_Ts_good dc_X3_readPiece (pc := 137) (i := 79) (idx := 73) rfl (m_X3_readSum_1 hAd hZ hGd) wl_X3_73 wm_X3_readSum wy_X3_readSum (by decide) ⟨rfl, rfl, rfl⟩ ⟨rfl, rfl⟩, List.forall_mem_cons.mpr ⟨rv_ctV X Y fm_Ts_good dc_X3_readPiece (pc := 151) (i := 87) (idx := 108) rfl (m_X1_putStep_0 hAd hZ hGd) wl_X3_108 wm_X1_putStep wy_X1_putStep (by decide) ⟨rfl, rfl, rfl⟩ ⟨rfl, rfl⟩, fun _ h => absurd h List.not_mem_nil⟩⟩⟩⟩⟩⟩⟩⟩⟩⟩⟩⟩) (fun _ _ _ _ _ _ _ _ _ _ _ _ _ _ _ _ h => absurd h List.not_mem_nil)
def K_X3_readPieces_0 : rv_K := ([rv_r 16, rv_i 1 1], [], [(16, 3), (16, 4), (17, 2), (18, 9999), (19, 9999)], [(0, 0, 1)], [], [])
def ct_X3_readPieces_0 : List (Nat × rv_K) := [(2, K_X3_readPiece_0), (12, K_X3_next_0), (25, K_X1_putStep_0), (29, K_X3_readPiece_0), (36, K_X1_leadToEnd_0)]
def n_X3_readPieces_0_0 : List rv_N := [
  (0, ([rv_r 16, rv_i 1 1, rv_u, rv_u], [], []), [1], 2070610, [], []),
  (1, ([rv_r 16, rv_i 1 1, rv_u, rv_u], [rv_r 16], []), [2], 2070609, [], []),
  (2, ([rv_r 16, rv_i 1 1, rv_u, rv_u], [(1, 0, 1, 1, [(.inl 1, 0)], []), rv_r 16], []), [3], 2070608, [], [0]),
  (3, ([rv_r 16, rv_i 1 1, rv_u, rv_u], [rv_i 0 1], []), [4, 6], 2070607, [], []),
  (4, ([rv_r 16, rv_i 1 1, rv_u, rv_u], [], []), [5], 1, [], []),
  (5, ([rv_r 16, rv_i 1 1, rv_u, rv_u], [rv_i 0 0], []), [], 0, [], []),
  (6, ([rv_r 16, rv_i 1 1, rv_u, rv_u], [], []), [7], 2070606, [], []),
  (7, ([rv_r 16, rv_i 1 1, rv_u, rv_u], [rv_i 0 0], []), [8], 2070605, [], []),
  (8, ([rv_r 16, rv_i 1 1, rv_i 0 200, rv_u], [], []), [9], 2070604, [(2, (-10353))], []),
  (9, ([rv_r 16, rv_i 1 1, rv_i 0 200, rv_u], [(1, 0, 0, 200, [(.inl 2, 0)], [])], []), [10], 2070603, [(2, (-10353))], []),
  (10, ([rv_r 16, rv_i 1 1, rv_i 0 200, rv_u], [rv_i 200 200, (1, 0, 0, 200, [(.inl 2, 0)], [])], []), [11, 39], 2070602, [(2, (-10353))], []),
  (11, ([rv_r 16, rv_i 1 1, rv_i 0 199, rv_u], [], []), [12], 2060277, [(2, (-10353))], []),
  (12, ([rv_r 16, rv_i 1 1, rv_i 0 199, rv_u], [rv_r 16], []), [13], 2060276, [(2, (-10353))], [1]),
  (13, ([rv_r 16, rv_i 1 1, rv_i 0 199, rv_u], [rv_i (-1) 255], []), [14], 2060275, [(2, (-10353))], []),
  (14, ([rv_r 16, rv_i 1 1, rv_i 0 199, rv_u], [rv_i 38 38, rv_i (-1) 255], []), [15, 39], 2060274, [(2, (-10353))], []),
  (15, ([rv_r 16, rv_i 1 1, rv_i 0 199, rv_u], [], []), [16], 2060273, [(2, (-10353))], [])]
def n_X3_readPieces_0_1 : List rv_N := [
  (16, ([rv_r 16, rv_i 1 1, rv_i 0 199, rv_u], [rv_r 16], []), [17], 2060272, [(2, (-10353))], []),
  (17, ([rv_r 16, rv_i 1 1, rv_i 0 199, rv_u], [rv_r 16, rv_r 16], []), [18], 2060271, [(2, (-10353))], []),
  (18, ([rv_r 16, rv_i 1 1, rv_i 0 199, rv_u], [(1, 0, (-2147483648), 2147483647, [(.inr (16, 3), 0)], []), rv_r 16], []), [19], 2060270, [(2, (-10353))], []),
  (19, ([rv_r 16, rv_i 1 1, rv_i 0 199, rv_u], [rv_i 1 1, (1, 0, (-2147483648), 2147483647, [(.inr (16, 3), 0)], []), rv_r 16], []), [20], 2060269, [(2, (-10353))], []),
  (20, ([rv_r 16, rv_i 1 1, rv_i 0 199, rv_u], [(1, 0, (-2147483648), 2147483647, [(.inr (16, 3), 1)], []), rv_r 16], []), [21], 2060268, [(2, (-10353))], []),
  (21, ([rv_r 16, rv_i 1 1, rv_i 0 199, rv_u], [], []), [22], 2060267, [(2, (-10353))], []),
  (22, ([rv_r 16, rv_i 1 1, rv_i 0 199, rv_u], [rv_r 16], []), [23], 2060266, [(2, (-10353))], []),
  (23, ([rv_r 16, rv_i 1 1, rv_i 0 199, rv_u], [rv_r 17], []), [24], 2060265, [(2, (-10353))], []),
  (24, ([rv_r 16, rv_i 1 1, rv_i 0 199, rv_u], [rv_i 3 3, rv_r 17], []), [25], 2060264, [(2, (-10353))], []),
  (25, ([rv_r 16, rv_i 1 1, rv_i 0 199, rv_u], [rv_i 0 0, rv_i 3 3, rv_r 17], []), [26], 2060263, [(2, (-10353))], [2]),
  (26, ([rv_r 16, rv_i 1 1, rv_i 0 199, rv_u], [rv_i (-1) 199], []), [27], 2060262, [(2, (-10353))], []),
  (27, ([rv_r 16, rv_i 1 1, rv_i 0 199, rv_i (-1) 199], [], []), [28], 2060261, [(2, (-10353))], []),
  (28, ([rv_r 16, rv_i 1 1, rv_i 0 199, rv_i (-1) 199], [rv_r 16], []), [29], 2060260, [(2, (-10353))], []),
  (29, ([rv_r 16, rv_i 1 1, rv_i 0 199, rv_i (-1) 199], [(1, 0, 1, 1, [(.inl 1, 0)], []), rv_r 16], []), [30], 2060259, [(2, (-10353))], [3]),
  (30, ([rv_r 16, rv_i 1 1, rv_i 0 199, rv_i (-1) 199], [rv_i 0 1], []), [31, 33], 2060258, [(2, (-10353))], []),
  (31, ([rv_r 16, rv_i 1 1, rv_i 0 199, rv_i (-1) 199], [], []), [32], 1, [], [])]
def n_X3_readPieces_0_2 : List rv_N := [
  (32, ([rv_r 16, rv_i 1 1, rv_i 0 199, rv_i (-1) 199], [rv_i 0 0], []), [], 0, [], []),
  (33, ([rv_r 16, rv_i 1 1, rv_i 0 199, rv_i (-1) 199], [], []), [34], 2060257, [(2, (-10353))], []),
  (34, ([rv_r 16, rv_i 1 1, rv_i 0 199, rv_i (-1) 199], [rv_r 16], []), [35], 2060256, [(2, (-10353))], []),
  (35, ([rv_r 16, rv_i 1 1, rv_i 0 199, rv_i (-1) 199], [rv_r 17], []), [36], 2060255, [(2, (-10353))], []),
  (36, ([rv_r 16, rv_i 1 1, rv_i 0 199, rv_i (-1) 199], [(1, 0, (-1), 199, [(.inl 3, 0)], []), rv_r 17], []), [37], 2060254, [(2, (-10353))], [4]),
  (37, ([rv_r 16, rv_i 1 1, rv_i 0 199, rv_i (-1) 199], [], []), [38], 2060253, [(2, (-10353))], []),
  (38, ([rv_r 16, rv_i 1 1, rv_i 1 200, rv_i (-1) 199], [], []), [8], 2070605, [(2, (-10353))], []),
  (39, ([rv_r 16, rv_i 1 1, rv_i 0 200, rv_u], [], []), [40], 1, [], []),
  (40, ([rv_r 16, rv_i 1 1, rv_i 0 200, rv_u], [rv_i 1 1], []), [], 0, [], [])]
def n_X3_readPieces_0 : List rv_N := n_X3_readPieces_0_0 ++ (n_X3_readPieces_0_1 ++ (n_X3_readPieces_0_2))
noncomputable def gn_X3_readPieces_0 : Nat → Option rv_N := rv_ap 16 (rv_at n_X3_readPieces_0_0) (rv_ap 16 (rv_at n_X3_readPieces_0_1) (rv_at n_X3_readPieces_0_2))
theorem hn_X3_readPieces_0 : ∀ i : Nat, n_X3_readPieces_0[i]? = gn_X3_readPieces_0 i := rv_ap_eq (l := n_X3_readPieces_0_0) (c := 16) (rv_ap_eq (l := n_X3_readPieces_0_1) (c := 16) (rv_at_eq n_X3_readPieces_0_2) rfl) rfl
set_option maxRecDepth 100000 in
theorem a_X3_readPieces_0 : rv_all (fm_tm, flX3, fm_wr, kcX3, klX3, K_X3_readPieces_0.2.2.1, [], 4) ct_X3_readPieces_0 cd_X3_readPieces n_X3_readPieces_0 K_X3_readPieces_0 [] 0 n_X3_readPieces_0 = true := rv_fast hn_X3_readPieces_0 hc_X3_readPieces (by decide +kernel)
theorem m_X3_readPieces_0 {l : Launch} {D : va_G} {ad : Nat → Nat} {cy : Nat → ClassId} {Z : State → Heap → Prop} {Gp : fm_V → Prop} (hAd : fm_Ad fm_tm ad) (hZ : fm_Zk (fm_A fm_tm ad) Z) (hGd : fm_Gd Gp) : rv_Met l D fm_cl fm_tm ad cy fm_nt Z Gp yX3_readPieces (.code yX3_readPieces prog_5_method_10_code 4 (some .boolean) :: fm_Ts) { frames := 23, cells := 0, slots := 0, locals := 2300 } K_X3_readPieces_0 := rv_met hAd hZ (Or.inl (by decide +kernel)) evX3 dc_X3_readPieces a_X3_readPieces_0 ⟨rfl, rfl, rfl⟩ (by decide +kernel) (by decide +kernel) (by decide) (fm_gm hGd (by decide +kernel)) (Or.inr ⟨rfl, by decide, by decide⟩) (fun p e s m args below meth c Q X Y => List.forall_mem_cons.mpr ⟨rv_ctV X Y fm_Ts_good dc_X3_readPieces (pc := 2) (i := 2) (idx := 116) rfl (m_X3_readPiece_0 hAd hZ hGd) wl_X3_116 wm_X3_readPiece wy_X3_readPiece (by decide) ⟨rfl, rfl, rfl⟩ ⟨rfl, rfl⟩, List.forall_mem_cons.mpr ⟨rv_ctV X Y fm_Ts_good dc_X3_readPieces (pc := 20) (i := 12) (idx := 39) rfl (m_X3_next_0 hAd hZ hGd) wl_X3_39 wm_X3_next wy_X3_next (by decide) ⟨rfl, rfl, rfl⟩ ⟨rfl, rfl⟩, List.forall_mem_cons.mpr ⟨rv_ctV X Y fm_Ts_good dc_X3_readPieces (pc := 44) (i := 25) (idx := 108) rfl (m_X1_putStep_0 hAd hZ hGd) wl_X3_108 wm_X1_putStep wy_X1_putStep (by decide) ⟨rfl, rfl, rfl⟩ ⟨rfl, rfl⟩, List.forall_mem_cons.mpr ⟨rv_ctV X Y fm_Ts_good dc_X3_readPieces (pc := 50) (i := 29) (idx := 116) rfl (m_X3_readPiece_0 hAd hZ hGd) wl_X3_116 wm_X3_readPiece wy_X3_readPiece (by decide) ⟨rfl, rfl, rfl⟩ ⟨rfl, rfl⟩, List.forall_mem_cons.mpr ⟨rv_ctV X Y fm_Ts_good dc_X3_readPieces (pc := 63) (i := 36) (idx := 112) rfl (m_X1_leadToEnd_0 hAd hZ hGd) wl_X3_112 wm_X1_leadToEnd wy_X1_leadToEnd (by decide) ⟨rfl, rfl, rfl⟩ ⟨rfl, rfl⟩, fun _ h => absurd h List.not_mem_nil⟩⟩⟩⟩⟩) (fun _ _ _ _ _ _ _ _ _ _ _ _ _ _ _ _ h => absurd h List.not_mem_nil)
def K_X3_readParts_0 : rv_K := ([rv_r 16, rv_i 1 1], [], [(16, 3), (16, 4), (17, 2), (18, 9999), (19, 9999)], [(0, 0, 1)], [], [])
def ct_X3_readParts_0 : List (Nat × rv_K) := [(2, K_X3_readPieces_0), (12, K_X3_next_0), (25, K_X1_putStep_0), (29, K_X3_readPieces_0), (36, K_X1_leadToEnd_0)]
def n_X3_readParts_0_0 : List rv_N := [
  (0, ([rv_r 16, rv_i 1 1, rv_u, rv_u], [], []), [1], 2070610, [], []),
  (1, ([rv_r 16, rv_i 1 1, rv_u, rv_u], [rv_r 16], []), [2], 2070609, [], []),
  (2, ([rv_r 16, rv_i 1 1, rv_u, rv_u], [(1, 0, 1, 1, [(.inl 1, 0)], []), rv_r 16], []), [3], 2070608, [], [0]),
  (3, ([rv_r 16, rv_i 1 1, rv_u, rv_u], [rv_i 0 1], []), [4, 6], 2070607, [], []),
  (4, ([rv_r 16, rv_i 1 1, rv_u, rv_u], [], []), [5], 1, [], []),
  (5, ([rv_r 16, rv_i 1 1, rv_u, rv_u], [rv_i 0 0], []), [], 0, [], []),
  (6, ([rv_r 16, rv_i 1 1, rv_u, rv_u], [], []), [7], 2070606, [], []),
  (7, ([rv_r 16, rv_i 1 1, rv_u, rv_u], [rv_i 0 0], []), [8], 2070605, [], []),
  (8, ([rv_r 16, rv_i 1 1, rv_i 0 200, rv_u], [], []), [9], 2070604, [(2, (-10353))], []),
  (9, ([rv_r 16, rv_i 1 1, rv_i 0 200, rv_u], [(1, 0, 0, 200, [(.inl 2, 0)], [])], []), [10], 2070603, [(2, (-10353))], []),
  (10, ([rv_r 16, rv_i 1 1, rv_i 0 200, rv_u], [rv_i 200 200, (1, 0, 0, 200, [(.inl 2, 0)], [])], []), [11, 39], 2070602, [(2, (-10353))], []),
  (11, ([rv_r 16, rv_i 1 1, rv_i 0 199, rv_u], [], []), [12], 2060277, [(2, (-10353))], []),
  (12, ([rv_r 16, rv_i 1 1, rv_i 0 199, rv_u], [rv_r 16], []), [13], 2060276, [(2, (-10353))], [1]),
  (13, ([rv_r 16, rv_i 1 1, rv_i 0 199, rv_u], [rv_i (-1) 255], []), [14], 2060275, [(2, (-10353))], []),
  (14, ([rv_r 16, rv_i 1 1, rv_i 0 199, rv_u], [rv_i 124 124, rv_i (-1) 255], []), [15, 39], 2060274, [(2, (-10353))], []),
  (15, ([rv_r 16, rv_i 1 1, rv_i 0 199, rv_u], [], []), [16], 2060273, [(2, (-10353))], [])]
def n_X3_readParts_0_1 : List rv_N := [
  (16, ([rv_r 16, rv_i 1 1, rv_i 0 199, rv_u], [rv_r 16], []), [17], 2060272, [(2, (-10353))], []),
  (17, ([rv_r 16, rv_i 1 1, rv_i 0 199, rv_u], [rv_r 16, rv_r 16], []), [18], 2060271, [(2, (-10353))], []),
  (18, ([rv_r 16, rv_i 1 1, rv_i 0 199, rv_u], [(1, 0, (-2147483648), 2147483647, [(.inr (16, 3), 0)], []), rv_r 16], []), [19], 2060270, [(2, (-10353))], []),
  (19, ([rv_r 16, rv_i 1 1, rv_i 0 199, rv_u], [rv_i 1 1, (1, 0, (-2147483648), 2147483647, [(.inr (16, 3), 0)], []), rv_r 16], []), [20], 2060269, [(2, (-10353))], []),
  (20, ([rv_r 16, rv_i 1 1, rv_i 0 199, rv_u], [(1, 0, (-2147483648), 2147483647, [(.inr (16, 3), 1)], []), rv_r 16], []), [21], 2060268, [(2, (-10353))], []),
  (21, ([rv_r 16, rv_i 1 1, rv_i 0 199, rv_u], [], []), [22], 2060267, [(2, (-10353))], []),
  (22, ([rv_r 16, rv_i 1 1, rv_i 0 199, rv_u], [rv_r 16], []), [23], 2060266, [(2, (-10353))], []),
  (23, ([rv_r 16, rv_i 1 1, rv_i 0 199, rv_u], [rv_r 17], []), [24], 2060265, [(2, (-10353))], []),
  (24, ([rv_r 16, rv_i 1 1, rv_i 0 199, rv_u], [rv_i 2 2, rv_r 17], []), [25], 2060264, [(2, (-10353))], []),
  (25, ([rv_r 16, rv_i 1 1, rv_i 0 199, rv_u], [rv_i 0 0, rv_i 2 2, rv_r 17], []), [26], 2060263, [(2, (-10353))], [2]),
  (26, ([rv_r 16, rv_i 1 1, rv_i 0 199, rv_u], [rv_i (-1) 199], []), [27], 2060262, [(2, (-10353))], []),
  (27, ([rv_r 16, rv_i 1 1, rv_i 0 199, rv_i (-1) 199], [], []), [28], 2060261, [(2, (-10353))], []),
  (28, ([rv_r 16, rv_i 1 1, rv_i 0 199, rv_i (-1) 199], [rv_r 16], []), [29], 2060260, [(2, (-10353))], []),
  (29, ([rv_r 16, rv_i 1 1, rv_i 0 199, rv_i (-1) 199], [(1, 0, 1, 1, [(.inl 1, 0)], []), rv_r 16], []), [30], 2060259, [(2, (-10353))], [3]),
  (30, ([rv_r 16, rv_i 1 1, rv_i 0 199, rv_i (-1) 199], [rv_i 0 1], []), [31, 33], 2060258, [(2, (-10353))], []),
  (31, ([rv_r 16, rv_i 1 1, rv_i 0 199, rv_i (-1) 199], [], []), [32], 1, [], [])]
def n_X3_readParts_0_2 : List rv_N := [
  (32, ([rv_r 16, rv_i 1 1, rv_i 0 199, rv_i (-1) 199], [rv_i 0 0], []), [], 0, [], []),
  (33, ([rv_r 16, rv_i 1 1, rv_i 0 199, rv_i (-1) 199], [], []), [34], 2060257, [(2, (-10353))], []),
  (34, ([rv_r 16, rv_i 1 1, rv_i 0 199, rv_i (-1) 199], [rv_r 16], []), [35], 2060256, [(2, (-10353))], []),
  (35, ([rv_r 16, rv_i 1 1, rv_i 0 199, rv_i (-1) 199], [rv_r 17], []), [36], 2060255, [(2, (-10353))], []),
  (36, ([rv_r 16, rv_i 1 1, rv_i 0 199, rv_i (-1) 199], [(1, 0, (-1), 199, [(.inl 3, 0)], []), rv_r 17], []), [37], 2060254, [(2, (-10353))], [4]),
  (37, ([rv_r 16, rv_i 1 1, rv_i 0 199, rv_i (-1) 199], [], []), [38], 2060253, [(2, (-10353))], []),
  (38, ([rv_r 16, rv_i 1 1, rv_i 1 200, rv_i (-1) 199], [], []), [8], 2070605, [(2, (-10353))], []),
  (39, ([rv_r 16, rv_i 1 1, rv_i 0 200, rv_u], [], []), [40], 1, [], []),
  (40, ([rv_r 16, rv_i 1 1, rv_i 0 200, rv_u], [rv_i 1 1], []), [], 0, [], [])]
def n_X3_readParts_0 : List rv_N := n_X3_readParts_0_0 ++ (n_X3_readParts_0_1 ++ (n_X3_readParts_0_2))
noncomputable def gn_X3_readParts_0 : Nat → Option rv_N := rv_ap 16 (rv_at n_X3_readParts_0_0) (rv_ap 16 (rv_at n_X3_readParts_0_1) (rv_at n_X3_readParts_0_2))
theorem hn_X3_readParts_0 : ∀ i : Nat, n_X3_readParts_0[i]? = gn_X3_readParts_0 i := rv_ap_eq (l := n_X3_readParts_0_0) (c := 16) (rv_ap_eq (l := n_X3_readParts_0_1) (c := 16) (rv_at_eq n_X3_readParts_0_2) rfl) rfl
set_option maxRecDepth 100000 in
theorem a_X3_readParts_0 : rv_all (fm_tm, flX3, fm_wr, kcX3, klX3, K_X3_readParts_0.2.2.1, [], 4) ct_X3_readParts_0 cd_X3_readParts n_X3_readParts_0 K_X3_readParts_0 [] 0 n_X3_readParts_0 = true := rv_fast hn_X3_readParts_0 hc_X3_readParts (by decide +kernel)
theorem m_X3_readParts_0 {l : Launch} {D : va_G} {ad : Nat → Nat} {cy : Nat → ClassId} {Z : State → Heap → Prop} {Gp : fm_V → Prop} (hAd : fm_Ad fm_tm ad) (hZ : fm_Zk (fm_A fm_tm ad) Z) (hGd : fm_Gd Gp) : rv_Met l D fm_cl fm_tm ad cy fm_nt Z Gp yX3_readParts (.code yX3_readParts prog_5_method_9_code 4 (some .boolean) :: fm_Ts) { frames := 24, cells := 0, slots := 0, locals := 2400 } K_X3_readParts_0 := rv_met hAd hZ (Or.inl (by decide +kernel)) evX3 dc_X3_readParts a_X3_readParts_0 ⟨rfl, rfl, rfl⟩ (by decide +kernel) (by decide +kernel) (by decide) (fm_gm hGd (by decide +kernel)) (Or.inr ⟨rfl, by decide, by decide⟩) (fun p e s m args below meth c Q X Y => List.forall_mem_cons.mpr ⟨rv_ctV X Y fm_Ts_good dc_X3_readParts (pc := 2) (i := 2) (idx := 105) rfl (m_X3_readPieces_0 hAd hZ hGd) wl_X3_105 wm_X3_readPieces wy_X3_readPieces (by decide) ⟨rfl, rfl, rfl⟩ ⟨rfl, rfl⟩, List.forall_mem_cons.mpr ⟨rv_ctV X Y fm_Ts_good dc_X3_readParts (pc := 20) (i := 12) (idx := 39) rfl (m_X3_next_0 hAd hZ hGd) wl_X3_39 wm_X3_next wy_X3_next (by decide) ⟨rfl, rfl, rfl⟩ ⟨rfl, rfl⟩, List.forall_mem_cons.mpr ⟨rv_ctV X Y fm_Ts_good dc_X3_readParts (pc := 44) (i := 25) (idx := 108) rfl (m_X1_putStep_0 hAd hZ hGd) wl_X3_108 wm_X1_putStep wy_X1_putStep (by decide) ⟨rfl, rfl, rfl⟩ ⟨rfl, rfl⟩, List.forall_mem_cons.mpr ⟨rv_ctV X Y fm_Ts_good dc_X3_readParts (pc := 50) (i := 29) (idx := 105) rfl (m_X3_readPieces_0 hAd hZ hGd) wl_X3_105 wm_X3_readPieces wy_X3_readPieces (by decide) ⟨rfl, rfl, rfl⟩ ⟨rfl, rfl⟩, List.forall_mem_cons.mpr ⟨rv_ctV X Y fm_Ts_good dc_X3_readParts (pc := 63) (i := 36) (idx := 112) rfl (m_X1_leadToEnd_0 hAd hZ hGd) wl_X3_112 wm_X1_leadToEnd wy_X1_leadToEnd (by decide) ⟨rfl, rfl, rfl⟩ ⟨rfl, rfl⟩, fun _ h => absurd h List.not_mem_nil⟩⟩⟩⟩⟩) (fun _ _ _ _ _ _ _ _ _ _ _ _ _ _ _ _ h => absurd h List.not_mem_nil)
def cd_X3_seesDust : List (Nat × Instr × Nat) := [(0, .aload_n 0, 1), (1, .getfield 12, 3), (4, .getfield 67, 3), (7, .iload_n 1, 1), (8, .iaload, 1), (9, .istore_n 2, 1), (10, .iload_n 2, 1), (11, .ifCond .lt 55, 3), (14, .iload_n 2, 1), (15, .aload_n 0, 1), (16, .getfield 12, 3), (19, .getfield 70, 3), (22, .if_icmp .ge 44, 3), (25, .iload_n 2, 1), (26, .sipush 200, 3), (29, .if_icmp .ge 37, 3), (32, .aload_n 0, 1), (33, .getfield 12, 3), (36, .getfield 99, 3), (39, .iload_n 2, 1), (40, .iaload, 1), (41, .iconst 1, 1), (42, .if_icmp .ne 18, 3), (45, .aload_n 0, 1), (46, .getfield 12, 3), (49, .getfield 102, 3), (52, .iload_n 2, 1), (53, .iaload, 1), (54, .iconst 1, 1), (55, .if_icmp .ne 5, 3), (58, .iconst 1, 1), (59, .ireturn, 1), (60, .iinc 2 1, 3), (63, .goto (-53), 3), (66, .iconst 0, 1), (67, .ireturn, 1)]
theorem dc_X3_seesDust : ∀ q ∈ cd_X3_seesDust, decode prog_5_method_8_code q.1 = .ok (q.2.1, q.2.2) := by decide +kernel
def ch_X3_seesDust_0 : List (Nat × Instr × Nat) := [(0, .aload_n 0, 1), (1, .getfield 12, 3), (4, .getfield 67, 3), (7, .iload_n 1, 1), (8, .iaload, 1), (9, .istore_n 2, 1), (10, .iload_n 2, 1), (11, .ifCond .lt 55, 3), (14, .iload_n 2, 1), (15, .aload_n 0, 1), (16, .getfield 12, 3), (19, .getfield 70, 3), (22, .if_icmp .ge 44, 3), (25, .iload_n 2, 1), (26, .sipush 200, 3), (29, .if_icmp .ge 37, 3)]
def ch_X3_seesDust_1 : List (Nat × Instr × Nat) := [(32, .aload_n 0, 1), (33, .getfield 12, 3), (36, .getfield 99, 3), (39, .iload_n 2, 1), (40, .iaload, 1), (41, .iconst 1, 1), (42, .if_icmp .ne 18, 3), (45, .aload_n 0, 1), (46, .getfield 12, 3), (49, .getfield 102, 3), (52, .iload_n 2, 1), (53, .iaload, 1), (54, .iconst 1, 1), (55, .if_icmp .ne 5, 3), (58, .iconst 1, 1), (59, .ireturn, 1)]
def ch_X3_seesDust_2 : List (Nat × Instr × Nat) := [(60, .iinc 2 1, 3), (63, .goto (-53), 3), (66, .iconst 0, 1), (67, .ireturn, 1)]
set_option maxRecDepth 100000 in
theorem he_X3_seesDust : cd_X3_seesDust = ch_X3_seesDust_0 ++ (ch_X3_seesDust_1 ++ (ch_X3_seesDust_2)) := rfl
noncomputable def gc_X3_seesDust : Nat → Option (Nat × Instr × Nat) := rv_ap 16 (rv_at ch_X3_seesDust_0) (rv_ap 16 (rv_at ch_X3_seesDust_1) (rv_at ch_X3_seesDust_2))
theorem hc_X3_seesDust : ∀ i : Nat, cd_X3_seesDust[i]? = gc_X3_seesDust i := by
  rw [he_X3_seesDust]
  exact rv_ap_eq (l := ch_X3_seesDust_0) (c := 16) (rv_ap_eq (l := ch_X3_seesDust_1) (c := 16) (rv_at_eq ch_X3_seesDust_2) rfl) rfl
def K_X3_seesDust_0 : rv_K := ([rv_r 16, rv_i 0 13], [], [], [(0, 0, 1)], [], [])
def ct_X3_seesDust_0 : List (Nat × rv_K) := []
def n_X3_seesDust_0_0 : List rv_N := [
  (0, ([rv_r 16, rv_i 0 13, rv_u], [], []), [1], 848550227588207869874, [], []),
  (1, ([rv_r 16, rv_i 0 13, rv_u], [rv_r 16], []), [2], 848550227588207869873, [], []),
  (2, ([rv_r 16, rv_i 0 13, rv_u], [rv_r 17], []), [3], 848550227588207869872, [], []),
  (3, ([rv_r 16, rv_i 0 13, rv_u], [rv_r 21], []), [4], 848550227588207869871, [], []),
  (4, ([rv_r 16, rv_i 0 13, rv_u], [(1, 0, 0, 13, [(.inl 1, 0)], []), rv_r 21], []), [5], 848550227588207869870, [], []),
  (5, ([rv_r 16, rv_i 0 13, rv_u], [(1, 0, (-2147483648), 2147483647, [(.inr (21, 5001), 0)], [])], []), [6], 848550227588207869869, [], []),
  (6, ([rv_r 16, rv_i 0 13, rv_full], [], []), [7], 424275113695319687084, [(2, (-197568495708))], []),
  (7, ([rv_r 16, rv_i 0 13, rv_full], [(1, 0, (-2147483648), 2147483647, [(.inl 2, 0)], [])], []), [8, 34], 424275113695319687083, [(2, (-197568495708))], []),
  (8, ([rv_r 16, rv_i 0 13, rv_i 0 2147483647], [], []), [9], 424275113695319687082, [(2, (-197568495708))], []),
  (9, ([rv_r 16, rv_i 0 13, rv_i 0 2147483647], [(1, 0, 0, 2147483647, [(.inl 2, 0)], [])], []), [10], 424275113695319687081, [(2, (-197568495708))], []),
  (10, ([rv_r 16, rv_i 0 13, rv_i 0 2147483647], [rv_r 16, (1, 0, 0, 2147483647, [(.inl 2, 0)], [])], []), [11], 424275113695319687080, [(2, (-197568495708))], []),
  (11, ([rv_r 16, rv_i 0 13, rv_i 0 2147483647], [rv_r 17, (1, 0, 0, 2147483647, [(.inl 2, 0)], [])], []), [12], 424275113695319687079, [(2, (-197568495708))], []),
  (12, ([rv_r 16, rv_i 0 13, rv_i 0 2147483647], [(1, 0, 0, 200, [(.inr (17, 2), 0)], []), (1, 0, 0, 2147483647, [(.inl 2, 0)], [])], []), [13, 34], 424275113695319687078, [(2, (-197568495708))], []),
  (13, ([rv_r 16, rv_i 0 13, rv_i 0 199], [], [((17, 2), 1, 200, [])]), [14], 424275113497751191395, [(2, (-197568495708))], []),
  (14, ([rv_r 16, rv_i 0 13, rv_i 0 199], [(1, 0, 0, 199, [(.inl 2, 0)], [])], [((17, 2), 1, 200, [])]), [15], 424275113497751191394, [(2, (-197568495708))], []),
  (15, ([rv_r 16, rv_i 0 13, rv_i 0 199], [rv_i 200 200, (1, 0, 0, 199, [(.inl 2, 0)], [])], [((17, 2), 1, 200, [])]), [16], 424275113497751191393, [(2, (-197568495708))], [])]
def n_X3_seesDust_0_1 : List rv_N := [
  (16, ([rv_r 16, rv_i 0 13, rv_i 0 199], [], [((17, 2), 1, 200, [])]), [17], 424275113497751191392, [(2, (-197568495708))], []),
  (17, ([rv_r 16, rv_i 0 13, rv_i 0 199], [rv_r 16], [((17, 2), 1, 200, [])]), [18], 424275113497751191391, [(2, (-197568495708))], []),
  (18, ([rv_r 16, rv_i 0 13, rv_i 0 199], [rv_r 17], [((17, 2), 1, 200, [])]), [19], 424275113497751191390, [(2, (-197568495708))], []),
  (19, ([rv_r 16, rv_i 0 13, rv_i 0 199], [rv_r 18], [((17, 2), 1, 200, [])]), [20], 424275113497751191389, [(2, (-197568495708))], []),
  (20, ([rv_r 16, rv_i 0 13, rv_i 0 199], [(1, 0, 0, 199, [(.inl 2, 0)], []), rv_r 18], [((17, 2), 1, 200, [])]), [21], 424275113497751191388, [(2, (-197568495708))], []),
  (21, ([rv_r 16, rv_i 0 13, rv_i 0 199], [(1, 0, (-2147483648), 2147483647, [(.inr (18, 5002), 0)], [])], [((17, 2), 1, 200, [])]), [22], 424275113497751191387, [(2, (-197568495708))], []),
  (22, ([rv_r 16, rv_i 0 13, rv_i 0 199], [rv_i 1 1, (1, 0, (-2147483648), 2147483647, [(.inr (18, 5002), 0)], [])], [((17, 2), 1, 200, [])]), [23, 32], 424275113497751191386, [(2, (-197568495708))], []),
  (23, ([rv_r 16, rv_i 0 13, rv_i 0 199], [], [((17, 2), 1, 200, []), ((18, 5002), 1, 1, [])]), [24], 424275113497751191385, [(2, (-197568495708))], []),
  (24, ([rv_r 16, rv_i 0 13, rv_i 0 199], [rv_r 16], [((17, 2), 1, 200, []), ((18, 5002), 1, 1, [])]), [25], 424275113497751191384, [(2, (-197568495708))], []),
  (25, ([rv_r 16, rv_i 0 13, rv_i 0 199], [rv_r 17], [((17, 2), 1, 200, []), ((18, 5002), 1, 1, [])]), [26], 424275113497751191383, [(2, (-197568495708))], []),
  (26, ([rv_r 16, rv_i 0 13, rv_i 0 199], [rv_r 19], [((17, 2), 1, 200, []), ((18, 5002), 1, 1, [])]), [27], 424275113497751191382, [(2, (-197568495708))], []),
  (27, ([rv_r 16, rv_i 0 13, rv_i 0 199], [(1, 0, 0, 199, [(.inl 2, 0)], []), rv_r 19], [((17, 2), 1, 200, []), ((18, 5002), 1, 1, [])]), [28], 424275113497751191381, [(2, (-197568495708))], []),
  (28, ([rv_r 16, rv_i 0 13, rv_i 0 199], [(1, 0, (-10000000), 10000000, [(.inr (19, 5002), 0)], [])], [((17, 2), 1, 200, []), ((18, 5002), 1, 1, [])]), [29], 424275113497751191380, [(2, (-197568495708))], []),
  (29, ([rv_r 16, rv_i 0 13, rv_i 0 199], [rv_i 1 1, (1, 0, (-10000000), 10000000, [(.inr (19, 5002), 0)], [])], [((17, 2), 1, 200, []), ((18, 5002), 1, 1, [])]), [30, 32], 424275113497751191379, [(2, (-197568495708))], []),
  (30, ([rv_r 16, rv_i 0 13, rv_i 0 199], [], [((17, 2), 1, 200, []), ((18, 5002), 1, 1, []), ((19, 5002), 1, 1, [])]), [31], 1, [], []),
  (31, ([rv_r 16, rv_i 0 13, rv_i 0 199], [rv_i 1 1], [((17, 2), 1, 200, []), ((18, 5002), 1, 1, []), ((19, 5002), 1, 1, [])]), [], 0, [], [])]
def n_X3_seesDust_0_2 : List rv_N := [
  (32, ([rv_r 16, rv_i 0 13, rv_i 0 199], [], [((17, 2), 1, 200, [])]), [33], 424275113497751191378, [(2, (-197568495708))], []),
  (33, ([rv_r 16, rv_i 0 13, rv_i 1 200], [], [((17, 2), 1, 200, [])]), [6], 424275113695319687085, [(2, (-197568495708))], []),
  (34, ([rv_r 16, rv_i 0 13, rv_full], [], []), [35], 1, [], []),
  (35, ([rv_r 16, rv_i 0 13, rv_full], [rv_i 0 0], []), [], 0, [], [])]
def n_X3_seesDust_0 : List rv_N := n_X3_seesDust_0_0 ++ (n_X3_seesDust_0_1 ++ (n_X3_seesDust_0_2))
noncomputable def gn_X3_seesDust_0 : Nat → Option rv_N := rv_ap 16 (rv_at n_X3_seesDust_0_0) (rv_ap 16 (rv_at n_X3_seesDust_0_1) (rv_at n_X3_seesDust_0_2))
theorem hn_X3_seesDust_0 : ∀ i : Nat, n_X3_seesDust_0[i]? = gn_X3_seesDust_0 i := rv_ap_eq (l := n_X3_seesDust_0_0) (c := 16) (rv_ap_eq (l := n_X3_seesDust_0_1) (c := 16) (rv_at_eq n_X3_seesDust_0_2) rfl) rfl
set_option maxRecDepth 100000 in
theorem a_X3_seesDust_0 : rv_all (fm_tm, flX3, fm_wr, kcX3, klX3, K_X3_seesDust_0.2.2.1, [], 3) ct_X3_seesDust_0 cd_X3_seesDust n_X3_seesDust_0 K_X3_seesDust_0 [] 0 n_X3_seesDust_0 = true := rv_fast hn_X3_seesDust_0 hc_X3_seesDust (by decide +kernel)
theorem m_X3_seesDust_0 {l : Launch} {D : va_G} {ad : Nat → Nat} {cy : Nat → ClassId} {Z : State → Heap → Prop} {Gp : fm_V → Prop} (hAd : fm_Ad fm_tm ad) (hZ : fm_Zk (fm_A fm_tm ad) Z) (hGd : fm_Gd Gp) : rv_Met l D fm_cl fm_tm ad cy fm_nt Z Gp yX3_seesDust (.code yX3_seesDust prog_5_method_8_code 3 (some .boolean) :: fm_Ts) { frames := 0, cells := 0, slots := 0, locals := 0 } K_X3_seesDust_0 := rv_met hAd hZ (Or.inl (by decide +kernel)) evX3 dc_X3_seesDust a_X3_seesDust_0 ⟨rfl, rfl, rfl⟩ (by decide +kernel) (by decide +kernel) (by decide) (fm_gm hGd (by decide +kernel)) (Or.inr ⟨rfl, by decide, by decide⟩) (fun p e s m args below meth c Q X Y => fun _ h => absurd h List.not_mem_nil) (fun _ _ _ _ _ _ _ _ _ _ _ _ _ _ _ _ h => absurd h List.not_mem_nil)
def cd_X3_readClause : List (Nat × Instr × Nat) := [(0, .aload_n 0, 1), (1, .invokevirtual 39, 3), (4, .istore_n 1, 1), (5, .iload_n 1, 1), (6, .ifCond .lt 13, 3), (9, .ldc 56, 2), (11, .iload_n 1, 1), (12, .i2c, 1), (13, .invokevirtual 58, 3), (16, .ifCond .ge 9, 3), (19, .aload_n 0, 1), (20, .iconst 1, 1), (21, .invokevirtual 43, 3), (24, .ireturn, 1), (25, .aload_n 0, 1), (26, .getfield 12, 3), (29, .getfield 47, 3), (32, .istore_n 2, 1), (33, .iload_n 2, 1), (34, .ifCond .lt 9, 3), (37, .iload_n 2, 1), (38, .bipush 14, 2), (40, .if_icmp .lt 9, 3), (43, .aload_n 0, 1), (44, .iconst 4, 1), (45, .invokevirtual 43, 3), (48, .ireturn, 1), (49, .aload_n 0, 1), (50, .dup, 1), (51, .getfield 22, 3), (54, .iconst 1, 1), (55, .iadd, 1), (56, .putfield 22, 3), (59, .aload_n 0, 1), (60, .getfield 12, 3), (63, .getfield 64, 3), (66, .iload_n 2, 1), (67, .iload_n 1, 1), (68, .iastore, 1), (69, .aload_n 0, 1), (70, .getfield 12, 3), (73, .getfield 67, 3), (76, .iload_n 2, 1), (77, .aload_n 0, 1), (78, .getfield 12, 3), (81, .getfield 70, 3), (84, .iastore, 1), (85, .aload_n 0, 1), (86, .iconst 0, 1), (87, .invokevirtual 73, 3), (90, .ifCond .ne 5, 3), (93, .iconst 0, 1), (94, .ireturn, 1), (95, .aload_n 0, 1), (96, .getfield 12, 3), (99, .getfield 76, 3), (102, .iload_n 2, 1), (103, .aload_n 0, 1), (104, .getfield 12, 3), (107, .getfield 70, 3), (110, .iastore, 1), (111, .aload_n 0, 1), (112, .bipush 40, 2), (114, .iconst 0, 1), (115, .invokevirtual 79, 3), (118, .ifCond .eq 20, 3), (121, .aload_n 0, 1), (122, .iconst 1, 1), (123, .invokevirtual 83, 3), (126, .ifCond .eq 12, 3), (129, .aload_n 0, 1), (130, .bipush 41, 2), (132, .invokevirtual 86, 3), (135, .ifCond .ne 5, 3), (138, .iconst 0, 1), (139, .ireturn, 1), (140, .aload_n 0, 1), (141, .getfield 12, 3), (144, .getfield 89, 3), (147, .iload_n 2, 1), (148, .aload_n 0, 1), (149, .getfield 12, 3), (152, .getfield 70, 3), (155, .iastore, 1), (156, .aload_n 0, 1), (157, .getfield 12, 3), (160, .iload_n 2, 1), (161, .iconst 1, 1), (162, .iadd, 1), (163, .putfield 47, 3), (166, .aload_n 0, 1), (167, .getfield 12, 3), (170, .dup, 1), (171, .getfield 92, 3), (174, .iload_n 1, 1), (175, .bipush 108, 2), (177, .if_icmp .ne 15, 3), (180, .aload_n 0, 1), (181, .iload_n 2, 1), (182, .invokevirtual 96, 3), (185, .ifCond .eq 7, 3), (188, .iconst 1, 1), (189, .goto 4, 3), (192, .iconst 0, 1), (193, .ior, 1), (194, .putfield 92, 3), (197, .iconst 1, 1), (198, .ireturn, 1)]
theorem dc_X3_readClause : ∀ q ∈ cd_X3_readClause, decode prog_5_method_7_code q.1 = .ok (q.2.1, q.2.2) := by decide +kernel
def ch_X3_readClause_0 : List (Nat × Instr × Nat) := [(0, .aload_n 0, 1), (1, .invokevirtual 39, 3), (4, .istore_n 1, 1), (5, .iload_n 1, 1), (6, .ifCond .lt 13, 3), (9, .ldc 56, 2), (11, .iload_n 1, 1), (12, .i2c, 1), (13, .invokevirtual 58, 3), (16, .ifCond .ge 9, 3), (19, .aload_n 0, 1), (20, .iconst 1, 1), (21, .invokevirtual 43, 3), (24, .ireturn, 1), (25, .aload_n 0, 1), (26, .getfield 12, 3)]
def ch_X3_readClause_1 : List (Nat × Instr × Nat) := [(29, .getfield 47, 3), (32, .istore_n 2, 1), (33, .iload_n 2, 1), (34, .ifCond .lt 9, 3), (37, .iload_n 2, 1), (38, .bipush 14, 2), (40, .if_icmp .lt 9, 3), (43, .aload_n 0, 1), (44, .iconst 4, 1), (45, .invokevirtual 43, 3), (48, .ireturn, 1), (49, .aload_n 0, 1), (50, .dup, 1), (51, .getfield 22, 3), (54, .iconst 1, 1), (55, .iadd, 1)]
def ch_X3_readClause_2 : List (Nat × Instr × Nat) := [(56, .putfield 22, 3), (59, .aload_n 0, 1), (60, .getfield 12, 3), (63, .getfield 64, 3), (66, .iload_n 2, 1), (67, .iload_n 1, 1), (68, .iastore, 1), (69, .aload_n 0, 1), (70, .getfield 12, 3), (73, .getfield 67, 3), (76, .iload_n 2, 1), (77, .aload_n 0, 1), (78, .getfield 12, 3), (81, .getfield 70, 3), (84, .iastore, 1), (85, .aload_n 0, 1)]
def ch_X3_readClause_3 : List (Nat × Instr × Nat) := [(86, .iconst 0, 1), (87, .invokevirtual 73, 3), (90, .ifCond .ne 5, 3), (93, .iconst 0, 1), (94, .ireturn, 1), (95, .aload_n 0, 1), (96, .getfield 12, 3), (99, .getfield 76, 3), (102, .iload_n 2, 1), (103, .aload_n 0, 1), (104, .getfield 12, 3), (107, .getfield 70, 3), (110, .iastore, 1), (111, .aload_n 0, 1), (112, .bipush 40, 2), (114, .iconst 0, 1)]
def ch_X3_readClause_4 : List (Nat × Instr × Nat) := [(115, .invokevirtual 79, 3), (118, .ifCond .eq 20, 3), (121, .aload_n 0, 1), (122, .iconst 1, 1), (123, .invokevirtual 83, 3), (126, .ifCond .eq 12, 3), (129, .aload_n 0, 1), (130, .bipush 41, 2), (132, .invokevirtual 86, 3), (135, .ifCond .ne 5, 3), (138, .iconst 0, 1), (139, .ireturn, 1), (140, .aload_n 0, 1), (141, .getfield 12, 3), (144, .getfield 89, 3), (147, .iload_n 2, 1)]
def ch_X3_readClause_5 : List (Nat × Instr × Nat) := [(148, .aload_n 0, 1), (149, .getfield 12, 3), (152, .getfield 70, 3), (155, .iastore, 1), (156, .aload_n 0, 1), (157, .getfield 12, 3), (160, .iload_n 2, 1), (161, .iconst 1, 1), (162, .iadd, 1), (163, .putfield 47, 3), (166, .aload_n 0, 1), (167, .getfield 12, 3), (170, .dup, 1), (171, .getfield 92, 3), (174, .iload_n 1, 1), (175, .bipush 108, 2)]
def ch_X3_readClause_6 : List (Nat × Instr × Nat) := [(177, .if_icmp .ne 15, 3), (180, .aload_n 0, 1), (181, .iload_n 2, 1), (182, .invokevirtual 96, 3), (185, .ifCond .eq 7, 3), (188, .iconst 1, 1), (189, .goto 4, 3), (192, .iconst 0, 1), (193, .ior, 1), (194, .putfield 92, 3), (197, .iconst 1, 1), (198, .ireturn, 1)]
set_option maxRecDepth 100000 in
theorem he_X3_readClause : cd_X3_readClause = ch_X3_readClause_0 ++ (ch_X3_readClause_1 ++ (ch_X3_readClause_2 ++ (ch_X3_readClause_3 ++ (ch_X3_readClause_4 ++ (ch_X3_readClause_5 ++ (ch_X3_readClause_6)))))) := rfl
noncomputable def gc_X3_readClause : Nat → Option (Nat × Instr × Nat) := rv_ap 16 (rv_at ch_X3_readClause_0) (rv_ap 16 (rv_at ch_X3_readClause_1) (rv_ap 16 (rv_at ch_X3_readClause_2) (rv_ap 16 (rv_at ch_X3_readClause_3) (rv_ap 16 (rv_at ch_X3_readClause_4) (rv_ap 16 (rv_at ch_X3_readClause_5) (rv_at ch_X3_readClause_6))))))
theorem hc_X3_readClause : ∀ i : Nat, cd_X3_readClause[i]? = gc_X3_readClause i := by
  rw [he_X3_readClause]
  exact rv_ap_eq (l := ch_X3_readClause_0) (c := 16) (rv_ap_eq (l := ch_X3_readClause_1) (c := 16) (rv_ap_eq (l := ch_X3_readClause_2) (c := 16) (rv_ap_eq (l := ch_X3_readClause_3) (c := 16) (rv_ap_eq (l := ch_X3_readClause_4) (c := 16) (rv_ap_eq (l := ch_X3_readClause_5) (c := 16) (rv_at_eq ch_X3_readClause_6) rfl) rfl) rfl) rfl) rfl) rfl
def K_X3_readClause_0 : rv_K := ([rv_r 16], [], [(16, 3), (16, 4), (17, 2), (17, 7), (17, 8), (18, 9999), (19, 9999), (20, 9999), (21, 9999), (22, 9999), (23, 9999)], [(0, 0, 1)], [], [])
def ct_X3_readClause_0 : List (Nat × rv_K) := [(1, K_X3_next_0), (12, K_X3_fail_0), (25, K_X3_fail_0), (49, K_X3_readSum_0), (64, K_X3_open_0), (68, K_X3_readParts_0), (72, K_X3_close_0), (99, K_X3_seesDust_0)]
def n_X3_readClause_0_0 : List rv_N := [
  (0, ([rv_r 16, rv_u, rv_u], [], []), [1], 91, [], []),
  (1, ([rv_r 16, rv_u, rv_u], [rv_r 16], []), [2], 90, [], [0]),
  (2, ([rv_r 16, rv_u, rv_u], [rv_i (-1) 255], []), [3], 89, [], []),
  (3, ([rv_r 16, rv_i (-1) 255, rv_u], [], []), [4], 88, [], []),
  (4, ([rv_r 16, rv_i (-1) 255, rv_u], [(1, 0, (-1), 255, [(.inl 1, 0)], [])], []), [5, 7], 87, [], []),
  (5, ([rv_r 16, rv_i 0 255, rv_u], [], []), [6], 86, [], []),
  (9, ([rv_r 16, rv_i 0 255, rv_u], [rv_i (-1) 12], []), [7, 11], 85, [], []),
  (10, ([rv_r 16, rv_i (-1) 255, rv_u], [], []), [8], 3, [], []),
  (11, ([rv_r 16, rv_i (-1) 255, rv_u], [rv_r 16], []), [9], 2, [], []),
  (12, ([rv_r 16, rv_i (-1) 255, rv_u], [rv_i 1 1, rv_r 16], []), [10], 1, [], [1]),
  (13, ([rv_r 16, rv_i (-1) 255, rv_u], [rv_i 0 0], []), [], 0, [], []),
  (14, ([rv_r 16, rv_i 0 255, rv_u], [], []), [12], 84, [], []),
  (15, ([rv_r 16, rv_i 0 255, rv_u], [rv_r 16], []), [13], 83, [], []),
  (16, ([rv_r 16, rv_i 0 255, rv_u], [rv_r 17], []), [14], 82, [], []),
  (17, ([rv_r 16, rv_i 0 255, rv_u], [(1, 0, (-2147483648), 2147483647, [(.inr (17, 7), 0)], [])], []), [15], 81, [], []),
  (18, ([rv_r 16, rv_i 0 255, rv_full], [], []), [16], 80, [], [])]
def n_X3_readClause_0_1 : List rv_N := [
  (19, ([rv_r 16, rv_i 0 255, rv_full], [(1, 0, (-2147483648), 2147483647, [(.inl 2, 0)], [])], []), [17, 20], 79, [], []),
  (20, ([rv_r 16, rv_i 0 255, rv_i 0 2147483647], [], []), [18], 78, [], []),
  (21, ([rv_r 16, rv_i 0 255, rv_i 0 2147483647], [(1, 0, 0, 2147483647, [(.inl 2, 0)], [])], []), [19], 77, [], []),
  (22, ([rv_r 16, rv_i 0 255, rv_i 0 2147483647], [rv_i 14 14, (1, 0, 0, 2147483647, [(.inl 2, 0)], [])], []), [20, 24], 76, [], []),
  (23, ([rv_r 16, rv_i 0 255, rv_full], [], []), [21], 3, [], []),
  (24, ([rv_r 16, rv_i 0 255, rv_full], [rv_r 16], []), [22], 2, [], []),
  (25, ([rv_r 16, rv_i 0 255, rv_full], [rv_i 4 4, rv_r 16], []), [23], 1, [], [2]),
  (26, ([rv_r 16, rv_i 0 255, rv_full], [rv_i 0 0], []), [], 0, [], []),
  (27, ([rv_r 16, rv_i 0 255, rv_i 0 13], [], []), [25], 75, [], []),
  (28, ([rv_r 16, rv_i 0 255, rv_i 0 13], [rv_r 16], []), [26], 74, [], []),
  (29, ([rv_r 16, rv_i 0 255, rv_i 0 13], [rv_r 16, rv_r 16], []), [27], 73, [], []),
  (30, ([rv_r 16, rv_i 0 255, rv_i 0 13], [(1, 0, (-2147483648), 2147483647, [(.inr (16, 3), 0)], []), rv_r 16], []), [28], 72, [], []),
  (31, ([rv_r 16, rv_i 0 255, rv_i 0 13], [rv_i 1 1, (1, 0, (-2147483648), 2147483647, [(.inr (16, 3), 0)], []), rv_r 16], []), [29], 71, [], []),
  (32, ([rv_r 16, rv_i 0 255, rv_i 0 13], [(1, 0, (-2147483648), 2147483647, [(.inr (16, 3), 1)], []), rv_r 16], []), [30], 70, [], []),
  (33, ([rv_r 16, rv_i 0 255, rv_i 0 13], [], []), [31], 69, [], []),
  (34, ([rv_r 16, rv_i 0 255, rv_i 0 13], [rv_r 16], []), [32], 68, [], [])]
def n_X3_readClause_0_2 : List rv_N := [
  (35, ([rv_r 16, rv_i 0 255, rv_i 0 13], [rv_r 17], []), [33], 67, [], []),
  (36, ([rv_r 16, rv_i 0 255, rv_i 0 13], [rv_r 20], []), [34], 66, [], []),
  (37, ([rv_r 16, rv_i 0 255, rv_i 0 13], [(1, 0, 0, 13, [(.inl 2, 0)], []), rv_r 20], []), [35], 65, [], []),
  (38, ([rv_r 16, rv_i 0 255, rv_i 0 13], [(1, 0, 0, 255, [(.inl 1, 0)], []), (1, 0, 0, 13, [(.inl 2, 0)], []), rv_r 20], []), [36], 64, [], []),
  (39, ([rv_r 16, rv_i 0 255, rv_i 0 13], [], []), [37], 63, [], []),
  (40, ([rv_r 16, rv_i 0 255, rv_i 0 13], [rv_r 16], []), [38], 62, [], []),
  (41, ([rv_r 16, rv_i 0 255, rv_i 0 13], [rv_r 17], []), [39], 61, [], []),
  (42, ([rv_r 16, rv_i 0 255, rv_i 0 13], [rv_r 21], []), [40], 60, [], []),
  (43, ([rv_r 16, rv_i 0 255, rv_i 0 13], [(1, 0, 0, 13, [(.inl 2, 0)], []), rv_r 21], []), [41], 59, [], []),
  (44, ([rv_r 16, rv_i 0 255, rv_i 0 13], [rv_r 16, (1, 0, 0, 13, [(.inl 2, 0)], []), rv_r 21], []), [42], 58, [], []),
  (45, ([rv_r 16, rv_i 0 255, rv_i 0 13], [rv_r 17, (1, 0, 0, 13, [(.inl 2, 0)], []), rv_r 21], []), [43], 57, [], []),
  (46, ([rv_r 16, rv_i 0 255, rv_i 0 13], [(1, 0, 0, 200, [(.inr (17, 2), 0)], []), (1, 0, 0, 13, [(.inl 2, 0)], []), rv_r 21], []), [44], 56, [], []),
  (47, ([rv_r 16, rv_i 0 255, rv_i 0 13], [], []), [45], 55, [], []),
  (48, ([rv_r 16, rv_i 0 255, rv_i 0 13], [rv_r 16], []), [46], 54, [], []),
  (49, ([rv_r 16, rv_i 0 255, rv_i 0 13], [rv_i 0 0, rv_r 16], []), [47], 53, [], [3]),
  (50, ([rv_r 16, rv_i 0 255, rv_i 0 13], [rv_i 0 1], []), [48, 50], 52, [], [])]
def n_X3_readClause_0_3 : List rv_N := [
  (51, ([rv_r 16, rv_i 0 255, rv_i 0 13], [], []), [49], 1, [], []),
  (52, ([rv_r 16, rv_i 0 255, rv_i 0 13], [rv_i 0 0], []), [], 0, [], []),
  (53, ([rv_r 16, rv_i 0 255, rv_i 0 13], [], []), [51], 51, [], []),
  (54, ([rv_r 16, rv_i 0 255, rv_i 0 13], [rv_r 16], []), [52], 50, [], []),
  (55, ([rv_r 16, rv_i 0 255, rv_i 0 13], [rv_r 17], []), [53], 49, [], []),
  (56, ([rv_r 16, rv_i 0 255, rv_i 0 13], [rv_r 22], []), [54], 48, [], []),
  (57, ([rv_r 16, rv_i 0 255, rv_i 0 13], [(1, 0, 0, 13, [(.inl 2, 0)], []), rv_r 22], []), [55], 47, [], []),
  (58, ([rv_r 16, rv_i 0 255, rv_i 0 13], [rv_r 16, (1, 0, 0, 13, [(.inl 2, 0)], []), rv_r 22], []), [56], 46, [], []),
  (59, ([rv_r 16, rv_i 0 255, rv_i 0 13], [rv_r 17, (1, 0, 0, 13, [(.inl 2, 0)], []), rv_r 22], []), [57], 45, [], []),
  (60, ([rv_r 16, rv_i 0 255, rv_i 0 13], [(1, 0, 0, 200, [(.inr (17, 2), 0)], []), (1, 0, 0, 13, [(.inl 2, 0)], []), rv_r 22], []), [58], 44, [], []),
  (61, ([rv_r 16, rv_i 0 255, rv_i 0 13], [], []), [59], 43, [], []),
  (62, ([rv_r 16, rv_i 0 255, rv_i 0 13], [rv_r 16], []), [60], 42, [], []),
  (63, ([rv_r 16, rv_i 0 255, rv_i 0 13], [rv_i 40 40, rv_r 16], []), [61], 41, [], []),
  (64, ([rv_r 16, rv_i 0 255, rv_i 0 13], [rv_i 0 0, rv_i 40 40, rv_r 16], []), [62], 40, [], [4]),
  (65, ([rv_r 16, rv_i 0 255, rv_i 0 13], [rv_i 0 1], []), [63, 71], 39, [], []),
  (66, ([rv_r 16, rv_i 0 255, rv_i 0 13], [], []), [64], 38, [], [])]
def n_X3_readClause_0_4 : List rv_N := [
  (67, ([rv_r 16, rv_i 0 255, rv_i 0 13], [rv_r 16], []), [65], 37, [], []),
  (68, ([rv_r 16, rv_i 0 255, rv_i 0 13], [rv_i 1 1, rv_r 16], []), [66], 36, [], [5]),
  (69, ([rv_r 16, rv_i 0 255, rv_i 0 13], [rv_i 0 1], []), [67, 71], 35, [], []),
  (70, ([rv_r 16, rv_i 0 255, rv_i 0 13], [], []), [68], 34, [], []),
  (71, ([rv_r 16, rv_i 0 255, rv_i 0 13], [rv_r 16], []), [69], 33, [], []),
  (72, ([rv_r 16, rv_i 0 255, rv_i 0 13], [rv_i 41 41, rv_r 16], []), [70], 32, [], [6]),
  (73, ([rv_r 16, rv_i 0 255, rv_i 0 13], [rv_i 0 1], []), [71, 73], 31, [], []),
  (74, ([rv_r 16, rv_i 0 255, rv_i 0 13], [], []), [72], 1, [], []),
  (75, ([rv_r 16, rv_i 0 255, rv_i 0 13], [rv_i 0 0], []), [], 0, [], []),
  (76, ([rv_r 16, rv_i 0 255, rv_i 0 13], [], []), [74], 30, [], []),
  (77, ([rv_r 16, rv_i 0 255, rv_i 0 13], [rv_r 16], []), [75], 29, [], []),
  (78, ([rv_r 16, rv_i 0 255, rv_i 0 13], [rv_r 17], []), [76], 28, [], []),
  (79, ([rv_r 16, rv_i 0 255, rv_i 0 13], [rv_r 23], []), [77], 27, [], []),
  (80, ([rv_r 16, rv_i 0 255, rv_i 0 13], [(1, 0, 0, 13, [(.inl 2, 0)], []), rv_r 23], []), [78], 26, [], []),
  (81, ([rv_r 16, rv_i 0 255, rv_i 0 13], [rv_r 16, (1, 0, 0, 13, [(.inl 2, 0)], []), rv_r 23], []), [79], 25, [], []),
  (82, ([rv_r 16, rv_i 0 255, rv_i 0 13], [rv_r 17, (1, 0, 0, 13, [(.inl 2, 0)], []), rv_r 23], []), [80], 24, [], [])]
def n_X3_readClause_0_5 : List rv_N := [
  (83, ([rv_r 16, rv_i 0 255, rv_i 0 13], [(1, 0, 0, 200, [(.inr (17, 2), 0)], []), (1, 0, 0, 13, [(.inl 2, 0)], []), rv_r 23], []), [81], 23, [], []),
  (84, ([rv_r 16, rv_i 0 255, rv_i 0 13], [], []), [82], 22, [], []),
  (85, ([rv_r 16, rv_i 0 255, rv_i 0 13], [rv_r 16], []), [83], 21, [], []),
  (86, ([rv_r 16, rv_i 0 255, rv_i 0 13], [rv_r 17], []), [84], 20, [], []),
  (87, ([rv_r 16, rv_i 0 255, rv_i 0 13], [(1, 0, 0, 13, [(.inl 2, 0)], []), rv_r 17], []), [85], 19, [], []),
  (88, ([rv_r 16, rv_i 0 255, rv_i 0 13], [rv_i 1 1, (1, 0, 0, 13, [(.inl 2, 0)], []), rv_r 17], []), [86], 18, [], []),
  (89, ([rv_r 16, rv_i 0 255, rv_i 0 13], [(1, 0, 1, 14, [(.inl 2, 1)], []), rv_r 17], []), [87], 17, [], []),
  (90, ([rv_r 16, rv_i 0 255, rv_i 0 13], [], [((17, 7), 1, 14, [])]), [88], 16, [], []),
  (91, ([rv_r 16, rv_i 0 255, rv_i 0 13], [rv_r 16], [((17, 7), 1, 14, [])]), [89], 15, [], []),
  (92, ([rv_r 16, rv_i 0 255, rv_i 0 13], [rv_r 17], [((17, 7), 1, 14, [])]), [90], 14, [], []),
  (93, ([rv_r 16, rv_i 0 255, rv_i 0 13], [rv_r 17, rv_r 17], [((17, 7), 1, 14, [])]), [91], 13, [], []),
  (94, ([rv_r 16, rv_i 0 255, rv_i 0 13], [(1, 0, 0, 1, [(.inr (17, 8), 0)], []), rv_r 17], [((17, 7), 1, 14, [])]), [92], 12, [], []),
  (95, ([rv_r 16, rv_i 0 255, rv_i 0 13], [(1, 0, 0, 255, [(.inl 1, 0)], []), (1, 0, 0, 1, [(.inr (17, 8), 0)], []), rv_r 17], [((17, 7), 1, 14, [])]), [93], 11, [], []),
  (96, ([rv_r 16, rv_i 0 255, rv_i 0 13], [rv_i 108 108, (1, 0, 0, 255, [(.inl 1, 0)], []), (1, 0, 0, 1, [(.inr (17, 8), 0)], []), rv_r 17], [((17, 7), 1, 14, [])]), [94, 100], 10, [], []),
  (97, ([rv_r 16, rv_i 108 108, rv_i 0 13], [(1, 0, 0, 1, [(.inr (17, 8), 0)], []), rv_r 17], [((17, 7), 1, 14, [])]), [95], 9, [], []),
  (98, ([rv_r 16, rv_i 108 108, rv_i 0 13], [rv_r 16, (1, 0, 0, 1, [(.inr (17, 8), 0)], []), rv_r 17], [((17, 7), 1, 14, [])]), [96], 8, [], [])]
def n_X3_readClause_0_6 : List rv_N := [
  (99, ([rv_r 16, rv_i 108 108, rv_i 0 13], [(1, 0, 0, 13, [(.inl 2, 0)], []), rv_r 16, (1, 0, 0, 1, [(.inr (17, 8), 0)], []), rv_r 17], [((17, 7), 1, 14, [])]), [97], 7, [], [7]),
  (100, ([rv_r 16, rv_i 108 108, rv_i 0 13], [rv_i 0 1, (1, 0, 0, 1, [(.inr (17, 8), 0)], []), rv_r 17], [((17, 7), 1, 14, [])]), [98, 100], 6, [], []),
  (101, ([rv_r 16, rv_i 108 108, rv_i 0 13], [(1, 0, 0, 1, [(.inr (17, 8), 0)], []), rv_r 17], [((17, 7), 1, 14, [])]), [99], 5, [], []),
  (102, ([rv_r 16, rv_i 108 108, rv_i 0 13], [rv_i 1 1, (1, 0, 0, 1, [(.inr (17, 8), 0)], []), rv_r 17], [((17, 7), 1, 14, [])]), [102], 4, [], []),
  (103, ([rv_r 16, rv_i 0 255, rv_i 0 13], [(1, 0, 0, 1, [(.inr (17, 8), 0)], []), rv_r 17], [((17, 7), 1, 14, [])]), [101], 4, [], []),
  (104, ([rv_r 16, rv_i 0 255, rv_i 0 13], [rv_i 0 0, (1, 0, 0, 1, [(.inr (17, 8), 0)], []), rv_r 17], [((17, 7), 1, 14, [])]), [103], 3, [], []),
  (104, ([rv_r 16, rv_i 108 108, rv_i 0 13], [rv_i 1 1, (1, 0, 0, 1, [(.inr (17, 8), 0)], []), rv_r 17], [((17, 7), 1, 14, [])]), [103], 3, [], []),
  (105, ([rv_r 16, rv_i 0 255, rv_i 0 13], [rv_i 0 1, rv_r 17], [((17, 7), 1, 14, [])]), [104], 2, [], []),
  (106, ([rv_r 16, rv_i 0 255, rv_i 0 13], [], [((17, 7), 1, 14, [])]), [105], 1, [], []),
  (107, ([rv_r 16, rv_i 0 255, rv_i 0 13], [rv_i 1 1], [((17, 7), 1, 14, [])]), [], 0, [], [])]
def n_X3_readClause_0 : List rv_N := n_X3_readClause_0_0 ++ (n_X3_readClause_0_1 ++ (n_X3_readClause_0_2 ++ (n_X3_readClause_0_3 ++ (n_X3_readClause_0_4 ++ (n_X3_readClause_0_5 ++ (n_X3_readClause_0_6))))))
noncomputable def gn_X3_readClause_0 : Nat → Option rv_N := rv_ap 16 (rv_at n_X3_readClause_0_0) (rv_ap 16 (rv_at n_X3_readClause_0_1) (rv_ap 16 (rv_at n_X3_readClause_0_2) (rv_ap 16 (rv_at n_X3_readClause_0_3) (rv_ap 16 (rv_at n_X3_readClause_0_4) (rv_ap 16 (rv_at n_X3_readClause_0_5) (rv_at n_X3_readClause_0_6))))))
theorem hn_X3_readClause_0 : ∀ i : Nat, n_X3_readClause_0[i]? = gn_X3_readClause_0 i := rv_ap_eq (l := n_X3_readClause_0_0) (c := 16) (rv_ap_eq (l := n_X3_readClause_0_1) (c := 16) (rv_ap_eq (l := n_X3_readClause_0_2) (c := 16) (rv_ap_eq (l := n_X3_readClause_0_3) (c := 16) (rv_ap_eq (l := n_X3_readClause_0_4) (c := 16) (rv_ap_eq (l := n_X3_readClause_0_5) (c := 16) (rv_at_eq n_X3_readClause_0_6) rfl) rfl) rfl) rfl) rfl) rfl
set_option maxRecDepth 100000 in
theorem a_X3_readClause_0 : rv_all (fm_tm, flX3, fm_wr, kcX3, klX3, K_X3_readClause_0.2.2.1, [], 3) ct_X3_readClause_0 cd_X3_readClause n_X3_readClause_0 K_X3_readClause_0 [5] 0 n_X3_readClause_0 = true := rv_fast hn_X3_readClause_0 hc_X3_readClause (by decide +kernel)
theorem m_X3_readClause_0 {l : Launch} {D : va_G} {ad : Nat → Nat} {cy : Nat → ClassId} {Z : State → Heap → Prop} {Gp : fm_V → Prop} (hAd : fm_Ad fm_tm ad) (hZ : fm_Zk (fm_A fm_tm ad) Z) (hGd : fm_Gd Gp) : rv_Met l D fm_cl fm_tm ad cy fm_nt Z Gp yX3_readClause (.code yX3_readClause prog_5_method_7_code 3 (some .boolean) :: fm_Ts) { frames := 25, cells := 0, slots := 0, locals := 2500 } K_X3_readClause_0 := rv_met hAd hZ (Or.inl (by decide +kernel)) evX3 dc_X3_readClause a_X3_readClause_0 ⟨rfl, rfl, rfl⟩ (by decide +kernel) (by decide +kernel) (by decide) (fm_gm hGd (by decide +kernel)) (Or.inr ⟨rfl, by decide, by decide⟩) (fun p e s m args below meth c Q X Y => List.forall_mem_cons.mpr ⟨rv_ctV X Y fm_Ts_good dc_X3_readClause (pc := 1) (i := 1) (idx := 39) rfl (m_X3_next_0 hAd hZ hGd) wl_X3_39 wm_X3_next wy_X3_next (by decide) ⟨rfl, rfl, rfl⟩ ⟨rfl, rfl⟩, List.forall_mem_cons.mpr ⟨rv_ctV X Y fm_Ts_good dc_X3_readClause (pc := 21) (i := 12) (idx := 43) rfl (m_X3_fail_0 hAd hZ hGd) wl_X3_43 wm_X3_fail wy_X3_fail (by decide) ⟨rfl, rfl, rfl⟩ ⟨rfl, rfl⟩, List.forall_mem_cons.mpr ⟨rv_ctV X Y fm_Ts_good dc_X3_readClause (pc := 45) (i := 25) (idx := 43) rfl (m_X3_fail_0 hAd hZ hGd) wl_X3_43 wm_X3_fail wy_X3_fail (by decide) ⟨rfl, rfl, rfl⟩ ⟨rfl, rfl⟩, List.forall_mem_cons.mpr ⟨rv_ctV X Y fm_Ts_good dc_X3_readClause (pc := 87) (i := 49) (idx := 73) rfl (m_X3_readSum_0 hAd hZ hGd) wl_X3_73 wm_X3_readSum wy_X3_readSum (by decide) ⟨rfl, rfl, rfl⟩ ⟨rfl, rfl⟩, List.forall_mem_cons.mpr ⟨rv_ctV X Y fm_Ts_good dc_X3_readClause (pc := 115) (i := 64) (idx := 79) rfl (m_X3_open_0 hAd hZ hGd) wl_X3_79 wm_X3_open wy_X3_open (by decide) ⟨rfl, rfl, rfl⟩ ⟨rfl, rfl⟩, List.forall_mem_cons.mpr ⟨rv_ctV X Y fm_Ts_good dc_X3_readClause (pc := 123) (i := 68) (idx := 83) rfl (m_X3_readParts_0 hAd hZ hGd) wl_X3_83 wm_X3_readParts wy_X3_readParts (by decide) ⟨rfl, rfl, rfl⟩ ⟨rfl, rfl⟩, List.forall_mem_cons.mpr ⟨rv_ctV X Y fm_Ts_good dc_X3_readClause (pc := 132) (i := 72) (idx := 86) rfl (m_X3_close_0 hAd hZ hGd) wl_X3_86 wm_X3_close wy_X3_close (by decide) ⟨rfl, rfl, rfl⟩ ⟨rfl, rfl⟩, List.forall_mem_cons.mpr ⟨rv_ctV X Y fm_Ts_good dc_X3_readClause (pc := 182) (i := 99) (idx := 96) rfl (m_X3_seesDust_0 hAd hZ hGd) wl_X3_96 wm_X3_seesDust wy_X3_seesDust (by decide) ⟨rfl, rfl, rfl⟩ ⟨rfl, rfl⟩, fun _ h => absurd h List.not_mem_nil⟩⟩⟩⟩⟩⟩⟩⟩) (fun p e s m args below meth c V0 avs hpre hr hlk X Y id hid n hn q hq V ls st hI hG ih => by
  obtain rfl := List.mem_singleton.mp hid
  obtain rfl : _ = n := Option.some.inj ((show n_X3_readClause_0[5]? = some (5, ([rv_r 16, rv_i 0 255, rv_u], [], []), [6], 86, [], []) from rfl).symm.trans hn)
  obtain rfl : _ = q := Option.some.inj ((show cd_X3_readClause[5]? = some (9, .ldc 56, 2) from rfl).symm.trans hq)
  obtain rfl : st = [] := rv_sk_nil hG.2.1
  obtain ⟨x, hlx, -, -, -⟩ := rv_lokI rfl (hG.1 1 _ rfl)
  refine fs_index hAd X Y rfl (i := 0) (by decide) (fun adK adV h => h.2.2.1) rfl hlx hI.2.2.1 (by decide) (dc_X3_readClause (9, .ldc 56, 2) (List.mem_of_getElem? (i := 5) rfl)) (dc_X3_readClause (11, .iload_n 1, 1) (List.mem_of_getElem? (i := 6) rfl)) (dc_X3_readClause (12, .i2c, 1) (List.mem_of_getElem? (i := 7) rfl)) (dc_X3_readClause (13, .invokevirtual 58, 3) (List.mem_of_getElem? (i := 8) rfl)) (fun z z1 z2 => ?_)
  exact ih 6 (9, ([rv_r 16, rv_i 0 255, rv_u], [rv_i (-1) 12], []), [7, 11], 85, [], []) (16, .ifCond .ge 9, 3) rfl rfl V ls [.int z] hI ⟨hG.1, ⟨rv_okB z1 z2, trivial⟩, hG.2.2⟩ (by show ((85 : Int) + 0 + 1).toNat < ((86 : Int) + 0 + 1).toNat; decide))
def cd_X3_readText : List (Nat × Instr × Nat) := [(0, .aload_n 0, 1), (1, .iload_n 1, 1), (2, .putfield 18, 3), (5, .aload_n 0, 1), (6, .iconst 0, 1), (7, .putfield 22, 3), (10, .aload_n 0, 1), (11, .iconst 0, 1), (12, .putfield 25, 3), (15, .aload_n 0, 1), (16, .getfield 12, 3), (19, .invokevirtual 32, 3), (22, .iconst 1, 1), (23, .istore_n 2, 1), (24, .iconst 0, 1), (25, .istore_n 3, 1), (26, .iload_n 3, 1), (27, .sipush 200, 3), (30, .if_icmp .ge 54, 3), (33, .iload_n 2, 1), (34, .ifCond .eq 50, 3), (37, .aload_n 0, 1), (38, .invokevirtual 35, 3), (41, .ifCond .ne 8, 3), (44, .aload_n 0, 1), (45, .getfield 25, 3), (48, .ireturn, 1), (49, .aload_n 0, 1), (50, .invokevirtual 39, 3), (53, .bipush 59, 2), (55, .if_icmp .ne 7, 3), (58, .iconst 1, 1), (59, .goto 4, 3), (62, .iconst 0, 1), (63, .istore_n 2, 1), (64, .iload_n 2, 1), (65, .ifCond .eq 13, 3), (68, .aload_n 0, 1), (69, .dup, 1), (70, .getfield 22, 3), (73, .iconst 1, 1), (74, .iadd, 1), (75, .putfield 22, 3), (78, .iinc 3 1, 3), (81, .goto (-55), 3), (84, .aload_n 0, 1), (85, .getfield 22, 3), (88, .aload_n 0, 1), (89, .getfield 18, 3), (92, .if_icmp .ge 14, 3), (95, .aload_n 0, 1), (96, .iconst 1, 1), (97, .invokevirtual 43, 3), (100, .pop, 1), (101, .aload_n 0, 1), (102, .getfield 25, 3), (105, .ireturn, 1), (106, .aload_n 0, 1), (107, .getfield 12, 3), (110, .getfield 47, 3), (113, .ireturn, 1)]
theorem dc_X3_readText : ∀ q ∈ cd_X3_readText, decode prog_5_method_2_code q.1 = .ok (q.2.1, q.2.2) := by decide +kernel
def ch_X3_readText_0 : List (Nat × Instr × Nat) := [(0, .aload_n 0, 1), (1, .iload_n 1, 1), (2, .putfield 18, 3), (5, .aload_n 0, 1), (6, .iconst 0, 1), (7, .putfield 22, 3), (10, .aload_n 0, 1), (11, .iconst 0, 1), (12, .putfield 25, 3), (15, .aload_n 0, 1), (16, .getfield 12, 3), (19, .invokevirtual 32, 3), (22, .iconst 1, 1), (23, .istore_n 2, 1), (24, .iconst 0, 1), (25, .istore_n 3, 1)]
def ch_X3_readText_1 : List (Nat × Instr × Nat) := [(26, .iload_n 3, 1), (27, .sipush 200, 3), (30, .if_icmp .ge 54, 3), (33, .iload_n 2, 1), (34, .ifCond .eq 50, 3), (37, .aload_n 0, 1), (38, .invokevirtual 35, 3), (41, .ifCond .ne 8, 3), (44, .aload_n 0, 1), (45, .getfield 25, 3), (48, .ireturn, 1), (49, .aload_n 0, 1), (50, .invokevirtual 39, 3), (53, .bipush 59, 2), (55, .if_icmp .ne 7, 3), (58, .iconst 1, 1)]
def ch_X3_readText_2 : List (Nat × Instr × Nat) := [(59, .goto 4, 3), (62, .iconst 0, 1), (63, .istore_n 2, 1), (64, .iload_n 2, 1), (65, .ifCond .eq 13, 3), (68, .aload_n 0, 1), (69, .dup, 1), (70, .getfield 22, 3), (73, .iconst 1, 1), (74, .iadd, 1), (75, .putfield 22, 3), (78, .iinc 3 1, 3), (81, .goto (-55), 3), (84, .aload_n 0, 1), (85, .getfield 22, 3), (88, .aload_n 0, 1)]
def ch_X3_readText_3 : List (Nat × Instr × Nat) := [(89, .getfield 18, 3), (92, .if_icmp .ge 14, 3), (95, .aload_n 0, 1), (96, .iconst 1, 1), (97, .invokevirtual 43, 3), (100, .pop, 1), (101, .aload_n 0, 1), (102, .getfield 25, 3), (105, .ireturn, 1), (106, .aload_n 0, 1), (107, .getfield 12, 3), (110, .getfield 47, 3), (113, .ireturn, 1)]
set_option maxRecDepth 100000 in
theorem he_X3_readText : cd_X3_readText = ch_X3_readText_0 ++ (ch_X3_readText_1 ++ (ch_X3_readText_2 ++ (ch_X3_readText_3))) := rfl
noncomputable def gc_X3_readText : Nat → Option (Nat × Instr × Nat) := rv_ap 16 (rv_at ch_X3_readText_0) (rv_ap 16 (rv_at ch_X3_readText_1) (rv_ap 16 (rv_at ch_X3_readText_2) (rv_at ch_X3_readText_3)))
theorem hc_X3_readText : ∀ i : Nat, cd_X3_readText[i]? = gc_X3_readText i := by
  rw [he_X3_readText]
  exact rv_ap_eq (l := ch_X3_readText_0) (c := 16) (rv_ap_eq (l := ch_X3_readText_1) (c := 16) (rv_ap_eq (l := ch_X3_readText_2) (c := 16) (rv_at_eq ch_X3_readText_3) rfl) rfl) rfl
def K_X3_readText_0 : rv_K := ([rv_r 16, rv_full], [], [(16, 2), (16, 3), (16, 4), (17, 2), (17, 7), (17, 8), (18, 9999), (19, 9999), (20, 9999), (21, 9999), (22, 9999), (23, 9999)], [(0, (-2147483648), 2147483647)], [], [])
def ct_X3_readText_0 : List (Nat × rv_K) := [(11, K_X1_clear_0), (22, K_X3_readClause_0), (28, K_X3_next_0), (52, K_X3_fail_0)]
def n_X3_readText_0_0 : List rv_N := [
  (0, ([rv_r 16, rv_full, rv_u, rv_u], [], []), [1], 2923230, [], []),
  (1, ([rv_r 16, rv_full, rv_u, rv_u], [rv_r 16], []), [2], 2923229, [], []),
  (2, ([rv_r 16, rv_full, rv_u, rv_u], [(1, 0, (-2147483648), 2147483647, [(.inl 1, 0)], []), rv_r 16], []), [3], 2923228, [], []),
  (3, ([rv_r 16, rv_full, rv_u, rv_u], [], []), [4], 2923227, [], []),
  (4, ([rv_r 16, rv_full, rv_u, rv_u], [rv_r 16], []), [5], 2923226, [], []),
  (5, ([rv_r 16, rv_full, rv_u, rv_u], [rv_i 0 0, rv_r 16], []), [6], 2923225, [], []),
  (6, ([rv_r 16, rv_full, rv_u, rv_u], [], [((16, 3), 0, 0, [])]), [7], 2923224, [], []),
  (7, ([rv_r 16, rv_full, rv_u, rv_u], [rv_r 16], [((16, 3), 0, 0, [])]), [8], 2923223, [], []),
  (8, ([rv_r 16, rv_full, rv_u, rv_u], [rv_i 0 0, rv_r 16], [((16, 3), 0, 0, [])]), [9], 2923222, [], []),
  (9, ([rv_r 16, rv_full, rv_u, rv_u], [], [((16, 3), 0, 0, []), ((16, 4), 0, 0, [])]), [10], 2923221, [], []),
  (10, ([rv_r 16, rv_full, rv_u, rv_u], [rv_r 16], [((16, 3), 0, 0, []), ((16, 4), 0, 0, [])]), [11], 2923220, [], []),
  (11, ([rv_r 16, rv_full, rv_u, rv_u], [rv_r 17], [((16, 3), 0, 0, []), ((16, 4), 0, 0, [])]), [12], 2923219, [], [0]),
  (12, ([rv_r 16, rv_full, rv_u, rv_u], [], [((16, 3), 0, 0, []), ((16, 4), 0, 0, [])]), [13], 2923218, [], []),
  (13, ([rv_r 16, rv_full, rv_u, rv_u], [rv_i 1 1], [((16, 3), 0, 0, []), ((16, 4), 0, 0, [])]), [14], 2923217, [], []),
  (14, ([rv_r 16, rv_full, rv_i 1 1, rv_u], [], [((16, 3), 0, 0, []), ((16, 4), 0, 0, [])]), [15], 2923216, [], []),
  (15, ([rv_r 16, rv_full, rv_i 1 1, rv_u], [rv_i 0 0], [((16, 3), 0, 0, []), ((16, 4), 0, 0, [])]), [16], 2923215, [], [])]
def n_X3_readText_0_1 : List rv_N := [
  (16, ([rv_r 16, rv_full, rv_i 0 1, rv_i 0 200], [], []), [17], 2923214, [(3, (-14616))], []),
  (17, ([rv_r 16, rv_full, rv_i 0 1, rv_i 0 200], [(1, 0, 0, 200, [(.inl 3, 0)], [])], []), [18], 2923213, [(3, (-14616))], []),
  (18, ([rv_r 16, rv_full, rv_i 0 1, rv_i 0 200], [rv_i 200 200, (1, 0, 0, 200, [(.inl 3, 0)], [])], []), [19, 46], 2923212, [(3, (-14616))], []),
  (19, ([rv_r 16, rv_full, rv_i 0 1, rv_i 0 199], [], []), [20], 2908620, [(3, (-14616))], []),
  (20, ([rv_r 16, rv_full, rv_i 0 1, rv_i 0 199], [(1, 0, 0, 1, [(.inl 2, 0)], [])], []), [21, 46], 2908619, [(3, (-14616))], []),
  (21, ([rv_r 16, rv_full, (1, 1, 1, 1, [], []), rv_i 0 199], [], []), [22], 2908618, [(3, (-14616))], []),
  (22, ([rv_r 16, rv_full, (1, 1, 1, 1, [], []), rv_i 0 199], [rv_r 16], []), [23], 2908617, [(3, (-14616))], [1]),
  (23, ([rv_r 16, rv_full, (1, 1, 1, 1, [], []), rv_i 0 199], [rv_i 0 1], []), [24, 27], 2908616, [(3, (-14616))], []),
  (24, ([rv_r 16, rv_full, (1, 1, 1, 1, [], []), rv_i 0 199], [], []), [25], 2, [], []),
  (25, ([rv_r 16, rv_full, (1, 1, 1, 1, [], []), rv_i 0 199], [rv_r 16], []), [26], 1, [], []),
  (26, ([rv_r 16, rv_full, (1, 1, 1, 1, [], []), rv_i 0 199], [(1, 0, (-2147483648), 2147483647, [(.inr (16, 4), 0)], [])], []), [], 0, [], []),
  (27, ([rv_r 16, rv_full, (1, 1, 1, 1, [], []), rv_i 0 199], [], []), [28], 2908615, [(3, (-14616))], []),
  (28, ([rv_r 16, rv_full, (1, 1, 1, 1, [], []), rv_i 0 199], [rv_r 16], []), [29], 2908614, [(3, (-14616))], [2]),
  (29, ([rv_r 16, rv_full, (1, 1, 1, 1, [], []), rv_i 0 199], [rv_i (-1) 255], []), [30], 2908613, [(3, (-14616))], []),
  (30, ([rv_r 16, rv_full, (1, 1, 1, 1, [], []), rv_i 0 199], [rv_i 59 59, rv_i (-1) 255], []), [31, 33], 2908612, [(3, (-14616))], []),
  (31, ([rv_r 16, rv_full, (1, 1, 1, 1, [], []), rv_i 0 199], [], []), [32], 2908611, [(3, (-14616))], [])]
def n_X3_readText_0_2 : List rv_N := [
  (32, ([rv_r 16, rv_full, (1, 1, 1, 1, [], []), rv_i 0 199], [rv_i 1 1], []), [35], 2908610, [(3, (-14616))], []),
  (33, ([rv_r 16, rv_full, (1, 1, 1, 1, [], []), rv_i 0 199], [], []), [34], 2908610, [(3, (-14616))], []),
  (34, ([rv_r 16, rv_full, (1, 1, 1, 1, [], []), rv_i 0 199], [rv_i 0 0], []), [36], 2908609, [(3, (-14616))], []),
  (34, ([rv_r 16, rv_full, (1, 1, 1, 1, [], []), rv_i 0 199], [rv_i 1 1], []), [36], 2908609, [(3, (-14616))], []),
  (35, ([rv_r 16, rv_full, rv_i 0 1, rv_i 0 199], [], []), [37], 2908608, [(3, (-14616))], []),
  (36, ([rv_r 16, rv_full, rv_i 0 1, rv_i 0 199], [(1, 0, 0, 1, [(.inl 2, 0)], [])], []), [38, 44], 2908607, [(3, (-14616))], []),
  (37, ([rv_r 16, rv_full, (1, 1, 1, 1, [], []), rv_i 0 199], [], []), [39], 2908606, [(3, (-14616))], []),
  (38, ([rv_r 16, rv_full, (1, 1, 1, 1, [], []), rv_i 0 199], [rv_r 16], []), [40], 2908605, [(3, (-14616))], []),
  (39, ([rv_r 16, rv_full, (1, 1, 1, 1, [], []), rv_i 0 199], [rv_r 16, rv_r 16], []), [41], 2908604, [(3, (-14616))], []),
  (40, ([rv_r 16, rv_full, (1, 1, 1, 1, [], []), rv_i 0 199], [(1, 0, (-2147483648), 2147483647, [(.inr (16, 3), 0)], []), rv_r 16], []), [42], 2908603, [(3, (-14616))], []),
  (41, ([rv_r 16, rv_full, (1, 1, 1, 1, [], []), rv_i 0 199], [rv_i 1 1, (1, 0, (-2147483648), 2147483647, [(.inr (16, 3), 0)], []), rv_r 16], []), [43], 2908602, [(3, (-14616))], []),
  (42, ([rv_r 16, rv_full, (1, 1, 1, 1, [], []), rv_i 0 199], [(1, 0, (-2147483648), 2147483647, [(.inr (16, 3), 1)], []), rv_r 16], []), [44], 2908601, [(3, (-14616))], []),
  (43, ([rv_r 16, rv_full, rv_i 0 1, rv_i 0 199], [], []), [45], 2908600, [(3, (-14616))], []),
  (44, ([rv_r 16, rv_full, rv_i 0 1, rv_i 1 200], [], []), [16], 2923215, [(3, (-14616))], []),
  (45, ([rv_r 16, rv_full, rv_i 0 1, rv_i 0 200], [], []), [47], 11, [], []),
  (46, ([rv_r 16, rv_full, rv_i 0 1, rv_i 0 200], [rv_r 16], []), [48], 10, [], [])]
def n_X3_readText_0_3 : List rv_N := [
  (47, ([rv_r 16, rv_full, rv_i 0 1, rv_i 0 200], [(1, 0, (-2147483648), 2147483647, [(.inr (16, 3), 0)], [])], []), [49], 9, [], []),
  (48, ([rv_r 16, rv_full, rv_i 0 1, rv_i 0 200], [rv_r 16, (1, 0, (-2147483648), 2147483647, [(.inr (16, 3), 0)], [])], []), [50], 8, [], []),
  (49, ([rv_r 16, rv_full, rv_i 0 1, rv_i 0 200], [(1, 0, (-2147483648), 2147483647, [(.inr (16, 2), 0)], []), (1, 0, (-2147483648), 2147483647, [(.inr (16, 3), 0)], [])], []), [51, 58], 7, [], []),
  (50, ([rv_r 16, rv_full, rv_i 0 1, rv_i 0 200], [], [((16, 2), (-2147483647), 2147483647, []), ((16, 3), (-2147483648), 2147483646, [])]), [52], 6, [], []),
  (51, ([rv_r 16, rv_full, rv_i 0 1, rv_i 0 200], [rv_r 16], [((16, 2), (-2147483647), 2147483647, []), ((16, 3), (-2147483648), 2147483646, [])]), [53], 5, [], []),
  (52, ([rv_r 16, rv_full, rv_i 0 1, rv_i 0 200], [rv_i 1 1, rv_r 16], [((16, 2), (-2147483647), 2147483647, []), ((16, 3), (-2147483648), 2147483646, [])]), [54], 4, [], [3]),
  (53, ([rv_r 16, rv_full, rv_i 0 1, rv_i 0 200], [rv_i 0 0], [((16, 2), (-2147483647), 2147483647, []), ((16, 3), (-2147483648), 2147483646, [])]), [55], 3, [], []),
  (54, ([rv_r 16, rv_full, rv_i 0 1, rv_i 0 200], [], [((16, 2), (-2147483647), 2147483647, []), ((16, 3), (-2147483648), 2147483646, [])]), [56], 2, [], []),
  (55, ([rv_r 16, rv_full, rv_i 0 1, rv_i 0 200], [rv_r 16], [((16, 2), (-2147483647), 2147483647, []), ((16, 3), (-2147483648), 2147483646, [])]), [57], 1, [], []),
  (56, ([rv_r 16, rv_full, rv_i 0 1, rv_i 0 200], [(1, 0, (-2147483648), 2147483647, [(.inr (16, 4), 0)], [])], [((16, 2), (-2147483647), 2147483647, []), ((16, 3), (-2147483648), 2147483646, [])]), [], 0, [], []),
  (57, ([rv_r 16, rv_full, rv_i 0 1, rv_i 0 200], [], []), [59], 3, [], []),
  (58, ([rv_r 16, rv_full, rv_i 0 1, rv_i 0 200], [rv_r 16], []), [60], 2, [], []),
  (59, ([rv_r 16, rv_full, rv_i 0 1, rv_i 0 200], [rv_r 17], []), [61], 1, [], []),
  (60, ([rv_r 16, rv_full, rv_i 0 1, rv_i 0 200], [(1, 0, (-2147483648), 2147483647, [(.inr (17, 7), 0)], [])], []), [], 0, [], [])]
def n_X3_readText_0 : List rv_N := n_X3_readText_0_0 ++ (n_X3_readText_0_1 ++ (n_X3_readText_0_2 ++ (n_X3_readText_0_3)))
noncomputable def gn_X3_readText_0 : Nat → Option rv_N := rv_ap 16 (rv_at n_X3_readText_0_0) (rv_ap 16 (rv_at n_X3_readText_0_1) (rv_ap 16 (rv_at n_X3_readText_0_2) (rv_at n_X3_readText_0_3)))
theorem hn_X3_readText_0 : ∀ i : Nat, n_X3_readText_0[i]? = gn_X3_readText_0 i := rv_ap_eq (l := n_X3_readText_0_0) (c := 16) (rv_ap_eq (l := n_X3_readText_0_1) (c := 16) (rv_ap_eq (l := n_X3_readText_0_2) (c := 16) (rv_at_eq n_X3_readText_0_3) rfl) rfl) rfl
set_option maxRecDepth 100000 in
theorem a_X3_readText_0 : rv_all (fm_tm, flX3, fm_wr, kcX3, klX3, K_X3_readText_0.2.2.1, [], 4) ct_X3_readText_0 cd_X3_readText n_X3_readText_0 K_X3_readText_0 [] 0 n_X3_readText_0 = true := rv_fast hn_X3_readText_0 hc_X3_readText (by decide +kernel)
theorem m_X3_readText_0 {l : Launch} {D : va_G} {ad : Nat → Nat} {cy : Nat → ClassId} {Z : State → Heap → Prop} {Gp : fm_V → Prop} (hAd : fm_Ad fm_tm ad) (hZ : fm_Zk (fm_A fm_tm ad) Z) (hGd : fm_Gd Gp) : rv_Met l D fm_cl fm_tm ad cy fm_nt Z Gp yX3_readText (.code yX3_readText prog_5_method_2_code 4 (some .int) :: fm_Ts) { frames := 26, cells := 0, slots := 0, locals := 2600 } K_X3_readText_0 := rv_met hAd hZ (Or.inl (by decide +kernel)) evX3 dc_X3_readText a_X3_readText_0 ⟨rfl, rfl, rfl⟩ (by decide +kernel) (by decide +kernel) (by decide) (fm_gm hGd (by decide +kernel)) (Or.inl rfl) (fun p e s m args below meth c Q X Y => List.forall_mem_cons.mpr ⟨rv_ctV X Y fm_Ts_good dc_X3_readText (pc := 19) (i := 11) (idx := 32) rfl (m_X1_clear_0 hAd hZ hGd) wl_X3_32 wm_X1_clear wy_X1_clear (by decide) ⟨rfl, rfl, rfl⟩ ⟨rfl, rfl⟩, List.forall_mem_cons.mpr ⟨rv_ctV X Y fm_Ts_good dc_X3_readText (pc := 38) (i := 22) (idx := 35) rfl (m_X3_readClause_0 hAd hZ hGd) wl_X3_35 wm_X3_readClause wy_X3_readClause (by decide) ⟨rfl, rfl, rfl⟩ ⟨rfl, rfl⟩, List.forall_mem_cons.mpr ⟨rv_ctV X Y fm_Ts_good dc_X3_readText (pc := 50) (i := 28) (idx := 39) rfl (m_X3_next_0 hAd hZ hGd) wl_X3_39 wm_X3_next wy_X3_next (by decide) ⟨rfl, rfl, rfl⟩ ⟨rfl, rfl⟩, List.forall_mem_cons.mpr ⟨rv_ctV X Y fm_Ts_good dc_X3_readText (pc := 97) (i := 52) (idx := 43) rfl (m_X3_fail_0 hAd hZ hGd) wl_X3_43 wm_X3_fail wy_X3_fail (by decide) ⟨rfl, rfl, rfl⟩ ⟨rfl, rfl⟩, fun _ h => absurd h List.not_mem_nil⟩⟩⟩⟩) (fun _ _ _ _ _ _ _ _ _ _ _ _ _ _ _ _ h => absurd h List.not_mem_nil)
def cd_X1_take : List (Nat × Instr × Nat) := [(0, .aload_n 1, 1), (1, .getfield 9, 3), (4, .iconst 0, 1), (5, .aload_n 0, 1), (6, .getfield 9, 3), (9, .iconst 0, 1), (10, .sipush 200, 3), (13, .invokestatic 47, 3), (16, .aload_n 1, 1), (17, .getfield 15, 3), (20, .iconst 0, 1), (21, .aload_n 0, 1), (22, .getfield 15, 3), (25, .iconst 0, 1), (26, .sipush 200, 3), (29, .invokestatic 47, 3), (32, .aload_n 1, 1), (33, .getfield 22, 3), (36, .iconst 0, 1), (37, .aload_n 0, 1), (38, .getfield 22, 3), (41, .iconst 0, 1), (42, .bipush 14, 2), (44, .invokestatic 47, 3), (47, .aload_n 1, 1), (48, .getfield 25, 3), (51, .iconst 0, 1), (52, .aload_n 0, 1), (53, .getfield 25, 3), (56, .iconst 0, 1), (57, .bipush 14, 2), (59, .invokestatic 47, 3), (62, .aload_n 1, 1), (63, .getfield 28, 3), (66, .iconst 0, 1), (67, .aload_n 0, 1), (68, .getfield 28, 3), (71, .iconst 0, 1), (72, .bipush 14, 2), (74, .invokestatic 47, 3), (77, .aload_n 1, 1), (78, .getfield 31, 3), (81, .iconst 0, 1), (82, .aload_n 0, 1), (83, .getfield 31, 3), (86, .iconst 0, 1), (87, .bipush 14, 2), (89, .invokestatic 47, 3), (92, .aload_n 0, 1), (93, .aload_n 1, 1), (94, .getfield 18, 3), (97, .putfield 18, 3), (100, .aload_n 0, 1), (101, .aload_n 1, 1), (102, .getfield 34, 3), (105, .putfield 34, 3), (108, .aload_n 0, 1), (109, .aload_n 1, 1), (110, .getfield 37, 3), (113, .putfield 37, 3), (116, .return_, 1)]
theorem dc_X1_take : ∀ q ∈ cd_X1_take, decode prog_3_method_2_code q.1 = .ok (q.2.1, q.2.2) := by decide +kernel
def ch_X1_take_0 : List (Nat × Instr × Nat) := [(0, .aload_n 1, 1), (1, .getfield 9, 3), (4, .iconst 0, 1), (5, .aload_n 0, 1), (6, .getfield 9, 3), (9, .iconst 0, 1), (10, .sipush 200, 3), (13, .invokestatic 47, 3), (16, .aload_n 1, 1), (17, .getfield 15, 3), (20, .iconst 0, 1), (21, .aload_n 0, 1), (22, .getfield 15, 3), (25, .iconst 0, 1), (26, .sipush 200, 3), (29, .invokestatic 47, 3)]
def ch_X1_take_1 : List (Nat × Instr × Nat) := [(32, .aload_n 1, 1), (33, .getfield 22, 3), (36, .iconst 0, 1), (37, .aload_n 0, 1), (38, .getfield 22, 3), (41, .iconst 0, 1), (42, .bipush 14, 2), (44, .invokestatic 47, 3), (47, .aload_n 1, 1), (48, .getfield 25, 3), (51, .iconst 0, 1), (52, .aload_n 0, 1), (53, .getfield 25, 3), (56, .iconst 0, 1), (57, .bipush 14, 2), (59, .invokestatic 47, 3)]
def ch_X1_take_2 : List (Nat × Instr × Nat) := [(62, .aload_n 1, 1), (63, .getfield 28, 3), (66, .iconst 0, 1), (67, .aload_n 0, 1), (68, .getfield 28, 3), (71, .iconst 0, 1), (72, .bipush 14, 2), (74, .invokestatic 47, 3), (77, .aload_n 1, 1), (78, .getfield 31, 3), (81, .iconst 0, 1), (82, .aload_n 0, 1), (83, .getfield 31, 3), (86, .iconst 0, 1), (87, .bipush 14, 2), (89, .invokestatic 47, 3)]
def ch_X1_take_3 : List (Nat × Instr × Nat) := [(92, .aload_n 0, 1), (93, .aload_n 1, 1), (94, .getfield 18, 3), (97, .putfield 18, 3), (100, .aload_n 0, 1), (101, .aload_n 1, 1), (102, .getfield 34, 3), (105, .putfield 34, 3), (108, .aload_n 0, 1), (109, .aload_n 1, 1), (110, .getfield 37, 3), (113, .putfield 37, 3), (116, .return_, 1)]
set_option maxRecDepth 100000 in
theorem he_X1_take : cd_X1_take = ch_X1_take_0 ++ (ch_X1_take_1 ++ (ch_X1_take_2 ++ (ch_X1_take_3))) := rfl
noncomputable def gc_X1_take : Nat → Option (Nat × Instr × Nat) := rv_ap 16 (rv_at ch_X1_take_0) (rv_ap 16 (rv_at ch_X1_take_1) (rv_ap 16 (rv_at ch_X1_take_2) (rv_at ch_X1_take_3)))
theorem hc_X1_take : ∀ i : Nat, cd_X1_take[i]? = gc_X1_take i := by
  rw [he_X1_take]
  exact rv_ap_eq (l := ch_X1_take_0) (c := 16) (rv_ap_eq (l := ch_X1_take_1) (c := 16) (rv_ap_eq (l := ch_X1_take_2) (c := 16) (rv_at_eq ch_X1_take_3) rfl) rfl) rfl
def K_X1_take_0 : rv_K := ([rv_r 7, rv_r 17], [], [(7, 2), (7, 7), (7, 8), (8, 9999), (9, 9999), (10, 9999), (11, 9999), (12, 9999), (13, 9999)], [], [], [])
def ct_X1_take_0 : List (Nat × rv_K) := [(7, ([rv_r 18, rv_i 0 0, rv_r 8, rv_i 0 0, rv_i 200 200], [], [(8, 9999)], [], [], [])), (15, ([rv_r 19, rv_i 0 0, rv_r 9, rv_i 0 0, rv_i 200 200], [], [(9, 9999)], [], [], [])), (23, ([rv_r 20, rv_i 0 0, rv_r 10, rv_i 0 0, rv_i 14 14], [], [(10, 9999)], [], [], [])), (31, ([rv_r 21, rv_i 0 0, rv_r 11, rv_i 0 0, rv_i 14 14], [], [(11, 9999)], [], [], [])), (39, ([rv_r 22, rv_i 0 0, rv_r 12, rv_i 0 0, rv_i 14 14], [], [(12, 9999)], [], [], [])), (47, ([rv_r 23, rv_i 0 0, rv_r 13, rv_i 0 0, rv_i 14 14], [], [(13, 9999)], [], [], []))]
def n_X1_take_0_0 : List rv_N := [
  (0, ([rv_r 7, rv_r 17], [], []), [1], 60, [], []),
  (1, ([rv_r 7, rv_r 17], [rv_r 17], []), [2], 59, [], []),
  (2, ([rv_r 7, rv_r 17], [rv_r 18], []), [3], 58, [], []),
  (3, ([rv_r 7, rv_r 17], [rv_i 0 0, rv_r 18], []), [4], 57, [], []),
  (4, ([rv_r 7, rv_r 17], [rv_r 7, rv_i 0 0, rv_r 18], []), [5], 56, [], []),
  (5, ([rv_r 7, rv_r 17], [rv_r 8, rv_i 0 0, rv_r 18], []), [6], 55, [], []),
  (6, ([rv_r 7, rv_r 17], [rv_i 0 0, rv_r 8, rv_i 0 0, rv_r 18], []), [7], 54, [], []),
  (7, ([rv_r 7, rv_r 17], [rv_i 200 200, rv_i 0 0, rv_r 8, rv_i 0 0, rv_r 18], []), [8], 53, [], [0]),
  (8, ([rv_r 7, rv_r 17], [], []), [9], 52, [], []),
  (9, ([rv_r 7, rv_r 17], [rv_r 17], []), [10], 51, [], []),
  (10, ([rv_r 7, rv_r 17], [rv_r 19], []), [11], 50, [], []),
  (11, ([rv_r 7, rv_r 17], [rv_i 0 0, rv_r 19], []), [12], 49, [], []),
  (12, ([rv_r 7, rv_r 17], [rv_r 7, rv_i 0 0, rv_r 19], []), [13], 48, [], []),
  (13, ([rv_r 7, rv_r 17], [rv_r 9, rv_i 0 0, rv_r 19], []), [14], 47, [], []),
  (14, ([rv_r 7, rv_r 17], [rv_i 0 0, rv_r 9, rv_i 0 0, rv_r 19], []), [15], 46, [], []),
  (15, ([rv_r 7, rv_r 17], [rv_i 200 200, rv_i 0 0, rv_r 9, rv_i 0 0, rv_r 19], []), [16], 45, [], [1])]
def n_X1_take_0_1 : List rv_N := [
  (16, ([rv_r 7, rv_r 17], [], []), [17], 44, [], []),
  (17, ([rv_r 7, rv_r 17], [rv_r 17], []), [18], 43, [], []),
  (18, ([rv_r 7, rv_r 17], [rv_r 20], []), [19], 42, [], []),
  (19, ([rv_r 7, rv_r 17], [rv_i 0 0, rv_r 20], []), [20], 41, [], []),
  (20, ([rv_r 7, rv_r 17], [rv_r 7, rv_i 0 0, rv_r 20], []), [21], 40, [], []),
  (21, ([rv_r 7, rv_r 17], [rv_r 10, rv_i 0 0, rv_r 20], []), [22], 39, [], []),
  (22, ([rv_r 7, rv_r 17], [rv_i 0 0, rv_r 10, rv_i 0 0, rv_r 20], []), [23], 38, [], []),
  (23, ([rv_r 7, rv_r 17], [rv_i 14 14, rv_i 0 0, rv_r 10, rv_i 0 0, rv_r 20], []), [24], 37, [], [2]),
  (24, ([rv_r 7, rv_r 17], [], []), [25], 36, [], []),
  (25, ([rv_r 7, rv_r 17], [rv_r 17], []), [26], 35, [], []),
  (26, ([rv_r 7, rv_r 17], [rv_r 21], []), [27], 34, [], []),
  (27, ([rv_r 7, rv_r 17], [rv_i 0 0, rv_r 21], []), [28], 33, [], []),
  (28, ([rv_r 7, rv_r 17], [rv_r 7, rv_i 0 0, rv_r 21], []), [29], 32, [], []),
  (29, ([rv_r 7, rv_r 17], [rv_r 11, rv_i 0 0, rv_r 21], []), [30], 31, [], []),
  (30, ([rv_r 7, rv_r 17], [rv_i 0 0, rv_r 11, rv_i 0 0, rv_r 21], []), [31], 30, [], []),
  (31, ([rv_r 7, rv_r 17], [rv_i 14 14, rv_i 0 0, rv_r 11, rv_i 0 0, rv_r 21], []), [32], 29, [], [3])]
def n_X1_take_0_2 : List rv_N := [
  (32, ([rv_r 7, rv_r 17], [], []), [33], 28, [], []),
  (33, ([rv_r 7, rv_r 17], [rv_r 17], []), [34], 27, [], []),
  (34, ([rv_r 7, rv_r 17], [rv_r 22], []), [35], 26, [], []),
  (35, ([rv_r 7, rv_r 17], [rv_i 0 0, rv_r 22], []), [36], 25, [], []),
  (36, ([rv_r 7, rv_r 17], [rv_r 7, rv_i 0 0, rv_r 22], []), [37], 24, [], []),
  (37, ([rv_r 7, rv_r 17], [rv_r 12, rv_i 0 0, rv_r 22], []), [38], 23, [], []),
  (38, ([rv_r 7, rv_r 17], [rv_i 0 0, rv_r 12, rv_i 0 0, rv_r 22], []), [39], 22, [], []),
  (39, ([rv_r 7, rv_r 17], [rv_i 14 14, rv_i 0 0, rv_r 12, rv_i 0 0, rv_r 22], []), [40], 21, [], [4]),
  (40, ([rv_r 7, rv_r 17], [], []), [41], 20, [], []),
  (41, ([rv_r 7, rv_r 17], [rv_r 17], []), [42], 19, [], []),
  (42, ([rv_r 7, rv_r 17], [rv_r 23], []), [43], 18, [], []),
  (43, ([rv_r 7, rv_r 17], [rv_i 0 0, rv_r 23], []), [44], 17, [], []),
  (44, ([rv_r 7, rv_r 17], [rv_r 7, rv_i 0 0, rv_r 23], []), [45], 16, [], []),
  (45, ([rv_r 7, rv_r 17], [rv_r 13, rv_i 0 0, rv_r 23], []), [46], 15, [], []),
  (46, ([rv_r 7, rv_r 17], [rv_i 0 0, rv_r 13, rv_i 0 0, rv_r 23], []), [47], 14, [], []),
  (47, ([rv_r 7, rv_r 17], [rv_i 14 14, rv_i 0 0, rv_r 13, rv_i 0 0, rv_r 23], []), [48], 13, [], [5])]
def n_X1_take_0_3 : List rv_N := [
  (48, ([rv_r 7, rv_r 17], [], []), [49], 12, [], []),
  (49, ([rv_r 7, rv_r 17], [rv_r 7], []), [50], 11, [], []),
  (50, ([rv_r 7, rv_r 17], [rv_r 17, rv_r 7], []), [51], 10, [], []),
  (51, ([rv_r 7, rv_r 17], [(1, 0, 0, 200, [(.inr (17, 2), 0)], []), rv_r 7], []), [52], 9, [], []),
  (52, ([rv_r 7, rv_r 17], [], []), [53], 8, [], []),
  (53, ([rv_r 7, rv_r 17], [rv_r 7], []), [54], 7, [], []),
  (54, ([rv_r 7, rv_r 17], [rv_r 17, rv_r 7], []), [55], 6, [], []),
  (55, ([rv_r 7, rv_r 17], [(1, 0, (-2147483648), 2147483647, [(.inr (17, 7), 0)], []), rv_r 7], []), [56], 5, [], []),
  (56, ([rv_r 7, rv_r 17], [], []), [57], 4, [], []),
  (57, ([rv_r 7, rv_r 17], [rv_r 7], []), [58], 3, [], []),
  (58, ([rv_r 7, rv_r 17], [rv_r 17, rv_r 7], []), [59], 2, [], []),
  (59, ([rv_r 7, rv_r 17], [(1, 0, 0, 1, [(.inr (17, 8), 0)], []), rv_r 7], []), [60], 1, [], []),
  (60, ([rv_r 7, rv_r 17], [], []), [], 0, [], [])]
def n_X1_take_0 : List rv_N := n_X1_take_0_0 ++ (n_X1_take_0_1 ++ (n_X1_take_0_2 ++ (n_X1_take_0_3)))
noncomputable def gn_X1_take_0 : Nat → Option rv_N := rv_ap 16 (rv_at n_X1_take_0_0) (rv_ap 16 (rv_at n_X1_take_0_1) (rv_ap 16 (rv_at n_X1_take_0_2) (rv_at n_X1_take_0_3)))
theorem hn_X1_take_0 : ∀ i : Nat, n_X1_take_0[i]? = gn_X1_take_0 i := rv_ap_eq (l := n_X1_take_0_0) (c := 16) (rv_ap_eq (l := n_X1_take_0_1) (c := 16) (rv_ap_eq (l := n_X1_take_0_2) (c := 16) (rv_at_eq n_X1_take_0_3) rfl) rfl) rfl
set_option maxRecDepth 100000 in
theorem a_X1_take_0 : rv_all (fm_tm, flX1, fm_wr, kcX1, klX1, K_X1_take_0.2.2.1, [], 2) ct_X1_take_0 cd_X1_take n_X1_take_0 K_X1_take_0 [] 0 n_X1_take_0 = true := rv_fast hn_X1_take_0 hc_X1_take (by decide +kernel)
theorem m_X1_take_0 {l : Launch} {D : va_G} {ad : Nat → Nat} {cy : Nat → ClassId} {Z : State → Heap → Prop} {Gp : fm_V → Prop} (hAd : fm_Ad fm_tm ad) (hZ : fm_Zk (fm_A fm_tm ad) Z) (hGd : fm_Gd Gp) : rv_Met l D fm_cl fm_tm ad cy fm_nt Z Gp yX1_take (.code yX1_take prog_3_method_2_code 2 none :: fm_Ts) { frames := 1, cells := 0, slots := 0, locals := 100 } K_X1_take_0 := rv_met hAd hZ (Or.inl (by decide +kernel)) evX1 dc_X1_take a_X1_take_0 ⟨rfl, rfl, rfl⟩ (by decide +kernel) (by decide +kernel) (by decide) (fm_gm hGd (by decide +kernel)) (rfl) (fun p e s m args below meth c Q X Y => List.forall_mem_cons.mpr ⟨rv_ctC X dc_X1_take (pc := 13) (i := 7) (idx := 47) rfl wl_X1_47 fm_acw (by decide +kernel) (a := 18) (b := 8) (n := 200) ⟨rfl, rfl⟩ (by decide) rfl, List.forall_mem_cons.mpr ⟨rv_ctC X dc_X1_take (pc := 29) (i := 15) (idx := 47) rfl wl_X1_47 fm_acw (by decide +kernel) (a := 19) (b := 9) (n := 200) ⟨rfl, rfl⟩ (by decide) rfl, List.forall_mem_cons.mpr ⟨rv_ctC X dc_X1_take (pc := 44) (i := 23) (idx := 47) rfl wl_X1_47 fm_acw (by decide +kernel) (a := 20) (b := 10) (n := 14) ⟨rfl, rfl⟩ (by decide) rfl, List.forall_mem_cons.mpr ⟨rv_ctC X dc_X1_take (pc := 59) (i := 31) (idx := 47) rfl wl_X1_47 fm_acw (by decide +kernel) (a := 21) (b := 11) (n := 14) ⟨rfl, rfl⟩ (by decide) rfl, List.forall_mem_cons.mpr ⟨rv_ctC X dc_X1_take (pc := 74) (i := 39) (idx := 47) rfl wl_X1_47 fm_acw (by decide +kernel) (a := 22) (b := 12) (n := 14) ⟨rfl, rfl⟩ (by decide) rfl, List.forall_mem_cons.mpr ⟨rv_ctC X dc_X1_take (pc := 89) (i := 47) (idx := 47) rfl wl_X1_47 fm_acw (by decide +kernel) (a := 23) (b := 13) (n := 14) ⟨rfl, rfl⟩ (by decide) rfl, fun _ h => absurd h List.not_mem_nil⟩⟩⟩⟩⟩⟩) (fun _ _ _ _ _ _ _ _ _ _ _ _ _ _ _ _ h => absurd h List.not_mem_nil)
def cd_X7_law : List (Nat × Instr × Nat) := [(0, .iload_n 1, 1), (1, .iconst 1, 1), (2, .sipush 200, 3), (5, .invokestatic 80, 3), (8, .ifCond .eq 14, 3), (11, .aload_n 0, 1), (12, .getfield 12, 3), (15, .getfield 137, 3), (18, .iload_n 1, 1), (19, .if_icmp .ge 5, 3), (22, .iconst (-1), 1), (23, .ireturn, 1), (24, .aload_n 0, 1), (25, .getfield 31, 3), (28, .iload_n 1, 1), (29, .invokevirtual 140, 3), (32, .istore_n 2, 1), (33, .aload_n 0, 1), (34, .getfield 12, 3), (37, .iconst 0, 1), (38, .putfield 137, 3), (41, .iload_n 2, 1), (42, .ifCond .lt 17, 3), (45, .aload_n 0, 1), (46, .getfield 22, 3), (49, .aload_n 0, 1), (50, .getfield 31, 3), (53, .getfield 144, 3), (56, .invokevirtual 147, 3), (59, .iload_n 2, 1), (60, .ireturn, 1)]
theorem dc_X7_law : ∀ q ∈ cd_X7_law, decode prog_1_method_8_code q.1 = .ok (q.2.1, q.2.2) := by decide +kernel
def K_X7_law_0 : rv_K := ([rv_r 0, rv_full], [], [(3, 1), (7, 2), (7, 7), (7, 8), (8, 9999), (9, 9999), (10, 9999), (11, 9999), (12, 9999), (13, 9999), (16, 2), (16, 3), (16, 4), (17, 2), (17, 7), (17, 8), (18, 9999), (19, 9999), (20, 9999), (21, 9999), (22, 9999), (23, 9999)], [(0, (-2147483648), 2147483647)], [], [])
def ct_X7_law_0 : List (Nat × rv_K) := [(3, K_X7_isWithin_6), (15, K_X3_readText_0), (28, K_X1_take_0)]
def n_X7_law_0_0 : List rv_N := [
  (0, ([rv_r 0, rv_full, rv_u], [], []), [1], 28, [], []),
  (1, ([rv_r 0, rv_full, rv_u], [(1, 0, (-2147483648), 2147483647, [(.inl 1, 0)], [])], []), [2], 27, [], []),
  (2, ([rv_r 0, rv_full, rv_u], [rv_i 1 1, (1, 0, (-2147483648), 2147483647, [(.inl 1, 0)], [])], []), [3], 26, [], []),
  (3, ([rv_r 0, rv_full, rv_u], [rv_i 200 200, rv_i 1 1, (1, 0, (-2147483648), 2147483647, [(.inl 1, 0)], [])], []), [4], 25, [], [0]),
  (4, ([rv_r 0, rv_full, rv_u], [(1, 0, 0, 1, [], [(.inl 1, 1, 200)])], []), [5, 10], 24, [], []),
  (5, ([rv_r 0, rv_i 1 200, rv_u], [], []), [6], 23, [], []),
  (6, ([rv_r 0, rv_i 1 200, rv_u], [rv_r 0], []), [7], 22, [], []),
  (7, ([rv_r 0, rv_i 1 200, rv_u], [rv_r 3], []), [8], 21, [], []),
  (8, ([rv_r 0, rv_i 1 200, rv_u], [(1, 0, (-2147483648), 2147483647, [(.inr (3, 1), 0)], [])], []), [9], 20, [], []),
  (9, ([rv_r 0, rv_i 1 200, rv_u], [(1, 0, 1, 200, [(.inl 1, 0)], []), (1, 0, (-2147483648), 2147483647, [(.inr (3, 1), 0)], [])], []), [10, 12], 19, [], []),
  (10, ([rv_r 0, rv_full, rv_u], [], []), [11], 1, [], []),
  (11, ([rv_r 0, rv_full, rv_u], [rv_i (-1) (-1)], []), [], 0, [], []),
  (12, ([rv_r 0, rv_i 1 200, rv_u], [], [((3, 1), 1, 2147483647, [])]), [13], 18, [], []),
  (13, ([rv_r 0, rv_i 1 200, rv_u], [rv_r 0], [((3, 1), 1, 2147483647, [])]), [14], 17, [], []),
  (14, ([rv_r 0, rv_i 1 200, rv_u], [rv_r 16], [((3, 1), 1, 2147483647, [])]), [15], 16, [], []),
  (15, ([rv_r 0, rv_i 1 200, rv_u], [(1, 0, 1, 200, [(.inl 1, 0)], []), rv_r 16], [((3, 1), 1, 2147483647, [])]), [16], 15, [], [1])]
def n_X7_law_0_1 : List rv_N := [
  (16, ([rv_r 0, rv_i 1 200, rv_u], [rv_full], [((3, 1), 1, 2147483647, [])]), [17], 14, [], []),
  (17, ([rv_r 0, rv_i 1 200, rv_full], [], [((3, 1), 1, 2147483647, [])]), [18], 13, [], []),
  (18, ([rv_r 0, rv_i 1 200, rv_full], [rv_r 0], [((3, 1), 1, 2147483647, [])]), [19], 12, [], []),
  (19, ([rv_r 0, rv_i 1 200, rv_full], [rv_r 3], [((3, 1), 1, 2147483647, [])]), [20], 11, [], []),
  (20, ([rv_r 0, rv_i 1 200, rv_full], [rv_i 0 0, rv_r 3], [((3, 1), 1, 2147483647, [])]), [21], 10, [], []),
  (21, ([rv_r 0, rv_i 1 200, rv_full], [], [((3, 1), 0, 0, [])]), [22], 9, [], []),
  (22, ([rv_r 0, rv_i 1 200, rv_full], [(1, 0, (-2147483648), 2147483647, [(.inl 2, 0)], [])], [((3, 1), 0, 0, [])]), [23, 29], 8, [], []),
  (23, ([rv_r 0, rv_i 1 200, rv_i 0 2147483647], [], [((3, 1), 0, 0, [])]), [24], 7, [], []),
  (24, ([rv_r 0, rv_i 1 200, rv_i 0 2147483647], [rv_r 0], [((3, 1), 0, 0, [])]), [25], 6, [], []),
  (25, ([rv_r 0, rv_i 1 200, rv_i 0 2147483647], [rv_r 7], [((3, 1), 0, 0, [])]), [26], 5, [], []),
  (26, ([rv_r 0, rv_i 1 200, rv_i 0 2147483647], [rv_r 0, rv_r 7], [((3, 1), 0, 0, [])]), [27], 4, [], []),
  (27, ([rv_r 0, rv_i 1 200, rv_i 0 2147483647], [rv_r 16, rv_r 7], [((3, 1), 0, 0, [])]), [28], 3, [], []),
  (28, ([rv_r 0, rv_i 1 200, rv_i 0 2147483647], [rv_r 17, rv_r 7], [((3, 1), 0, 0, [])]), [29], 2, [], [2]),
  (29, ([rv_r 0, rv_i 1 200, rv_full], [], [((3, 1), 0, 0, [])]), [30], 1, [], []),
  (30, ([rv_r 0, rv_i 1 200, rv_full], [(1, 0, (-2147483648), 2147483647, [(.inl 2, 0)], [])], [((3, 1), 0, 0, [])]), [], 0, [], [])]
def n_X7_law_0 : List rv_N := n_X7_law_0_0 ++ (n_X7_law_0_1)
noncomputable def gn_X7_law_0 : Nat → Option rv_N := rv_ap 16 (rv_at n_X7_law_0_0) (rv_at n_X7_law_0_1)
theorem hn_X7_law_0 : ∀ i : Nat, n_X7_law_0[i]? = gn_X7_law_0 i := rv_ap_eq (l := n_X7_law_0_0) (c := 16) (rv_at_eq n_X7_law_0_1) rfl
set_option maxRecDepth 100000 in
theorem a_X7_law_0 : rv_all (fm_tm, flX7, fm_wr, kcX7, klX7, K_X7_law_0.2.2.1, [], 3) ct_X7_law_0 cd_X7_law n_X7_law_0 K_X7_law_0 [] 0 n_X7_law_0 = true := rv_fast hn_X7_law_0 (rv_at_eq cd_X7_law) (by decide +kernel)
theorem m_X7_law_0 {l : Launch} {D : va_G} {ad : Nat → Nat} {cy : Nat → ClassId} {Z : State → Heap → Prop} {Gp : fm_V → Prop} (hAd : fm_Ad fm_tm ad) (hZ : fm_Zk (fm_A fm_tm ad) Z) (hGd : fm_Gd Gp) : rv_Met l D fm_cl fm_tm ad cy fm_nt Z Gp yX7_law (.code yX7_law prog_1_method_8_code 3 (some .int) :: fm_Ts) { frames := 27, cells := 0, slots := 0, locals := 2700 } K_X7_law_0 := rv_met hAd hZ (Or.inl (by decide +kernel)) evX7 dc_X7_law a_X7_law_0 ⟨rfl, rfl, rfl⟩ (by decide +kernel) (by decide +kernel) (by decide) (fm_gm hGd (by decide +kernel)) (Or.inl rfl) (fun p e s m args below meth c Q X Y => List.forall_mem_cons.mpr ⟨rv_ctS X Y fm_Ts_good dc_X7_law (pc := 5) (i := 3) (idx := 80) rfl (m_X7_isWithin_6 hAd hZ hGd) wl_X7_80 wm_X7_isWithin wy_X7_isWithin (by decide) rfl, List.forall_mem_cons.mpr ⟨rv_ctV X Y fm_Ts_good dc_X7_law (pc := 29) (i := 15) (idx := 140) rfl (m_X3_readText_0 hAd hZ hGd) wl_X7_140 wm_X3_readText wy_X3_readText (by decide) ⟨rfl, rfl, rfl⟩ ⟨rfl, rfl⟩, List.forall_mem_cons.mpr ⟨rv_ctV X Y fm_Ts_good dc_X7_law (pc := 56) (i := 28) (idx := 147) rfl (m_X1_take_0 hAd hZ hGd) wl_X7_147 wm_X1_take wy_X1_take (by decide) ⟨rfl, rfl, rfl⟩ ⟨rfl, rfl⟩, fun _ h => absurd h List.not_mem_nil⟩⟩⟩) (fun _ _ _ _ _ _ _ _ _ _ _ _ _ _ _ _ h => absurd h List.not_mem_nil)
def K_X7_isWithin_7 : rv_K := ([rv_full, rv_i 1 1, rv_i 40 40], [], [], [(0, 0, 1)], [(.inl 0, 1, 40)], [])
def ct_X7_isWithin_7 : List (Nat × rv_K) := []
def n_X7_isWithin_7 : List rv_N := [
  (0, ([rv_full, rv_i 1 1, rv_i 40 40], [], []), [1], 8, [], []),
  (1, ([rv_full, rv_i 1 1, rv_i 40 40], [(1, 0, (-2147483648), 2147483647, [(.inl 0, 0)], [])], []), [2], 7, [], []),
  (2, ([rv_full, rv_i 1 1, rv_i 40 40], [(1, 0, 1, 1, [(.inl 1, 0)], []), (1, 0, (-2147483648), 2147483647, [(.inl 0, 0)], [])], []), [3, 8], 6, [], []),
  (3, ([rv_i 1 2147483647, rv_i 1 1, rv_i 40 40], [], []), [4], 5, [], []),
  (4, ([rv_i 1 2147483647, rv_i 1 1, rv_i 40 40], [(1, 0, 1, 2147483647, [(.inl 0, 0)], [])], []), [5], 4, [], []),
  (5, ([rv_i 1 2147483647, rv_i 1 1, rv_i 40 40], [(1, 0, 40, 40, [(.inl 2, 0)], []), (1, 0, 1, 2147483647, [(.inl 0, 0)], [])], []), [6, 8], 3, [], []),
  (6, ([rv_i 1 40, rv_i 1 1, rv_i 40 40], [], []), [7], 2, [], []),
  (7, ([rv_i 1 40, rv_i 1 1, rv_i 40 40], [rv_i 1 1], []), [10], 1, [], []),
  (8, ([rv_full, rv_i 1 1, rv_i 40 40], [], []), [9], 1, [], []),
  (9, ([rv_full, rv_i 1 1, rv_i 40 40], [rv_i 0 0], []), [], 0, [], []),
  (9, ([rv_i 1 40, rv_i 1 1, rv_i 40 40], [rv_i 1 1], []), [], 0, [], [])]
set_option maxRecDepth 100000 in
theorem a_X7_isWithin_7 : rv_all (fm_tm, flX7, fm_wr, kcX7, klX7, K_X7_isWithin_7.2.2.1, [0, 1, 2], 3) ct_X7_isWithin_7 cd_X7_isWithin n_X7_isWithin_7 K_X7_isWithin_7 [] 0 n_X7_isWithin_7 = true := rv_fast (rv_at_eq n_X7_isWithin_7) (rv_at_eq cd_X7_isWithin) (by decide +kernel)
theorem m_X7_isWithin_7 {l : Launch} {D : va_G} {ad : Nat → Nat} {cy : Nat → ClassId} {Z : State → Heap → Prop} {Gp : fm_V → Prop} (hAd : fm_Ad fm_tm ad) (hZ : fm_Zk (fm_A fm_tm ad) Z) (hGd : fm_Gd Gp) : rv_Met l D fm_cl fm_tm ad cy fm_nt Z Gp yX7_isWithin (.code yX7_isWithin prog_1_method_34_code 3 (some .boolean) :: fm_Ts) { frames := 0, cells := 0, slots := 0, locals := 0 } K_X7_isWithin_7 := rv_met hAd hZ (Or.inl (by decide +kernel)) evX7 dc_X7_isWithin a_X7_isWithin_7 ⟨rfl, rfl, rfl⟩ (by decide +kernel) (by decide +kernel) (by decide) (fm_gm hGd (by decide +kernel)) (Or.inr ⟨rfl, by decide, by decide⟩) (fun p e s m args below meth c Q X Y => fun _ h => absurd h List.not_mem_nil) (fun _ _ _ _ _ _ _ _ _ _ _ _ _ _ _ _ h => absurd h List.not_mem_nil)
def cd_X0_nextDraw : List (Nat × Instr × Nat) := [(0, .aload_n 0, 1), (1, .sipush 25173, 3), (4, .aload_n 0, 1), (5, .getfield 47, 3), (8, .imul, 1), (9, .sipush 13849, 3), (12, .iadd, 1), (13, .ldc 102, 2), (15, .iand, 1), (16, .putfield 47, 3), (19, .aload_n 0, 1), (20, .getfield 47, 3), (23, .bipush 10, 2), (25, .irem, 1), (26, .ireturn, 1)]
theorem dc_X0_nextDraw : ∀ q ∈ cd_X0_nextDraw, decode prog_2_method_8_code q.1 = .ok (q.2.1, q.2.2) := by decide +kernel
def K_X0_nextDraw_0 : rv_K := ([rv_r 26], [], [(26, 10)], [(0, (-2147483648), 2147483647)], [], [])
def ct_X0_nextDraw_0 : List (Nat × rv_K) := []
def n_X0_nextDraw_0 : List rv_N := [
  (0, ([rv_r 26], [], []), [1], 14, [], []),
  (1, ([rv_r 26], [rv_r 26], []), [2], 13, [], []),
  (2, ([rv_r 26], [rv_i 25173 25173, rv_r 26], []), [3], 12, [], []),
  (3, ([rv_r 26], [rv_r 26, rv_i 25173 25173, rv_r 26], []), [4], 11, [], []),
  (4, ([rv_r 26], [(1, 0, (-2147483648), 2147483647, [(.inr (26, 10), 0)], []), rv_i 25173 25173, rv_r 26], []), [5], 10, [], []),
  (5, ([rv_r 26], [rv_full, rv_r 26], []), [6], 9, [], []),
  (6, ([rv_r 26], [rv_i 13849 13849, rv_full, rv_r 26], []), [7], 8, [], []),
  (7, ([rv_r 26], [rv_full, rv_r 26], []), [8], 7, [], []),
  (8, ([rv_r 26], [rv_i 65535 65535, rv_full, rv_r 26], []), [9], 6, [], []),
  (9, ([rv_r 26], [rv_i 0 65535, rv_r 26], []), [10], 5, [], []),
  (10, ([rv_r 26], [], [((26, 10), 0, 65535, [])]), [11], 4, [], []),
  (11, ([rv_r 26], [rv_r 26], [((26, 10), 0, 65535, [])]), [12], 3, [], []),
  (12, ([rv_r 26], [(1, 0, 0, 65535, [(.inr (26, 10), 0)], [])], [((26, 10), 0, 65535, [])]), [13], 2, [], []),
  (13, ([rv_r 26], [rv_i 10 10, (1, 0, 0, 65535, [(.inr (26, 10), 0)], [])], [((26, 10), 0, 65535, [])]), [14], 1, [], []),
  (14, ([rv_r 26], [rv_full], [((26, 10), 0, 65535, [])]), [], 0, [], [])]
set_option maxRecDepth 100000 in
theorem a_X0_nextDraw_0 : rv_all (fm_tm, flX0, fm_wr, kcX0, klX0, K_X0_nextDraw_0.2.2.1, [], 1) ct_X0_nextDraw_0 cd_X0_nextDraw n_X0_nextDraw_0 K_X0_nextDraw_0 [] 0 n_X0_nextDraw_0 = true := rv_fast (rv_at_eq n_X0_nextDraw_0) (rv_at_eq cd_X0_nextDraw) (by decide +kernel)
theorem m_X0_nextDraw_0 {l : Launch} {D : va_G} {ad : Nat → Nat} {cy : Nat → ClassId} {Z : State → Heap → Prop} {Gp : fm_V → Prop} (hAd : fm_Ad fm_tm ad) (hZ : fm_Zk (fm_A fm_tm ad) Z) (hGd : fm_Gd Gp) : rv_Met l D fm_cl fm_tm ad cy fm_nt Z Gp yX0_nextDraw (.code yX0_nextDraw prog_2_method_8_code 1 (some .int) :: fm_Ts) { frames := 0, cells := 0, slots := 0, locals := 0 } K_X0_nextDraw_0 := rv_met hAd hZ (Or.inl (by decide +kernel)) evX0 dc_X0_nextDraw a_X0_nextDraw_0 ⟨rfl, rfl, rfl⟩ (by decide +kernel) (by decide +kernel) (by decide) (fm_gm hGd (by decide +kernel)) (Or.inl rfl) (fun p e s m args below meth c Q X Y => fun _ h => absurd h List.not_mem_nil) (fun _ _ _ _ _ _ _ _ _ _ _ _ _ _ _ _ h => absurd h List.not_mem_nil)
def cd_X2_climbs : List (Nat × Instr × Nat) := [(0, .iload_n 1, 1), (1, .invokestatic 34, 3), (4, .ifCond .eq 29, 3), (7, .aload_n 0, 1), (8, .getfield 9, 3), (11, .iload_n 1, 1), (12, .ishr, 1), (13, .iconst 1, 1), (14, .iand, 1), (15, .ifCond .eq 18, 3), (18, .aload_n 0, 1), (19, .getfield 15, 3), (22, .iload_n 1, 1), (23, .iaload, 1), (24, .bipush 20, 2), (26, .if_icmp .ge 7, 3), (29, .iconst 1, 1), (30, .goto 4, 3), (33, .iconst 0, 1), (34, .ireturn, 1)]
theorem dc_X2_climbs : ∀ q ∈ cd_X2_climbs, decode prog_4_method_5_code q.1 = .ok (q.2.1, q.2.2) := by decide +kernel
def K_X2_climbs_0 : rv_K := ([rv_r 36, rv_full], [], [], [(0, 0, 1)], [(.inl 1, 0, 8), (.inr (37, 5001), (-2147483648), 19)], [])
def ct_X2_climbs_0 : List (Nat × rv_K) := [(1, K_X7_isPorter_0)]
def n_X2_climbs_0_0 : List rv_N := [
  (0, ([rv_r 36, rv_full], [], []), [1], 18, [], []),
  (1, ([rv_r 36, rv_full], [(1, 0, (-2147483648), 2147483647, [(.inl 1, 0)], [])], []), [2], 17, [], [0]),
  (2, ([rv_r 36, rv_full], [(1, 0, 0, 1, [], [(.inl 1, 0, 8)])], []), [3, 18], 16, [], []),
  (3, ([rv_r 36, rv_i 0 8], [], []), [4], 15, [], []),
  (4, ([rv_r 36, rv_i 0 8], [rv_r 36], []), [5], 14, [], []),
  (5, ([rv_r 36, rv_i 0 8], [(1, 0, (-2147483648), 2147483647, [(.inr (36, 0), 0)], [])], []), [6], 13, [], []),
  (6, ([rv_r 36, rv_i 0 8], [(1, 0, 0, 8, [(.inl 1, 0)], []), (1, 0, (-2147483648), 2147483647, [(.inr (36, 0), 0)], [])], []), [7], 12, [], []),
  (7, ([rv_r 36, rv_i 0 8], [rv_full], []), [8], 11, [], []),
  (8, ([rv_r 36, rv_i 0 8], [rv_i 1 1, rv_full], []), [9], 10, [], []),
  (9, ([rv_r 36, rv_i 0 8], [rv_i 0 1], []), [10, 18], 9, [], []),
  (10, ([rv_r 36, rv_i 0 8], [], []), [11], 8, [], []),
  (11, ([rv_r 36, rv_i 0 8], [rv_r 36], []), [12], 7, [], []),
  (12, ([rv_r 36, rv_i 0 8], [rv_r 37], []), [13], 6, [], []),
  (13, ([rv_r 36, rv_i 0 8], [(1, 0, 0, 8, [(.inl 1, 0)], []), rv_r 37], []), [14], 5, [], []),
  (14, ([rv_r 36, rv_i 0 8], [(1, 0, (-2147483648), 2147483647, [(.inr (37, 5001), 0)], [])], []), [15], 4, [], []),
  (15, ([rv_r 36, rv_i 0 8], [rv_i 20 20, (1, 0, (-2147483648), 2147483647, [(.inr (37, 5001), 0)], [])], []), [16, 18], 3, [], [])]
def n_X2_climbs_0_1 : List rv_N := [
  (16, ([rv_r 36, rv_i 0 8], [], [((37, 5001), (-2147483648), 19, [])]), [17], 2, [], []),
  (17, ([rv_r 36, rv_i 0 8], [rv_i 1 1], [((37, 5001), (-2147483648), 19, [])]), [20], 1, [], []),
  (18, ([rv_r 36, rv_full], [], []), [19], 1, [], []),
  (19, ([rv_r 36, rv_full], [rv_i 0 0], []), [], 0, [], []),
  (19, ([rv_r 36, rv_i 0 8], [rv_i 1 1], [((37, 5001), (-2147483648), 19, [])]), [], 0, [], [])]
def n_X2_climbs_0 : List rv_N := n_X2_climbs_0_0 ++ (n_X2_climbs_0_1)
noncomputable def gn_X2_climbs_0 : Nat → Option rv_N := rv_ap 16 (rv_at n_X2_climbs_0_0) (rv_at n_X2_climbs_0_1)
theorem hn_X2_climbs_0 : ∀ i : Nat, n_X2_climbs_0[i]? = gn_X2_climbs_0 i := rv_ap_eq (l := n_X2_climbs_0_0) (c := 16) (rv_at_eq n_X2_climbs_0_1) rfl
set_option maxRecDepth 100000 in
theorem a_X2_climbs_0 : rv_all (fm_tm, flX2, fm_wr, kcX2, klX2, K_X2_climbs_0.2.2.1, [1], 2) ct_X2_climbs_0 cd_X2_climbs n_X2_climbs_0 K_X2_climbs_0 [] 0 n_X2_climbs_0 = true := rv_fast hn_X2_climbs_0 (rv_at_eq cd_X2_climbs) (by decide +kernel)
theorem m_X2_climbs_0 {l : Launch} {D : va_G} {ad : Nat → Nat} {cy : Nat → ClassId} {Z : State → Heap → Prop} {Gp : fm_V → Prop} (hAd : fm_Ad fm_tm ad) (hZ : fm_Zk (fm_A fm_tm ad) Z) (hGd : fm_Gd Gp) : rv_Met l D fm_cl fm_tm ad cy fm_nt Z Gp yX2_climbs (.code yX2_climbs prog_4_method_5_code 2 (some .boolean) :: fm_Ts) { frames := 1, cells := 0, slots := 0, locals := 100 } K_X2_climbs_0 := rv_met hAd hZ (Or.inl (by decide +kernel)) evX2 dc_X2_climbs a_X2_climbs_0 ⟨rfl, rfl, rfl⟩ (by decide +kernel) (by decide +kernel) (by decide) (fm_gm hGd (by decide +kernel)) (Or.inr ⟨rfl, by decide, by decide⟩) (fun p e s m args below meth c Q X Y => List.forall_mem_cons.mpr ⟨rv_ctN X Y fm_Ts_good dc_X2_climbs (pc := 1) (i := 1) (idx := 34) rfl (m_X7_isPorter_0 hAd hZ hGd) wl_X2_34 wm_X7_isPorter wy_X7_isPorter (by decide) rfl, fun _ h => absurd h List.not_mem_nil⟩) (fun _ _ _ _ _ _ _ _ _ _ _ _ _ _ _ _ h => absurd h List.not_mem_nil)
def cd_X1_forgetWho : List (Nat × Instr × Nat) := [(0, .bipush 6, 2), (2, .istore_n 1, 1), (3, .iload_n 1, 1), (4, .bipush 13, 2), (6, .if_icmp .ge 16, 3), (9, .aload_n 0, 1), (10, .getfield 41, 3), (13, .iload_n 1, 1), (14, .iconst 0, 1), (15, .iastore, 1), (16, .iinc 1 1, 3), (19, .goto (-16), 3), (22, .return_, 1)]
theorem dc_X1_forgetWho : ∀ q ∈ cd_X1_forgetWho, decode prog_3_method_6_code q.1 = .ok (q.2.1, q.2.2) := by decide +kernel
def K_X1_forgetWho_0 : rv_K := ([rv_r 7], [], [(14, 9999)], [], [], [])
def ct_X1_forgetWho_0 : List (Nat × rv_K) := []
def n_X1_forgetWho_0 : List rv_N := [
  (0, ([rv_r 7, rv_u], [], []), [1], 1615, [], []),
  (1, ([rv_r 7, rv_u], [rv_i 6 6], []), [2], 1614, [], []),
  (2, ([rv_r 7, rv_i 6 13], [], []), [3], 2993, [(1, (-230))], []),
  (3, ([rv_r 7, rv_i 6 13], [(1, 0, 6, 13, [(.inl 1, 0)], [])], []), [4], 2992, [(1, (-230))], []),
  (4, ([rv_r 7, rv_i 6 13], [rv_i 13 13, (1, 0, 6, 13, [(.inl 1, 0)], [])], []), [5, 12], 2991, [(1, (-230))], []),
  (5, ([rv_r 7, rv_i 6 12], [], []), [6], 2770, [(1, (-230))], []),
  (6, ([rv_r 7, rv_i 6 12], [rv_r 7], []), [7], 2769, [(1, (-230))], []),
  (7, ([rv_r 7, rv_i 6 12], [rv_r 14], []), [8], 2768, [(1, (-230))], []),
  (8, ([rv_r 7, rv_i 6 12], [(1, 0, 6, 12, [(.inl 1, 0)], []), rv_r 14], []), [9], 2767, [(1, (-230))], []),
  (9, ([rv_r 7, rv_i 6 12], [rv_i 0 0, (1, 0, 6, 12, [(.inl 1, 0)], []), rv_r 14], []), [10], 2766, [(1, (-230))], []),
  (10, ([rv_r 7, rv_i 6 12], [], []), [11], 2765, [(1, (-230))], []),
  (11, ([rv_r 7, rv_i 7 13], [], []), [2], 2994, [(1, (-230))], []),
  (12, ([rv_r 7, rv_i 13 13], [], []), [], 0, [], [])]
set_option maxRecDepth 100000 in
theorem a_X1_forgetWho_0 : rv_all (fm_tm, flX1, fm_wr, kcX1, klX1, K_X1_forgetWho_0.2.2.1, [], 2) ct_X1_forgetWho_0 cd_X1_forgetWho n_X1_forgetWho_0 K_X1_forgetWho_0 [] 0 n_X1_forgetWho_0 = true := rv_fast (rv_at_eq n_X1_forgetWho_0) (rv_at_eq cd_X1_forgetWho) (by decide +kernel)
theorem m_X1_forgetWho_0 {l : Launch} {D : va_G} {ad : Nat → Nat} {cy : Nat → ClassId} {Z : State → Heap → Prop} {Gp : fm_V → Prop} (hAd : fm_Ad fm_tm ad) (hZ : fm_Zk (fm_A fm_tm ad) Z) (hGd : fm_Gd Gp) : rv_Met l D fm_cl fm_tm ad cy fm_nt Z Gp yX1_forgetWho (.code yX1_forgetWho prog_3_method_6_code 2 none :: fm_Ts) { frames := 0, cells := 0, slots := 0, locals := 0 } K_X1_forgetWho_0 := rv_met hAd hZ (Or.inl (by decide +kernel)) evX1 dc_X1_forgetWho a_X1_forgetWho_0 ⟨rfl, rfl, rfl⟩ (by decide +kernel) (by decide +kernel) (by decide) (fm_gm hGd (by decide +kernel)) (rfl) (fun p e s m args below meth c Q X Y => fun _ h => absurd h List.not_mem_nil) (fun _ _ _ _ _ _ _ _ _ _ _ _ _ _ _ _ h => absurd h List.not_mem_nil)
def cd_X0_show : List (Nat × Instr × Nat) := [(0, .iload_n 2, 1), (1, .invokestatic 131, 3), (4, .ifCond .ne 4, 3), (7, .return_, 1), (8, .aload_n 1, 1), (9, .getfield 152, 3), (12, .iconst 0, 1), (13, .iload_n 2, 1), (14, .iastore, 1), (15, .aload_n 1, 1), (16, .getfield 152, 3), (19, .iconst 1, 1), (20, .aload_n 0, 1), (21, .getfield 9, 3), (24, .iload_n 2, 1), (25, .iaload, 1), (26, .iastore, 1), (27, .aload_n 1, 1), (28, .getfield 152, 3), (31, .iconst 2, 1), (32, .aload_n 0, 1), (33, .getfield 15, 3), (36, .iload_n 2, 1), (37, .iaload, 1), (38, .iastore, 1), (39, .aload_n 1, 1), (40, .getfield 152, 3), (43, .iconst 3, 1), (44, .aload_n 0, 1), (45, .getfield 18, 3), (48, .iload_n 2, 1), (49, .iaload, 1), (50, .iastore, 1), (51, .aload_n 1, 1), (52, .getfield 152, 3), (55, .iconst 4, 1), (56, .aload_n 0, 1), (57, .getfield 43, 3), (60, .ifCond .lt 24, 3), (63, .aload_n 0, 1), (64, .getfield 43, 3), (67, .bipush 100, 2), (69, .if_icmp .ge 15, 3), (72, .aload_n 0, 1), (73, .getfield 37, 3), (76, .aload_n 0, 1), (77, .getfield 43, 3), (80, .iaload, 1), (81, .goto 4, 3), (84, .iconst 0, 1), (85, .iastore, 1), (86, .aload_n 1, 1), (87, .getfield 152, 3), (90, .iconst 5, 1), (91, .aload_n 0, 1), (92, .getfield 43, 3), (95, .iastore, 1), (96, .return_, 1)]
theorem dc_X0_show : ∀ q ∈ cd_X0_show, decode prog_2_method_12_code q.1 = .ok (q.2.1, q.2.2) := by decide +kernel
def ch_X0_show_0 : List (Nat × Instr × Nat) := [(0, .iload_n 2, 1), (1, .invokestatic 131, 3), (4, .ifCond .ne 4, 3), (7, .return_, 1), (8, .aload_n 1, 1), (9, .getfield 152, 3), (12, .iconst 0, 1), (13, .iload_n 2, 1), (14, .iastore, 1), (15, .aload_n 1, 1), (16, .getfield 152, 3), (19, .iconst 1, 1), (20, .aload_n 0, 1), (21, .getfield 9, 3), (24, .iload_n 2, 1), (25, .iaload, 1)]
def ch_X0_show_1 : List (Nat × Instr × Nat) := [(26, .iastore, 1), (27, .aload_n 1, 1), (28, .getfield 152, 3), (31, .iconst 2, 1), (32, .aload_n 0, 1), (33, .getfield 15, 3), (36, .iload_n 2, 1), (37, .iaload, 1), (38, .iastore, 1), (39, .aload_n 1, 1), (40, .getfield 152, 3), (43, .iconst 3, 1), (44, .aload_n 0, 1), (45, .getfield 18, 3), (48, .iload_n 2, 1), (49, .iaload, 1)]
def ch_X0_show_2 : List (Nat × Instr × Nat) := [(50, .iastore, 1), (51, .aload_n 1, 1), (52, .getfield 152, 3), (55, .iconst 4, 1), (56, .aload_n 0, 1), (57, .getfield 43, 3), (60, .ifCond .lt 24, 3), (63, .aload_n 0, 1), (64, .getfield 43, 3), (67, .bipush 100, 2), (69, .if_icmp .ge 15, 3), (72, .aload_n 0, 1), (73, .getfield 37, 3), (76, .aload_n 0, 1), (77, .getfield 43, 3), (80, .iaload, 1)]
def ch_X0_show_3 : List (Nat × Instr × Nat) := [(81, .goto 4, 3), (84, .iconst 0, 1), (85, .iastore, 1), (86, .aload_n 1, 1), (87, .getfield 152, 3), (90, .iconst 5, 1), (91, .aload_n 0, 1), (92, .getfield 43, 3), (95, .iastore, 1), (96, .return_, 1)]
set_option maxRecDepth 100000 in
theorem he_X0_show : cd_X0_show = ch_X0_show_0 ++ (ch_X0_show_1 ++ (ch_X0_show_2 ++ (ch_X0_show_3))) := rfl
noncomputable def gc_X0_show : Nat → Option (Nat × Instr × Nat) := rv_ap 16 (rv_at ch_X0_show_0) (rv_ap 16 (rv_at ch_X0_show_1) (rv_ap 16 (rv_at ch_X0_show_2) (rv_at ch_X0_show_3)))
theorem hc_X0_show : ∀ i : Nat, cd_X0_show[i]? = gc_X0_show i := by
  rw [he_X0_show]
  exact rv_ap_eq (l := ch_X0_show_0) (c := 16) (rv_ap_eq (l := ch_X0_show_1) (c := 16) (rv_ap_eq (l := ch_X0_show_2) (c := 16) (rv_at_eq ch_X0_show_3) rfl) rfl) rfl
def K_X0_show_0 : rv_K := ([rv_r 26, rv_r 7, rv_full], [], [(14, 0), (14, 1), (14, 2), (14, 3), (14, 4), (14, 5)], [], [], [])
def ct_X0_show_0 : List (Nat × rv_K) := [(1, K_X7_isYard_0)]
def n_X0_show_0_0 : List rv_N := [
  (0, ([rv_r 26, rv_r 7, rv_full], [], []), [1], 55, [], []),
  (1, ([rv_r 26, rv_r 7, rv_full], [(1, 0, (-2147483648), 2147483647, [(.inl 2, 0)], [])], []), [2], 54, [], [0]),
  (2, ([rv_r 26, rv_r 7, rv_full], [(1, 0, 0, 1, [], [(.inl 2, 0, 19)])], []), [3, 4], 53, [], []),
  (3, ([rv_r 26, rv_r 7, rv_full], [], []), [], 0, [], []),
  (4, ([rv_r 26, rv_r 7, rv_i 0 19], [], []), [5], 52, [], []),
  (5, ([rv_r 26, rv_r 7, rv_i 0 19], [rv_r 7], []), [6], 51, [], []),
  (6, ([rv_r 26, rv_r 7, rv_i 0 19], [rv_r 14], []), [7], 50, [], []),
  (7, ([rv_r 26, rv_r 7, rv_i 0 19], [rv_i 0 0, rv_r 14], []), [8], 49, [], []),
  (8, ([rv_r 26, rv_r 7, rv_i 0 19], [(1, 0, 0, 19, [(.inl 2, 0)], []), rv_i 0 0, rv_r 14], []), [9], 48, [], []),
  (9, ([rv_r 26, rv_r 7, rv_i 0 19], [], [((14, 0), 0, 19, [])]), [10], 47, [], []),
  (10, ([rv_r 26, rv_r 7, rv_i 0 19], [rv_r 7], [((14, 0), 0, 19, [])]), [11], 46, [], []),
  (11, ([rv_r 26, rv_r 7, rv_i 0 19], [rv_r 14], [((14, 0), 0, 19, [])]), [12], 45, [], []),
  (12, ([rv_r 26, rv_r 7, rv_i 0 19], [rv_i 1 1, rv_r 14], [((14, 0), 0, 19, [])]), [13], 44, [], []),
  (13, ([rv_r 26, rv_r 7, rv_i 0 19], [rv_r 26, rv_i 1 1, rv_r 14], [((14, 0), 0, 19, [])]), [14], 43, [], []),
  (14, ([rv_r 26, rv_r 7, rv_i 0 19], [rv_r 27, rv_i 1 1, rv_r 14], [((14, 0), 0, 19, [])]), [15], 42, [], []),
  (15, ([rv_r 26, rv_r 7, rv_i 0 19], [(1, 0, 0, 19, [(.inl 2, 0)], []), rv_r 27, rv_i 1 1, rv_r 14], [((14, 0), 0, 19, [])]), [16], 41, [], [])]
def n_X0_show_0_1 : List rv_N := [
  (16, ([rv_r 26, rv_r 7, rv_i 0 19], [(1, 0, (-2147483648), 2147483647, [(.inr (27, 5002), 0)], []), rv_i 1 1, rv_r 14], [((14, 0), 0, 19, [])]), [17], 40, [], []),
  (17, ([rv_r 26, rv_r 7, rv_i 0 19], [], [((14, 0), 0, 19, [])]), [18], 39, [], []),
  (18, ([rv_r 26, rv_r 7, rv_i 0 19], [rv_r 7], [((14, 0), 0, 19, [])]), [19], 38, [], []),
  (19, ([rv_r 26, rv_r 7, rv_i 0 19], [rv_r 14], [((14, 0), 0, 19, [])]), [20], 37, [], []),
  (20, ([rv_r 26, rv_r 7, rv_i 0 19], [rv_i 2 2, rv_r 14], [((14, 0), 0, 19, [])]), [21], 36, [], []),
  (21, ([rv_r 26, rv_r 7, rv_i 0 19], [rv_r 26, rv_i 2 2, rv_r 14], [((14, 0), 0, 19, [])]), [22], 35, [], []),
  (22, ([rv_r 26, rv_r 7, rv_i 0 19], [rv_r 28, rv_i 2 2, rv_r 14], [((14, 0), 0, 19, [])]), [23], 34, [], []),
  (23, ([rv_r 26, rv_r 7, rv_i 0 19], [(1, 0, 0, 19, [(.inl 2, 0)], []), rv_r 28, rv_i 2 2, rv_r 14], [((14, 0), 0, 19, [])]), [24], 33, [], []),
  (24, ([rv_r 26, rv_r 7, rv_i 0 19], [(1, 0, (-2147483648), 2147483647, [(.inr (28, 5002), 0)], []), rv_i 2 2, rv_r 14], [((14, 0), 0, 19, [])]), [25], 32, [], []),
  (25, ([rv_r 26, rv_r 7, rv_i 0 19], [], [((14, 0), 0, 19, [])]), [26], 31, [], []),
  (26, ([rv_r 26, rv_r 7, rv_i 0 19], [rv_r 7], [((14, 0), 0, 19, [])]), [27], 30, [], []),
  (27, ([rv_r 26, rv_r 7, rv_i 0 19], [rv_r 14], [((14, 0), 0, 19, [])]), [28], 29, [], []),
  (28, ([rv_r 26, rv_r 7, rv_i 0 19], [rv_i 3 3, rv_r 14], [((14, 0), 0, 19, [])]), [29], 28, [], []),
  (29, ([rv_r 26, rv_r 7, rv_i 0 19], [rv_r 26, rv_i 3 3, rv_r 14], [((14, 0), 0, 19, [])]), [30], 27, [], []),
  (30, ([rv_r 26, rv_r 7, rv_i 0 19], [rv_r 29, rv_i 3 3, rv_r 14], [((14, 0), 0, 19, [])]), [31], 26, [], []),
  (31, ([rv_r 26, rv_r 7, rv_i 0 19], [(1, 0, 0, 19, [(.inl 2, 0)], []), rv_r 29, rv_i 3 3, rv_r 14], [((14, 0), 0, 19, [])]), [32], 25, [], [])]
def n_X0_show_0_2 : List rv_N := [
  (32, ([rv_r 26, rv_r 7, rv_i 0 19], [(1, 0, (-2147483648), 2147483647, [(.inr (29, 5002), 0)], []), rv_i 3 3, rv_r 14], [((14, 0), 0, 19, [])]), [33], 24, [], []),
  (33, ([rv_r 26, rv_r 7, rv_i 0 19], [], [((14, 0), 0, 19, [])]), [34], 23, [], []),
  (34, ([rv_r 26, rv_r 7, rv_i 0 19], [rv_r 7], [((14, 0), 0, 19, [])]), [35], 22, [], []),
  (35, ([rv_r 26, rv_r 7, rv_i 0 19], [rv_r 14], [((14, 0), 0, 19, [])]), [36], 21, [], []),
  (36, ([rv_r 26, rv_r 7, rv_i 0 19], [rv_i 4 4, rv_r 14], [((14, 0), 0, 19, [])]), [37], 20, [], []),
  (37, ([rv_r 26, rv_r 7, rv_i 0 19], [rv_r 26, rv_i 4 4, rv_r 14], [((14, 0), 0, 19, [])]), [38], 19, [], []),
  (38, ([rv_r 26, rv_r 7, rv_i 0 19], [(1, 0, (-2147483648), 2147483647, [(.inr (26, 9), 0)], []), rv_i 4 4, rv_r 14], [((14, 0), 0, 19, [])]), [39, 49], 18, [], []),
  (39, ([rv_r 26, rv_r 7, rv_i 0 19], [rv_i 4 4, rv_r 14], [((14, 0), 0, 19, []), ((26, 9), 0, 2147483647, [])]), [40], 17, [], []),
  (40, ([rv_r 26, rv_r 7, rv_i 0 19], [rv_r 26, rv_i 4 4, rv_r 14], [((14, 0), 0, 19, []), ((26, 9), 0, 2147483647, [])]), [41], 16, [], []),
  (41, ([rv_r 26, rv_r 7, rv_i 0 19], [(1, 0, 0, 2147483647, [(.inr (26, 9), 0)], []), rv_i 4 4, rv_r 14], [((14, 0), 0, 19, []), ((26, 9), 0, 2147483647, [])]), [42], 15, [], []),
  (42, ([rv_r 26, rv_r 7, rv_i 0 19], [rv_i 100 100, (1, 0, 0, 2147483647, [(.inr (26, 9), 0)], []), rv_i 4 4, rv_r 14], [((14, 0), 0, 19, []), ((26, 9), 0, 2147483647, [])]), [43, 49], 14, [], []),
  (43, ([rv_r 26, rv_r 7, rv_i 0 19], [rv_i 4 4, rv_r 14], [((14, 0), 0, 19, []), ((26, 9), 0, 99, [])]), [44], 13, [], []),
  (44, ([rv_r 26, rv_r 7, rv_i 0 19], [rv_r 26, rv_i 4 4, rv_r 14], [((14, 0), 0, 19, []), ((26, 9), 0, 99, [])]), [45], 12, [], []),
  (45, ([rv_r 26, rv_r 7, rv_i 0 19], [rv_r 33, rv_i 4 4, rv_r 14], [((14, 0), 0, 19, []), ((26, 9), 0, 99, [])]), [46], 11, [], []),
  (46, ([rv_r 26, rv_r 7, rv_i 0 19], [rv_r 26, rv_r 33, rv_i 4 4, rv_r 14], [((14, 0), 0, 19, []), ((26, 9), 0, 99, [])]), [47], 10, [], []),
  (47, ([rv_r 26, rv_r 7, rv_i 0 19], [(1, 0, 0, 99, [(.inr (26, 9), 0)], []), rv_r 33, rv_i 4 4, rv_r 14], [((14, 0), 0, 19, []), ((26, 9), 0, 99, [])]), [48], 9, [], [])]
def n_X0_show_0_3 : List rv_N := [
  (48, ([rv_r 26, rv_r 7, rv_i 0 19], [rv_full, rv_i 4 4, rv_r 14], [((14, 0), 0, 19, []), ((26, 9), 0, 99, [])]), [51], 8, [], []),
  (49, ([rv_r 26, rv_r 7, rv_i 0 19], [rv_i 4 4, rv_r 14], [((14, 0), 0, 19, [])]), [50], 8, [], []),
  (50, ([rv_r 26, rv_r 7, rv_i 0 19], [rv_i 0 0, rv_i 4 4, rv_r 14], [((14, 0), 0, 19, [])]), [52], 7, [], []),
  (50, ([rv_r 26, rv_r 7, rv_i 0 19], [rv_full, rv_i 4 4, rv_r 14], [((14, 0), 0, 19, []), ((26, 9), 0, 99, [])]), [52], 7, [], []),
  (51, ([rv_r 26, rv_r 7, rv_i 0 19], [], [((14, 0), 0, 19, [])]), [53], 6, [], []),
  (52, ([rv_r 26, rv_r 7, rv_i 0 19], [rv_r 7], [((14, 0), 0, 19, [])]), [54], 5, [], []),
  (53, ([rv_r 26, rv_r 7, rv_i 0 19], [rv_r 14], [((14, 0), 0, 19, [])]), [55], 4, [], []),
  (54, ([rv_r 26, rv_r 7, rv_i 0 19], [rv_i 5 5, rv_r 14], [((14, 0), 0, 19, [])]), [56], 3, [], []),
  (55, ([rv_r 26, rv_r 7, rv_i 0 19], [rv_r 26, rv_i 5 5, rv_r 14], [((14, 0), 0, 19, [])]), [57], 2, [], []),
  (56, ([rv_r 26, rv_r 7, rv_i 0 19], [(1, 0, (-2147483648), 2147483647, [(.inr (26, 9), 0)], []), rv_i 5 5, rv_r 14], [((14, 0), 0, 19, [])]), [58], 1, [], []),
  (57, ([rv_r 26, rv_r 7, rv_i 0 19], [], [((14, 0), 0, 19, [])]), [], 0, [], [])]
def n_X0_show_0 : List rv_N := n_X0_show_0_0 ++ (n_X0_show_0_1 ++ (n_X0_show_0_2 ++ (n_X0_show_0_3)))
noncomputable def gn_X0_show_0 : Nat → Option rv_N := rv_ap 16 (rv_at n_X0_show_0_0) (rv_ap 16 (rv_at n_X0_show_0_1) (rv_ap 16 (rv_at n_X0_show_0_2) (rv_at n_X0_show_0_3)))
theorem hn_X0_show_0 : ∀ i : Nat, n_X0_show_0[i]? = gn_X0_show_0 i := rv_ap_eq (l := n_X0_show_0_0) (c := 16) (rv_ap_eq (l := n_X0_show_0_1) (c := 16) (rv_ap_eq (l := n_X0_show_0_2) (c := 16) (rv_at_eq n_X0_show_0_3) rfl) rfl) rfl
set_option maxRecDepth 100000 in
theorem a_X0_show_0 : rv_all (fm_tm, flX0, fm_wr, kcX0, klX0, K_X0_show_0.2.2.1, [], 3) ct_X0_show_0 cd_X0_show n_X0_show_0 K_X0_show_0 [] 0 n_X0_show_0 = true := rv_fast hn_X0_show_0 hc_X0_show (by decide +kernel)
theorem m_X0_show_0 {l : Launch} {D : va_G} {ad : Nat → Nat} {cy : Nat → ClassId} {Z : State → Heap → Prop} {Gp : fm_V → Prop} (hAd : fm_Ad fm_tm ad) (hZ : fm_Zk (fm_A fm_tm ad) Z) (hGd : fm_Gd Gp) : rv_Met l D fm_cl fm_tm ad cy fm_nt Z Gp yX0_show (.code yX0_show prog_2_method_12_code 3 none :: fm_Ts) { frames := 1, cells := 0, slots := 0, locals := 100 } K_X0_show_0 := rv_met hAd hZ (Or.inl (by decide +kernel)) evX0 dc_X0_show a_X0_show_0 ⟨rfl, rfl, rfl⟩ (by decide +kernel) (by decide +kernel) (by decide) (fm_gm hGd (by decide +kernel)) (rfl) (fun p e s m args below meth c Q X Y => List.forall_mem_cons.mpr ⟨rv_ctN X Y fm_Ts_good dc_X0_show (pc := 1) (i := 1) (idx := 131) rfl (m_X7_isYard_0 hAd hZ hGd) wl_X0_131 wm_X7_isYard wy_X7_isYard (by decide) rfl, fun _ h => absurd h List.not_mem_nil⟩) (fun _ _ _ _ _ _ _ _ _ _ _ _ _ _ _ _ h => absurd h List.not_mem_nil)
def cd_X2_countAt : List (Nat × Instr × Nat) := [(0, .iconst 0, 1), (1, .istore_n 2, 1), (2, .iconst 0, 1), (3, .istore_n 3, 1), (4, .iload_n 3, 1), (5, .bipush 9, 2), (7, .if_icmp .ge 33, 3), (10, .aload_n 0, 1), (11, .getfield 9, 3), (14, .iload_n 3, 1), (15, .ishr, 1), (16, .iconst 1, 1), (17, .iand, 1), (18, .ifCond .eq 16, 3), (21, .aload_n 0, 1), (22, .getfield 15, 3), (25, .iload_n 3, 1), (26, .iaload, 1), (27, .iload_n 1, 1), (28, .if_icmp .ne 6, 3), (31, .iinc 2 1, 3), (34, .iinc 3 1, 3), (37, .goto (-33), 3), (40, .iload_n 2, 1), (41, .ireturn, 1)]
theorem dc_X2_countAt : ∀ q ∈ cd_X2_countAt, decode prog_4_method_7_code q.1 = .ok (q.2.1, q.2.2) := by decide +kernel
def K_X2_countAt_0 : rv_K := ([rv_r 36, rv_full], [], [], [(0, (-2147483648), 2147483647)], [], [])
def ct_X2_countAt_0 : List (Nat × rv_K) := []
def n_X2_countAt_0_0 : List rv_N := [
  (0, ([rv_r 36, rv_full, rv_u, rv_u], [], []), [1], 3788, [], []),
  (1, ([rv_r 36, rv_full, rv_u, rv_u], [rv_i 0 0], []), [2], 3787, [], []),
  (2, ([rv_r 36, rv_full, rv_i 0 0, rv_u], [], []), [3], 3786, [], []),
  (3, ([rv_r 36, rv_full, rv_i 0 0, rv_u], [rv_i 0 0], []), [4], 3785, [], []),
  (4, ([rv_r 36, rv_full, rv_full, rv_i 0 9], [], []), [5], 3784, [(3, (-420))], []),
  (5, ([rv_r 36, rv_full, rv_full, rv_i 0 9], [(1, 0, 0, 9, [(.inl 3, 0)], [])], []), [6], 3783, [(3, (-420))], []),
  (6, ([rv_r 36, rv_full, rv_full, rv_i 0 9], [rv_i 9 9, (1, 0, 0, 9, [(.inl 3, 0)], [])], []), [7, 23], 3782, [(3, (-420))], []),
  (7, ([rv_r 36, rv_full, rv_full, rv_i 0 8], [], []), [8], 3380, [(3, (-420))], []),
  (8, ([rv_r 36, rv_full, rv_full, rv_i 0 8], [rv_r 36], []), [9], 3379, [(3, (-420))], []),
  (9, ([rv_r 36, rv_full, rv_full, rv_i 0 8], [(1, 0, (-2147483648), 2147483647, [(.inr (36, 0), 0)], [])], []), [10], 3378, [(3, (-420))], []),
  (10, ([rv_r 36, rv_full, rv_full, rv_i 0 8], [(1, 0, 0, 8, [(.inl 3, 0)], []), (1, 0, (-2147483648), 2147483647, [(.inr (36, 0), 0)], [])], []), [11], 3377, [(3, (-420))], []),
  (11, ([rv_r 36, rv_full, rv_full, rv_i 0 8], [rv_full], []), [12], 3376, [(3, (-420))], []),
  (12, ([rv_r 36, rv_full, rv_full, rv_i 0 8], [rv_i 1 1, rv_full], []), [13], 3375, [(3, (-420))], []),
  (13, ([rv_r 36, rv_full, rv_full, rv_i 0 8], [rv_i 0 1], []), [14, 21], 3374, [(3, (-420))], []),
  (14, ([rv_r 36, rv_full, rv_full, rv_i 0 8], [], []), [15], 3373, [(3, (-420))], []),
  (15, ([rv_r 36, rv_full, rv_full, rv_i 0 8], [rv_r 36], []), [16], 3372, [(3, (-420))], [])]
def n_X2_countAt_0_1 : List rv_N := [
  (16, ([rv_r 36, rv_full, rv_full, rv_i 0 8], [rv_r 37], []), [17], 3371, [(3, (-420))], []),
  (17, ([rv_r 36, rv_full, rv_full, rv_i 0 8], [(1, 0, 0, 8, [(.inl 3, 0)], []), rv_r 37], []), [18], 3370, [(3, (-420))], []),
  (18, ([rv_r 36, rv_full, rv_full, rv_i 0 8], [(1, 0, (-2147483648), 2147483647, [(.inr (37, 5003), 0)], [])], []), [19], 3369, [(3, (-420))], []),
  (19, ([rv_r 36, rv_full, rv_full, rv_i 0 8], [(1, 0, (-2147483648), 2147483647, [(.inl 1, 0)], []), (1, 0, (-2147483648), 2147483647, [(.inr (37, 5003), 0)], [])], []), [20, 21], 3368, [(3, (-420))], []),
  (20, ([rv_r 36, rv_full, rv_full, rv_i 0 8], [], []), [21], 3367, [(3, (-420))], []),
  (21, ([rv_r 36, rv_full, rv_full, rv_i 0 8], [], []), [22], 3366, [(3, (-420))], []),
  (22, ([rv_r 36, rv_full, rv_full, rv_i 1 9], [], []), [4], 3785, [(3, (-420))], []),
  (23, ([rv_r 36, rv_full, rv_full, rv_i 9 9], [], []), [24], 1, [], []),
  (24, ([rv_r 36, rv_full, rv_full, rv_i 9 9], [(1, 0, (-2147483648), 2147483647, [(.inl 2, 0)], [])], []), [], 0, [], [])]
def n_X2_countAt_0 : List rv_N := n_X2_countAt_0_0 ++ (n_X2_countAt_0_1)
noncomputable def gn_X2_countAt_0 : Nat → Option rv_N := rv_ap 16 (rv_at n_X2_countAt_0_0) (rv_at n_X2_countAt_0_1)
theorem hn_X2_countAt_0 : ∀ i : Nat, n_X2_countAt_0[i]? = gn_X2_countAt_0 i := rv_ap_eq (l := n_X2_countAt_0_0) (c := 16) (rv_at_eq n_X2_countAt_0_1) rfl
set_option maxRecDepth 100000 in
theorem a_X2_countAt_0 : rv_all (fm_tm, flX2, fm_wr, kcX2, klX2, K_X2_countAt_0.2.2.1, [], 4) ct_X2_countAt_0 cd_X2_countAt n_X2_countAt_0 K_X2_countAt_0 [] 0 n_X2_countAt_0 = true := rv_fast hn_X2_countAt_0 (rv_at_eq cd_X2_countAt) (by decide +kernel)
theorem m_X2_countAt_0 {l : Launch} {D : va_G} {ad : Nat → Nat} {cy : Nat → ClassId} {Z : State → Heap → Prop} {Gp : fm_V → Prop} (hAd : fm_Ad fm_tm ad) (hZ : fm_Zk (fm_A fm_tm ad) Z) (hGd : fm_Gd Gp) : rv_Met l D fm_cl fm_tm ad cy fm_nt Z Gp yX2_countAt (.code yX2_countAt prog_4_method_7_code 4 (some .int) :: fm_Ts) { frames := 0, cells := 0, slots := 0, locals := 0 } K_X2_countAt_0 := rv_met hAd hZ (Or.inl (by decide +kernel)) evX2 dc_X2_countAt a_X2_countAt_0 ⟨rfl, rfl, rfl⟩ (by decide +kernel) (by decide +kernel) (by decide) (fm_gm hGd (by decide +kernel)) (Or.inl rfl) (fun p e s m args below meth c Q X Y => fun _ h => absurd h List.not_mem_nil) (fun _ _ _ _ _ _ _ _ _ _ _ _ _ _ _ _ h => absurd h List.not_mem_nil)
def cd_X1_reckon : List (Nat × Instr × Nat) := [(0, .iconst 0, 1), (1, .istore_n 3, 1), (2, .iload_n 1, 1), (3, .istore 4, 2), (5, .iload 4, 2), (7, .ifCond .lt 430, 3), (10, .iload 4, 2), (12, .iload_n 2, 1), (13, .if_icmp .ge 424, 3), (16, .iload 4, 2), (18, .sipush 200, 3), (21, .if_icmp .ge 416, 3), (24, .aload_n 0, 1), (25, .getfield 9, 3), (28, .iload 4, 2), (30, .iaload, 1), (31, .istore 5, 2), (33, .aload_n 0, 1), (34, .getfield 15, 3), (37, .iload 4, 2), (39, .iaload, 1), (40, .istore 6, 2), (42, .iload 5, 2), (44, .ifCond .eq 9, 3), (47, .iload 5, 2), (49, .iconst 1, 1), (50, .if_icmp .ne 58, 3), (53, .iload_n 3, 1), (54, .bipush 40, 2), (56, .if_icmp .ge 21, 3), (59, .iload 5, 2), (61, .iconst 1, 1), (62, .if_icmp .ne 17, 3), (65, .iload 6, 2), (67, .ifCond .lt 10, 3), (70, .iload 6, 2), (72, .bipush 13, 2), (74, .if_icmp .lt 5, 3), (77, .iconst 0, 1), (78, .ireturn, 1), (79, .aload_n 0, 1), (80, .getfield 44, 3), (83, .iload_n 3, 1), (84, .iload 5, 2), (86, .ifCond .ne 8, 3), (89, .iload 6, 2), (91, .goto 10, 3), (94, .aload_n 0, 1), (95, .getfield 41, 3), (98, .iload 6, 2), (100, .iaload, 1), (101, .iastore, 1), (102, .iinc 3 1, 3), (105, .goto 326, 3), (108, .iload_n 3, 1), (109, .iconst 1, 1), (110, .if_icmp .ge 5, 3), (113, .iconst 0, 1), (114, .ireturn, 1), (115, .aload_n 0, 1), (116, .getfield 44, 3), (119, .iload_n 3, 1), (120, .iconst 1, 1), (121, .isub, 1), (122, .iaload, 1), (123, .istore 7, 2), (125, .iload 5, 2), (127, .iconst 4, 1), (128, .if_icmp .ne 18, 3), (131, .aload_n 0, 1), (132, .getfield 44, 3), (135, .iload_n 3, 1), (136, .iconst 1, 1), (137, .isub, 1), (138, .iconst 1, 1), (139, .iload 7, 2), (141, .isub, 1), (142, .iastore, 1), (143, .goto 288, 3), (146, .iload 5, 2), (148, .iconst 2, 1), (149, .if_icmp .eq 9, 3), (152, .iload 5, 2), (154, .iconst 3, 1), (155, .if_icmp .ne 59, 3), (158, .iload 7, 2), (160, .ifCond .eq 7, 3), (163, .iconst 1, 1), (164, .goto 4, 3), (167, .iconst 0, 1), (168, .iload 5, 2), (170, .iconst 2, 1), (171, .if_icmp .ne 7, 3), (174, .iconst 1, 1), (175, .goto 4, 3), (178, .iconst 0, 1), (179, .if_icmp .ne 7, 3), (182, .iconst 1, 1), (183, .goto 4, 3), (186, .iconst 0, 1), (187, .istore 8, 2), (189, .iload 8, 2), (191, .ifCond .eq 17, 3), (194, .iload 6, 2), (196, .iload 4, 2), (198, .if_icmp .le 10, 3), (201, .iload 6, 2), (203, .istore 4, 2), (205, .goto 6, 3), (208, .iinc 3 (-1), 3), (211, .goto 220, 3), (214, .iload_n 3, 1), (215, .iconst 2, 1), (216, .if_icmp .lt 22, 3), (219, .iload 7, 2), (221, .ifCond .ne 19, 3), (224, .iload 5, 2), (226, .bipush 47, 2), (228, .if_icmp .eq 10, 3), (231, .iload 5, 2), (233, .bipush 37, 2), (235, .if_icmp .ne 5, 3), (238, .iconst 0, 1), (239, .ireturn, 1), (240, .aload_n 0, 1), (241, .getfield 44, 3), (244, .iload_n 3, 1), (245, .iconst 2, 1), (246, .isub, 1), (247, .iaload, 1), (248, .istore 8, 2), (250, .iload 5, 2), (252, .lookupswitch 152 #[(37, 108), (42, 88), (43, 68), (45, 78), (47, 98), (60, 118), (62, 135)], 68), (320, .iload 8, 2), (322, .iload 7, 2), (324, .iadd, 1), (325, .istore 8, 2), (327, .goto 91, 3), (330, .iload 8, 2), (332, .iload 7, 2), (334, .isub, 1), (335, .istore 8, 2), (337, .goto 81, 3), (340, .iload 8, 2), (342, .iload 7, 2), (344, .imul, 1), (345, .istore 8, 2), (347, .goto 71, 3), (350, .iload 8, 2), (352, .iload 7, 2), (354, .idiv, 1), (355, .istore 8, 2), (357, .goto 61, 3), (360, .iload 8, 2), (362, .iload 7, 2), (364, .irem, 1), (365, .istore 8, 2), (367, .goto 51, 3), (370, .iload 8, 2), (372, .iload 7, 2), (374, .if_icmp .ge 7, 3), (377, .iconst 1, 1), (378, .goto 4, 3), (381, .iconst 0, 1), (382, .istore 8, 2), (384, .goto 34, 3), (387, .iload 8, 2), (389, .iload 7, 2), (391, .if_icmp .le 7, 3), (394, .iconst 1, 1), (395, .goto 4, 3), (398, .iconst 0, 1), (399, .istore 8, 2), (401, .goto 17, 3), (404, .iload 8, 2), (406, .iload 7, 2), (408, .if_icmp .ne 7, 3), (411, .iconst 1, 1), (412, .goto 4, 3), (415, .iconst 0, 1), (416, .istore 8, 2), (418, .iinc 3 (-1), 3), (421, .aload_n 0, 1), (422, .getfield 44, 3), (425, .iload_n 3, 1), (426, .iconst 1, 1), (427, .isub, 1), (428, .iload 8, 2), (430, .iastore, 1), (431, .iinc 4 1, 3), (434, .goto (-429), 3), (437, .iload_n 3, 1), (438, .iconst 1, 1), (439, .if_icmp .ne 12, 3), (442, .aload_n 0, 1), (443, .getfield 44, 3), (446, .iconst 0, 1), (447, .iaload, 1), (448, .goto 4, 3), (451, .iconst 0, 1), (452, .ireturn, 1)]
theorem dc_X1_reckon : ∀ q ∈ cd_X1_reckon, decode prog_3_method_9_code q.1 = .ok (q.2.1, q.2.2) := by decide +kernel
def ch_X1_reckon_0 : List (Nat × Instr × Nat) := [(0, .iconst 0, 1), (1, .istore_n 3, 1), (2, .iload_n 1, 1), (3, .istore 4, 2), (5, .iload 4, 2), (7, .ifCond .lt 430, 3), (10, .iload 4, 2), (12, .iload_n 2, 1), (13, .if_icmp .ge 424, 3), (16, .iload 4, 2), (18, .sipush 200, 3), (21, .if_icmp .ge 416, 3), (24, .aload_n 0, 1), (25, .getfield 9, 3), (28, .iload 4, 2), (30, .iaload, 1)]
def ch_X1_reckon_1 : List (Nat × Instr × Nat) := [(31, .istore 5, 2), (33, .aload_n 0, 1), (34, .getfield 15, 3), (37, .iload 4, 2), (39, .iaload, 1), (40, .istore 6, 2), (42, .iload 5, 2), (44, .ifCond .eq 9, 3), (47, .iload 5, 2), (49, .iconst 1, 1), (50, .if_icmp .ne 58, 3), (53, .iload_n 3, 1), (54, .bipush 40, 2), (56, .if_icmp .ge 21, 3), (59, .iload 5, 2), (61, .iconst 1, 1)]
def ch_X1_reckon_2 : List (Nat × Instr × Nat) := [(62, .if_icmp .ne 17, 3), (65, .iload 6, 2), (67, .ifCond .lt 10, 3), (70, .iload 6, 2), (72, .bipush 13, 2), (74, .if_icmp .lt 5, 3), (77, .iconst 0, 1), (78, .ireturn, 1), (79, .aload_n 0, 1), (80, .getfield 44, 3), (83, .iload_n 3, 1), (84, .iload 5, 2), (86, .ifCond .ne 8, 3), (89, .iload 6, 2), (91, .goto 10, 3), (94, .aload_n 0, 1)]
def ch_X1_reckon_3 : List (Nat × Instr × Nat) := [(95, .getfield 41, 3), (98, .iload 6, 2), (100, .iaload, 1), (101, .iastore, 1), (102, .iinc 3 1, 3), (105, .goto 326, 3), (108, .iload_n 3, 1), (109, .iconst 1, 1), (110, .if_icmp .ge 5, 3), (113, .iconst 0, 1), (114, .ireturn, 1), (115, .aload_n 0, 1), (116, .getfield 44, 3), (119, .iload_n 3, 1), (120, .iconst 1, 1), (121, .isub, 1)]
def ch_X1_reckon_4 : List (Nat × Instr × Nat) := [(122, .iaload, 1), (123, .istore 7, 2), (125, .iload 5, 2), (127, .iconst 4, 1), (128, .if_icmp .ne 18, 3), (131, .aload_n 0, 1), (132, .getfield 44, 3), (135, .iload_n 3, 1), (136, .iconst 1, 1), (137, .isub, 1), (138, .iconst 1, 1), (139, .iload 7, 2), (141, .isub, 1), (142, .iastore, 1), (143, .goto 288, 3), (146, .iload 5, 2)]
def ch_X1_reckon_5 : List (Nat × Instr × Nat) := [(148, .iconst 2, 1), (149, .if_icmp .eq 9, 3), (152, .iload 5, 2), (154, .iconst 3, 1), (155, .if_icmp .ne 59, 3), (158, .iload 7, 2), (160, .ifCond .eq 7, 3), (163, .iconst 1, 1), (164, .goto 4, 3), (167, .iconst 0, 1), (168, .iload 5, 2), (170, .iconst 2, 1), (171, .if_icmp .ne 7, 3), (174, .iconst 1, 1), (175, .goto 4, 3), (178, .iconst 0, 1)]
def ch_X1_reckon_6 : List (Nat × Instr × Nat) := [(179, .if_icmp .ne 7, 3), (182, .iconst 1, 1), (183, .goto 4, 3), (186, .iconst 0, 1), (187, .istore 8, 2), (189, .iload 8, 2), (191, .ifCond .eq 17, 3), (194, .iload 6, 2), (196, .iload 4, 2), (198, .if_icmp .le 10, 3), (201, .iload 6, 2), (203, .istore 4, 2), (205, .goto 6, 3), (208, .iinc 3 (-1), 3), (211, .goto 220, 3), (214, .iload_n 3, 1)]
def ch_X1_reckon_7 : List (Nat × Instr × Nat) := [(215, .iconst 2, 1), (216, .if_icmp .lt 22, 3), (219, .iload 7, 2), (221, .ifCond .ne 19, 3), (224, .iload 5, 2), (226, .bipush 47, 2), (228, .if_icmp .eq 10, 3), (231, .iload 5, 2), (233, .bipush 37, 2), (235, .if_icmp .ne 5, 3), (238, .iconst 0, 1), (239, .ireturn, 1), (240, .aload_n 0, 1), (241, .getfield 44, 3), (244, .iload_n 3, 1), (245, .iconst 2, 1)]
def ch_X1_reckon_8 : List (Nat × Instr × Nat) := [(246, .isub, 1), (247, .iaload, 1), (248, .istore 8, 2), (250, .iload 5, 2), (252, .lookupswitch 152 #[(37, 108), (42, 88), (43, 68), (45, 78), (47, 98), (60, 118), (62, 135)], 68), (320, .iload 8, 2), (322, .iload 7, 2), (324, .iadd, 1), (325, .istore 8, 2), (327, .goto 91, 3), (330, .iload 8, 2), (332, .iload 7, 2), (334, .isub, 1), (335, .istore 8, 2), (337, .goto 81, 3), (340, .iload 8, 2)]
def ch_X1_reckon_9 : List (Nat × Instr × Nat) := [(342, .iload 7, 2), (344, .imul, 1), (345, .istore 8, 2), (347, .goto 71, 3), (350, .iload 8, 2), (352, .iload 7, 2), (354, .idiv, 1), (355, .istore 8, 2), (357, .goto 61, 3), (360, .iload 8, 2), (362, .iload 7, 2), (364, .irem, 1), (365, .istore 8, 2), (367, .goto 51, 3), (370, .iload 8, 2), (372, .iload 7, 2)]
def ch_X1_reckon_10 : List (Nat × Instr × Nat) := [(374, .if_icmp .ge 7, 3), (377, .iconst 1, 1), (378, .goto 4, 3), (381, .iconst 0, 1), (382, .istore 8, 2), (384, .goto 34, 3), (387, .iload 8, 2), (389, .iload 7, 2), (391, .if_icmp .le 7, 3), (394, .iconst 1, 1), (395, .goto 4, 3), (398, .iconst 0, 1), (399, .istore 8, 2), (401, .goto 17, 3), (404, .iload 8, 2), (406, .iload 7, 2)]
def ch_X1_reckon_11 : List (Nat × Instr × Nat) := [(408, .if_icmp .ne 7, 3), (411, .iconst 1, 1), (412, .goto 4, 3), (415, .iconst 0, 1), (416, .istore 8, 2), (418, .iinc 3 (-1), 3), (421, .aload_n 0, 1), (422, .getfield 44, 3), (425, .iload_n 3, 1), (426, .iconst 1, 1), (427, .isub, 1), (428, .iload 8, 2), (430, .iastore, 1), (431, .iinc 4 1, 3), (434, .goto (-429), 3), (437, .iload_n 3, 1)]
def ch_X1_reckon_12 : List (Nat × Instr × Nat) := [(438, .iconst 1, 1), (439, .if_icmp .ne 12, 3), (442, .aload_n 0, 1), (443, .getfield 44, 3), (446, .iconst 0, 1), (447, .iaload, 1), (448, .goto 4, 3), (451, .iconst 0, 1), (452, .ireturn, 1)]
set_option maxRecDepth 100000 in
theorem he_X1_reckon : cd_X1_reckon = ch_X1_reckon_0 ++ (ch_X1_reckon_1 ++ (ch_X1_reckon_2 ++ (ch_X1_reckon_3 ++ (ch_X1_reckon_4 ++ (ch_X1_reckon_5 ++ (ch_X1_reckon_6 ++ (ch_X1_reckon_7 ++ (ch_X1_reckon_8 ++ (ch_X1_reckon_9 ++ (ch_X1_reckon_10 ++ (ch_X1_reckon_11 ++ (ch_X1_reckon_12)))))))))))) := rfl
noncomputable def gc_X1_reckon : Nat → Option (Nat × Instr × Nat) := rv_ap 16 (rv_at ch_X1_reckon_0) (rv_ap 16 (rv_at ch_X1_reckon_1) (rv_ap 16 (rv_at ch_X1_reckon_2) (rv_ap 16 (rv_at ch_X1_reckon_3) (rv_ap 16 (rv_at ch_X1_reckon_4) (rv_ap 16 (rv_at ch_X1_reckon_5) (rv_ap 16 (rv_at ch_X1_reckon_6) (rv_ap 16 (rv_at ch_X1_reckon_7) (rv_ap 16 (rv_at ch_X1_reckon_8) (rv_ap 16 (rv_at ch_X1_reckon_9) (rv_ap 16 (rv_at ch_X1_reckon_10) (rv_ap 16 (rv_at ch_X1_reckon_11) (rv_at ch_X1_reckon_12))))))))))))
theorem hc_X1_reckon : ∀ i : Nat, cd_X1_reckon[i]? = gc_X1_reckon i := by
  rw [he_X1_reckon]
  exact rv_ap_eq (l := ch_X1_reckon_0) (c := 16) (rv_ap_eq (l := ch_X1_reckon_1) (c := 16) (rv_ap_eq (l := ch_X1_reckon_2) (c := 16) (rv_ap_eq (l := ch_X1_reckon_3) (c := 16) (rv_ap_eq (l := ch_X1_reckon_4) (c := 16) (rv_ap_eq (l := ch_X1_reckon_5) (c := 16) (rv_ap_eq (l := ch_X1_reckon_6) (c := 16) (rv_ap_eq (l := ch_X1_reckon_7) (c := 16) (rv_ap_eq (l := ch_X1_reckon_8) (c := 16) (rv_ap_eq (l := ch_X1_reckon_9) (c := 16) (rv_ap_eq (l := ch_X1_reckon_10) (c := 16) (rv_ap_eq (l := ch_X1_reckon_11) (c := 16) (rv_at_eq ch_X1_reckon_12) rfl) rfl) rfl) rfl) rfl) rfl) rfl) rfl) rfl) rfl) rfl) rfl
def K_X1_reckon_0 : rv_K := ([rv_r 7, rv_full, rv_full], [], [(15, 9999)], [(0, (-2147483648), 2147483647)], [], [])
def ct_X1_reckon_0 : List (Nat × rv_K) := []
def n_X1_reckon_0_0 : List rv_N := [
  (0, ([rv_r 7, rv_full, rv_full, rv_u, rv_u, rv_u, rv_u, rv_u, rv_u], [], []), [1], 14720501774247606090197, [], []),
  (1, ([rv_r 7, rv_full, rv_full, rv_u, rv_u, rv_u, rv_u, rv_u, rv_u], [rv_i 0 0], []), [2], 14720501774247606090196, [], []),
  (2, ([rv_r 7, rv_full, rv_full, rv_i 0 0, rv_u, rv_u, rv_u, rv_u, rv_u], [], []), [3], 14720501774247606090195, [], []),
  (3, ([rv_r 7, rv_full, rv_full, rv_i 0 0, rv_u, rv_u, rv_u, rv_u, rv_u], [(1, 0, (-2147483648), 2147483647, [(.inl 1, 0)], [])], []), [17], 14720501774247606090194, [], []),
  (4, ([rv_r 7, rv_full, rv_i 2 2147483647, rv_i 1 40, rv_i 2 200, rv_i 0 0, rv_i (-10000000) 10000000, rv_i 0 0, rv_full], [], []), [18], 7360250881982727189469, [(4, (-3427383903804))], []),
  (4, ([rv_r 7, rv_full, rv_i 1 2147483647, rv_i 1 40, rv_i 1 200, rv_i 0 0, rv_i (-10000000) 10000000, rv_u, rv_u], [], []), [19], 7360250881982727189469, [(4, (-3427383903804))], []),
  (4, ([rv_r 7, rv_full, rv_i 2 2147483647, rv_i 1 40, rv_i 2 200, (1, 1, 1, 1, [], []), rv_i 0 12, rv_i 0 0, rv_full], [], []), [20], 7360250881982727189469, [(4, (-3427383903804))], []),
  (4, ([rv_r 7, rv_full, rv_i 1 2147483647, rv_i 1 40, rv_i 1 200, (1, 1, 1, 1, [], []), rv_i 0 12, rv_u, rv_u], [], []), [21], 7360250881982727189469, [(4, (-3427383903804))], []),
  (4, ([rv_r 7, rv_full, rv_i 1 2147483647, rv_i 0 40, rv_i 1 10000001, (1, 1, 2, 3, [], []), rv_i (-10000000) 10000000, rv_i 0 0, rv_i 0 1], [], []), [22], 7360250881982727189469, [(4, (-3427383903804))], []),
  (4, ([rv_r 7, rv_full, rv_i 1 2147483647, rv_i 0 40, rv_i 1 10000001, (1, 1, 2, 4, [], []), rv_i (-10000000) 10000000, rv_full, rv_u], [], []), [23], 7360250881982727189469, [(4, (-3427383903804))], []),
  (4, ([rv_r 7, rv_full, rv_i 1 2147483647, rv_i 1 39, rv_i 1 200, (1, 1, 37, 37, [], []), rv_i (-10000000) 10000000, (1, 1, (-2147483648), 2147483647, [], []), rv_full], [], []), [24], 7360250881982727189469, [(4, (-3427383903804))], []),
  (4, ([rv_r 7, rv_full, rv_i 1 2147483647, rv_i 1 39, rv_i 1 200, (1, 1, 38, 46, [], []), rv_i (-10000000) 10000000, rv_i 0 0, rv_full], [], []), [25], 7360250881982727189469, [(4, (-3427383903804))], []),
  (4, ([rv_r 7, rv_full, rv_i 1 2147483647, rv_i 1 39, rv_i 1 200, (1, 1, 42, 45, [], []), rv_i (-10000000) 10000000, (1, 1, (-2147483648), 2147483647, [], []), rv_full], [], []), [26], 7360250881982727189469, [(4, (-3427383903804))], []),
  (4, ([rv_r 7, rv_full, rv_i 1 2147483647, rv_i 1 39, rv_i 1 200, (1, 1, 47, 47, [], []), rv_i (-10000000) 10000000, (1, 1, (-2147483648), 2147483647, [], []), rv_full], [], []), [27], 7360250881982727189469, [(4, (-3427383903804))], []),
  (4, ([rv_r 7, rv_full, rv_i 1 2147483647, rv_i 1 39, rv_i 1 200, (1, 1, 48, 2147483647, [], []), rv_i (-10000000) 10000000, rv_i 0 0, rv_i 0 1], [], []), [28], 7360250881982727189469, [(4, (-3427383903804))], []),
  (4, ([rv_r 7, rv_full, rv_i 1 2147483647, rv_i 1 39, rv_i 1 200, (1, 1, 60, 62, [], []), rv_i (-10000000) 10000000, (1, 1, (-2147483648), 2147483647, [], []), rv_i 0 1], [], []), [29], 7360250881982727189469, [(4, (-3427383903804))], [])]
def n_X1_reckon_0_1 : List rv_N := [
  (4, ([rv_r 7, rv_full, rv_i 1 2147483647, rv_i 1 39, rv_i 1 200, (1, 1, (-2147483648), 36, [], []), rv_i (-10000000) 10000000, rv_i 0 0, rv_i 0 1], [], []), [30], 7360250881982727189469, [(4, (-3427383903804))], []),
  (4, ([rv_r 7, rv_full, rv_full, rv_i 0 39, rv_full, rv_u, rv_u, rv_u, rv_u], [], []), [31], 7360250885410111093201, [(4, (-3427383903804))], []),
  (5, ([rv_r 7, rv_full, rv_i 2 2147483647, rv_i 1 40, rv_i 2 200, rv_i 0 0, rv_i (-10000000) 10000000, rv_i 0 0, rv_full], [(1, 0, 2, 200, [(.inl 4, 0)], [])], []), [32], 7360250881982727189468, [(4, (-3427383903804))], []),
  (5, ([rv_r 7, rv_full, rv_i 1 2147483647, rv_i 1 40, rv_i 1 200, rv_i 0 0, rv_i (-10000000) 10000000, rv_u, rv_u], [(1, 0, 1, 200, [(.inl 4, 0)], [])], []), [33], 7360250881982727189468, [(4, (-3427383903804))], []),
  (5, ([rv_r 7, rv_full, rv_i 2 2147483647, rv_i 1 40, rv_i 2 200, (1, 1, 1, 1, [], []), rv_i 0 12, rv_i 0 0, rv_full], [(1, 0, 2, 200, [(.inl 4, 0)], [])], []), [34], 7360250881982727189468, [(4, (-3427383903804))], []),
  (5, ([rv_r 7, rv_full, rv_i 1 2147483647, rv_i 1 40, rv_i 1 200, (1, 1, 1, 1, [], []), rv_i 0 12, rv_u, rv_u], [(1, 0, 1, 200, [(.inl 4, 0)], [])], []), [35], 7360250881982727189468, [(4, (-3427383903804))], []),
  (5, ([rv_r 7, rv_full, rv_i 1 2147483647, rv_i 0 40, rv_i 1 10000001, (1, 1, 2, 3, [], []), rv_i (-10000000) 10000000, rv_i 0 0, rv_i 0 1], [(1, 0, 1, 10000001, [(.inl 4, 0)], [])], []), [36], 7360250881982727189468, [(4, (-3427383903804))], []),
  (5, ([rv_r 7, rv_full, rv_i 1 2147483647, rv_i 0 40, rv_i 1 10000001, (1, 1, 2, 4, [], []), rv_i (-10000000) 10000000, rv_full, rv_u], [(1, 0, 1, 10000001, [(.inl 4, 0)], [])], []), [37], 7360250881982727189468, [(4, (-3427383903804))], []),
  (5, ([rv_r 7, rv_full, rv_i 1 2147483647, rv_i 1 39, rv_i 1 200, (1, 1, 37, 37, [], []), rv_i (-10000000) 10000000, (1, 1, (-2147483648), 2147483647, [], []), rv_full], [(1, 0, 1, 200, [(.inl 4, 0)], [])], []), [38], 7360250881982727189468, [(4, (-3427383903804))], []),
  (5, ([rv_r 7, rv_full, rv_i 1 2147483647, rv_i 1 39, rv_i 1 200, (1, 1, 38, 46, [], []), rv_i (-10000000) 10000000, rv_i 0 0, rv_full], [(1, 0, 1, 200, [(.inl 4, 0)], [])], []), [39], 7360250881982727189468, [(4, (-3427383903804))], []),
  (5, ([rv_r 7, rv_full, rv_i 1 2147483647, rv_i 1 39, rv_i 1 200, (1, 1, 42, 45, [], []), rv_i (-10000000) 10000000, (1, 1, (-2147483648), 2147483647, [], []), rv_full], [(1, 0, 1, 200, [(.inl 4, 0)], [])], []), [40], 7360250881982727189468, [(4, (-3427383903804))], []),
  (5, ([rv_r 7, rv_full, rv_i 1 2147483647, rv_i 1 39, rv_i 1 200, (1, 1, 47, 47, [], []), rv_i (-10000000) 10000000, (1, 1, (-2147483648), 2147483647, [], []), rv_full], [(1, 0, 1, 200, [(.inl 4, 0)], [])], []), [41], 7360250881982727189468, [(4, (-3427383903804))], []),
  (5, ([rv_r 7, rv_full, rv_i 1 2147483647, rv_i 1 39, rv_i 1 200, (1, 1, 48, 2147483647, [], []), rv_i (-10000000) 10000000, rv_i 0 0, rv_i 0 1], [(1, 0, 1, 200, [(.inl 4, 0)], [])], []), [42], 7360250881982727189468, [(4, (-3427383903804))], []),
  (5, ([rv_r 7, rv_full, rv_i 1 2147483647, rv_i 1 39, rv_i 1 200, (1, 1, 60, 62, [], []), rv_i (-10000000) 10000000, (1, 1, (-2147483648), 2147483647, [], []), rv_i 0 1], [(1, 0, 1, 200, [(.inl 4, 0)], [])], []), [43], 7360250881982727189468, [(4, (-3427383903804))], []),
  (5, ([rv_r 7, rv_full, rv_i 1 2147483647, rv_i 1 39, rv_i 1 200, (1, 1, (-2147483648), 36, [], []), rv_i (-10000000) 10000000, rv_i 0 0, rv_i 0 1], [(1, 0, 1, 200, [(.inl 4, 0)], [])], []), [44], 7360250881982727189468, [(4, (-3427383903804))], []),
  (5, ([rv_r 7, rv_full, rv_full, rv_i 0 39, rv_full, rv_u, rv_u, rv_u, rv_u], [(1, 0, (-2147483648), 2147483647, [(.inl 4, 0)], [])], []), [45, 647], 7360250885410111093200, [(4, (-3427383903804))], [])]
def n_X1_reckon_0_2 : List rv_N := [
  (6, ([rv_r 7, rv_full, rv_i 2 2147483647, rv_i 1 40, rv_i 2 200, rv_i 0 0, rv_i (-10000000) 10000000, rv_i 0 0, rv_full], [], []), [46], 7360250881982727189467, [(4, (-3427383903804))], []),
  (6, ([rv_r 7, rv_full, rv_i 1 2147483647, rv_i 1 40, rv_i 1 200, rv_i 0 0, rv_i (-10000000) 10000000, rv_u, rv_u], [], []), [47], 7360250881982727189467, [(4, (-3427383903804))], []),
  (6, ([rv_r 7, rv_full, rv_i 2 2147483647, rv_i 1 40, rv_i 2 200, (1, 1, 1, 1, [], []), rv_i 0 12, rv_i 0 0, rv_full], [], []), [48], 7360250881982727189467, [(4, (-3427383903804))], []),
  (6, ([rv_r 7, rv_full, rv_i 1 2147483647, rv_i 1 40, rv_i 1 200, (1, 1, 1, 1, [], []), rv_i 0 12, rv_u, rv_u], [], []), [49], 7360250881982727189467, [(4, (-3427383903804))], []),
  (6, ([rv_r 7, rv_full, rv_i 1 2147483647, rv_i 0 40, rv_i 1 10000001, (1, 1, 2, 3, [], []), rv_i (-10000000) 10000000, rv_i 0 0, rv_i 0 1], [], []), [50], 7360250881982727189467, [(4, (-3427383903804))], []),
  (6, ([rv_r 7, rv_full, rv_i 1 2147483647, rv_i 0 40, rv_i 1 10000001, (1, 1, 2, 4, [], []), rv_i (-10000000) 10000000, rv_full, rv_u], [], []), [51], 7360250881982727189467, [(4, (-3427383903804))], []),
  (6, ([rv_r 7, rv_full, rv_i 1 2147483647, rv_i 1 39, rv_i 1 200, (1, 1, 37, 37, [], []), rv_i (-10000000) 10000000, (1, 1, (-2147483648), 2147483647, [], []), rv_full], [], []), [52], 7360250881982727189467, [(4, (-3427383903804))], []),
  (6, ([rv_r 7, rv_full, rv_i 1 2147483647, rv_i 1 39, rv_i 1 200, (1, 1, 38, 46, [], []), rv_i (-10000000) 10000000, rv_i 0 0, rv_full], [], []), [53], 7360250881982727189467, [(4, (-3427383903804))], []),
  (6, ([rv_r 7, rv_full, rv_i 1 2147483647, rv_i 1 39, rv_i 1 200, (1, 1, 42, 45, [], []), rv_i (-10000000) 10000000, (1, 1, (-2147483648), 2147483647, [], []), rv_full], [], []), [54], 7360250881982727189467, [(4, (-3427383903804))], []),
  (6, ([rv_r 7, rv_full, rv_i 1 2147483647, rv_i 1 39, rv_i 1 200, (1, 1, 47, 47, [], []), rv_i (-10000000) 10000000, (1, 1, (-2147483648), 2147483647, [], []), rv_full], [], []), [55], 7360250881982727189467, [(4, (-3427383903804))], []),
  (6, ([rv_r 7, rv_full, rv_i 1 2147483647, rv_i 1 39, rv_i 1 200, (1, 1, 48, 2147483647, [], []), rv_i (-10000000) 10000000, rv_i 0 0, rv_i 0 1], [], []), [56], 7360250881982727189467, [(4, (-3427383903804))], []),
  (6, ([rv_r 7, rv_full, rv_i 1 2147483647, rv_i 1 39, rv_i 1 200, (1, 1, 60, 62, [], []), rv_i (-10000000) 10000000, (1, 1, (-2147483648), 2147483647, [], []), rv_i 0 1], [], []), [57], 7360250881982727189467, [(4, (-3427383903804))], []),
  (6, ([rv_r 7, rv_full, rv_i 1 2147483647, rv_i 1 39, rv_i 1 200, (1, 1, (-2147483648), 36, [], []), rv_i (-10000000) 10000000, rv_i 0 0, rv_i 0 1], [], []), [58], 7360250881982727189467, [(4, (-3427383903804))], []),
  (6, ([rv_r 7, rv_full, rv_full, rv_i 0 39, rv_i 0 2147483647, rv_u, rv_u, rv_u, rv_u], [], []), [59], 7360250885410111093199, [(4, (-3427383903804))], []),
  (7, ([rv_r 7, rv_full, rv_i 2 2147483647, rv_i 1 40, rv_i 2 200, rv_i 0 0, rv_i (-10000000) 10000000, rv_i 0 0, rv_full], [(1, 0, 2, 200, [(.inl 4, 0)], [])], []), [60], 7360250881982727189466, [(4, (-3427383903804))], []),
  (7, ([rv_r 7, rv_full, rv_i 1 2147483647, rv_i 1 40, rv_i 1 200, rv_i 0 0, rv_i (-10000000) 10000000, rv_u, rv_u], [(1, 0, 1, 200, [(.inl 4, 0)], [])], []), [61], 7360250881982727189466, [(4, (-3427383903804))], [])]
def n_X1_reckon_0_3 : List rv_N := [
  (7, ([rv_r 7, rv_full, rv_i 2 2147483647, rv_i 1 40, rv_i 2 200, (1, 1, 1, 1, [], []), rv_i 0 12, rv_i 0 0, rv_full], [(1, 0, 2, 200, [(.inl 4, 0)], [])], []), [62], 7360250881982727189466, [(4, (-3427383903804))], []),
  (7, ([rv_r 7, rv_full, rv_i 1 2147483647, rv_i 1 40, rv_i 1 200, (1, 1, 1, 1, [], []), rv_i 0 12, rv_u, rv_u], [(1, 0, 1, 200, [(.inl 4, 0)], [])], []), [63], 7360250881982727189466, [(4, (-3427383903804))], []),
  (7, ([rv_r 7, rv_full, rv_i 1 2147483647, rv_i 0 40, rv_i 1 10000001, (1, 1, 2, 3, [], []), rv_i (-10000000) 10000000, rv_i 0 0, rv_i 0 1], [(1, 0, 1, 10000001, [(.inl 4, 0)], [])], []), [64], 7360250881982727189466, [(4, (-3427383903804))], []),
  (7, ([rv_r 7, rv_full, rv_i 1 2147483647, rv_i 0 40, rv_i 1 10000001, (1, 1, 2, 4, [], []), rv_i (-10000000) 10000000, rv_full, rv_u], [(1, 0, 1, 10000001, [(.inl 4, 0)], [])], []), [65], 7360250881982727189466, [(4, (-3427383903804))], []),
  (7, ([rv_r 7, rv_full, rv_i 1 2147483647, rv_i 1 39, rv_i 1 200, (1, 1, 37, 37, [], []), rv_i (-10000000) 10000000, (1, 1, (-2147483648), 2147483647, [], []), rv_full], [(1, 0, 1, 200, [(.inl 4, 0)], [])], []), [66], 7360250881982727189466, [(4, (-3427383903804))], []),
  (7, ([rv_r 7, rv_full, rv_i 1 2147483647, rv_i 1 39, rv_i 1 200, (1, 1, 38, 46, [], []), rv_i (-10000000) 10000000, rv_i 0 0, rv_full], [(1, 0, 1, 200, [(.inl 4, 0)], [])], []), [67], 7360250881982727189466, [(4, (-3427383903804))], []),
  (7, ([rv_r 7, rv_full, rv_i 1 2147483647, rv_i 1 39, rv_i 1 200, (1, 1, 42, 45, [], []), rv_i (-10000000) 10000000, (1, 1, (-2147483648), 2147483647, [], []), rv_full], [(1, 0, 1, 200, [(.inl 4, 0)], [])], []), [68], 7360250881982727189466, [(4, (-3427383903804))], []),
  (7, ([rv_r 7, rv_full, rv_i 1 2147483647, rv_i 1 39, rv_i 1 200, (1, 1, 47, 47, [], []), rv_i (-10000000) 10000000, (1, 1, (-2147483648), 2147483647, [], []), rv_full], [(1, 0, 1, 200, [(.inl 4, 0)], [])], []), [69], 7360250881982727189466, [(4, (-3427383903804))], []),
  (7, ([rv_r 7, rv_full, rv_i 1 2147483647, rv_i 1 39, rv_i 1 200, (1, 1, 48, 2147483647, [], []), rv_i (-10000000) 10000000, rv_i 0 0, rv_i 0 1], [(1, 0, 1, 200, [(.inl 4, 0)], [])], []), [70], 7360250881982727189466, [(4, (-3427383903804))], []),
  (7, ([rv_r 7, rv_full, rv_i 1 2147483647, rv_i 1 39, rv_i 1 200, (1, 1, 60, 62, [], []), rv_i (-10000000) 10000000, (1, 1, (-2147483648), 2147483647, [], []), rv_i 0 1], [(1, 0, 1, 200, [(.inl 4, 0)], [])], []), [71], 7360250881982727189466, [(4, (-3427383903804))], []),
  (7, ([rv_r 7, rv_full, rv_i 1 2147483647, rv_i 1 39, rv_i 1 200, (1, 1, (-2147483648), 36, [], []), rv_i (-10000000) 10000000, rv_i 0 0, rv_i 0 1], [(1, 0, 1, 200, [(.inl 4, 0)], [])], []), [72], 7360250881982727189466, [(4, (-3427383903804))], []),
  (7, ([rv_r 7, rv_full, rv_full, rv_i 0 39, rv_i 0 2147483647, rv_u, rv_u, rv_u, rv_u], [(1, 0, 0, 2147483647, [(.inl 4, 0)], [])], []), [73], 7360250885410111093198, [(4, (-3427383903804))], []),
  (8, ([rv_r 7, rv_full, rv_i 2 2147483647, rv_i 1 40, rv_i 2 200, rv_i 0 0, rv_i (-10000000) 10000000, rv_i 0 0, rv_full], [(1, 0, 2, 2147483647, [(.inl 2, 0)], []), (1, 0, 2, 200, [(.inl 4, 0)], [])], []), [74, 634], 7360250881982727189465, [(4, (-3427383903804))], []),
  (8, ([rv_r 7, rv_full, rv_i 1 2147483647, rv_i 1 40, rv_i 1 200, rv_i 0 0, rv_i (-10000000) 10000000, rv_u, rv_u], [(1, 0, 1, 2147483647, [(.inl 2, 0)], []), (1, 0, 1, 200, [(.inl 4, 0)], [])], []), [75, 635], 7360250881982727189465, [(4, (-3427383903804))], []),
  (8, ([rv_r 7, rv_full, rv_i 2 2147483647, rv_i 1 40, rv_i 2 200, (1, 1, 1, 1, [], []), rv_i 0 12, rv_i 0 0, rv_full], [(1, 0, 2, 2147483647, [(.inl 2, 0)], []), (1, 0, 2, 200, [(.inl 4, 0)], [])], []), [76, 636], 7360250881982727189465, [(4, (-3427383903804))], []),
  (8, ([rv_r 7, rv_full, rv_i 1 2147483647, rv_i 1 40, rv_i 1 200, (1, 1, 1, 1, [], []), rv_i 0 12, rv_u, rv_u], [(1, 0, 1, 2147483647, [(.inl 2, 0)], []), (1, 0, 1, 200, [(.inl 4, 0)], [])], []), [77, 637], 7360250881982727189465, [(4, (-3427383903804))], [])]
def n_X1_reckon_0_4 : List rv_N := [
  (8, ([rv_r 7, rv_full, rv_i 1 2147483647, rv_i 0 40, rv_i 1 10000001, (1, 1, 2, 3, [], []), rv_i (-10000000) 10000000, rv_i 0 0, rv_i 0 1], [(1, 0, 1, 2147483647, [(.inl 2, 0)], []), (1, 0, 1, 10000001, [(.inl 4, 0)], [])], []), [78, 638], 7360250881982727189465, [(4, (-3427383903804))], []),
  (8, ([rv_r 7, rv_full, rv_i 1 2147483647, rv_i 0 40, rv_i 1 10000001, (1, 1, 2, 4, [], []), rv_i (-10000000) 10000000, rv_full, rv_u], [(1, 0, 1, 2147483647, [(.inl 2, 0)], []), (1, 0, 1, 10000001, [(.inl 4, 0)], [])], []), [79, 639], 7360250881982727189465, [(4, (-3427383903804))], []),
  (8, ([rv_r 7, rv_full, rv_i 1 2147483647, rv_i 1 39, rv_i 1 200, (1, 1, 37, 37, [], []), rv_i (-10000000) 10000000, (1, 1, (-2147483648), 2147483647, [], []), rv_full], [(1, 0, 1, 2147483647, [(.inl 2, 0)], []), (1, 0, 1, 200, [(.inl 4, 0)], [])], []), [80, 640], 7360250881982727189465, [(4, (-3427383903804))], []),
  (8, ([rv_r 7, rv_full, rv_i 1 2147483647, rv_i 1 39, rv_i 1 200, (1, 1, 38, 46, [], []), rv_i (-10000000) 10000000, rv_i 0 0, rv_full], [(1, 0, 1, 2147483647, [(.inl 2, 0)], []), (1, 0, 1, 200, [(.inl 4, 0)], [])], []), [81, 641], 7360250881982727189465, [(4, (-3427383903804))], []),
  (8, ([rv_r 7, rv_full, rv_i 1 2147483647, rv_i 1 39, rv_i 1 200, (1, 1, 42, 45, [], []), rv_i (-10000000) 10000000, (1, 1, (-2147483648), 2147483647, [], []), rv_full], [(1, 0, 1, 2147483647, [(.inl 2, 0)], []), (1, 0, 1, 200, [(.inl 4, 0)], [])], []), [82, 642], 7360250881982727189465, [(4, (-3427383903804))], []),
  (8, ([rv_r 7, rv_full, rv_i 1 2147483647, rv_i 1 39, rv_i 1 200, (1, 1, 47, 47, [], []), rv_i (-10000000) 10000000, (1, 1, (-2147483648), 2147483647, [], []), rv_full], [(1, 0, 1, 2147483647, [(.inl 2, 0)], []), (1, 0, 1, 200, [(.inl 4, 0)], [])], []), [83, 643], 7360250881982727189465, [(4, (-3427383903804))], []),
  (8, ([rv_r 7, rv_full, rv_i 1 2147483647, rv_i 1 39, rv_i 1 200, (1, 1, 48, 2147483647, [], []), rv_i (-10000000) 10000000, rv_i 0 0, rv_i 0 1], [(1, 0, 1, 2147483647, [(.inl 2, 0)], []), (1, 0, 1, 200, [(.inl 4, 0)], [])], []), [84, 644], 7360250881982727189465, [(4, (-3427383903804))], []),
  (8, ([rv_r 7, rv_full, rv_i 1 2147483647, rv_i 1 39, rv_i 1 200, (1, 1, 60, 62, [], []), rv_i (-10000000) 10000000, (1, 1, (-2147483648), 2147483647, [], []), rv_i 0 1], [(1, 0, 1, 2147483647, [(.inl 2, 0)], []), (1, 0, 1, 200, [(.inl 4, 0)], [])], []), [85, 645], 7360250881982727189465, [(4, (-3427383903804))], []),
  (8, ([rv_r 7, rv_full, rv_i 1 2147483647, rv_i 1 39, rv_i 1 200, (1, 1, (-2147483648), 36, [], []), rv_i (-10000000) 10000000, rv_i 0 0, rv_i 0 1], [(1, 0, 1, 2147483647, [(.inl 2, 0)], []), (1, 0, 1, 200, [(.inl 4, 0)], [])], []), [86, 646], 7360250881982727189465, [(4, (-3427383903804))], []),
  (8, ([rv_r 7, rv_full, rv_full, rv_i 0 39, rv_i 0 2147483647, rv_u, rv_u, rv_u, rv_u], [(1, 0, (-2147483648), 2147483647, [(.inl 2, 0)], []), (1, 0, 0, 2147483647, [(.inl 4, 0)], [])], []), [87, 647], 7360250885410111093197, [(4, (-3427383903804))], []),
  (9, ([rv_r 7, rv_full, rv_i 3 2147483647, rv_i 1 40, rv_i 2 200, rv_i 0 0, rv_i (-10000000) 10000000, rv_i 0 0, rv_full], [], []), [88], 7360250881982727189464, [(4, (-3427383903804))], []),
  (9, ([rv_r 7, rv_full, rv_i 2 2147483647, rv_i 1 40, rv_i 1 200, rv_i 0 0, rv_i (-10000000) 10000000, rv_u, rv_u], [], []), [89], 7360250881982727189464, [(4, (-3427383903804))], []),
  (9, ([rv_r 7, rv_full, rv_i 3 2147483647, rv_i 1 40, rv_i 2 200, (1, 1, 1, 1, [], []), rv_i 0 12, rv_i 0 0, rv_full], [], []), [90], 7360250881982727189464, [(4, (-3427383903804))], []),
  (9, ([rv_r 7, rv_full, rv_i 2 2147483647, rv_i 1 40, rv_i 1 200, (1, 1, 1, 1, [], []), rv_i 0 12, rv_u, rv_u], [], []), [91], 7360250881982727189464, [(4, (-3427383903804))], []),
  (9, ([rv_r 7, rv_full, rv_i 2 2147483647, rv_i 0 40, rv_i 1 10000001, (1, 1, 2, 3, [], []), rv_i (-10000000) 10000000, rv_i 0 0, rv_i 0 1], [], []), [92], 7360250881982727189464, [(4, (-3427383903804))], []),
  (9, ([rv_r 7, rv_full, rv_i 2 2147483647, rv_i 0 40, rv_i 1 10000001, (1, 1, 2, 4, [], []), rv_i (-10000000) 10000000, rv_full, rv_u], [], []), [93], 7360250881982727189464, [(4, (-3427383903804))], [])]
def n_X1_reckon_0_5 : List rv_N := [
  (9, ([rv_r 7, rv_full, rv_i 2 2147483647, rv_i 1 39, rv_i 1 200, (1, 1, 37, 37, [], []), rv_i (-10000000) 10000000, (1, 1, (-2147483648), 2147483647, [], []), rv_full], [], []), [94], 7360250881982727189464, [(4, (-3427383903804))], []),
  (9, ([rv_r 7, rv_full, rv_i 2 2147483647, rv_i 1 39, rv_i 1 200, (1, 1, 38, 46, [], []), rv_i (-10000000) 10000000, rv_i 0 0, rv_full], [], []), [95], 7360250881982727189464, [(4, (-3427383903804))], []),
  (9, ([rv_r 7, rv_full, rv_i 2 2147483647, rv_i 1 39, rv_i 1 200, (1, 1, 42, 45, [], []), rv_i (-10000000) 10000000, (1, 1, (-2147483648), 2147483647, [], []), rv_full], [], []), [96], 7360250881982727189464, [(4, (-3427383903804))], []),
  (9, ([rv_r 7, rv_full, rv_i 2 2147483647, rv_i 1 39, rv_i 1 200, (1, 1, 47, 47, [], []), rv_i (-10000000) 10000000, (1, 1, (-2147483648), 2147483647, [], []), rv_full], [], []), [97], 7360250881982727189464, [(4, (-3427383903804))], []),
  (9, ([rv_r 7, rv_full, rv_i 2 2147483647, rv_i 1 39, rv_i 1 200, (1, 1, 48, 2147483647, [], []), rv_i (-10000000) 10000000, rv_i 0 0, rv_i 0 1], [], []), [98], 7360250881982727189464, [(4, (-3427383903804))], []),
  (9, ([rv_r 7, rv_full, rv_i 2 2147483647, rv_i 1 39, rv_i 1 200, (1, 1, 60, 62, [], []), rv_i (-10000000) 10000000, (1, 1, (-2147483648), 2147483647, [], []), rv_i 0 1], [], []), [99], 7360250881982727189464, [(4, (-3427383903804))], []),
  (9, ([rv_r 7, rv_full, rv_i 2 2147483647, rv_i 1 39, rv_i 1 200, (1, 1, (-2147483648), 36, [], []), rv_i (-10000000) 10000000, rv_i 0 0, rv_i 0 1], [], []), [100], 7360250881982727189464, [(4, (-3427383903804))], []),
  (9, ([rv_r 7, rv_full, rv_i 1 2147483647, rv_i 0 39, rv_i 0 2147483646, rv_u, rv_u, rv_u, rv_u], [], []), [101], 7360250881982727189464, [(4, (-3427383903804))], []),
  (10, ([rv_r 7, rv_full, rv_i 3 2147483647, rv_i 1 40, rv_i 2 200, rv_i 0 0, rv_i (-10000000) 10000000, rv_i 0 0, rv_full], [(1, 0, 2, 200, [(.inl 4, 0)], [])], []), [102], 7360250881982727189463, [(4, (-3427383903804))], []),
  (10, ([rv_r 7, rv_full, rv_i 2 2147483647, rv_i 1 40, rv_i 1 200, rv_i 0 0, rv_i (-10000000) 10000000, rv_u, rv_u], [(1, 0, 1, 200, [(.inl 4, 0)], [])], []), [103], 7360250881982727189463, [(4, (-3427383903804))], []),
  (10, ([rv_r 7, rv_full, rv_i 3 2147483647, rv_i 1 40, rv_i 2 200, (1, 1, 1, 1, [], []), rv_i 0 12, rv_i 0 0, rv_full], [(1, 0, 2, 200, [(.inl 4, 0)], [])], []), [104], 7360250881982727189463, [(4, (-3427383903804))], []),
  (10, ([rv_r 7, rv_full, rv_i 2 2147483647, rv_i 1 40, rv_i 1 200, (1, 1, 1, 1, [], []), rv_i 0 12, rv_u, rv_u], [(1, 0, 1, 200, [(.inl 4, 0)], [])], []), [105], 7360250881982727189463, [(4, (-3427383903804))], []),
  (10, ([rv_r 7, rv_full, rv_i 2 2147483647, rv_i 0 40, rv_i 1 10000001, (1, 1, 2, 3, [], []), rv_i (-10000000) 10000000, rv_i 0 0, rv_i 0 1], [(1, 0, 1, 10000001, [(.inl 4, 0)], [])], []), [106], 7360250881982727189463, [(4, (-3427383903804))], []),
  (10, ([rv_r 7, rv_full, rv_i 2 2147483647, rv_i 0 40, rv_i 1 10000001, (1, 1, 2, 4, [], []), rv_i (-10000000) 10000000, rv_full, rv_u], [(1, 0, 1, 10000001, [(.inl 4, 0)], [])], []), [107], 7360250881982727189463, [(4, (-3427383903804))], []),
  (10, ([rv_r 7, rv_full, rv_i 2 2147483647, rv_i 1 39, rv_i 1 200, (1, 1, 37, 37, [], []), rv_i (-10000000) 10000000, (1, 1, (-2147483648), 2147483647, [], []), rv_full], [(1, 0, 1, 200, [(.inl 4, 0)], [])], []), [108], 7360250881982727189463, [(4, (-3427383903804))], []),
  (10, ([rv_r 7, rv_full, rv_i 2 2147483647, rv_i 1 39, rv_i 1 200, (1, 1, 38, 46, [], []), rv_i (-10000000) 10000000, rv_i 0 0, rv_full], [(1, 0, 1, 200, [(.inl 4, 0)], [])], []), [109], 7360250881982727189463, [(4, (-3427383903804))], [])]
def n_X1_reckon_0_6 : List rv_N := [
  (10, ([rv_r 7, rv_full, rv_i 2 2147483647, rv_i 1 39, rv_i 1 200, (1, 1, 42, 45, [], []), rv_i (-10000000) 10000000, (1, 1, (-2147483648), 2147483647, [], []), rv_full], [(1, 0, 1, 200, [(.inl 4, 0)], [])], []), [110], 7360250881982727189463, [(4, (-3427383903804))], []),
  (10, ([rv_r 7, rv_full, rv_i 2 2147483647, rv_i 1 39, rv_i 1 200, (1, 1, 47, 47, [], []), rv_i (-10000000) 10000000, (1, 1, (-2147483648), 2147483647, [], []), rv_full], [(1, 0, 1, 200, [(.inl 4, 0)], [])], []), [111], 7360250881982727189463, [(4, (-3427383903804))], []),
  (10, ([rv_r 7, rv_full, rv_i 2 2147483647, rv_i 1 39, rv_i 1 200, (1, 1, 48, 2147483647, [], []), rv_i (-10000000) 10000000, rv_i 0 0, rv_i 0 1], [(1, 0, 1, 200, [(.inl 4, 0)], [])], []), [112], 7360250881982727189463, [(4, (-3427383903804))], []),
  (10, ([rv_r 7, rv_full, rv_i 2 2147483647, rv_i 1 39, rv_i 1 200, (1, 1, 60, 62, [], []), rv_i (-10000000) 10000000, (1, 1, (-2147483648), 2147483647, [], []), rv_i 0 1], [(1, 0, 1, 200, [(.inl 4, 0)], [])], []), [113], 7360250881982727189463, [(4, (-3427383903804))], []),
  (10, ([rv_r 7, rv_full, rv_i 2 2147483647, rv_i 1 39, rv_i 1 200, (1, 1, (-2147483648), 36, [], []), rv_i (-10000000) 10000000, rv_i 0 0, rv_i 0 1], [(1, 0, 1, 200, [(.inl 4, 0)], [])], []), [114], 7360250881982727189463, [(4, (-3427383903804))], []),
  (10, ([rv_r 7, rv_full, rv_i 1 2147483647, rv_i 0 39, rv_i 0 2147483646, rv_u, rv_u, rv_u, rv_u], [(1, 0, 0, 2147483646, [(.inl 4, 0)], [])], []), [115], 7360250881982727189463, [(4, (-3427383903804))], []),
  (11, ([rv_r 7, rv_full, rv_i 3 2147483647, rv_i 1 40, rv_i 2 200, rv_i 0 0, rv_i (-10000000) 10000000, rv_i 0 0, rv_full], [rv_i 200 200, (1, 0, 2, 200, [(.inl 4, 0)], [])], []), [116, 634], 7360250881982727189462, [(4, (-3427383903804))], []),
  (11, ([rv_r 7, rv_full, rv_i 2 2147483647, rv_i 1 40, rv_i 1 200, rv_i 0 0, rv_i (-10000000) 10000000, rv_u, rv_u], [rv_i 200 200, (1, 0, 1, 200, [(.inl 4, 0)], [])], []), [117, 635], 7360250881982727189462, [(4, (-3427383903804))], []),
  (11, ([rv_r 7, rv_full, rv_i 3 2147483647, rv_i 1 40, rv_i 2 200, (1, 1, 1, 1, [], []), rv_i 0 12, rv_i 0 0, rv_full], [rv_i 200 200, (1, 0, 2, 200, [(.inl 4, 0)], [])], []), [118, 636], 7360250881982727189462, [(4, (-3427383903804))], []),
  (11, ([rv_r 7, rv_full, rv_i 2 2147483647, rv_i 1 40, rv_i 1 200, (1, 1, 1, 1, [], []), rv_i 0 12, rv_u, rv_u], [rv_i 200 200, (1, 0, 1, 200, [(.inl 4, 0)], [])], []), [119, 637], 7360250881982727189462, [(4, (-3427383903804))], []),
  (11, ([rv_r 7, rv_full, rv_i 2 2147483647, rv_i 0 40, rv_i 1 10000001, (1, 1, 2, 3, [], []), rv_i (-10000000) 10000000, rv_i 0 0, rv_i 0 1], [rv_i 200 200, (1, 0, 1, 10000001, [(.inl 4, 0)], [])], []), [120, 638], 7360250881982727189462, [(4, (-3427383903804))], []),
  (11, ([rv_r 7, rv_full, rv_i 2 2147483647, rv_i 0 40, rv_i 1 10000001, (1, 1, 2, 4, [], []), rv_i (-10000000) 10000000, rv_full, rv_u], [rv_i 200 200, (1, 0, 1, 10000001, [(.inl 4, 0)], [])], []), [121, 639], 7360250881982727189462, [(4, (-3427383903804))], []),
  (11, ([rv_r 7, rv_full, rv_i 2 2147483647, rv_i 1 39, rv_i 1 200, (1, 1, 37, 37, [], []), rv_i (-10000000) 10000000, (1, 1, (-2147483648), 2147483647, [], []), rv_full], [rv_i 200 200, (1, 0, 1, 200, [(.inl 4, 0)], [])], []), [122, 640], 7360250881982727189462, [(4, (-3427383903804))], []),
  (11, ([rv_r 7, rv_full, rv_i 2 2147483647, rv_i 1 39, rv_i 1 200, (1, 1, 38, 46, [], []), rv_i (-10000000) 10000000, rv_i 0 0, rv_full], [rv_i 200 200, (1, 0, 1, 200, [(.inl 4, 0)], [])], []), [123, 641], 7360250881982727189462, [(4, (-3427383903804))], []),
  (11, ([rv_r 7, rv_full, rv_i 2 2147483647, rv_i 1 39, rv_i 1 200, (1, 1, 42, 45, [], []), rv_i (-10000000) 10000000, (1, 1, (-2147483648), 2147483647, [], []), rv_full], [rv_i 200 200, (1, 0, 1, 200, [(.inl 4, 0)], [])], []), [124, 642], 7360250881982727189462, [(4, (-3427383903804))], []),
  (11, ([rv_r 7, rv_full, rv_i 2 2147483647, rv_i 1 39, rv_i 1 200, (1, 1, 47, 47, [], []), rv_i (-10000000) 10000000, (1, 1, (-2147483648), 2147483647, [], []), rv_full], [rv_i 200 200, (1, 0, 1, 200, [(.inl 4, 0)], [])], []), [125, 643], 7360250881982727189462, [(4, (-3427383903804))], [])]
def n_X1_reckon_0_7 : List rv_N := [
  (11, ([rv_r 7, rv_full, rv_i 2 2147483647, rv_i 1 39, rv_i 1 200, (1, 1, 48, 2147483647, [], []), rv_i (-10000000) 10000000, rv_i 0 0, rv_i 0 1], [rv_i 200 200, (1, 0, 1, 200, [(.inl 4, 0)], [])], []), [126, 644], 7360250881982727189462, [(4, (-3427383903804))], []),
  (11, ([rv_r 7, rv_full, rv_i 2 2147483647, rv_i 1 39, rv_i 1 200, (1, 1, 60, 62, [], []), rv_i (-10000000) 10000000, (1, 1, (-2147483648), 2147483647, [], []), rv_i 0 1], [rv_i 200 200, (1, 0, 1, 200, [(.inl 4, 0)], [])], []), [127, 645], 7360250881982727189462, [(4, (-3427383903804))], []),
  (11, ([rv_r 7, rv_full, rv_i 2 2147483647, rv_i 1 39, rv_i 1 200, (1, 1, (-2147483648), 36, [], []), rv_i (-10000000) 10000000, rv_i 0 0, rv_i 0 1], [rv_i 200 200, (1, 0, 1, 200, [(.inl 4, 0)], [])], []), [128, 646], 7360250881982727189462, [(4, (-3427383903804))], []),
  (11, ([rv_r 7, rv_full, rv_i 1 2147483647, rv_i 0 39, rv_i 0 2147483646, rv_u, rv_u, rv_u, rv_u], [rv_i 200 200, (1, 0, 0, 2147483646, [(.inl 4, 0)], [])], []), [129, 647], 7360250881982727189462, [(4, (-3427383903804))], []),
  (12, ([rv_r 7, rv_full, rv_i 3 2147483647, rv_i 1 40, rv_i 2 199, rv_i 0 0, rv_i (-10000000) 10000000, rv_i 0 0, rv_full], [], []), [130], 7360250881982727189461, [(4, (-3427383903804))], []),
  (12, ([rv_r 7, rv_full, rv_i 2 2147483647, rv_i 1 40, rv_i 1 199, rv_i 0 0, rv_i (-10000000) 10000000, rv_u, rv_u], [], []), [131], 7360250881982727189461, [(4, (-3427383903804))], []),
  (12, ([rv_r 7, rv_full, rv_i 3 2147483647, rv_i 1 40, rv_i 2 199, (1, 1, 1, 1, [], []), rv_i 0 12, rv_i 0 0, rv_full], [], []), [132], 7360250881982727189461, [(4, (-3427383903804))], []),
  (12, ([rv_r 7, rv_full, rv_i 2 2147483647, rv_i 1 40, rv_i 1 199, (1, 1, 1, 1, [], []), rv_i 0 12, rv_u, rv_u], [], []), [133], 7360250881982727189461, [(4, (-3427383903804))], []),
  (12, ([rv_r 7, rv_full, rv_i 2 2147483647, rv_i 0 40, rv_i 1 199, (1, 1, 2, 3, [], []), rv_i (-10000000) 10000000, rv_i 0 0, rv_i 0 1], [], []), [134], 7360250881982727189461, [(4, (-3427383903804))], []),
  (12, ([rv_r 7, rv_full, rv_i 2 2147483647, rv_i 0 40, rv_i 1 199, (1, 1, 2, 4, [], []), rv_i (-10000000) 10000000, rv_full, rv_u], [], []), [135], 7360250881982727189461, [(4, (-3427383903804))], []),
  (12, ([rv_r 7, rv_full, rv_i 2 2147483647, rv_i 1 39, rv_i 1 199, (1, 1, 37, 37, [], []), rv_i (-10000000) 10000000, (1, 1, (-2147483648), 2147483647, [], []), rv_full], [], []), [136], 7360250881982727189461, [(4, (-3427383903804))], []),
  (12, ([rv_r 7, rv_full, rv_i 2 2147483647, rv_i 1 39, rv_i 1 199, (1, 1, 38, 46, [], []), rv_i (-10000000) 10000000, rv_i 0 0, rv_full], [], []), [137], 7360250881982727189461, [(4, (-3427383903804))], []),
  (12, ([rv_r 7, rv_full, rv_i 2 2147483647, rv_i 1 39, rv_i 1 199, (1, 1, 42, 45, [], []), rv_i (-10000000) 10000000, (1, 1, (-2147483648), 2147483647, [], []), rv_full], [], []), [138], 7360250881982727189461, [(4, (-3427383903804))], []),
  (12, ([rv_r 7, rv_full, rv_i 2 2147483647, rv_i 1 39, rv_i 1 199, (1, 1, 47, 47, [], []), rv_i (-10000000) 10000000, (1, 1, (-2147483648), 2147483647, [], []), rv_full], [], []), [139], 7360250881982727189461, [(4, (-3427383903804))], []),
  (12, ([rv_r 7, rv_full, rv_i 2 2147483647, rv_i 1 39, rv_i 1 199, (1, 1, 48, 2147483647, [], []), rv_i (-10000000) 10000000, rv_i 0 0, rv_i 0 1], [], []), [140], 7360250881982727189461, [(4, (-3427383903804))], []),
  (12, ([rv_r 7, rv_full, rv_i 2 2147483647, rv_i 1 39, rv_i 1 199, (1, 1, 60, 62, [], []), rv_i (-10000000) 10000000, (1, 1, (-2147483648), 2147483647, [], []), rv_i 0 1], [], []), [141], 7360250881982727189461, [(4, (-3427383903804))], [])]
def n_X1_reckon_0_8 : List rv_N := [
  (12, ([rv_r 7, rv_full, rv_i 2 2147483647, rv_i 1 39, rv_i 1 199, (1, 1, (-2147483648), 36, [], []), rv_i (-10000000) 10000000, rv_i 0 0, rv_i 0 1], [], []), [142], 7360250881982727189461, [(4, (-3427383903804))], []),
  (12, ([rv_r 7, rv_full, rv_i 1 2147483647, rv_i 0 39, rv_i 0 199, rv_u, rv_u, rv_u, rv_u], [], []), [143], 7360250881982727189461, [(4, (-3427383903804))], []),
  (13, ([rv_r 7, rv_full, rv_i 3 2147483647, rv_i 1 40, rv_i 2 199, rv_i 0 0, rv_i (-10000000) 10000000, rv_i 0 0, rv_full], [rv_r 7], []), [144], 7360250881982727189460, [(4, (-3427383903804))], []),
  (13, ([rv_r 7, rv_full, rv_i 2 2147483647, rv_i 1 40, rv_i 1 199, rv_i 0 0, rv_i (-10000000) 10000000, rv_u, rv_u], [rv_r 7], []), [145], 7360250881982727189460, [(4, (-3427383903804))], []),
  (13, ([rv_r 7, rv_full, rv_i 3 2147483647, rv_i 1 40, rv_i 2 199, (1, 1, 1, 1, [], []), rv_i 0 12, rv_i 0 0, rv_full], [rv_r 7], []), [146], 7360250881982727189460, [(4, (-3427383903804))], []),
  (13, ([rv_r 7, rv_full, rv_i 2 2147483647, rv_i 1 40, rv_i 1 199, (1, 1, 1, 1, [], []), rv_i 0 12, rv_u, rv_u], [rv_r 7], []), [147], 7360250881982727189460, [(4, (-3427383903804))], []),
  (13, ([rv_r 7, rv_full, rv_i 2 2147483647, rv_i 0 40, rv_i 1 199, (1, 1, 2, 3, [], []), rv_i (-10000000) 10000000, rv_i 0 0, rv_i 0 1], [rv_r 7], []), [148], 7360250881982727189460, [(4, (-3427383903804))], []),
  (13, ([rv_r 7, rv_full, rv_i 2 2147483647, rv_i 0 40, rv_i 1 199, (1, 1, 2, 4, [], []), rv_i (-10000000) 10000000, rv_full, rv_u], [rv_r 7], []), [149], 7360250881982727189460, [(4, (-3427383903804))], []),
  (13, ([rv_r 7, rv_full, rv_i 2 2147483647, rv_i 1 39, rv_i 1 199, (1, 1, 37, 37, [], []), rv_i (-10000000) 10000000, (1, 1, (-2147483648), 2147483647, [], []), rv_full], [rv_r 7], []), [150], 7360250881982727189460, [(4, (-3427383903804))], []),
  (13, ([rv_r 7, rv_full, rv_i 2 2147483647, rv_i 1 39, rv_i 1 199, (1, 1, 38, 46, [], []), rv_i (-10000000) 10000000, rv_i 0 0, rv_full], [rv_r 7], []), [151], 7360250881982727189460, [(4, (-3427383903804))], []),
  (13, ([rv_r 7, rv_full, rv_i 2 2147483647, rv_i 1 39, rv_i 1 199, (1, 1, 42, 45, [], []), rv_i (-10000000) 10000000, (1, 1, (-2147483648), 2147483647, [], []), rv_full], [rv_r 7], []), [152], 7360250881982727189460, [(4, (-3427383903804))], []),
  (13, ([rv_r 7, rv_full, rv_i 2 2147483647, rv_i 1 39, rv_i 1 199, (1, 1, 47, 47, [], []), rv_i (-10000000) 10000000, (1, 1, (-2147483648), 2147483647, [], []), rv_full], [rv_r 7], []), [153], 7360250881982727189460, [(4, (-3427383903804))], []),
  (13, ([rv_r 7, rv_full, rv_i 2 2147483647, rv_i 1 39, rv_i 1 199, (1, 1, 48, 2147483647, [], []), rv_i (-10000000) 10000000, rv_i 0 0, rv_i 0 1], [rv_r 7], []), [154], 7360250881982727189460, [(4, (-3427383903804))], []),
  (13, ([rv_r 7, rv_full, rv_i 2 2147483647, rv_i 1 39, rv_i 1 199, (1, 1, 60, 62, [], []), rv_i (-10000000) 10000000, (1, 1, (-2147483648), 2147483647, [], []), rv_i 0 1], [rv_r 7], []), [155], 7360250881982727189460, [(4, (-3427383903804))], []),
  (13, ([rv_r 7, rv_full, rv_i 2 2147483647, rv_i 1 39, rv_i 1 199, (1, 1, (-2147483648), 36, [], []), rv_i (-10000000) 10000000, rv_i 0 0, rv_i 0 1], [rv_r 7], []), [156], 7360250881982727189460, [(4, (-3427383903804))], []),
  (13, ([rv_r 7, rv_full, rv_i 1 2147483647, rv_i 0 39, rv_i 0 199, rv_u, rv_u, rv_u, rv_u], [rv_r 7], []), [157], 7360250881982727189460, [(4, (-3427383903804))], [])]
def n_X1_reckon_0_9 : List rv_N := [
  (14, ([rv_r 7, rv_full, rv_i 3 2147483647, rv_i 1 40, rv_i 2 199, rv_i 0 0, rv_i (-10000000) 10000000, rv_i 0 0, rv_full], [rv_r 8], []), [158], 7360250881982727189459, [(4, (-3427383903804))], []),
  (14, ([rv_r 7, rv_full, rv_i 2 2147483647, rv_i 1 40, rv_i 1 199, rv_i 0 0, rv_i (-10000000) 10000000, rv_u, rv_u], [rv_r 8], []), [159], 7360250881982727189459, [(4, (-3427383903804))], []),
  (14, ([rv_r 7, rv_full, rv_i 3 2147483647, rv_i 1 40, rv_i 2 199, (1, 1, 1, 1, [], []), rv_i 0 12, rv_i 0 0, rv_full], [rv_r 8], []), [160], 7360250881982727189459, [(4, (-3427383903804))], []),
  (14, ([rv_r 7, rv_full, rv_i 2 2147483647, rv_i 1 40, rv_i 1 199, (1, 1, 1, 1, [], []), rv_i 0 12, rv_u, rv_u], [rv_r 8], []), [161], 7360250881982727189459, [(4, (-3427383903804))], []),
  (14, ([rv_r 7, rv_full, rv_i 2 2147483647, rv_i 0 40, rv_i 1 199, (1, 1, 2, 3, [], []), rv_i (-10000000) 10000000, rv_i 0 0, rv_i 0 1], [rv_r 8], []), [162], 7360250881982727189459, [(4, (-3427383903804))], []),
  (14, ([rv_r 7, rv_full, rv_i 2 2147483647, rv_i 0 40, rv_i 1 199, (1, 1, 2, 4, [], []), rv_i (-10000000) 10000000, rv_full, rv_u], [rv_r 8], []), [163], 7360250881982727189459, [(4, (-3427383903804))], []),
  (14, ([rv_r 7, rv_full, rv_i 2 2147483647, rv_i 1 39, rv_i 1 199, (1, 1, 37, 37, [], []), rv_i (-10000000) 10000000, (1, 1, (-2147483648), 2147483647, [], []), rv_full], [rv_r 8], []), [164], 7360250881982727189459, [(4, (-3427383903804))], []),
  (14, ([rv_r 7, rv_full, rv_i 2 2147483647, rv_i 1 39, rv_i 1 199, (1, 1, 38, 46, [], []), rv_i (-10000000) 10000000, rv_i 0 0, rv_full], [rv_r 8], []), [165], 7360250881982727189459, [(4, (-3427383903804))], []),
  (14, ([rv_r 7, rv_full, rv_i 2 2147483647, rv_i 1 39, rv_i 1 199, (1, 1, 42, 45, [], []), rv_i (-10000000) 10000000, (1, 1, (-2147483648), 2147483647, [], []), rv_full], [rv_r 8], []), [166], 7360250881982727189459, [(4, (-3427383903804))], []),
  (14, ([rv_r 7, rv_full, rv_i 2 2147483647, rv_i 1 39, rv_i 1 199, (1, 1, 47, 47, [], []), rv_i (-10000000) 10000000, (1, 1, (-2147483648), 2147483647, [], []), rv_full], [rv_r 8], []), [167], 7360250881982727189459, [(4, (-3427383903804))], []),
  (14, ([rv_r 7, rv_full, rv_i 2 2147483647, rv_i 1 39, rv_i 1 199, (1, 1, 48, 2147483647, [], []), rv_i (-10000000) 10000000, rv_i 0 0, rv_i 0 1], [rv_r 8], []), [168], 7360250881982727189459, [(4, (-3427383903804))], []),
  (14, ([rv_r 7, rv_full, rv_i 2 2147483647, rv_i 1 39, rv_i 1 199, (1, 1, 60, 62, [], []), rv_i (-10000000) 10000000, (1, 1, (-2147483648), 2147483647, [], []), rv_i 0 1], [rv_r 8], []), [169], 7360250881982727189459, [(4, (-3427383903804))], []),
  (14, ([rv_r 7, rv_full, rv_i 2 2147483647, rv_i 1 39, rv_i 1 199, (1, 1, (-2147483648), 36, [], []), rv_i (-10000000) 10000000, rv_i 0 0, rv_i 0 1], [rv_r 8], []), [170], 7360250881982727189459, [(4, (-3427383903804))], []),
  (14, ([rv_r 7, rv_full, rv_i 1 2147483647, rv_i 0 39, rv_i 0 199, rv_u, rv_u, rv_u, rv_u], [rv_r 8], []), [171], 7360250881982727189459, [(4, (-3427383903804))], []),
  (15, ([rv_r 7, rv_full, rv_i 3 2147483647, rv_i 1 40, rv_i 2 199, rv_i 0 0, rv_i (-10000000) 10000000, rv_i 0 0, rv_full], [(1, 0, 2, 199, [(.inl 4, 0)], []), rv_r 8], []), [172], 7360250881982727189458, [(4, (-3427383903804))], []),
  (15, ([rv_r 7, rv_full, rv_i 2 2147483647, rv_i 1 40, rv_i 1 199, rv_i 0 0, rv_i (-10000000) 10000000, rv_u, rv_u], [(1, 0, 1, 199, [(.inl 4, 0)], []), rv_r 8], []), [173], 7360250881982727189458, [(4, (-3427383903804))], [])]
def n_X1_reckon_0_10 : List rv_N := [
  (15, ([rv_r 7, rv_full, rv_i 3 2147483647, rv_i 1 40, rv_i 2 199, (1, 1, 1, 1, [], []), rv_i 0 12, rv_i 0 0, rv_full], [(1, 0, 2, 199, [(.inl 4, 0)], []), rv_r 8], []), [174], 7360250881982727189458, [(4, (-3427383903804))], []),
  (15, ([rv_r 7, rv_full, rv_i 2 2147483647, rv_i 1 40, rv_i 1 199, (1, 1, 1, 1, [], []), rv_i 0 12, rv_u, rv_u], [(1, 0, 1, 199, [(.inl 4, 0)], []), rv_r 8], []), [175], 7360250881982727189458, [(4, (-3427383903804))], []),
  (15, ([rv_r 7, rv_full, rv_i 2 2147483647, rv_i 0 40, rv_i 1 199, (1, 1, 2, 3, [], []), rv_i (-10000000) 10000000, rv_i 0 0, rv_i 0 1], [(1, 0, 1, 199, [(.inl 4, 0)], []), rv_r 8], []), [176], 7360250881982727189458, [(4, (-3427383903804))], []),
  (15, ([rv_r 7, rv_full, rv_i 2 2147483647, rv_i 0 40, rv_i 1 199, (1, 1, 2, 4, [], []), rv_i (-10000000) 10000000, rv_full, rv_u], [(1, 0, 1, 199, [(.inl 4, 0)], []), rv_r 8], []), [177], 7360250881982727189458, [(4, (-3427383903804))], []),
  (15, ([rv_r 7, rv_full, rv_i 2 2147483647, rv_i 1 39, rv_i 1 199, (1, 1, 37, 37, [], []), rv_i (-10000000) 10000000, (1, 1, (-2147483648), 2147483647, [], []), rv_full], [(1, 0, 1, 199, [(.inl 4, 0)], []), rv_r 8], []), [178], 7360250881982727189458, [(4, (-3427383903804))], []),
  (15, ([rv_r 7, rv_full, rv_i 2 2147483647, rv_i 1 39, rv_i 1 199, (1, 1, 38, 46, [], []), rv_i (-10000000) 10000000, rv_i 0 0, rv_full], [(1, 0, 1, 199, [(.inl 4, 0)], []), rv_r 8], []), [179], 7360250881982727189458, [(4, (-3427383903804))], []),
  (15, ([rv_r 7, rv_full, rv_i 2 2147483647, rv_i 1 39, rv_i 1 199, (1, 1, 42, 45, [], []), rv_i (-10000000) 10000000, (1, 1, (-2147483648), 2147483647, [], []), rv_full], [(1, 0, 1, 199, [(.inl 4, 0)], []), rv_r 8], []), [180], 7360250881982727189458, [(4, (-3427383903804))], []),
  (15, ([rv_r 7, rv_full, rv_i 2 2147483647, rv_i 1 39, rv_i 1 199, (1, 1, 47, 47, [], []), rv_i (-10000000) 10000000, (1, 1, (-2147483648), 2147483647, [], []), rv_full], [(1, 0, 1, 199, [(.inl 4, 0)], []), rv_r 8], []), [181], 7360250881982727189458, [(4, (-3427383903804))], []),
  (15, ([rv_r 7, rv_full, rv_i 2 2147483647, rv_i 1 39, rv_i 1 199, (1, 1, 48, 2147483647, [], []), rv_i (-10000000) 10000000, rv_i 0 0, rv_i 0 1], [(1, 0, 1, 199, [(.inl 4, 0)], []), rv_r 8], []), [182], 7360250881982727189458, [(4, (-3427383903804))], []),
  (15, ([rv_r 7, rv_full, rv_i 2 2147483647, rv_i 1 39, rv_i 1 199, (1, 1, 60, 62, [], []), rv_i (-10000000) 10000000, (1, 1, (-2147483648), 2147483647, [], []), rv_i 0 1], [(1, 0, 1, 199, [(.inl 4, 0)], []), rv_r 8], []), [183], 7360250881982727189458, [(4, (-3427383903804))], []),
  (15, ([rv_r 7, rv_full, rv_i 2 2147483647, rv_i 1 39, rv_i 1 199, (1, 1, (-2147483648), 36, [], []), rv_i (-10000000) 10000000, rv_i 0 0, rv_i 0 1], [(1, 0, 1, 199, [(.inl 4, 0)], []), rv_r 8], []), [184], 7360250881982727189458, [(4, (-3427383903804))], []),
  (15, ([rv_r 7, rv_full, rv_i 1 2147483647, rv_i 0 39, rv_i 0 199, rv_u, rv_u, rv_u, rv_u], [(1, 0, 0, 199, [(.inl 4, 0)], []), rv_r 8], []), [185], 7360250881982727189458, [(4, (-3427383903804))], []),
  (16, ([rv_r 7, rv_full, rv_i 3 2147483647, rv_i 1 40, rv_i 2 199, rv_i 0 0, rv_i (-10000000) 10000000, rv_i 0 0, rv_full], [(1, 0, (-2147483648), 2147483647, [(.inr (8, 5004), 0)], [])], []), [186], 7360250881982727189457, [(4, (-3427383903804))], []),
  (16, ([rv_r 7, rv_full, rv_i 2 2147483647, rv_i 1 40, rv_i 1 199, rv_i 0 0, rv_i (-10000000) 10000000, rv_u, rv_u], [(1, 0, (-2147483648), 2147483647, [(.inr (8, 5004), 0)], [])], []), [187], 7360250881982727189457, [(4, (-3427383903804))], []),
  (16, ([rv_r 7, rv_full, rv_i 3 2147483647, rv_i 1 40, rv_i 2 199, (1, 1, 1, 1, [], []), rv_i 0 12, rv_i 0 0, rv_full], [(1, 0, (-2147483648), 2147483647, [(.inr (8, 5004), 0)], [])], []), [186], 7360250881982727189457, [(4, (-3427383903804))], []),
  (16, ([rv_r 7, rv_full, rv_i 2 2147483647, rv_i 1 40, rv_i 1 199, (1, 1, 1, 1, [], []), rv_i 0 12, rv_u, rv_u], [(1, 0, (-2147483648), 2147483647, [(.inr (8, 5004), 0)], [])], []), [187], 7360250881982727189457, [(4, (-3427383903804))], [])]
def n_X1_reckon_0_11 : List rv_N := [
  (16, ([rv_r 7, rv_full, rv_i 2 2147483647, rv_i 0 40, rv_i 1 199, (1, 1, 2, 3, [], []), rv_i (-10000000) 10000000, rv_i 0 0, rv_i 0 1], [(1, 0, (-2147483648), 2147483647, [(.inr (8, 5004), 0)], [])], []), [186], 7360250881982727189457, [(4, (-3427383903804))], []),
  (16, ([rv_r 7, rv_full, rv_i 2 2147483647, rv_i 0 40, rv_i 1 199, (1, 1, 2, 4, [], []), rv_i (-10000000) 10000000, rv_full, rv_u], [(1, 0, (-2147483648), 2147483647, [(.inr (8, 5004), 0)], [])], []), [187], 7360250881982727189457, [(4, (-3427383903804))], []),
  (16, ([rv_r 7, rv_full, rv_i 2 2147483647, rv_i 1 39, rv_i 1 199, (1, 1, 37, 37, [], []), rv_i (-10000000) 10000000, (1, 1, (-2147483648), 2147483647, [], []), rv_full], [(1, 0, (-2147483648), 2147483647, [(.inr (8, 5004), 0)], [])], []), [187], 7360250881982727189457, [(4, (-3427383903804))], []),
  (16, ([rv_r 7, rv_full, rv_i 2 2147483647, rv_i 1 39, rv_i 1 199, (1, 1, 38, 46, [], []), rv_i (-10000000) 10000000, rv_i 0 0, rv_full], [(1, 0, (-2147483648), 2147483647, [(.inr (8, 5004), 0)], [])], []), [186], 7360250881982727189457, [(4, (-3427383903804))], []),
  (16, ([rv_r 7, rv_full, rv_i 2 2147483647, rv_i 1 39, rv_i 1 199, (1, 1, 42, 45, [], []), rv_i (-10000000) 10000000, (1, 1, (-2147483648), 2147483647, [], []), rv_full], [(1, 0, (-2147483648), 2147483647, [(.inr (8, 5004), 0)], [])], []), [187], 7360250881982727189457, [(4, (-3427383903804))], []),
  (16, ([rv_r 7, rv_full, rv_i 2 2147483647, rv_i 1 39, rv_i 1 199, (1, 1, 47, 47, [], []), rv_i (-10000000) 10000000, (1, 1, (-2147483648), 2147483647, [], []), rv_full], [(1, 0, (-2147483648), 2147483647, [(.inr (8, 5004), 0)], [])], []), [187], 7360250881982727189457, [(4, (-3427383903804))], []),
  (16, ([rv_r 7, rv_full, rv_i 2 2147483647, rv_i 1 39, rv_i 1 199, (1, 1, 48, 2147483647, [], []), rv_i (-10000000) 10000000, rv_i 0 0, rv_i 0 1], [(1, 0, (-2147483648), 2147483647, [(.inr (8, 5004), 0)], [])], []), [186], 7360250881982727189457, [(4, (-3427383903804))], []),
  (16, ([rv_r 7, rv_full, rv_i 2 2147483647, rv_i 1 39, rv_i 1 199, (1, 1, 60, 62, [], []), rv_i (-10000000) 10000000, (1, 1, (-2147483648), 2147483647, [], []), rv_i 0 1], [(1, 0, (-2147483648), 2147483647, [(.inr (8, 5004), 0)], [])], []), [187], 7360250881982727189457, [(4, (-3427383903804))], []),
  (16, ([rv_r 7, rv_full, rv_i 2 2147483647, rv_i 1 39, rv_i 1 199, (1, 1, (-2147483648), 36, [], []), rv_i (-10000000) 10000000, rv_i 0 0, rv_i 0 1], [(1, 0, (-2147483648), 2147483647, [(.inr (8, 5004), 0)], [])], []), [186], 7360250881982727189457, [(4, (-3427383903804))], []),
  (16, ([rv_r 7, rv_full, rv_i 1 2147483647, rv_i 0 39, rv_i 0 199, rv_u, rv_u, rv_u, rv_u], [(1, 0, (-2147483648), 2147483647, [(.inr (8, 5004), 0)], [])], []), [187], 7360250881982727189457, [(4, (-3427383903804))], []),
  (17, ([rv_r 7, rv_full, rv_i 2 2147483647, rv_i 0 40, rv_i 1 199, rv_full, rv_i (-10000000) 10000000, rv_i 0 0, rv_full], [], []), [188], 7360250881982727189456, [(4, (-3427383903804))], []),
  (17, ([rv_r 7, rv_full, rv_i 1 2147483647, rv_i 0 40, rv_i 0 199, rv_full, rv_u, rv_u, rv_u], [], []), [189], 7360250881982727189456, [(4, (-3427383903804))], []),
  (18, ([rv_r 7, rv_full, rv_i 2 2147483647, rv_i 0 40, rv_i 1 199, rv_full, rv_i (-10000000) 10000000, rv_i 0 0, rv_full], [rv_r 7], []), [190], 7360250881982727189455, [(4, (-3427383903804))], []),
  (18, ([rv_r 7, rv_full, rv_i 1 2147483647, rv_i 0 40, rv_i 0 199, rv_full, rv_u, rv_u, rv_u], [rv_r 7], []), [191], 7360250881982727189455, [(4, (-3427383903804))], []),
  (19, ([rv_r 7, rv_full, rv_i 2 2147483647, rv_i 0 40, rv_i 1 199, rv_full, rv_i (-10000000) 10000000, rv_i 0 0, rv_full], [rv_r 9], []), [192], 7360250881982727189454, [(4, (-3427383903804))], []),
  (19, ([rv_r 7, rv_full, rv_i 1 2147483647, rv_i 0 40, rv_i 0 199, rv_full, rv_u, rv_u, rv_u], [rv_r 9], []), [193], 7360250881982727189454, [(4, (-3427383903804))], [])]
def n_X1_reckon_0_12 : List rv_N := [
  (20, ([rv_r 7, rv_full, rv_i 2 2147483647, rv_i 0 40, rv_i 1 199, rv_full, rv_i (-10000000) 10000000, rv_i 0 0, rv_full], [(1, 0, 1, 199, [(.inl 4, 0)], []), rv_r 9], []), [194], 7360250881982727189453, [(4, (-3427383903804))], []),
  (20, ([rv_r 7, rv_full, rv_i 1 2147483647, rv_i 0 40, rv_i 0 199, rv_full, rv_u, rv_u, rv_u], [(1, 0, 0, 199, [(.inl 4, 0)], []), rv_r 9], []), [195], 7360250881982727189453, [(4, (-3427383903804))], []),
  (21, ([rv_r 7, rv_full, rv_i 2 2147483647, rv_i 0 40, rv_i 1 199, rv_full, rv_i (-10000000) 10000000, rv_i 0 0, rv_full], [(1, 0, (-10000000), 10000000, [(.inr (9, 5004), 0)], [])], []), [196], 7360250881982727189452, [(4, (-3427383903804))], []),
  (21, ([rv_r 7, rv_full, rv_i 1 2147483647, rv_i 0 40, rv_i 0 199, rv_full, rv_u, rv_u, rv_u], [(1, 0, (-10000000), 10000000, [(.inr (9, 5004), 0)], [])], []), [197], 7360250881982727189452, [(4, (-3427383903804))], []),
  (22, ([rv_r 7, rv_full, rv_i 2 2147483647, rv_i 0 40, rv_i 1 199, rv_full, rv_i (-10000000) 10000000, rv_i 0 0, rv_full], [], []), [198], 7360250881982727189451, [(4, (-3427383903804))], []),
  (22, ([rv_r 7, rv_full, rv_i 1 2147483647, rv_i 0 40, rv_i 0 199, rv_full, rv_i (-10000000) 10000000, rv_u, rv_u], [], []), [199], 7360250881982727189451, [(4, (-3427383903804))], []),
  (23, ([rv_r 7, rv_full, rv_i 2 2147483647, rv_i 0 40, rv_i 1 199, rv_full, rv_i (-10000000) 10000000, rv_i 0 0, rv_full], [(1, 0, (-2147483648), 2147483647, [(.inl 5, 0)], [])], []), [200, 206], 7360250881982727189450, [(4, (-3427383903804))], []),
  (23, ([rv_r 7, rv_full, rv_i 1 2147483647, rv_i 0 40, rv_i 0 199, rv_full, rv_i (-10000000) 10000000, rv_u, rv_u], [(1, 0, (-2147483648), 2147483647, [(.inl 5, 0)], [])], []), [201, 207], 7360250881982727189450, [(4, (-3427383903804))], []),
  (24, ([rv_r 7, rv_full, rv_i 2 2147483647, rv_i 0 40, rv_i 1 199, (1, 1, (-2147483648), 2147483647, [], []), rv_i (-10000000) 10000000, rv_i 0 0, rv_full], [], []), [202], 7360250881982727189449, [(4, (-3427383903804))], []),
  (24, ([rv_r 7, rv_full, rv_i 1 2147483647, rv_i 0 40, rv_i 0 199, (1, 1, (-2147483648), 2147483647, [], []), rv_i (-10000000) 10000000, rv_u, rv_u], [], []), [203], 7360250881982727189449, [(4, (-3427383903804))], []),
  (25, ([rv_r 7, rv_full, rv_i 2 2147483647, rv_i 0 40, rv_i 1 199, (1, 1, (-2147483648), 2147483647, [], []), rv_i (-10000000) 10000000, rv_i 0 0, rv_full], [(1, 1, (-2147483648), 2147483647, [(.inl 5, 0)], [])], []), [204], 7360250881982727189448, [(4, (-3427383903804))], []),
  (25, ([rv_r 7, rv_full, rv_i 1 2147483647, rv_i 0 40, rv_i 0 199, (1, 1, (-2147483648), 2147483647, [], []), rv_i (-10000000) 10000000, rv_u, rv_u], [(1, 1, (-2147483648), 2147483647, [(.inl 5, 0)], [])], []), [205], 7360250881982727189448, [(4, (-3427383903804))], []),
  (26, ([rv_r 7, rv_full, rv_i 2 2147483647, rv_i 0 40, rv_i 1 199, (1, 1, (-2147483648), 2147483647, [], []), rv_i (-10000000) 10000000, rv_i 0 0, rv_full], [rv_i 1 1, (1, 1, (-2147483648), 2147483647, [(.inl 5, 0)], [])], []), [208, 292], 7360250881982727189447, [(4, (-3427383903804))], []),
  (26, ([rv_r 7, rv_full, rv_i 1 2147483647, rv_i 0 40, rv_i 0 199, (1, 1, (-2147483648), 2147483647, [], []), rv_i (-10000000) 10000000, rv_u, rv_u], [rv_i 1 1, (1, 1, (-2147483648), 2147483647, [(.inl 5, 0)], [])], []), [209, 293], 7360250881982727189447, [(4, (-3427383903804))], []),
  (27, ([rv_r 7, rv_full, rv_i 2 2147483647, rv_i 0 40, rv_i 1 199, rv_i 0 0, rv_i (-10000000) 10000000, rv_i 0 0, rv_full], [], []), [210], 7360250878555343285683, [(4, (-3427383903804))], []),
  (27, ([rv_r 7, rv_full, rv_i 1 2147483647, rv_i 0 40, rv_i 0 199, rv_i 0 0, rv_i (-10000000) 10000000, rv_u, rv_u], [], []), [211], 7360250878555343285683, [(4, (-3427383903804))], [])]
def n_X1_reckon_0_13 : List rv_N := [
  (27, ([rv_r 7, rv_full, rv_i 2 2147483647, rv_i 0 40, rv_i 1 199, (1, 1, 1, 1, [], []), rv_i (-10000000) 10000000, rv_i 0 0, rv_full], [], []), [212], 7360250878555343285690, [(4, (-3427383903804))], []),
  (27, ([rv_r 7, rv_full, rv_i 1 2147483647, rv_i 0 40, rv_i 0 199, (1, 1, 1, 1, [], []), rv_i (-10000000) 10000000, rv_u, rv_u], [], []), [213], 7360250878555343285690, [(4, (-3427383903804))], []),
  (28, ([rv_r 7, rv_full, rv_i 2 2147483647, rv_i 0 40, rv_i 1 199, rv_i 0 0, rv_i (-10000000) 10000000, rv_i 0 0, rv_full], [(1, 0, 0, 40, [(.inl 3, 0)], [])], []), [214], 7360250878555343285682, [(4, (-3427383903804))], []),
  (28, ([rv_r 7, rv_full, rv_i 1 2147483647, rv_i 0 40, rv_i 0 199, rv_i 0 0, rv_i (-10000000) 10000000, rv_u, rv_u], [(1, 0, 0, 40, [(.inl 3, 0)], [])], []), [215], 7360250878555343285682, [(4, (-3427383903804))], []),
  (28, ([rv_r 7, rv_full, rv_i 2 2147483647, rv_i 0 40, rv_i 1 199, (1, 1, 1, 1, [], []), rv_i (-10000000) 10000000, rv_i 0 0, rv_full], [(1, 0, 0, 40, [(.inl 3, 0)], [])], []), [216], 7360250878555343285689, [(4, (-3427383903804))], []),
  (28, ([rv_r 7, rv_full, rv_i 1 2147483647, rv_i 0 40, rv_i 0 199, (1, 1, 1, 1, [], []), rv_i (-10000000) 10000000, rv_u, rv_u], [(1, 0, 0, 40, [(.inl 3, 0)], [])], []), [217], 7360250878555343285689, [(4, (-3427383903804))], []),
  (29, ([rv_r 7, rv_full, rv_i 2 2147483647, rv_i 0 40, rv_i 1 199, rv_i 0 0, rv_i (-10000000) 10000000, rv_i 0 0, rv_full], [rv_i 40 40, (1, 0, 0, 40, [(.inl 3, 0)], [])], []), [218, 240], 7360250878555343285681, [(4, (-3427383903804))], []),
  (29, ([rv_r 7, rv_full, rv_i 1 2147483647, rv_i 0 40, rv_i 0 199, rv_i 0 0, rv_i (-10000000) 10000000, rv_u, rv_u], [rv_i 40 40, (1, 0, 0, 40, [(.inl 3, 0)], [])], []), [219, 241], 7360250878555343285681, [(4, (-3427383903804))], []),
  (29, ([rv_r 7, rv_full, rv_i 2 2147483647, rv_i 0 40, rv_i 1 199, (1, 1, 1, 1, [], []), rv_i (-10000000) 10000000, rv_i 0 0, rv_full], [rv_i 40 40, (1, 0, 0, 40, [(.inl 3, 0)], [])], []), [220, 242], 7360250878555343285688, [(4, (-3427383903804))], []),
  (29, ([rv_r 7, rv_full, rv_i 1 2147483647, rv_i 0 40, rv_i 0 199, (1, 1, 1, 1, [], []), rv_i (-10000000) 10000000, rv_u, rv_u], [rv_i 40 40, (1, 0, 0, 40, [(.inl 3, 0)], [])], []), [221, 243], 7360250878555343285688, [(4, (-3427383903804))], []),
  (30, ([rv_r 7, rv_full, rv_i 2 2147483647, rv_i 0 39, rv_i 1 199, rv_i 0 0, rv_i (-10000000) 10000000, rv_i 0 0, rv_full], [], []), [222], 7360250878555343285680, [(4, (-3427383903804))], []),
  (30, ([rv_r 7, rv_full, rv_i 1 2147483647, rv_i 0 39, rv_i 0 199, rv_i 0 0, rv_i (-10000000) 10000000, rv_u, rv_u], [], []), [223], 7360250878555343285680, [(4, (-3427383903804))], []),
  (30, ([rv_r 7, rv_full, rv_i 2 2147483647, rv_i 0 39, rv_i 1 199, (1, 1, 1, 1, [], []), rv_i (-10000000) 10000000, rv_i 0 0, rv_full], [], []), [224], 7360250878555343285687, [(4, (-3427383903804))], []),
  (30, ([rv_r 7, rv_full, rv_i 1 2147483647, rv_i 0 39, rv_i 0 199, (1, 1, 1, 1, [], []), rv_i (-10000000) 10000000, rv_u, rv_u], [], []), [225], 7360250878555343285687, [(4, (-3427383903804))], []),
  (31, ([rv_r 7, rv_full, rv_i 2 2147483647, rv_i 0 39, rv_i 1 199, rv_i 0 0, rv_i (-10000000) 10000000, rv_i 0 0, rv_full], [(1, 0, 0, 0, [(.inl 5, 0)], [])], []), [226], 7360250878555343285679, [(4, (-3427383903804))], []),
  (31, ([rv_r 7, rv_full, rv_i 1 2147483647, rv_i 0 39, rv_i 0 199, rv_i 0 0, rv_i (-10000000) 10000000, rv_u, rv_u], [(1, 0, 0, 0, [(.inl 5, 0)], [])], []), [227], 7360250878555343285679, [(4, (-3427383903804))], [])]
def n_X1_reckon_0_14 : List rv_N := [
  (31, ([rv_r 7, rv_full, rv_i 2 2147483647, rv_i 0 39, rv_i 1 199, (1, 1, 1, 1, [], []), rv_i (-10000000) 10000000, rv_i 0 0, rv_full], [(1, 1, 1, 1, [(.inl 5, 0)], [])], []), [228], 7360250878555343285686, [(4, (-3427383903804))], []),
  (31, ([rv_r 7, rv_full, rv_i 1 2147483647, rv_i 0 39, rv_i 0 199, (1, 1, 1, 1, [], []), rv_i (-10000000) 10000000, rv_u, rv_u], [(1, 1, 1, 1, [(.inl 5, 0)], [])], []), [229], 7360250878555343285686, [(4, (-3427383903804))], []),
  (32, ([rv_r 7, rv_full, rv_i 2 2147483647, rv_i 0 39, rv_i 1 199, rv_i 0 0, rv_i (-10000000) 10000000, rv_i 0 0, rv_full], [rv_i 1 1, (1, 0, 0, 0, [(.inl 5, 0)], [])], []), [248], 7360250878555343285678, [(4, (-3427383903804))], []),
  (32, ([rv_r 7, rv_full, rv_i 1 2147483647, rv_i 0 39, rv_i 0 199, rv_i 0 0, rv_i (-10000000) 10000000, rv_u, rv_u], [rv_i 1 1, (1, 0, 0, 0, [(.inl 5, 0)], [])], []), [249], 7360250878555343285678, [(4, (-3427383903804))], []),
  (32, ([rv_r 7, rv_full, rv_i 2 2147483647, rv_i 0 39, rv_i 1 199, (1, 1, 1, 1, [], []), rv_i (-10000000) 10000000, rv_i 0 0, rv_full], [rv_i 1 1, (1, 1, 1, 1, [(.inl 5, 0)], [])], []), [230], 7360250878555343285685, [(4, (-3427383903804))], []),
  (32, ([rv_r 7, rv_full, rv_i 1 2147483647, rv_i 0 39, rv_i 0 199, (1, 1, 1, 1, [], []), rv_i (-10000000) 10000000, rv_u, rv_u], [rv_i 1 1, (1, 1, 1, 1, [(.inl 5, 0)], [])], []), [231], 7360250878555343285685, [(4, (-3427383903804))], []),
  (33, ([rv_r 7, rv_full, rv_i 2 2147483647, rv_i 0 39, rv_i 1 199, (1, 1, 1, 1, [], []), rv_i (-10000000) 10000000, rv_i 0 0, rv_full], [], []), [232], 7360250878555343285684, [(4, (-3427383903804))], []),
  (33, ([rv_r 7, rv_full, rv_i 1 2147483647, rv_i 0 39, rv_i 0 199, (1, 1, 1, 1, [], []), rv_i (-10000000) 10000000, rv_u, rv_u], [], []), [233], 7360250878555343285684, [(4, (-3427383903804))], []),
  (34, ([rv_r 7, rv_full, rv_i 2 2147483647, rv_i 0 39, rv_i 1 199, (1, 1, 1, 1, [], []), rv_i (-10000000) 10000000, rv_i 0 0, rv_full], [(1, 0, (-10000000), 10000000, [(.inl 6, 0)], [])], []), [234, 242], 7360250878555343285683, [(4, (-3427383903804))], []),
  (34, ([rv_r 7, rv_full, rv_i 1 2147483647, rv_i 0 39, rv_i 0 199, (1, 1, 1, 1, [], []), rv_i (-10000000) 10000000, rv_u, rv_u], [(1, 0, (-10000000), 10000000, [(.inl 6, 0)], [])], []), [235, 243], 7360250878555343285683, [(4, (-3427383903804))], []),
  (35, ([rv_r 7, rv_full, rv_i 2 2147483647, rv_i 0 39, rv_i 1 199, (1, 1, 1, 1, [], []), rv_i 0 10000000, rv_i 0 0, rv_full], [], []), [236], 7360250878555343285682, [(4, (-3427383903804))], []),
  (35, ([rv_r 7, rv_full, rv_i 1 2147483647, rv_i 0 39, rv_i 0 199, (1, 1, 1, 1, [], []), rv_i 0 10000000, rv_u, rv_u], [], []), [237], 7360250878555343285682, [(4, (-3427383903804))], []),
  (36, ([rv_r 7, rv_full, rv_i 2 2147483647, rv_i 0 39, rv_i 1 199, (1, 1, 1, 1, [], []), rv_i 0 10000000, rv_i 0 0, rv_full], [(1, 0, 0, 10000000, [(.inl 6, 0)], [])], []), [238], 7360250878555343285681, [(4, (-3427383903804))], []),
  (36, ([rv_r 7, rv_full, rv_i 1 2147483647, rv_i 0 39, rv_i 0 199, (1, 1, 1, 1, [], []), rv_i 0 10000000, rv_u, rv_u], [(1, 0, 0, 10000000, [(.inl 6, 0)], [])], []), [239], 7360250878555343285681, [(4, (-3427383903804))], []),
  (37, ([rv_r 7, rv_full, rv_i 2 2147483647, rv_i 0 39, rv_i 1 199, (1, 1, 1, 1, [], []), rv_i 0 10000000, rv_i 0 0, rv_full], [rv_i 13 13, (1, 0, 0, 10000000, [(.inl 6, 0)], [])], []), [242, 250], 7360250878555343285680, [(4, (-3427383903804))], []),
  (37, ([rv_r 7, rv_full, rv_i 1 2147483647, rv_i 0 39, rv_i 0 199, (1, 1, 1, 1, [], []), rv_i 0 10000000, rv_u, rv_u], [rv_i 13 13, (1, 0, 0, 10000000, [(.inl 6, 0)], [])], []), [243, 251], 7360250878555343285680, [(4, (-3427383903804))], [])]
def n_X1_reckon_0_15 : List rv_N := [
  (38, ([rv_r 7, rv_full, rv_i 2 2147483647, rv_i 40 40, rv_i 1 199, rv_i 0 0, rv_i (-10000000) 10000000, rv_i 0 0, rv_full], [], []), [244], 1, [], []),
  (38, ([rv_r 7, rv_full, rv_i 1 2147483647, rv_i 40 40, rv_i 0 199, rv_i 0 0, rv_i (-10000000) 10000000, rv_u, rv_u], [], []), [245], 1, [], []),
  (38, ([rv_r 7, rv_full, rv_i 2 2147483647, rv_i 0 40, rv_i 1 199, (1, 1, 1, 1, [], []), rv_i (-10000000) 10000000, rv_i 0 0, rv_full], [], []), [246], 1, [], []),
  (38, ([rv_r 7, rv_full, rv_i 1 2147483647, rv_i 0 40, rv_i 0 199, (1, 1, 1, 1, [], []), rv_i (-10000000) 10000000, rv_u, rv_u], [], []), [247], 1, [], []),
  (39, ([rv_r 7, rv_full, rv_i 2 2147483647, rv_i 40 40, rv_i 1 199, rv_i 0 0, rv_i (-10000000) 10000000, rv_i 0 0, rv_full], [rv_i 0 0], []), [], 0, [], []),
  (39, ([rv_r 7, rv_full, rv_i 1 2147483647, rv_i 40 40, rv_i 0 199, rv_i 0 0, rv_i (-10000000) 10000000, rv_u, rv_u], [rv_i 0 0], []), [], 0, [], []),
  (39, ([rv_r 7, rv_full, rv_i 2 2147483647, rv_i 0 40, rv_i 1 199, (1, 1, 1, 1, [], []), rv_i (-10000000) 10000000, rv_i 0 0, rv_full], [rv_i 0 0], []), [], 0, [], []),
  (39, ([rv_r 7, rv_full, rv_i 1 2147483647, rv_i 0 40, rv_i 0 199, (1, 1, 1, 1, [], []), rv_i (-10000000) 10000000, rv_u, rv_u], [rv_i 0 0], []), [], 0, [], []),
  (40, ([rv_r 7, rv_full, rv_i 2 2147483647, rv_i 0 39, rv_i 1 199, rv_i 0 0, rv_i (-10000000) 10000000, rv_i 0 0, rv_full], [], []), [252], 7360250878555343285677, [(4, (-3427383903804))], []),
  (40, ([rv_r 7, rv_full, rv_i 1 2147483647, rv_i 0 39, rv_i 0 199, rv_i 0 0, rv_i (-10000000) 10000000, rv_u, rv_u], [], []), [253], 7360250878555343285677, [(4, (-3427383903804))], []),
  (40, ([rv_r 7, rv_full, rv_i 2 2147483647, rv_i 0 39, rv_i 1 199, (1, 1, 1, 1, [], []), rv_i 0 12, rv_i 0 0, rv_full], [], []), [254], 7360250878555343285679, [(4, (-3427383903804))], []),
  (40, ([rv_r 7, rv_full, rv_i 1 2147483647, rv_i 0 39, rv_i 0 199, (1, 1, 1, 1, [], []), rv_i 0 12, rv_u, rv_u], [], []), [255], 7360250878555343285679, [(4, (-3427383903804))], []),
  (41, ([rv_r 7, rv_full, rv_i 2 2147483647, rv_i 0 39, rv_i 1 199, rv_i 0 0, rv_i (-10000000) 10000000, rv_i 0 0, rv_full], [rv_r 7], []), [256], 7360250878555343285676, [(4, (-3427383903804))], []),
  (41, ([rv_r 7, rv_full, rv_i 1 2147483647, rv_i 0 39, rv_i 0 199, rv_i 0 0, rv_i (-10000000) 10000000, rv_u, rv_u], [rv_r 7], []), [257], 7360250878555343285676, [(4, (-3427383903804))], []),
  (41, ([rv_r 7, rv_full, rv_i 2 2147483647, rv_i 0 39, rv_i 1 199, (1, 1, 1, 1, [], []), rv_i 0 12, rv_i 0 0, rv_full], [rv_r 7], []), [258], 7360250878555343285678, [(4, (-3427383903804))], []),
  (41, ([rv_r 7, rv_full, rv_i 1 2147483647, rv_i 0 39, rv_i 0 199, (1, 1, 1, 1, [], []), rv_i 0 12, rv_u, rv_u], [rv_r 7], []), [259], 7360250878555343285678, [(4, (-3427383903804))], [])]
def n_X1_reckon_0_16 : List rv_N := [
  (42, ([rv_r 7, rv_full, rv_i 2 2147483647, rv_i 0 39, rv_i 1 199, rv_i 0 0, rv_i (-10000000) 10000000, rv_i 0 0, rv_full], [rv_r 15], []), [260], 7360250878555343285675, [(4, (-3427383903804))], []),
  (42, ([rv_r 7, rv_full, rv_i 1 2147483647, rv_i 0 39, rv_i 0 199, rv_i 0 0, rv_i (-10000000) 10000000, rv_u, rv_u], [rv_r 15], []), [261], 7360250878555343285675, [(4, (-3427383903804))], []),
  (42, ([rv_r 7, rv_full, rv_i 2 2147483647, rv_i 0 39, rv_i 1 199, (1, 1, 1, 1, [], []), rv_i 0 12, rv_i 0 0, rv_full], [rv_r 15], []), [262], 7360250878555343285677, [(4, (-3427383903804))], []),
  (42, ([rv_r 7, rv_full, rv_i 1 2147483647, rv_i 0 39, rv_i 0 199, (1, 1, 1, 1, [], []), rv_i 0 12, rv_u, rv_u], [rv_r 15], []), [263], 7360250878555343285677, [(4, (-3427383903804))], []),
  (43, ([rv_r 7, rv_full, rv_i 2 2147483647, rv_i 0 39, rv_i 1 199, rv_i 0 0, rv_i (-10000000) 10000000, rv_i 0 0, rv_full], [(1, 0, 0, 39, [(.inl 3, 0)], []), rv_r 15], []), [264], 7360250878555343285674, [(4, (-3427383903804))], []),
  (43, ([rv_r 7, rv_full, rv_i 1 2147483647, rv_i 0 39, rv_i 0 199, rv_i 0 0, rv_i (-10000000) 10000000, rv_u, rv_u], [(1, 0, 0, 39, [(.inl 3, 0)], []), rv_r 15], []), [265], 7360250878555343285674, [(4, (-3427383903804))], []),
  (43, ([rv_r 7, rv_full, rv_i 2 2147483647, rv_i 0 39, rv_i 1 199, (1, 1, 1, 1, [], []), rv_i 0 12, rv_i 0 0, rv_full], [(1, 0, 0, 39, [(.inl 3, 0)], []), rv_r 15], []), [266], 7360250878555343285676, [(4, (-3427383903804))], []),
  (43, ([rv_r 7, rv_full, rv_i 1 2147483647, rv_i 0 39, rv_i 0 199, (1, 1, 1, 1, [], []), rv_i 0 12, rv_u, rv_u], [(1, 0, 0, 39, [(.inl 3, 0)], []), rv_r 15], []), [267], 7360250878555343285676, [(4, (-3427383903804))], []),
  (44, ([rv_r 7, rv_full, rv_i 2 2147483647, rv_i 0 39, rv_i 1 199, rv_i 0 0, rv_i (-10000000) 10000000, rv_i 0 0, rv_full], [(1, 0, 0, 0, [(.inl 5, 0)], []), (1, 0, 0, 39, [(.inl 3, 0)], []), rv_r 15], []), [268], 7360250878555343285673, [(4, (-3427383903804))], []),
  (44, ([rv_r 7, rv_full, rv_i 1 2147483647, rv_i 0 39, rv_i 0 199, rv_i 0 0, rv_i (-10000000) 10000000, rv_u, rv_u], [(1, 0, 0, 0, [(.inl 5, 0)], []), (1, 0, 0, 39, [(.inl 3, 0)], []), rv_r 15], []), [269], 7360250878555343285673, [(4, (-3427383903804))], []),
  (44, ([rv_r 7, rv_full, rv_i 2 2147483647, rv_i 0 39, rv_i 1 199, (1, 1, 1, 1, [], []), rv_i 0 12, rv_i 0 0, rv_full], [(1, 1, 1, 1, [(.inl 5, 0)], []), (1, 0, 0, 39, [(.inl 3, 0)], []), rv_r 15], []), [272], 7360250878555343285675, [(4, (-3427383903804))], []),
  (44, ([rv_r 7, rv_full, rv_i 1 2147483647, rv_i 0 39, rv_i 0 199, (1, 1, 1, 1, [], []), rv_i 0 12, rv_u, rv_u], [(1, 1, 1, 1, [(.inl 5, 0)], []), (1, 0, 0, 39, [(.inl 3, 0)], []), rv_r 15], []), [273], 7360250878555343285675, [(4, (-3427383903804))], []),
  (45, ([rv_r 7, rv_full, rv_i 2 2147483647, rv_i 0 39, rv_i 1 199, rv_i 0 0, rv_i (-10000000) 10000000, rv_i 0 0, rv_full], [(1, 0, 0, 39, [(.inl 3, 0)], []), rv_r 15], []), [270], 7360250878555343285672, [(4, (-3427383903804))], []),
  (45, ([rv_r 7, rv_full, rv_i 1 2147483647, rv_i 0 39, rv_i 0 199, rv_i 0 0, rv_i (-10000000) 10000000, rv_u, rv_u], [(1, 0, 0, 39, [(.inl 3, 0)], []), rv_r 15], []), [271], 7360250878555343285672, [(4, (-3427383903804))], []),
  (46, ([rv_r 7, rv_full, rv_i 2 2147483647, rv_i 0 39, rv_i 1 199, rv_i 0 0, rv_i (-10000000) 10000000, rv_i 0 0, rv_full], [(1, 0, (-10000000), 10000000, [(.inl 6, 0)], []), (1, 0, 0, 39, [(.inl 3, 0)], []), rv_r 15], []), [280], 7360250878555343285671, [(4, (-3427383903804))], []),
  (46, ([rv_r 7, rv_full, rv_i 1 2147483647, rv_i 0 39, rv_i 0 199, rv_i 0 0, rv_i (-10000000) 10000000, rv_u, rv_u], [(1, 0, (-10000000), 10000000, [(.inl 6, 0)], []), (1, 0, 0, 39, [(.inl 3, 0)], []), rv_r 15], []), [281], 7360250878555343285671, [(4, (-3427383903804))], [])]
def n_X1_reckon_0_17 : List rv_N := [
  (47, ([rv_r 7, rv_full, rv_i 2 2147483647, rv_i 0 39, rv_i 1 199, (1, 1, 1, 1, [], []), rv_i 0 12, rv_i 0 0, rv_full], [(1, 0, 0, 39, [(.inl 3, 0)], []), rv_r 15], []), [274], 7360250878555343285674, [(4, (-3427383903804))], []),
  (47, ([rv_r 7, rv_full, rv_i 1 2147483647, rv_i 0 39, rv_i 0 199, (1, 1, 1, 1, [], []), rv_i 0 12, rv_u, rv_u], [(1, 0, 0, 39, [(.inl 3, 0)], []), rv_r 15], []), [275], 7360250878555343285674, [(4, (-3427383903804))], []),
  (48, ([rv_r 7, rv_full, rv_i 2 2147483647, rv_i 0 39, rv_i 1 199, (1, 1, 1, 1, [], []), rv_i 0 12, rv_i 0 0, rv_full], [rv_r 7, (1, 0, 0, 39, [(.inl 3, 0)], []), rv_r 15], []), [276], 7360250878555343285673, [(4, (-3427383903804))], []),
  (48, ([rv_r 7, rv_full, rv_i 1 2147483647, rv_i 0 39, rv_i 0 199, (1, 1, 1, 1, [], []), rv_i 0 12, rv_u, rv_u], [rv_r 7, (1, 0, 0, 39, [(.inl 3, 0)], []), rv_r 15], []), [277], 7360250878555343285673, [(4, (-3427383903804))], []),
  (49, ([rv_r 7, rv_full, rv_i 2 2147483647, rv_i 0 39, rv_i 1 199, (1, 1, 1, 1, [], []), rv_i 0 12, rv_i 0 0, rv_full], [rv_r 14, (1, 0, 0, 39, [(.inl 3, 0)], []), rv_r 15], []), [278], 7360250878555343285672, [(4, (-3427383903804))], []),
  (49, ([rv_r 7, rv_full, rv_i 1 2147483647, rv_i 0 39, rv_i 0 199, (1, 1, 1, 1, [], []), rv_i 0 12, rv_u, rv_u], [rv_r 14, (1, 0, 0, 39, [(.inl 3, 0)], []), rv_r 15], []), [279], 7360250878555343285672, [(4, (-3427383903804))], []),
  (50, ([rv_r 7, rv_full, rv_i 2 2147483647, rv_i 0 39, rv_i 1 199, (1, 1, 1, 1, [], []), rv_i 0 12, rv_i 0 0, rv_full], [(1, 0, 0, 12, [(.inl 6, 0)], []), rv_r 14, (1, 0, 0, 39, [(.inl 3, 0)], []), rv_r 15], []), [282], 7360250878555343285671, [(4, (-3427383903804))], []),
  (50, ([rv_r 7, rv_full, rv_i 1 2147483647, rv_i 0 39, rv_i 0 199, (1, 1, 1, 1, [], []), rv_i 0 12, rv_u, rv_u], [(1, 0, 0, 12, [(.inl 6, 0)], []), rv_r 14, (1, 0, 0, 39, [(.inl 3, 0)], []), rv_r 15], []), [283], 7360250878555343285671, [(4, (-3427383903804))], []),
  (51, ([rv_r 7, rv_full, rv_i 2 2147483647, rv_i 0 39, rv_i 1 199, rv_i 0 0, rv_i (-10000000) 10000000, rv_i 0 0, rv_full], [(1, 0, (-10000000), 10000000, [(.inl 6, 0)], []), (1, 0, 0, 39, [(.inl 3, 0)], []), rv_r 15], []), [284], 7360250878555343285670, [(4, (-3427383903804))], []),
  (51, ([rv_r 7, rv_full, rv_i 1 2147483647, rv_i 0 39, rv_i 0 199, rv_i 0 0, rv_i (-10000000) 10000000, rv_u, rv_u], [(1, 0, (-10000000), 10000000, [(.inl 6, 0)], []), (1, 0, 0, 39, [(.inl 3, 0)], []), rv_r 15], []), [285], 7360250878555343285670, [(4, (-3427383903804))], []),
  (51, ([rv_r 7, rv_full, rv_i 2 2147483647, rv_i 0 39, rv_i 1 199, (1, 1, 1, 1, [], []), rv_i 0 12, rv_i 0 0, rv_full], [(1, 0, (-2147483648), 2147483647, [(.inr (14, 5006), 0)], []), (1, 0, 0, 39, [(.inl 3, 0)], []), rv_r 15], []), [286], 7360250878555343285670, [(4, (-3427383903804))], []),
  (51, ([rv_r 7, rv_full, rv_i 1 2147483647, rv_i 0 39, rv_i 0 199, (1, 1, 1, 1, [], []), rv_i 0 12, rv_u, rv_u], [(1, 0, (-2147483648), 2147483647, [(.inr (14, 5006), 0)], []), (1, 0, 0, 39, [(.inl 3, 0)], []), rv_r 15], []), [287], 7360250878555343285670, [(4, (-3427383903804))], []),
  (52, ([rv_r 7, rv_full, rv_i 2 2147483647, rv_i 0 39, rv_i 1 199, rv_i 0 0, rv_i (-10000000) 10000000, rv_i 0 0, rv_full], [], []), [288], 7360250878555343285669, [(4, (-3427383903804))], []),
  (52, ([rv_r 7, rv_full, rv_i 1 2147483647, rv_i 0 39, rv_i 0 199, rv_i 0 0, rv_i (-10000000) 10000000, rv_u, rv_u], [], []), [289], 7360250878555343285669, [(4, (-3427383903804))], []),
  (52, ([rv_r 7, rv_full, rv_i 2 2147483647, rv_i 0 39, rv_i 1 199, (1, 1, 1, 1, [], []), rv_i 0 12, rv_i 0 0, rv_full], [], []), [290], 7360250878555343285669, [(4, (-3427383903804))], []),
  (52, ([rv_r 7, rv_full, rv_i 1 2147483647, rv_i 0 39, rv_i 0 199, (1, 1, 1, 1, [], []), rv_i 0 12, rv_u, rv_u], [], []), [291], 7360250878555343285669, [(4, (-3427383903804))], [])]
def n_X1_reckon_0_18 : List rv_N := [
  (53, ([rv_r 7, rv_full, rv_i 2 2147483647, rv_i 1 40, rv_i 1 199, rv_i 0 0, rv_i (-10000000) 10000000, rv_i 0 0, rv_full], [], []), [606], 7360250878555343285668, [(4, (-3427383903804))], []),
  (53, ([rv_r 7, rv_full, rv_i 1 2147483647, rv_i 1 40, rv_i 0 199, rv_i 0 0, rv_i (-10000000) 10000000, rv_u, rv_u], [], []), [607], 7360250878555343285668, [(4, (-3427383903804))], []),
  (53, ([rv_r 7, rv_full, rv_i 2 2147483647, rv_i 1 40, rv_i 1 199, (1, 1, 1, 1, [], []), rv_i 0 12, rv_i 0 0, rv_full], [], []), [608], 7360250878555343285668, [(4, (-3427383903804))], []),
  (53, ([rv_r 7, rv_full, rv_i 1 2147483647, rv_i 1 40, rv_i 0 199, (1, 1, 1, 1, [], []), rv_i 0 12, rv_u, rv_u], [], []), [609], 7360250878555343285668, [(4, (-3427383903804))], []),
  (54, ([rv_r 7, rv_full, rv_i 2 2147483647, rv_i 0 40, rv_i 1 199, (1, 1, (-2147483648), 2147483647, [], []), rv_i (-10000000) 10000000, rv_i 0 0, rv_full], [], []), [294], 7360250881982727189446, [(4, (-3427383903804))], []),
  (54, ([rv_r 7, rv_full, rv_i 1 2147483647, rv_i 0 40, rv_i 0 199, (1, 1, (-2147483648), 2147483647, [], []), rv_i (-10000000) 10000000, rv_u, rv_u], [], []), [295], 7360250881982727189446, [(4, (-3427383903804))], []),
  (55, ([rv_r 7, rv_full, rv_i 2 2147483647, rv_i 0 40, rv_i 1 199, (1, 1, (-2147483648), 2147483647, [], []), rv_i (-10000000) 10000000, rv_i 0 0, rv_full], [(1, 0, 0, 40, [(.inl 3, 0)], [])], []), [296], 7360250881982727189445, [(4, (-3427383903804))], []),
  (55, ([rv_r 7, rv_full, rv_i 1 2147483647, rv_i 0 40, rv_i 0 199, (1, 1, (-2147483648), 2147483647, [], []), rv_i (-10000000) 10000000, rv_u, rv_u], [(1, 0, 0, 40, [(.inl 3, 0)], [])], []), [297], 7360250881982727189445, [(4, (-3427383903804))], []),
  (56, ([rv_r 7, rv_full, rv_i 2 2147483647, rv_i 0 40, rv_i 1 199, (1, 1, (-2147483648), 2147483647, [], []), rv_i (-10000000) 10000000, rv_i 0 0, rv_full], [rv_i 1 1, (1, 0, 0, 40, [(.inl 3, 0)], [])], []), [298, 302], 7360250881982727189444, [(4, (-3427383903804))], []),
  (56, ([rv_r 7, rv_full, rv_i 1 2147483647, rv_i 0 40, rv_i 0 199, (1, 1, (-2147483648), 2147483647, [], []), rv_i (-10000000) 10000000, rv_u, rv_u], [rv_i 1 1, (1, 0, 0, 40, [(.inl 3, 0)], [])], []), [299, 303], 7360250881982727189444, [(4, (-3427383903804))], []),
  (57, ([rv_r 7, rv_full, rv_i 2 2147483647, rv_i 0 0, rv_i 1 199, (1, 1, (-2147483648), 2147483647, [], []), rv_i (-10000000) 10000000, rv_i 0 0, rv_full], [], []), [300], 1, [], []),
  (57, ([rv_r 7, rv_full, rv_i 1 2147483647, rv_i 0 0, rv_i 0 199, (1, 1, (-2147483648), 2147483647, [], []), rv_i (-10000000) 10000000, rv_u, rv_u], [], []), [301], 1, [], []),
  (58, ([rv_r 7, rv_full, rv_i 2 2147483647, rv_i 0 0, rv_i 1 199, (1, 1, (-2147483648), 2147483647, [], []), rv_i (-10000000) 10000000, rv_i 0 0, rv_full], [rv_i 0 0], []), [], 0, [], []),
  (58, ([rv_r 7, rv_full, rv_i 1 2147483647, rv_i 0 0, rv_i 0 199, (1, 1, (-2147483648), 2147483647, [], []), rv_i (-10000000) 10000000, rv_u, rv_u], [rv_i 0 0], []), [], 0, [], []),
  (59, ([rv_r 7, rv_full, rv_i 2 2147483647, rv_i 1 40, rv_i 1 199, (1, 1, (-2147483648), 2147483647, [], []), rv_i (-10000000) 10000000, rv_i 0 0, rv_full], [], []), [304], 7360250881982727189443, [(4, (-3427383903804))], []),
  (59, ([rv_r 7, rv_full, rv_i 1 2147483647, rv_i 1 40, rv_i 0 199, (1, 1, (-2147483648), 2147483647, [], []), rv_i (-10000000) 10000000, rv_u, rv_u], [], []), [305], 7360250881982727189443, [(4, (-3427383903804))], [])]
def n_X1_reckon_0_19 : List rv_N := [
  (60, ([rv_r 7, rv_full, rv_i 2 2147483647, rv_i 1 40, rv_i 1 199, (1, 1, (-2147483648), 2147483647, [], []), rv_i (-10000000) 10000000, rv_i 0 0, rv_full], [rv_r 7], []), [306], 7360250881982727189442, [(4, (-3427383903804))], []),
  (60, ([rv_r 7, rv_full, rv_i 1 2147483647, rv_i 1 40, rv_i 0 199, (1, 1, (-2147483648), 2147483647, [], []), rv_i (-10000000) 10000000, rv_u, rv_u], [rv_r 7], []), [307], 7360250881982727189442, [(4, (-3427383903804))], []),
  (61, ([rv_r 7, rv_full, rv_i 2 2147483647, rv_i 1 40, rv_i 1 199, (1, 1, (-2147483648), 2147483647, [], []), rv_i (-10000000) 10000000, rv_i 0 0, rv_full], [rv_r 15], []), [308], 7360250881982727189441, [(4, (-3427383903804))], []),
  (61, ([rv_r 7, rv_full, rv_i 1 2147483647, rv_i 1 40, rv_i 0 199, (1, 1, (-2147483648), 2147483647, [], []), rv_i (-10000000) 10000000, rv_u, rv_u], [rv_r 15], []), [309], 7360250881982727189441, [(4, (-3427383903804))], []),
  (62, ([rv_r 7, rv_full, rv_i 2 2147483647, rv_i 1 40, rv_i 1 199, (1, 1, (-2147483648), 2147483647, [], []), rv_i (-10000000) 10000000, rv_i 0 0, rv_full], [(1, 0, 1, 40, [(.inl 3, 0)], []), rv_r 15], []), [310], 7360250881982727189440, [(4, (-3427383903804))], []),
  (62, ([rv_r 7, rv_full, rv_i 1 2147483647, rv_i 1 40, rv_i 0 199, (1, 1, (-2147483648), 2147483647, [], []), rv_i (-10000000) 10000000, rv_u, rv_u], [(1, 0, 1, 40, [(.inl 3, 0)], []), rv_r 15], []), [311], 7360250881982727189440, [(4, (-3427383903804))], []),
  (63, ([rv_r 7, rv_full, rv_i 2 2147483647, rv_i 1 40, rv_i 1 199, (1, 1, (-2147483648), 2147483647, [], []), rv_i (-10000000) 10000000, rv_i 0 0, rv_full], [rv_i 1 1, (1, 0, 1, 40, [(.inl 3, 0)], []), rv_r 15], []), [312], 7360250881982727189439, [(4, (-3427383903804))], []),
  (63, ([rv_r 7, rv_full, rv_i 1 2147483647, rv_i 1 40, rv_i 0 199, (1, 1, (-2147483648), 2147483647, [], []), rv_i (-10000000) 10000000, rv_u, rv_u], [rv_i 1 1, (1, 0, 1, 40, [(.inl 3, 0)], []), rv_r 15], []), [313], 7360250881982727189439, [(4, (-3427383903804))], []),
  (64, ([rv_r 7, rv_full, rv_i 2 2147483647, rv_i 1 40, rv_i 1 199, (1, 1, (-2147483648), 2147483647, [], []), rv_i (-10000000) 10000000, rv_i 0 0, rv_full], [(1, 0, 0, 39, [(.inl 3, (-1))], []), rv_r 15], []), [314], 7360250881982727189438, [(4, (-3427383903804))], []),
  (64, ([rv_r 7, rv_full, rv_i 1 2147483647, rv_i 1 40, rv_i 0 199, (1, 1, (-2147483648), 2147483647, [], []), rv_i (-10000000) 10000000, rv_u, rv_u], [(1, 0, 0, 39, [(.inl 3, (-1))], []), rv_r 15], []), [315], 7360250881982727189438, [(4, (-3427383903804))], []),
  (65, ([rv_r 7, rv_full, rv_i 2 2147483647, rv_i 1 40, rv_i 1 199, (1, 1, (-2147483648), 2147483647, [], []), rv_i (-10000000) 10000000, rv_i 0 0, rv_full], [rv_full], []), [316], 7360250881982727189437, [(4, (-3427383903804))], []),
  (65, ([rv_r 7, rv_full, rv_i 1 2147483647, rv_i 1 40, rv_i 0 199, (1, 1, (-2147483648), 2147483647, [], []), rv_i (-10000000) 10000000, rv_u, rv_u], [rv_full], []), [316], 7360250881982727189437, [(4, (-3427383903804))], []),
  (66, ([rv_r 7, rv_full, rv_i 1 2147483647, rv_i 1 40, rv_i 0 199, (1, 1, (-2147483648), 2147483647, [], []), rv_i (-10000000) 10000000, rv_full, rv_u], [], []), [317], 7360250881982727189436, [(4, (-3427383903804))], []),
  (67, ([rv_r 7, rv_full, rv_i 1 2147483647, rv_i 1 40, rv_i 0 199, (1, 1, (-2147483648), 2147483647, [], []), rv_i (-10000000) 10000000, rv_full, rv_u], [(1, 1, (-2147483648), 2147483647, [(.inl 5, 0)], [])], []), [318], 7360250881982727189435, [(4, (-3427383903804))], []),
  (68, ([rv_r 7, rv_full, rv_i 1 2147483647, rv_i 1 40, rv_i 0 199, (1, 1, (-2147483648), 2147483647, [], []), rv_i (-10000000) 10000000, rv_full, rv_u], [rv_i 4 4, (1, 1, (-2147483648), 2147483647, [(.inl 5, 0)], [])], []), [319, 329], 7360250881982727189434, [(4, (-3427383903804))], []),
  (69, ([rv_r 7, rv_full, rv_i 1 2147483647, rv_i 1 40, rv_i 0 199, (1, 1, 4, 4, [], []), rv_i (-10000000) 10000000, rv_full, rv_u], [], []), [320], 7360250878555343285677, [(4, (-3427383903804))], [])]
def n_X1_reckon_0_20 : List rv_N := [
  (70, ([rv_r 7, rv_full, rv_i 1 2147483647, rv_i 1 40, rv_i 0 199, (1, 1, 4, 4, [], []), rv_i (-10000000) 10000000, rv_full, rv_u], [rv_r 7], []), [321], 7360250878555343285676, [(4, (-3427383903804))], []),
  (71, ([rv_r 7, rv_full, rv_i 1 2147483647, rv_i 1 40, rv_i 0 199, (1, 1, 4, 4, [], []), rv_i (-10000000) 10000000, rv_full, rv_u], [rv_r 15], []), [322], 7360250878555343285675, [(4, (-3427383903804))], []),
  (72, ([rv_r 7, rv_full, rv_i 1 2147483647, rv_i 1 40, rv_i 0 199, (1, 1, 4, 4, [], []), rv_i (-10000000) 10000000, rv_full, rv_u], [(1, 0, 1, 40, [(.inl 3, 0)], []), rv_r 15], []), [323], 7360250878555343285674, [(4, (-3427383903804))], []),
  (73, ([rv_r 7, rv_full, rv_i 1 2147483647, rv_i 1 40, rv_i 0 199, (1, 1, 4, 4, [], []), rv_i (-10000000) 10000000, rv_full, rv_u], [rv_i 1 1, (1, 0, 1, 40, [(.inl 3, 0)], []), rv_r 15], []), [324], 7360250878555343285673, [(4, (-3427383903804))], []),
  (74, ([rv_r 7, rv_full, rv_i 1 2147483647, rv_i 1 40, rv_i 0 199, (1, 1, 4, 4, [], []), rv_i (-10000000) 10000000, rv_full, rv_u], [(1, 0, 0, 39, [(.inl 3, (-1))], []), rv_r 15], []), [325], 7360250878555343285672, [(4, (-3427383903804))], []),
  (75, ([rv_r 7, rv_full, rv_i 1 2147483647, rv_i 1 40, rv_i 0 199, (1, 1, 4, 4, [], []), rv_i (-10000000) 10000000, rv_full, rv_u], [rv_i 1 1, (1, 0, 0, 39, [(.inl 3, (-1))], []), rv_r 15], []), [326], 7360250878555343285671, [(4, (-3427383903804))], []),
  (76, ([rv_r 7, rv_full, rv_i 1 2147483647, rv_i 1 40, rv_i 0 199, (1, 1, 4, 4, [], []), rv_i (-10000000) 10000000, rv_full, rv_u], [(1, 0, (-2147483648), 2147483647, [(.inl 7, 0)], []), rv_i 1 1, (1, 0, 0, 39, [(.inl 3, (-1))], []), rv_r 15], []), [327], 7360250878555343285670, [(4, (-3427383903804))], []),
  (77, ([rv_r 7, rv_full, rv_i 1 2147483647, rv_i 1 40, rv_i 0 199, (1, 1, 4, 4, [], []), rv_i (-10000000) 10000000, rv_full, rv_u], [rv_full, (1, 0, 0, 39, [(.inl 3, (-1))], []), rv_r 15], []), [328], 7360250878555343285669, [(4, (-3427383903804))], []),
  (78, ([rv_r 7, rv_full, rv_i 1 2147483647, rv_i 1 40, rv_i 0 199, (1, 1, 4, 4, [], []), rv_i (-10000000) 10000000, rv_full, rv_u], [], []), [611], 7360250878555343285668, [(4, (-3427383903804))], []),
  (79, ([rv_r 7, rv_full, rv_i 1 2147483647, rv_i 1 40, rv_i 0 199, (1, 1, (-2147483648), 2147483647, [], []), rv_i (-10000000) 10000000, rv_full, rv_u], [], []), [330], 7360250881982727189433, [(4, (-3427383903804))], []),
  (80, ([rv_r 7, rv_full, rv_i 1 2147483647, rv_i 1 40, rv_i 0 199, (1, 1, (-2147483648), 2147483647, [], []), rv_i (-10000000) 10000000, rv_full, rv_u], [(1, 1, (-2147483648), 2147483647, [(.inl 5, 0)], [])], []), [331], 7360250881982727189432, [(4, (-3427383903804))], []),
  (81, ([rv_r 7, rv_full, rv_i 1 2147483647, rv_i 1 40, rv_i 0 199, (1, 1, (-2147483648), 2147483647, [], []), rv_i (-10000000) 10000000, rv_full, rv_u], [rv_i 2 2, (1, 1, (-2147483648), 2147483647, [(.inl 5, 0)], [])], []), [332, 335], 7360250881982727189431, [(4, (-3427383903804))], []),
  (82, ([rv_r 7, rv_full, rv_i 1 2147483647, rv_i 1 40, rv_i 0 199, (1, 1, (-2147483648), 2147483647, [], []), rv_i (-10000000) 10000000, rv_full, rv_u], [], []), [333], 7360250881982727189430, [(4, (-3427383903804))], []),
  (83, ([rv_r 7, rv_full, rv_i 1 2147483647, rv_i 1 40, rv_i 0 199, (1, 1, (-2147483648), 2147483647, [], []), rv_i (-10000000) 10000000, rv_full, rv_u], [(1, 1, (-2147483648), 2147483647, [(.inl 5, 0)], [])], []), [334], 7360250881982727189429, [(4, (-3427383903804))], []),
  (84, ([rv_r 7, rv_full, rv_i 1 2147483647, rv_i 1 40, rv_i 0 199, (1, 1, (-2147483648), 2147483647, [], []), rv_i (-10000000) 10000000, rv_full, rv_u], [rv_i 3 3, (1, 1, (-2147483648), 2147483647, [(.inl 5, 0)], [])], []), [335, 378], 7360250881982727189428, [(4, (-3427383903804))], []),
  (85, ([rv_r 7, rv_full, rv_i 1 2147483647, rv_i 1 40, rv_i 0 199, (1, 1, 2, 3, [], []), rv_i (-10000000) 10000000, rv_full, rv_u], [], []), [336], 7360250878555343285685, [(4, (-3427383903804))], [])]
def n_X1_reckon_0_21 : List rv_N := [
  (86, ([rv_r 7, rv_full, rv_i 1 2147483647, rv_i 1 40, rv_i 0 199, (1, 1, 2, 3, [], []), rv_i (-10000000) 10000000, rv_full, rv_u], [(1, 0, (-2147483648), 2147483647, [(.inl 7, 0)], [])], []), [337, 339], 7360250878555343285684, [(4, (-3427383903804))], []),
  (87, ([rv_r 7, rv_full, rv_i 1 2147483647, rv_i 1 40, rv_i 0 199, (1, 1, 2, 3, [], []), rv_i (-10000000) 10000000, (1, 1, (-2147483648), 2147483647, [], []), rv_u], [], []), [338], 7360250878555343285683, [(4, (-3427383903804))], []),
  (88, ([rv_r 7, rv_full, rv_i 1 2147483647, rv_i 1 40, rv_i 0 199, (1, 1, 2, 3, [], []), rv_i (-10000000) 10000000, (1, 1, (-2147483648), 2147483647, [], []), rv_u], [rv_i 1 1], []), [341], 7360250878555343285682, [(4, (-3427383903804))], []),
  (89, ([rv_r 7, rv_full, rv_i 1 2147483647, rv_i 1 40, rv_i 0 199, (1, 1, 2, 3, [], []), rv_i (-10000000) 10000000, rv_i 0 0, rv_u], [], []), [340], 7360250878555343285681, [(4, (-3427383903804))], []),
  (90, ([rv_r 7, rv_full, rv_i 1 2147483647, rv_i 1 40, rv_i 0 199, (1, 1, 2, 3, [], []), rv_i (-10000000) 10000000, rv_i 0 0, rv_u], [rv_i 0 0], []), [342], 7360250878555343285680, [(4, (-3427383903804))], []),
  (90, ([rv_r 7, rv_full, rv_i 1 2147483647, rv_i 1 40, rv_i 0 199, (1, 1, 2, 3, [], []), rv_i (-10000000) 10000000, (1, 1, (-2147483648), 2147483647, [], []), rv_u], [rv_i 1 1], []), [343], 7360250878555343285681, [(4, (-3427383903804))], []),
  (91, ([rv_r 7, rv_full, rv_i 1 2147483647, rv_i 1 40, rv_i 0 199, (1, 1, 2, 3, [], []), rv_i (-10000000) 10000000, rv_i 0 0, rv_u], [(1, 1, 2, 3, [(.inl 5, 0)], []), rv_i 0 0], []), [344], 7360250878555343285679, [(4, (-3427383903804))], []),
  (91, ([rv_r 7, rv_full, rv_i 1 2147483647, rv_i 1 40, rv_i 0 199, (1, 1, 2, 3, [], []), rv_i (-10000000) 10000000, (1, 1, (-2147483648), 2147483647, [], []), rv_u], [(1, 1, 2, 3, [(.inl 5, 0)], []), rv_i 1 1], []), [345], 7360250878555343285680, [(4, (-3427383903804))], []),
  (92, ([rv_r 7, rv_full, rv_i 1 2147483647, rv_i 1 40, rv_i 0 199, (1, 1, 2, 3, [], []), rv_i (-10000000) 10000000, rv_i 0 0, rv_u], [rv_i 2 2, (1, 1, 2, 3, [(.inl 5, 0)], []), rv_i 0 0], []), [346, 350], 7360250878555343285678, [(4, (-3427383903804))], []),
  (92, ([rv_r 7, rv_full, rv_i 1 2147483647, rv_i 1 40, rv_i 0 199, (1, 1, 2, 3, [], []), rv_i (-10000000) 10000000, (1, 1, (-2147483648), 2147483647, [], []), rv_u], [rv_i 2 2, (1, 1, 2, 3, [(.inl 5, 0)], []), rv_i 1 1], []), [347, 351], 7360250878555343285679, [(4, (-3427383903804))], []),
  (93, ([rv_r 7, rv_full, rv_i 1 2147483647, rv_i 1 40, rv_i 0 199, (1, 1, 2, 2, [], []), rv_i (-10000000) 10000000, rv_i 0 0, rv_u], [rv_i 0 0], []), [348], 7360250878555343285677, [(4, (-3427383903804))], []),
  (93, ([rv_r 7, rv_full, rv_i 1 2147483647, rv_i 1 40, rv_i 0 199, (1, 1, 2, 2, [], []), rv_i (-10000000) 10000000, (1, 1, (-2147483648), 2147483647, [], []), rv_u], [rv_i 1 1], []), [349], 7360250878555343285678, [(4, (-3427383903804))], []),
  (94, ([rv_r 7, rv_full, rv_i 1 2147483647, rv_i 1 40, rv_i 0 199, (1, 1, 2, 2, [], []), rv_i (-10000000) 10000000, rv_i 0 0, rv_u], [rv_i 1 1, rv_i 0 0], []), [354], 7360250878555343285676, [(4, (-3427383903804))], []),
  (94, ([rv_r 7, rv_full, rv_i 1 2147483647, rv_i 1 40, rv_i 0 199, (1, 1, 2, 2, [], []), rv_i (-10000000) 10000000, (1, 1, (-2147483648), 2147483647, [], []), rv_u], [rv_i 1 1, rv_i 1 1], []), [355], 7360250878555343285677, [(4, (-3427383903804))], []),
  (95, ([rv_r 7, rv_full, rv_i 1 2147483647, rv_i 1 40, rv_i 0 199, (1, 1, 3, 3, [], []), rv_i (-10000000) 10000000, rv_i 0 0, rv_u], [rv_i 0 0], []), [352], 7360250878555343285677, [(4, (-3427383903804))], []),
  (95, ([rv_r 7, rv_full, rv_i 1 2147483647, rv_i 1 40, rv_i 0 199, (1, 1, 3, 3, [], []), rv_i (-10000000) 10000000, (1, 1, (-2147483648), 2147483647, [], []), rv_u], [rv_i 1 1], []), [353], 7360250878555343285676, [(4, (-3427383903804))], [])]
def n_X1_reckon_0_22 : List rv_N := [
  (96, ([rv_r 7, rv_full, rv_i 1 2147483647, rv_i 1 40, rv_i 0 199, (1, 1, 3, 3, [], []), rv_i (-10000000) 10000000, rv_i 0 0, rv_u], [rv_i 0 0, rv_i 0 0], []), [356], 7360250878555343285676, [(4, (-3427383903804))], []),
  (96, ([rv_r 7, rv_full, rv_i 1 2147483647, rv_i 1 40, rv_i 0 199, (1, 1, 3, 3, [], []), rv_i (-10000000) 10000000, (1, 1, (-2147483648), 2147483647, [], []), rv_u], [rv_i 0 0, rv_i 1 1], []), [361], 7360250878555343285675, [(4, (-3427383903804))], []),
  (96, ([rv_r 7, rv_full, rv_i 1 2147483647, rv_i 1 40, rv_i 0 199, (1, 1, 2, 2, [], []), rv_i (-10000000) 10000000, rv_i 0 0, rv_u], [rv_i 1 1, rv_i 0 0], []), [360], 7360250878555343285675, [(4, (-3427383903804))], []),
  (96, ([rv_r 7, rv_full, rv_i 1 2147483647, rv_i 1 40, rv_i 0 199, (1, 1, 2, 2, [], []), rv_i (-10000000) 10000000, (1, 1, (-2147483648), 2147483647, [], []), rv_u], [rv_i 1 1, rv_i 1 1], []), [357], 7360250878555343285676, [(4, (-3427383903804))], []),
  (97, ([rv_r 7, rv_full, rv_i 1 2147483647, rv_i 1 40, rv_i 0 199, (1, 1, 3, 3, [], []), rv_i (-10000000) 10000000, rv_i 0 0, rv_u], [], []), [358], 7360250878555343285675, [(4, (-3427383903804))], []),
  (97, ([rv_r 7, rv_full, rv_i 1 2147483647, rv_i 1 40, rv_i 0 199, (1, 1, 2, 2, [], []), rv_i (-10000000) 10000000, (1, 1, (-2147483648), 2147483647, [], []), rv_u], [], []), [359], 7360250878555343285675, [(4, (-3427383903804))], []),
  (98, ([rv_r 7, rv_full, rv_i 1 2147483647, rv_i 1 40, rv_i 0 199, (1, 1, 3, 3, [], []), rv_i (-10000000) 10000000, rv_i 0 0, rv_u], [rv_i 1 1], []), [364], 7360250878555343285674, [(4, (-3427383903804))], []),
  (98, ([rv_r 7, rv_full, rv_i 1 2147483647, rv_i 1 40, rv_i 0 199, (1, 1, 2, 2, [], []), rv_i (-10000000) 10000000, (1, 1, (-2147483648), 2147483647, [], []), rv_u], [rv_i 1 1], []), [365], 7360250878555343285674, [(4, (-3427383903804))], []),
  (99, ([rv_r 7, rv_full, rv_i 1 2147483647, rv_i 1 40, rv_i 0 199, (1, 1, 2, 2, [], []), rv_i (-10000000) 10000000, rv_i 0 0, rv_u], [], []), [362], 7360250878555343285674, [(4, (-3427383903804))], []),
  (99, ([rv_r 7, rv_full, rv_i 1 2147483647, rv_i 1 40, rv_i 0 199, (1, 1, 3, 3, [], []), rv_i (-10000000) 10000000, (1, 1, (-2147483648), 2147483647, [], []), rv_u], [], []), [363], 7360250878555343285674, [(4, (-3427383903804))], []),
  (100, ([rv_r 7, rv_full, rv_i 1 2147483647, rv_i 1 40, rv_i 0 199, (1, 1, 2, 2, [], []), rv_i (-10000000) 10000000, rv_i 0 0, rv_u], [rv_i 0 0], []), [366], 7360250878555343285673, [(4, (-3427383903804))], []),
  (100, ([rv_r 7, rv_full, rv_i 1 2147483647, rv_i 1 40, rv_i 0 199, (1, 1, 3, 3, [], []), rv_i (-10000000) 10000000, (1, 1, (-2147483648), 2147483647, [], []), rv_u], [rv_i 0 0], []), [367], 7360250878555343285673, [(4, (-3427383903804))], []),
  (100, ([rv_r 7, rv_full, rv_i 1 2147483647, rv_i 1 40, rv_i 0 199, (1, 1, 3, 3, [], []), rv_i (-10000000) 10000000, rv_i 0 0, rv_u], [rv_i 1 1], []), [366], 7360250878555343285673, [(4, (-3427383903804))], []),
  (100, ([rv_r 7, rv_full, rv_i 1 2147483647, rv_i 1 40, rv_i 0 199, (1, 1, 2, 2, [], []), rv_i (-10000000) 10000000, (1, 1, (-2147483648), 2147483647, [], []), rv_u], [rv_i 1 1], []), [367], 7360250878555343285673, [(4, (-3427383903804))], []),
  (101, ([rv_r 7, rv_full, rv_i 1 2147483647, rv_i 1 40, rv_i 0 199, (1, 1, 2, 3, [], []), rv_i (-10000000) 10000000, rv_i 0 0, rv_i 0 1], [], []), [368], 7360250878555343285672, [(4, (-3427383903804))], []),
  (101, ([rv_r 7, rv_full, rv_i 1 2147483647, rv_i 1 40, rv_i 0 199, (1, 1, 2, 3, [], []), rv_i (-10000000) 10000000, (1, 1, (-2147483648), 2147483647, [], []), rv_i 0 1], [], []), [369], 7360250878555343285672, [(4, (-3427383903804))], [])]
def n_X1_reckon_0_23 : List rv_N := [
  (102, ([rv_r 7, rv_full, rv_i 1 2147483647, rv_i 1 40, rv_i 0 199, (1, 1, 2, 3, [], []), rv_i (-10000000) 10000000, rv_i 0 0, rv_i 0 1], [(1, 0, 0, 1, [(.inl 8, 0)], [])], []), [370, 374], 7360250878555343285671, [(4, (-3427383903804))], []),
  (102, ([rv_r 7, rv_full, rv_i 1 2147483647, rv_i 1 40, rv_i 0 199, (1, 1, 2, 3, [], []), rv_i (-10000000) 10000000, (1, 1, (-2147483648), 2147483647, [], []), rv_i 0 1], [(1, 0, 0, 1, [(.inl 8, 0)], [])], []), [371, 375], 7360250878555343285671, [(4, (-3427383903804))], []),
  (103, ([rv_r 7, rv_full, rv_i 1 2147483647, rv_i 1 40, rv_i 0 199, (1, 1, 2, 3, [], []), rv_i (-10000000) 10000000, rv_i 0 0, (1, 1, 1, 1, [], [])], [], []), [372, 374], 7360250878555343285670, [(4, (-3427383903804))], []),
  (103, ([rv_r 7, rv_full, rv_i 1 2147483647, rv_i 1 40, rv_i 0 199, (1, 1, 2, 3, [], []), rv_i (-10000000) 10000000, (1, 1, (-2147483648), 2147483647, [], []), (1, 1, 1, 1, [], [])], [], []), [373, 375], 7360250878555343285670, [(4, (-3427383903804))], []),
  (108, ([rv_r 7, rv_full, rv_i 1 2147483647, rv_i 1 40, rv_i 1 10000000, (1, 1, 2, 3, [], []), rv_i 1 10000000, rv_i 0 0, (1, 1, 1, 1, [], [])], [], []), [376], 7360250878555343285669, [(4, (-3427383903804))], []),
  (108, ([rv_r 7, rv_full, rv_i 1 2147483647, rv_i 1 40, rv_i 1 10000000, (1, 1, 2, 3, [], []), rv_i 1 10000000, (1, 1, (-2147483648), 2147483647, [], []), (1, 1, 1, 1, [], [])], [], []), [377], 7360250878555343285669, [(4, (-3427383903804))], []),
  (109, ([rv_r 7, rv_full, rv_i 1 2147483647, rv_i 1 40, rv_i 0 199, (1, 1, 2, 3, [], []), rv_i (-10000000) 10000000, rv_i 0 0, rv_i 0 1], [], []), [376], 7360250878555343285669, [(4, (-3427383903804))], []),
  (109, ([rv_r 7, rv_full, rv_i 1 2147483647, rv_i 1 40, rv_i 0 199, (1, 1, 2, 3, [], []), rv_i (-10000000) 10000000, (1, 1, (-2147483648), 2147483647, [], []), rv_i 0 1], [], []), [377], 7360250878555343285669, [(4, (-3427383903804))], []),
  (110, ([rv_r 7, rv_full, rv_i 1 2147483647, rv_i 0 40, rv_i 0 10000000, (1, 1, 2, 3, [], []), rv_i (-10000000) 10000000, rv_i 0 0, rv_i 0 1], [], []), [610], 7360250878555343285668, [(4, (-3427383903804))], []),
  (110, ([rv_r 7, rv_full, rv_i 1 2147483647, rv_i 0 40, rv_i 0 10000000, (1, 1, 2, 3, [], []), rv_i (-10000000) 10000000, (1, 1, (-2147483648), 2147483647, [], []), rv_i 0 1], [], []), [611], 7360250878555343285668, [(4, (-3427383903804))], []),
  (111, ([rv_r 7, rv_full, rv_i 1 2147483647, rv_i 1 40, rv_i 0 199, (1, 1, (-2147483648), 2147483647, [], []), rv_i (-10000000) 10000000, rv_full, rv_u], [], []), [379], 7360250881982727189427, [(4, (-3427383903804))], []),
  (112, ([rv_r 7, rv_full, rv_i 1 2147483647, rv_i 1 40, rv_i 0 199, (1, 1, (-2147483648), 2147483647, [], []), rv_i (-10000000) 10000000, rv_full, rv_u], [(1, 0, 1, 40, [(.inl 3, 0)], [])], []), [380], 7360250881982727189426, [(4, (-3427383903804))], []),
  (113, ([rv_r 7, rv_full, rv_i 1 2147483647, rv_i 1 40, rv_i 0 199, (1, 1, (-2147483648), 2147483647, [], []), rv_i (-10000000) 10000000, rv_full, rv_u], [rv_i 2 2, (1, 0, 1, 40, [(.inl 3, 0)], [])], []), [381, 394], 7360250881982727189425, [(4, (-3427383903804))], []),
  (114, ([rv_r 7, rv_full, rv_i 1 2147483647, rv_i 2 40, rv_i 0 199, (1, 1, (-2147483648), 2147483647, [], []), rv_i (-10000000) 10000000, rv_full, rv_u], [], []), [382], 7360250881982727189424, [(4, (-3427383903804))], []),
  (115, ([rv_r 7, rv_full, rv_i 1 2147483647, rv_i 2 40, rv_i 0 199, (1, 1, (-2147483648), 2147483647, [], []), rv_i (-10000000) 10000000, rv_full, rv_u], [(1, 0, (-2147483648), 2147483647, [(.inl 7, 0)], [])], []), [383, 401], 7360250881982727189423, [(4, (-3427383903804))], []),
  (116, ([rv_r 7, rv_full, rv_i 1 2147483647, rv_i 2 40, rv_i 0 199, (1, 1, (-2147483648), 2147483647, [], []), rv_i (-10000000) 10000000, rv_i 0 0, rv_u], [], []), [384], 7360250878555343285697, [(4, (-3427383903804))], [])]
def n_X1_reckon_0_24 : List rv_N := [
  (117, ([rv_r 7, rv_full, rv_i 1 2147483647, rv_i 2 40, rv_i 0 199, (1, 1, (-2147483648), 2147483647, [], []), rv_i (-10000000) 10000000, rv_i 0 0, rv_u], [(1, 1, (-2147483648), 2147483647, [(.inl 5, 0)], [])], []), [385], 7360250878555343285696, [(4, (-3427383903804))], []),
  (118, ([rv_r 7, rv_full, rv_i 1 2147483647, rv_i 2 40, rv_i 0 199, (1, 1, (-2147483648), 2147483647, [], []), rv_i (-10000000) 10000000, rv_i 0 0, rv_u], [rv_i 47 47, (1, 1, (-2147483648), 2147483647, [(.inl 5, 0)], [])], []), [386, 387, 393], 7360250878555343285695, [(4, (-3427383903804))], []),
  (119, ([rv_r 7, rv_full, rv_i 1 2147483647, rv_i 2 40, rv_i 0 199, (1, 1, 48, 2147483647, [], []), rv_i (-10000000) 10000000, rv_i 0 0, rv_u], [], []), [388], 7360250878555343285694, [(4, (-3427383903804))], []),
  (119, ([rv_r 7, rv_full, rv_i 1 2147483647, rv_i 2 40, rv_i 0 199, (1, 1, (-2147483648), 46, [], []), rv_i (-10000000) 10000000, rv_i 0 0, rv_u], [], []), [389], 7360250878555343285693, [(4, (-3427383903804))], []),
  (120, ([rv_r 7, rv_full, rv_i 1 2147483647, rv_i 2 40, rv_i 0 199, (1, 1, 48, 2147483647, [], []), rv_i (-10000000) 10000000, rv_i 0 0, rv_u], [(1, 1, 48, 2147483647, [(.inl 5, 0)], [])], []), [390], 7360250878555343285693, [(4, (-3427383903804))], []),
  (120, ([rv_r 7, rv_full, rv_i 1 2147483647, rv_i 2 40, rv_i 0 199, (1, 1, (-2147483648), 46, [], []), rv_i (-10000000) 10000000, rv_i 0 0, rv_u], [(1, 1, (-2147483648), 46, [(.inl 5, 0)], [])], []), [391], 7360250878555343285692, [(4, (-3427383903804))], []),
  (121, ([rv_r 7, rv_full, rv_i 1 2147483647, rv_i 2 40, rv_i 0 199, (1, 1, 48, 2147483647, [], []), rv_i (-10000000) 10000000, rv_i 0 0, rv_u], [rv_i 37 37, (1, 1, 48, 2147483647, [(.inl 5, 0)], [])], []), [399], 7360250878555343285692, [(4, (-3427383903804))], []),
  (121, ([rv_r 7, rv_full, rv_i 1 2147483647, rv_i 2 40, rv_i 0 199, (1, 1, (-2147483648), 46, [], []), rv_i (-10000000) 10000000, rv_i 0 0, rv_u], [rv_i 37 37, (1, 1, (-2147483648), 46, [(.inl 5, 0)], [])], []), [392, 398, 400], 7360250878555343285691, [(4, (-3427383903804))], []),
  (122, ([rv_r 7, rv_full, rv_i 1 2147483647, rv_i 2 40, rv_i 0 199, (1, 1, 37, 37, [], []), rv_i (-10000000) 10000000, rv_i 0 0, rv_u], [], []), [395], 1, [], []),
  (122, ([rv_r 7, rv_full, rv_i 1 2147483647, rv_i 2 40, rv_i 0 199, (1, 1, 47, 47, [], []), rv_i (-10000000) 10000000, rv_i 0 0, rv_u], [], []), [396], 1, [], []),
  (122, ([rv_r 7, rv_full, rv_i 1 2147483647, rv_i 1 1, rv_i 0 199, (1, 1, (-2147483648), 2147483647, [], []), rv_i (-10000000) 10000000, rv_full, rv_u], [], []), [397], 1, [], []),
  (123, ([rv_r 7, rv_full, rv_i 1 2147483647, rv_i 2 40, rv_i 0 199, (1, 1, 37, 37, [], []), rv_i (-10000000) 10000000, rv_i 0 0, rv_u], [rv_i 0 0], []), [], 0, [], []),
  (123, ([rv_r 7, rv_full, rv_i 1 2147483647, rv_i 2 40, rv_i 0 199, (1, 1, 47, 47, [], []), rv_i (-10000000) 10000000, rv_i 0 0, rv_u], [rv_i 0 0], []), [], 0, [], []),
  (123, ([rv_r 7, rv_full, rv_i 1 2147483647, rv_i 1 1, rv_i 0 199, (1, 1, (-2147483648), 2147483647, [], []), rv_i (-10000000) 10000000, rv_full, rv_u], [rv_i 0 0], []), [], 0, [], []),
  (124, ([rv_r 7, rv_full, rv_i 1 2147483647, rv_i 2 40, rv_i 0 199, (1, 1, 38, 46, [], []), rv_i (-10000000) 10000000, rv_i 0 0, rv_u], [], []), [402], 7360250878555343285690, [(4, (-3427383903804))], []),
  (124, ([rv_r 7, rv_full, rv_i 1 2147483647, rv_i 2 40, rv_i 0 199, (1, 1, 48, 2147483647, [], []), rv_i (-10000000) 10000000, rv_i 0 0, rv_u], [], []), [403], 7360250878555343285691, [(4, (-3427383903804))], [])]
def n_X1_reckon_0_25 : List rv_N := [
  (124, ([rv_r 7, rv_full, rv_i 1 2147483647, rv_i 2 40, rv_i 0 199, (1, 1, (-2147483648), 36, [], []), rv_i (-10000000) 10000000, rv_i 0 0, rv_u], [], []), [404], 7360250878555343285690, [(4, (-3427383903804))], []),
  (124, ([rv_r 7, rv_full, rv_i 1 2147483647, rv_i 2 40, rv_i 0 199, (1, 1, (-2147483648), 2147483647, [], []), rv_i (-10000000) 10000000, (1, 1, (-2147483648), 2147483647, [], []), rv_u], [], []), [405], 7360250881982727189422, [(4, (-3427383903804))], []),
  (125, ([rv_r 7, rv_full, rv_i 1 2147483647, rv_i 2 40, rv_i 0 199, (1, 1, 38, 46, [], []), rv_i (-10000000) 10000000, rv_i 0 0, rv_u], [rv_r 7], []), [406], 7360250878555343285689, [(4, (-3427383903804))], []),
  (125, ([rv_r 7, rv_full, rv_i 1 2147483647, rv_i 2 40, rv_i 0 199, (1, 1, 48, 2147483647, [], []), rv_i (-10000000) 10000000, rv_i 0 0, rv_u], [rv_r 7], []), [407], 7360250878555343285690, [(4, (-3427383903804))], []),
  (125, ([rv_r 7, rv_full, rv_i 1 2147483647, rv_i 2 40, rv_i 0 199, (1, 1, (-2147483648), 36, [], []), rv_i (-10000000) 10000000, rv_i 0 0, rv_u], [rv_r 7], []), [408], 7360250878555343285689, [(4, (-3427383903804))], []),
  (125, ([rv_r 7, rv_full, rv_i 1 2147483647, rv_i 2 40, rv_i 0 199, (1, 1, (-2147483648), 2147483647, [], []), rv_i (-10000000) 10000000, (1, 1, (-2147483648), 2147483647, [], []), rv_u], [rv_r 7], []), [409], 7360250881982727189421, [(4, (-3427383903804))], []),
  (126, ([rv_r 7, rv_full, rv_i 1 2147483647, rv_i 2 40, rv_i 0 199, (1, 1, 38, 46, [], []), rv_i (-10000000) 10000000, rv_i 0 0, rv_u], [rv_r 15], []), [410], 7360250878555343285688, [(4, (-3427383903804))], []),
  (126, ([rv_r 7, rv_full, rv_i 1 2147483647, rv_i 2 40, rv_i 0 199, (1, 1, 48, 2147483647, [], []), rv_i (-10000000) 10000000, rv_i 0 0, rv_u], [rv_r 15], []), [411], 7360250878555343285689, [(4, (-3427383903804))], []),
  (126, ([rv_r 7, rv_full, rv_i 1 2147483647, rv_i 2 40, rv_i 0 199, (1, 1, (-2147483648), 36, [], []), rv_i (-10000000) 10000000, rv_i 0 0, rv_u], [rv_r 15], []), [412], 7360250878555343285688, [(4, (-3427383903804))], []),
  (126, ([rv_r 7, rv_full, rv_i 1 2147483647, rv_i 2 40, rv_i 0 199, (1, 1, (-2147483648), 2147483647, [], []), rv_i (-10000000) 10000000, (1, 1, (-2147483648), 2147483647, [], []), rv_u], [rv_r 15], []), [413], 7360250881982727189420, [(4, (-3427383903804))], []),
  (127, ([rv_r 7, rv_full, rv_i 1 2147483647, rv_i 2 40, rv_i 0 199, (1, 1, 38, 46, [], []), rv_i (-10000000) 10000000, rv_i 0 0, rv_u], [(1, 0, 2, 40, [(.inl 3, 0)], []), rv_r 15], []), [414], 7360250878555343285687, [(4, (-3427383903804))], []),
  (127, ([rv_r 7, rv_full, rv_i 1 2147483647, rv_i 2 40, rv_i 0 199, (1, 1, 48, 2147483647, [], []), rv_i (-10000000) 10000000, rv_i 0 0, rv_u], [(1, 0, 2, 40, [(.inl 3, 0)], []), rv_r 15], []), [415], 7360250878555343285688, [(4, (-3427383903804))], []),
  (127, ([rv_r 7, rv_full, rv_i 1 2147483647, rv_i 2 40, rv_i 0 199, (1, 1, (-2147483648), 36, [], []), rv_i (-10000000) 10000000, rv_i 0 0, rv_u], [(1, 0, 2, 40, [(.inl 3, 0)], []), rv_r 15], []), [416], 7360250878555343285687, [(4, (-3427383903804))], []),
  (127, ([rv_r 7, rv_full, rv_i 1 2147483647, rv_i 2 40, rv_i 0 199, (1, 1, (-2147483648), 2147483647, [], []), rv_i (-10000000) 10000000, (1, 1, (-2147483648), 2147483647, [], []), rv_u], [(1, 0, 2, 40, [(.inl 3, 0)], []), rv_r 15], []), [417], 7360250881982727189419, [(4, (-3427383903804))], []),
  (128, ([rv_r 7, rv_full, rv_i 1 2147483647, rv_i 2 40, rv_i 0 199, (1, 1, 38, 46, [], []), rv_i (-10000000) 10000000, rv_i 0 0, rv_u], [rv_i 2 2, (1, 0, 2, 40, [(.inl 3, 0)], []), rv_r 15], []), [418], 7360250878555343285686, [(4, (-3427383903804))], []),
  (128, ([rv_r 7, rv_full, rv_i 1 2147483647, rv_i 2 40, rv_i 0 199, (1, 1, 48, 2147483647, [], []), rv_i (-10000000) 10000000, rv_i 0 0, rv_u], [rv_i 2 2, (1, 0, 2, 40, [(.inl 3, 0)], []), rv_r 15], []), [419], 7360250878555343285687, [(4, (-3427383903804))], [])]
def n_X1_reckon_0_26 : List rv_N := [
  (128, ([rv_r 7, rv_full, rv_i 1 2147483647, rv_i 2 40, rv_i 0 199, (1, 1, (-2147483648), 36, [], []), rv_i (-10000000) 10000000, rv_i 0 0, rv_u], [rv_i 2 2, (1, 0, 2, 40, [(.inl 3, 0)], []), rv_r 15], []), [420], 7360250878555343285686, [(4, (-3427383903804))], []),
  (128, ([rv_r 7, rv_full, rv_i 1 2147483647, rv_i 2 40, rv_i 0 199, (1, 1, (-2147483648), 2147483647, [], []), rv_i (-10000000) 10000000, (1, 1, (-2147483648), 2147483647, [], []), rv_u], [rv_i 2 2, (1, 0, 2, 40, [(.inl 3, 0)], []), rv_r 15], []), [421], 7360250881982727189418, [(4, (-3427383903804))], []),
  (129, ([rv_r 7, rv_full, rv_i 1 2147483647, rv_i 2 40, rv_i 0 199, (1, 1, 38, 46, [], []), rv_i (-10000000) 10000000, rv_i 0 0, rv_u], [(1, 0, 0, 38, [(.inl 3, (-2))], []), rv_r 15], []), [422], 7360250878555343285685, [(4, (-3427383903804))], []),
  (129, ([rv_r 7, rv_full, rv_i 1 2147483647, rv_i 2 40, rv_i 0 199, (1, 1, 48, 2147483647, [], []), rv_i (-10000000) 10000000, rv_i 0 0, rv_u], [(1, 0, 0, 38, [(.inl 3, (-2))], []), rv_r 15], []), [423], 7360250878555343285686, [(4, (-3427383903804))], []),
  (129, ([rv_r 7, rv_full, rv_i 1 2147483647, rv_i 2 40, rv_i 0 199, (1, 1, (-2147483648), 36, [], []), rv_i (-10000000) 10000000, rv_i 0 0, rv_u], [(1, 0, 0, 38, [(.inl 3, (-2))], []), rv_r 15], []), [424], 7360250878555343285685, [(4, (-3427383903804))], []),
  (129, ([rv_r 7, rv_full, rv_i 1 2147483647, rv_i 2 40, rv_i 0 199, (1, 1, (-2147483648), 2147483647, [], []), rv_i (-10000000) 10000000, (1, 1, (-2147483648), 2147483647, [], []), rv_u], [(1, 0, 0, 38, [(.inl 3, (-2))], []), rv_r 15], []), [425], 7360250881982727189417, [(4, (-3427383903804))], []),
  (130, ([rv_r 7, rv_full, rv_i 1 2147483647, rv_i 2 40, rv_i 0 199, (1, 1, 38, 46, [], []), rv_i (-10000000) 10000000, rv_i 0 0, rv_u], [rv_full], []), [426], 7360250878555343285684, [(4, (-3427383903804))], []),
  (130, ([rv_r 7, rv_full, rv_i 1 2147483647, rv_i 2 40, rv_i 0 199, (1, 1, 48, 2147483647, [], []), rv_i (-10000000) 10000000, rv_i 0 0, rv_u], [rv_full], []), [427], 7360250878555343285685, [(4, (-3427383903804))], []),
  (130, ([rv_r 7, rv_full, rv_i 1 2147483647, rv_i 2 40, rv_i 0 199, (1, 1, (-2147483648), 36, [], []), rv_i (-10000000) 10000000, rv_i 0 0, rv_u], [rv_full], []), [428], 7360250878555343285684, [(4, (-3427383903804))], []),
  (130, ([rv_r 7, rv_full, rv_i 1 2147483647, rv_i 2 40, rv_i 0 199, (1, 1, (-2147483648), 2147483647, [], []), rv_i (-10000000) 10000000, (1, 1, (-2147483648), 2147483647, [], []), rv_u], [rv_full], []), [429], 7360250881982727189416, [(4, (-3427383903804))], []),
  (131, ([rv_r 7, rv_full, rv_i 1 2147483647, rv_i 2 40, rv_i 0 199, (1, 1, 38, 46, [], []), rv_i (-10000000) 10000000, rv_i 0 0, rv_full], [], []), [430], 7360250878555343285683, [(4, (-3427383903804))], []),
  (131, ([rv_r 7, rv_full, rv_i 1 2147483647, rv_i 2 40, rv_i 0 199, (1, 1, 48, 2147483647, [], []), rv_i (-10000000) 10000000, rv_i 0 0, rv_full], [], []), [431], 7360250878555343285684, [(4, (-3427383903804))], []),
  (131, ([rv_r 7, rv_full, rv_i 1 2147483647, rv_i 2 40, rv_i 0 199, (1, 1, (-2147483648), 36, [], []), rv_i (-10000000) 10000000, rv_i 0 0, rv_full], [], []), [432], 7360250878555343285683, [(4, (-3427383903804))], []),
  (131, ([rv_r 7, rv_full, rv_i 1 2147483647, rv_i 2 40, rv_i 0 199, (1, 1, (-2147483648), 2147483647, [], []), rv_i (-10000000) 10000000, (1, 1, (-2147483648), 2147483647, [], []), rv_full], [], []), [433], 7360250881982727189415, [(4, (-3427383903804))], []),
  (132, ([rv_r 7, rv_full, rv_i 1 2147483647, rv_i 2 40, rv_i 0 199, (1, 1, 38, 46, [], []), rv_i (-10000000) 10000000, rv_i 0 0, rv_full], [(1, 1, 38, 46, [(.inl 5, 0)], [])], []), [434, 444, 454, 510], 7360250878555343285682, [(4, (-3427383903804))], []),
  (132, ([rv_r 7, rv_full, rv_i 1 2147483647, rv_i 2 40, rv_i 0 199, (1, 1, 48, 2147483647, [], []), rv_i (-10000000) 10000000, rv_i 0 0, rv_full], [(1, 1, 48, 2147483647, [(.inl 5, 0)], [])], []), [474, 492, 511], 7360250878555343285683, [(4, (-3427383903804))], [])]
def n_X1_reckon_0_27 : List rv_N := [
  (132, ([rv_r 7, rv_full, rv_i 1 2147483647, rv_i 2 40, rv_i 0 199, (1, 1, (-2147483648), 36, [], []), rv_i (-10000000) 10000000, rv_i 0 0, rv_full], [(1, 1, (-2147483648), 36, [(.inl 5, 0)], [])], []), [512], 7360250878555343285682, [(4, (-3427383903804))], []),
  (132, ([rv_r 7, rv_full, rv_i 1 2147483647, rv_i 2 40, rv_i 0 199, (1, 1, (-2147483648), 2147483647, [], []), rv_i (-10000000) 10000000, (1, 1, (-2147483648), 2147483647, [], []), rv_full], [(1, 1, (-2147483648), 2147483647, [(.inl 5, 0)], [])], []), [435, 445, 455, 464, 469, 475, 493, 513], 7360250881982727189414, [(4, (-3427383903804))], []),
  (133, ([rv_r 7, rv_full, rv_i 1 2147483647, rv_i 2 40, rv_i 0 199, (1, 1, 43, 43, [], []), rv_i (-10000000) 10000000, rv_i 0 0, rv_full], [], []), [436], 7360250878555343285680, [(4, (-3427383903804))], []),
  (133, ([rv_r 7, rv_full, rv_i 1 2147483647, rv_i 2 40, rv_i 0 199, (1, 1, 43, 43, [], []), rv_i (-10000000) 10000000, (1, 1, (-2147483648), 2147483647, [], []), rv_full], [], []), [437], 7360250878555343285680, [(4, (-3427383903804))], []),
  (134, ([rv_r 7, rv_full, rv_i 1 2147483647, rv_i 2 40, rv_i 0 199, (1, 1, 43, 43, [], []), rv_i (-10000000) 10000000, rv_i 0 0, rv_full], [(1, 0, (-2147483648), 2147483647, [(.inl 8, 0)], [])], []), [438], 7360250878555343285679, [(4, (-3427383903804))], []),
  (134, ([rv_r 7, rv_full, rv_i 1 2147483647, rv_i 2 40, rv_i 0 199, (1, 1, 43, 43, [], []), rv_i (-10000000) 10000000, (1, 1, (-2147483648), 2147483647, [], []), rv_full], [(1, 0, (-2147483648), 2147483647, [(.inl 8, 0)], [])], []), [439], 7360250878555343285679, [(4, (-3427383903804))], []),
  (135, ([rv_r 7, rv_full, rv_i 1 2147483647, rv_i 2 40, rv_i 0 199, (1, 1, 43, 43, [], []), rv_i (-10000000) 10000000, rv_i 0 0, rv_full], [(1, 0, 0, 0, [(.inl 7, 0)], []), (1, 0, (-2147483648), 2147483647, [(.inl 8, 0)], [])], []), [440], 7360250878555343285678, [(4, (-3427383903804))], []),
  (135, ([rv_r 7, rv_full, rv_i 1 2147483647, rv_i 2 40, rv_i 0 199, (1, 1, 43, 43, [], []), rv_i (-10000000) 10000000, (1, 1, (-2147483648), 2147483647, [], []), rv_full], [(1, 1, (-2147483648), 2147483647, [(.inl 7, 0)], []), (1, 0, (-2147483648), 2147483647, [(.inl 8, 0)], [])], []), [441], 7360250878555343285678, [(4, (-3427383903804))], []),
  (136, ([rv_r 7, rv_full, rv_i 1 2147483647, rv_i 2 40, rv_i 0 199, (1, 1, 43, 43, [], []), rv_i (-10000000) 10000000, rv_i 0 0, rv_full], [(1, 0, (-2147483648), 2147483647, [(.inl 8, 0)], [])], []), [442], 7360250878555343285677, [(4, (-3427383903804))], []),
  (136, ([rv_r 7, rv_full, rv_i 1 2147483647, rv_i 2 40, rv_i 0 199, (1, 1, 43, 43, [], []), rv_i (-10000000) 10000000, (1, 1, (-2147483648), 2147483647, [], []), rv_full], [rv_full], []), [443], 7360250878555343285677, [(4, (-3427383903804))], []),
  (137, ([rv_r 7, rv_full, rv_i 1 2147483647, rv_i 2 40, rv_i 0 199, (1, 1, 43, 43, [], []), rv_i (-10000000) 10000000, rv_i 0 0, rv_full], [], []), [543], 7360250878555343285676, [(4, (-3427383903804))], []),
  (137, ([rv_r 7, rv_full, rv_i 1 2147483647, rv_i 2 40, rv_i 0 199, (1, 1, 43, 43, [], []), rv_i (-10000000) 10000000, (1, 1, (-2147483648), 2147483647, [], []), rv_full], [], []), [544], 7360250878555343285676, [(4, (-3427383903804))], []),
  (138, ([rv_r 7, rv_full, rv_i 1 2147483647, rv_i 2 40, rv_i 0 199, (1, 1, 45, 45, [], []), rv_i (-10000000) 10000000, rv_i 0 0, rv_full], [], []), [446], 7360250878555343285680, [(4, (-3427383903804))], []),
  (138, ([rv_r 7, rv_full, rv_i 1 2147483647, rv_i 2 40, rv_i 0 199, (1, 1, 45, 45, [], []), rv_i (-10000000) 10000000, (1, 1, (-2147483648), 2147483647, [], []), rv_full], [], []), [447], 7360250878555343285680, [(4, (-3427383903804))], []),
  (139, ([rv_r 7, rv_full, rv_i 1 2147483647, rv_i 2 40, rv_i 0 199, (1, 1, 45, 45, [], []), rv_i (-10000000) 10000000, rv_i 0 0, rv_full], [(1, 0, (-2147483648), 2147483647, [(.inl 8, 0)], [])], []), [448], 7360250878555343285679, [(4, (-3427383903804))], []),
  (139, ([rv_r 7, rv_full, rv_i 1 2147483647, rv_i 2 40, rv_i 0 199, (1, 1, 45, 45, [], []), rv_i (-10000000) 10000000, (1, 1, (-2147483648), 2147483647, [], []), rv_full], [(1, 0, (-2147483648), 2147483647, [(.inl 8, 0)], [])], []), [449], 7360250878555343285679, [(4, (-3427383903804))], [])]
def n_X1_reckon_0_28 : List rv_N := [
  (140, ([rv_r 7, rv_full, rv_i 1 2147483647, rv_i 2 40, rv_i 0 199, (1, 1, 45, 45, [], []), rv_i (-10000000) 10000000, rv_i 0 0, rv_full], [(1, 0, 0, 0, [(.inl 7, 0)], []), (1, 0, (-2147483648), 2147483647, [(.inl 8, 0)], [])], []), [450], 7360250878555343285678, [(4, (-3427383903804))], []),
  (140, ([rv_r 7, rv_full, rv_i 1 2147483647, rv_i 2 40, rv_i 0 199, (1, 1, 45, 45, [], []), rv_i (-10000000) 10000000, (1, 1, (-2147483648), 2147483647, [], []), rv_full], [(1, 1, (-2147483648), 2147483647, [(.inl 7, 0)], []), (1, 0, (-2147483648), 2147483647, [(.inl 8, 0)], [])], []), [451], 7360250878555343285678, [(4, (-3427383903804))], []),
  (141, ([rv_r 7, rv_full, rv_i 1 2147483647, rv_i 2 40, rv_i 0 199, (1, 1, 45, 45, [], []), rv_i (-10000000) 10000000, rv_i 0 0, rv_full], [(1, 0, (-2147483648), 2147483647, [(.inl 8, 0)], [])], []), [452], 7360250878555343285677, [(4, (-3427383903804))], []),
  (141, ([rv_r 7, rv_full, rv_i 1 2147483647, rv_i 2 40, rv_i 0 199, (1, 1, 45, 45, [], []), rv_i (-10000000) 10000000, (1, 1, (-2147483648), 2147483647, [], []), rv_full], [rv_full], []), [453], 7360250878555343285677, [(4, (-3427383903804))], []),
  (142, ([rv_r 7, rv_full, rv_i 1 2147483647, rv_i 2 40, rv_i 0 199, (1, 1, 45, 45, [], []), rv_i (-10000000) 10000000, rv_i 0 0, rv_full], [], []), [543], 7360250878555343285676, [(4, (-3427383903804))], []),
  (142, ([rv_r 7, rv_full, rv_i 1 2147483647, rv_i 2 40, rv_i 0 199, (1, 1, 45, 45, [], []), rv_i (-10000000) 10000000, (1, 1, (-2147483648), 2147483647, [], []), rv_full], [], []), [544], 7360250878555343285676, [(4, (-3427383903804))], []),
  (143, ([rv_r 7, rv_full, rv_i 1 2147483647, rv_i 2 40, rv_i 0 199, (1, 1, 42, 42, [], []), rv_i (-10000000) 10000000, rv_i 0 0, rv_full], [], []), [456], 7360250878555343285680, [(4, (-3427383903804))], []),
  (143, ([rv_r 7, rv_full, rv_i 1 2147483647, rv_i 2 40, rv_i 0 199, (1, 1, 42, 42, [], []), rv_i (-10000000) 10000000, (1, 1, (-2147483648), 2147483647, [], []), rv_full], [], []), [457], 7360250878555343285680, [(4, (-3427383903804))], []),
  (144, ([rv_r 7, rv_full, rv_i 1 2147483647, rv_i 2 40, rv_i 0 199, (1, 1, 42, 42, [], []), rv_i (-10000000) 10000000, rv_i 0 0, rv_full], [(1, 0, (-2147483648), 2147483647, [(.inl 8, 0)], [])], []), [458], 7360250878555343285679, [(4, (-3427383903804))], []),
  (144, ([rv_r 7, rv_full, rv_i 1 2147483647, rv_i 2 40, rv_i 0 199, (1, 1, 42, 42, [], []), rv_i (-10000000) 10000000, (1, 1, (-2147483648), 2147483647, [], []), rv_full], [(1, 0, (-2147483648), 2147483647, [(.inl 8, 0)], [])], []), [459], 7360250878555343285679, [(4, (-3427383903804))], []),
  (145, ([rv_r 7, rv_full, rv_i 1 2147483647, rv_i 2 40, rv_i 0 199, (1, 1, 42, 42, [], []), rv_i (-10000000) 10000000, rv_i 0 0, rv_full], [(1, 0, 0, 0, [(.inl 7, 0)], []), (1, 0, (-2147483648), 2147483647, [(.inl 8, 0)], [])], []), [460], 7360250878555343285678, [(4, (-3427383903804))], []),
  (145, ([rv_r 7, rv_full, rv_i 1 2147483647, rv_i 2 40, rv_i 0 199, (1, 1, 42, 42, [], []), rv_i (-10000000) 10000000, (1, 1, (-2147483648), 2147483647, [], []), rv_full], [(1, 1, (-2147483648), 2147483647, [(.inl 7, 0)], []), (1, 0, (-2147483648), 2147483647, [(.inl 8, 0)], [])], []), [461], 7360250878555343285678, [(4, (-3427383903804))], []),
  (146, ([rv_r 7, rv_full, rv_i 1 2147483647, rv_i 2 40, rv_i 0 199, (1, 1, 42, 42, [], []), rv_i (-10000000) 10000000, rv_i 0 0, rv_full], [rv_i 0 0], []), [462], 7360250878555343285677, [(4, (-3427383903804))], []),
  (146, ([rv_r 7, rv_full, rv_i 1 2147483647, rv_i 2 40, rv_i 0 199, (1, 1, 42, 42, [], []), rv_i (-10000000) 10000000, (1, 1, (-2147483648), 2147483647, [], []), rv_full], [rv_full], []), [463], 7360250878555343285677, [(4, (-3427383903804))], []),
  (147, ([rv_r 7, rv_full, rv_i 1 2147483647, rv_i 2 40, rv_i 0 199, (1, 1, 42, 42, [], []), rv_i (-10000000) 10000000, rv_i 0 0, rv_i 0 0], [], []), [543], 7360250878555343285676, [(4, (-3427383903804))], []),
  (147, ([rv_r 7, rv_full, rv_i 1 2147483647, rv_i 2 40, rv_i 0 199, (1, 1, 42, 42, [], []), rv_i (-10000000) 10000000, (1, 1, (-2147483648), 2147483647, [], []), rv_full], [], []), [544], 7360250878555343285676, [(4, (-3427383903804))], [])]
def n_X1_reckon_0_29 : List rv_N := [
  (148, ([rv_r 7, rv_full, rv_i 1 2147483647, rv_i 2 40, rv_i 0 199, (1, 1, 47, 47, [], []), rv_i (-10000000) 10000000, (1, 1, (-2147483648), 2147483647, [], []), rv_full], [], []), [465], 7360250878555343285680, [(4, (-3427383903804))], []),
  (149, ([rv_r 7, rv_full, rv_i 1 2147483647, rv_i 2 40, rv_i 0 199, (1, 1, 47, 47, [], []), rv_i (-10000000) 10000000, (1, 1, (-2147483648), 2147483647, [], []), rv_full], [(1, 0, (-2147483648), 2147483647, [(.inl 8, 0)], [])], []), [466], 7360250878555343285679, [(4, (-3427383903804))], []),
  (150, ([rv_r 7, rv_full, rv_i 1 2147483647, rv_i 2 40, rv_i 0 199, (1, 1, 47, 47, [], []), rv_i (-10000000) 10000000, (1, 1, (-2147483648), 2147483647, [], []), rv_full], [(1, 1, (-2147483648), 2147483647, [(.inl 7, 0)], []), (1, 0, (-2147483648), 2147483647, [(.inl 8, 0)], [])], []), [467], 7360250878555343285678, [(4, (-3427383903804))], []),
  (151, ([rv_r 7, rv_full, rv_i 1 2147483647, rv_i 2 40, rv_i 0 199, (1, 1, 47, 47, [], []), rv_i (-10000000) 10000000, (1, 1, (-2147483648), 2147483647, [], []), rv_full], [rv_full], []), [468], 7360250878555343285677, [(4, (-3427383903804))], []),
  (152, ([rv_r 7, rv_full, rv_i 1 2147483647, rv_i 2 40, rv_i 0 199, (1, 1, 47, 47, [], []), rv_i (-10000000) 10000000, (1, 1, (-2147483648), 2147483647, [], []), rv_full], [], []), [545], 7360250878555343285676, [(4, (-3427383903804))], []),
  (153, ([rv_r 7, rv_full, rv_i 1 2147483647, rv_i 2 40, rv_i 0 199, (1, 1, 37, 37, [], []), rv_i (-10000000) 10000000, (1, 1, (-2147483648), 2147483647, [], []), rv_full], [], []), [470], 7360250878555343285680, [(4, (-3427383903804))], []),
  (154, ([rv_r 7, rv_full, rv_i 1 2147483647, rv_i 2 40, rv_i 0 199, (1, 1, 37, 37, [], []), rv_i (-10000000) 10000000, (1, 1, (-2147483648), 2147483647, [], []), rv_full], [(1, 0, (-2147483648), 2147483647, [(.inl 8, 0)], [])], []), [471], 7360250878555343285679, [(4, (-3427383903804))], []),
  (155, ([rv_r 7, rv_full, rv_i 1 2147483647, rv_i 2 40, rv_i 0 199, (1, 1, 37, 37, [], []), rv_i (-10000000) 10000000, (1, 1, (-2147483648), 2147483647, [], []), rv_full], [(1, 1, (-2147483648), 2147483647, [(.inl 7, 0)], []), (1, 0, (-2147483648), 2147483647, [(.inl 8, 0)], [])], []), [472], 7360250878555343285678, [(4, (-3427383903804))], []),
  (156, ([rv_r 7, rv_full, rv_i 1 2147483647, rv_i 2 40, rv_i 0 199, (1, 1, 37, 37, [], []), rv_i (-10000000) 10000000, (1, 1, (-2147483648), 2147483647, [], []), rv_full], [rv_full], []), [473], 7360250878555343285677, [(4, (-3427383903804))], []),
  (157, ([rv_r 7, rv_full, rv_i 1 2147483647, rv_i 2 40, rv_i 0 199, (1, 1, 37, 37, [], []), rv_i (-10000000) 10000000, (1, 1, (-2147483648), 2147483647, [], []), rv_full], [], []), [542], 7360250878555343285676, [(4, (-3427383903804))], []),
  (158, ([rv_r 7, rv_full, rv_i 1 2147483647, rv_i 2 40, rv_i 0 199, (1, 1, 60, 60, [], []), rv_i (-10000000) 10000000, rv_i 0 0, rv_full], [], []), [476], 7360250878555343285682, [(4, (-3427383903804))], []),
  (158, ([rv_r 7, rv_full, rv_i 1 2147483647, rv_i 2 40, rv_i 0 199, (1, 1, 60, 60, [], []), rv_i (-10000000) 10000000, (1, 1, (-2147483648), 2147483647, [], []), rv_full], [], []), [477], 7360250878555343285682, [(4, (-3427383903804))], []),
  (159, ([rv_r 7, rv_full, rv_i 1 2147483647, rv_i 2 40, rv_i 0 199, (1, 1, 60, 60, [], []), rv_i (-10000000) 10000000, rv_i 0 0, rv_full], [(1, 0, (-2147483648), 2147483647, [(.inl 8, 0)], [])], []), [478], 7360250878555343285681, [(4, (-3427383903804))], []),
  (159, ([rv_r 7, rv_full, rv_i 1 2147483647, rv_i 2 40, rv_i 0 199, (1, 1, 60, 60, [], []), rv_i (-10000000) 10000000, (1, 1, (-2147483648), 2147483647, [], []), rv_full], [(1, 0, (-2147483648), 2147483647, [(.inl 8, 0)], [])], []), [479], 7360250878555343285681, [(4, (-3427383903804))], []),
  (160, ([rv_r 7, rv_full, rv_i 1 2147483647, rv_i 2 40, rv_i 0 199, (1, 1, 60, 60, [], []), rv_i (-10000000) 10000000, rv_i 0 0, rv_full], [(1, 0, 0, 0, [(.inl 7, 0)], []), (1, 0, (-2147483648), 2147483647, [(.inl 8, 0)], [])], []), [480, 484], 7360250878555343285680, [(4, (-3427383903804))], []),
  (160, ([rv_r 7, rv_full, rv_i 1 2147483647, rv_i 2 40, rv_i 0 199, (1, 1, 60, 60, [], []), rv_i (-10000000) 10000000, (1, 1, (-2147483648), 2147483647, [], []), rv_full], [(1, 1, (-2147483648), 2147483647, [(.inl 7, 0)], []), (1, 0, (-2147483648), 2147483647, [(.inl 8, 0)], [])], []), [481, 485], 7360250878555343285680, [(4, (-3427383903804))], [])]
def n_X1_reckon_0_30 : List rv_N := [
  (161, ([rv_r 7, rv_full, rv_i 1 2147483647, rv_i 2 40, rv_i 0 199, (1, 1, 60, 60, [], []), rv_i (-10000000) 10000000, rv_i 0 0, rv_i (-2147483648) (-1)], [], []), [482], 7360250878555343285679, [(4, (-3427383903804))], []),
  (161, ([rv_r 7, rv_full, rv_i 1 2147483647, rv_i 2 40, rv_i 0 199, (1, 1, 60, 60, [], []), rv_i (-10000000) 10000000, (1, 1, (-2147483647), 2147483647, [], []), rv_i (-2147483648) 2147483646], [], []), [483], 7360250878555343285679, [(4, (-3427383903804))], []),
  (162, ([rv_r 7, rv_full, rv_i 1 2147483647, rv_i 2 40, rv_i 0 199, (1, 1, 60, 60, [], []), rv_i (-10000000) 10000000, rv_i 0 0, rv_i (-2147483648) (-1)], [rv_i 1 1], []), [488], 7360250878555343285678, [(4, (-3427383903804))], []),
  (162, ([rv_r 7, rv_full, rv_i 1 2147483647, rv_i 2 40, rv_i 0 199, (1, 1, 60, 60, [], []), rv_i (-10000000) 10000000, (1, 1, (-2147483647), 2147483647, [], []), rv_i (-2147483648) 2147483646], [rv_i 1 1], []), [489], 7360250878555343285678, [(4, (-3427383903804))], []),
  (163, ([rv_r 7, rv_full, rv_i 1 2147483647, rv_i 2 40, rv_i 0 199, (1, 1, 60, 60, [], []), rv_i (-10000000) 10000000, rv_i 0 0, rv_i 0 2147483647], [], []), [486], 7360250878555343285678, [(4, (-3427383903804))], []),
  (163, ([rv_r 7, rv_full, rv_i 1 2147483647, rv_i 2 40, rv_i 0 199, (1, 1, 60, 60, [], []), rv_i (-10000000) 10000000, (1, 1, (-2147483648), 2147483647, [], []), rv_full], [], []), [487], 7360250878555343285678, [(4, (-3427383903804))], []),
  (164, ([rv_r 7, rv_full, rv_i 1 2147483647, rv_i 2 40, rv_i 0 199, (1, 1, 60, 60, [], []), rv_i (-10000000) 10000000, rv_i 0 0, rv_i 0 2147483647], [rv_i 0 0], []), [490], 7360250878555343285677, [(4, (-3427383903804))], []),
  (164, ([rv_r 7, rv_full, rv_i 1 2147483647, rv_i 2 40, rv_i 0 199, (1, 1, 60, 60, [], []), rv_i (-10000000) 10000000, (1, 1, (-2147483648), 2147483647, [], []), rv_full], [rv_i 0 0], []), [491], 7360250878555343285677, [(4, (-3427383903804))], []),
  (164, ([rv_r 7, rv_full, rv_i 1 2147483647, rv_i 2 40, rv_i 0 199, (1, 1, 60, 60, [], []), rv_i (-10000000) 10000000, rv_i 0 0, rv_i (-2147483648) (-1)], [rv_i 1 1], []), [490], 7360250878555343285677, [(4, (-3427383903804))], []),
  (164, ([rv_r 7, rv_full, rv_i 1 2147483647, rv_i 2 40, rv_i 0 199, (1, 1, 60, 60, [], []), rv_i (-10000000) 10000000, (1, 1, (-2147483647), 2147483647, [], []), rv_i (-2147483648) 2147483646], [rv_i 1 1], []), [491], 7360250878555343285677, [(4, (-3427383903804))], []),
  (165, ([rv_r 7, rv_full, rv_i 1 2147483647, rv_i 2 40, rv_i 0 199, (1, 1, 60, 60, [], []), rv_i (-10000000) 10000000, rv_i 0 0, rv_i 0 1], [], []), [546], 7360250878555343285676, [(4, (-3427383903804))], []),
  (165, ([rv_r 7, rv_full, rv_i 1 2147483647, rv_i 2 40, rv_i 0 199, (1, 1, 60, 60, [], []), rv_i (-10000000) 10000000, (1, 1, (-2147483648), 2147483647, [], []), rv_i 0 1], [], []), [547], 7360250878555343285676, [(4, (-3427383903804))], []),
  (166, ([rv_r 7, rv_full, rv_i 1 2147483647, rv_i 2 40, rv_i 0 199, (1, 1, 62, 62, [], []), rv_i (-10000000) 10000000, rv_i 0 0, rv_full], [], []), [494], 7360250878555343285682, [(4, (-3427383903804))], []),
  (166, ([rv_r 7, rv_full, rv_i 1 2147483647, rv_i 2 40, rv_i 0 199, (1, 1, 62, 62, [], []), rv_i (-10000000) 10000000, (1, 1, (-2147483648), 2147483647, [], []), rv_full], [], []), [495], 7360250878555343285682, [(4, (-3427383903804))], []),
  (167, ([rv_r 7, rv_full, rv_i 1 2147483647, rv_i 2 40, rv_i 0 199, (1, 1, 62, 62, [], []), rv_i (-10000000) 10000000, rv_i 0 0, rv_full], [(1, 0, (-2147483648), 2147483647, [(.inl 8, 0)], [])], []), [496], 7360250878555343285681, [(4, (-3427383903804))], []),
  (167, ([rv_r 7, rv_full, rv_i 1 2147483647, rv_i 2 40, rv_i 0 199, (1, 1, 62, 62, [], []), rv_i (-10000000) 10000000, (1, 1, (-2147483648), 2147483647, [], []), rv_full], [(1, 0, (-2147483648), 2147483647, [(.inl 8, 0)], [])], []), [497], 7360250878555343285681, [(4, (-3427383903804))], [])]
def n_X1_reckon_0_31 : List rv_N := [
  (168, ([rv_r 7, rv_full, rv_i 1 2147483647, rv_i 2 40, rv_i 0 199, (1, 1, 62, 62, [], []), rv_i (-10000000) 10000000, rv_i 0 0, rv_full], [(1, 0, 0, 0, [(.inl 7, 0)], []), (1, 0, (-2147483648), 2147483647, [(.inl 8, 0)], [])], []), [498, 502], 7360250878555343285680, [(4, (-3427383903804))], []),
  (168, ([rv_r 7, rv_full, rv_i 1 2147483647, rv_i 2 40, rv_i 0 199, (1, 1, 62, 62, [], []), rv_i (-10000000) 10000000, (1, 1, (-2147483648), 2147483647, [], []), rv_full], [(1, 1, (-2147483648), 2147483647, [(.inl 7, 0)], []), (1, 0, (-2147483648), 2147483647, [(.inl 8, 0)], [])], []), [499, 503], 7360250878555343285680, [(4, (-3427383903804))], []),
  (169, ([rv_r 7, rv_full, rv_i 1 2147483647, rv_i 2 40, rv_i 0 199, (1, 1, 62, 62, [], []), rv_i (-10000000) 10000000, rv_i 0 0, rv_i 1 2147483647], [], []), [500], 7360250878555343285679, [(4, (-3427383903804))], []),
  (169, ([rv_r 7, rv_full, rv_i 1 2147483647, rv_i 2 40, rv_i 0 199, (1, 1, 62, 62, [], []), rv_i (-10000000) 10000000, (1, 1, (-2147483648), 2147483646, [], []), rv_i (-2147483647) 2147483647], [], []), [501], 7360250878555343285679, [(4, (-3427383903804))], []),
  (170, ([rv_r 7, rv_full, rv_i 1 2147483647, rv_i 2 40, rv_i 0 199, (1, 1, 62, 62, [], []), rv_i (-10000000) 10000000, rv_i 0 0, rv_i 1 2147483647], [rv_i 1 1], []), [506], 7360250878555343285678, [(4, (-3427383903804))], []),
  (170, ([rv_r 7, rv_full, rv_i 1 2147483647, rv_i 2 40, rv_i 0 199, (1, 1, 62, 62, [], []), rv_i (-10000000) 10000000, (1, 1, (-2147483648), 2147483646, [], []), rv_i (-2147483647) 2147483647], [rv_i 1 1], []), [507], 7360250878555343285678, [(4, (-3427383903804))], []),
  (171, ([rv_r 7, rv_full, rv_i 1 2147483647, rv_i 2 40, rv_i 0 199, (1, 1, 62, 62, [], []), rv_i (-10000000) 10000000, rv_i 0 0, rv_i (-2147483648) 0], [], []), [504], 7360250878555343285678, [(4, (-3427383903804))], []),
  (171, ([rv_r 7, rv_full, rv_i 1 2147483647, rv_i 2 40, rv_i 0 199, (1, 1, 62, 62, [], []), rv_i (-10000000) 10000000, (1, 1, (-2147483648), 2147483647, [], []), rv_full], [], []), [505], 7360250878555343285678, [(4, (-3427383903804))], []),
  (172, ([rv_r 7, rv_full, rv_i 1 2147483647, rv_i 2 40, rv_i 0 199, (1, 1, 62, 62, [], []), rv_i (-10000000) 10000000, rv_i 0 0, rv_i (-2147483648) 0], [rv_i 0 0], []), [508], 7360250878555343285677, [(4, (-3427383903804))], []),
  (172, ([rv_r 7, rv_full, rv_i 1 2147483647, rv_i 2 40, rv_i 0 199, (1, 1, 62, 62, [], []), rv_i (-10000000) 10000000, (1, 1, (-2147483648), 2147483647, [], []), rv_full], [rv_i 0 0], []), [509], 7360250878555343285677, [(4, (-3427383903804))], []),
  (172, ([rv_r 7, rv_full, rv_i 1 2147483647, rv_i 2 40, rv_i 0 199, (1, 1, 62, 62, [], []), rv_i (-10000000) 10000000, rv_i 0 0, rv_i 1 2147483647], [rv_i 1 1], []), [508], 7360250878555343285677, [(4, (-3427383903804))], []),
  (172, ([rv_r 7, rv_full, rv_i 1 2147483647, rv_i 2 40, rv_i 0 199, (1, 1, 62, 62, [], []), rv_i (-10000000) 10000000, (1, 1, (-2147483648), 2147483646, [], []), rv_i (-2147483647) 2147483647], [rv_i 1 1], []), [509], 7360250878555343285677, [(4, (-3427383903804))], []),
  (173, ([rv_r 7, rv_full, rv_i 1 2147483647, rv_i 2 40, rv_i 0 199, (1, 1, 62, 62, [], []), rv_i (-10000000) 10000000, rv_i 0 0, rv_i 0 1], [], []), [546], 7360250878555343285676, [(4, (-3427383903804))], []),
  (173, ([rv_r 7, rv_full, rv_i 1 2147483647, rv_i 2 40, rv_i 0 199, (1, 1, 62, 62, [], []), rv_i (-10000000) 10000000, (1, 1, (-2147483648), 2147483647, [], []), rv_i 0 1], [], []), [547], 7360250878555343285676, [(4, (-3427383903804))], []),
  (174, ([rv_r 7, rv_full, rv_i 1 2147483647, rv_i 2 40, rv_i 0 199, (1, 1, 38, 46, [], []), rv_i (-10000000) 10000000, rv_i 0 0, rv_full], [], []), [514], 7360250878555343285681, [(4, (-3427383903804))], []),
  (174, ([rv_r 7, rv_full, rv_i 1 2147483647, rv_i 2 40, rv_i 0 199, (1, 1, 48, 2147483647, [], []), rv_i (-10000000) 10000000, rv_i 0 0, rv_full], [], []), [515], 7360250878555343285681, [(4, (-3427383903804))], [])]
def n_X1_reckon_0_32 : List rv_N := [
  (174, ([rv_r 7, rv_full, rv_i 1 2147483647, rv_i 2 40, rv_i 0 199, (1, 1, (-2147483648), 36, [], []), rv_i (-10000000) 10000000, rv_i 0 0, rv_full], [], []), [516], 7360250878555343285681, [(4, (-3427383903804))], []),
  (174, ([rv_r 7, rv_full, rv_i 1 2147483647, rv_i 2 40, rv_i 0 199, (1, 1, (-2147483648), 2147483647, [], []), rv_i (-10000000) 10000000, (1, 1, (-2147483648), 2147483647, [], []), rv_full], [], []), [517], 7360250881982727189413, [(4, (-3427383903804))], []),
  (175, ([rv_r 7, rv_full, rv_i 1 2147483647, rv_i 2 40, rv_i 0 199, (1, 1, 38, 46, [], []), rv_i (-10000000) 10000000, rv_i 0 0, rv_full], [(1, 0, (-2147483648), 2147483647, [(.inl 8, 0)], [])], []), [518], 7360250878555343285680, [(4, (-3427383903804))], []),
  (175, ([rv_r 7, rv_full, rv_i 1 2147483647, rv_i 2 40, rv_i 0 199, (1, 1, 48, 2147483647, [], []), rv_i (-10000000) 10000000, rv_i 0 0, rv_full], [(1, 0, (-2147483648), 2147483647, [(.inl 8, 0)], [])], []), [519], 7360250878555343285680, [(4, (-3427383903804))], []),
  (175, ([rv_r 7, rv_full, rv_i 1 2147483647, rv_i 2 40, rv_i 0 199, (1, 1, (-2147483648), 36, [], []), rv_i (-10000000) 10000000, rv_i 0 0, rv_full], [(1, 0, (-2147483648), 2147483647, [(.inl 8, 0)], [])], []), [520], 7360250878555343285680, [(4, (-3427383903804))], []),
  (175, ([rv_r 7, rv_full, rv_i 1 2147483647, rv_i 2 40, rv_i 0 199, (1, 1, (-2147483648), 2147483647, [], []), rv_i (-10000000) 10000000, (1, 1, (-2147483648), 2147483647, [], []), rv_full], [(1, 0, (-2147483648), 2147483647, [(.inl 8, 0)], [])], []), [521], 7360250881982727189412, [(4, (-3427383903804))], []),
  (176, ([rv_r 7, rv_full, rv_i 1 2147483647, rv_i 2 40, rv_i 0 199, (1, 1, 38, 46, [], []), rv_i (-10000000) 10000000, rv_i 0 0, rv_full], [(1, 0, 0, 0, [(.inl 7, 0)], []), (1, 0, (-2147483648), 2147483647, [(.inl 8, 0)], [])], []), [522, 530], 7360250878555343285679, [(4, (-3427383903804))], []),
  (176, ([rv_r 7, rv_full, rv_i 1 2147483647, rv_i 2 40, rv_i 0 199, (1, 1, 48, 2147483647, [], []), rv_i (-10000000) 10000000, rv_i 0 0, rv_full], [(1, 0, 0, 0, [(.inl 7, 0)], []), (1, 0, (-2147483648), 2147483647, [(.inl 8, 0)], [])], []), [523, 531], 7360250878555343285679, [(4, (-3427383903804))], []),
  (176, ([rv_r 7, rv_full, rv_i 1 2147483647, rv_i 2 40, rv_i 0 199, (1, 1, (-2147483648), 36, [], []), rv_i (-10000000) 10000000, rv_i 0 0, rv_full], [(1, 0, 0, 0, [(.inl 7, 0)], []), (1, 0, (-2147483648), 2147483647, [(.inl 8, 0)], [])], []), [524, 532], 7360250878555343285679, [(4, (-3427383903804))], []),
  (176, ([rv_r 7, rv_full, rv_i 1 2147483647, rv_i 2 40, rv_i 0 199, (1, 1, (-2147483648), 2147483647, [], []), rv_i (-10000000) 10000000, (1, 1, (-2147483648), 2147483647, [], []), rv_full], [(1, 1, (-2147483648), 2147483647, [(.inl 7, 0)], []), (1, 0, (-2147483648), 2147483647, [(.inl 8, 0)], [])], []), [525, 533], 7360250881982727189411, [(4, (-3427383903804))], []),
  (177, ([rv_r 7, rv_full, rv_i 1 2147483647, rv_i 2 40, rv_i 0 199, (1, 1, 38, 46, [], []), rv_i (-10000000) 10000000, rv_i 0 0, rv_i 0 0], [], []), [526], 7360250878555343285678, [(4, (-3427383903804))], []),
  (177, ([rv_r 7, rv_full, rv_i 1 2147483647, rv_i 2 40, rv_i 0 199, (1, 1, 48, 2147483647, [], []), rv_i (-10000000) 10000000, rv_i 0 0, rv_i 0 0], [], []), [527], 7360250878555343285678, [(4, (-3427383903804))], []),
  (177, ([rv_r 7, rv_full, rv_i 1 2147483647, rv_i 2 40, rv_i 0 199, (1, 1, (-2147483648), 36, [], []), rv_i (-10000000) 10000000, rv_i 0 0, rv_i 0 0], [], []), [528], 7360250878555343285678, [(4, (-3427383903804))], []),
  (177, ([rv_r 7, rv_full, rv_i 1 2147483647, rv_i 2 40, rv_i 0 199, (1, 1, (-2147483648), 2147483647, [], []), rv_i (-10000000) 10000000, (1, 1, (-2147483648), 2147483647, [], []), rv_full], [], []), [529], 7360250881982727189410, [(4, (-3427383903804))], []),
  (178, ([rv_r 7, rv_full, rv_i 1 2147483647, rv_i 2 40, rv_i 0 199, (1, 1, 38, 46, [], []), rv_i (-10000000) 10000000, rv_i 0 0, rv_i 0 0], [rv_i 1 1], []), [538], 7360250878555343285677, [(4, (-3427383903804))], []),
  (178, ([rv_r 7, rv_full, rv_i 1 2147483647, rv_i 2 40, rv_i 0 199, (1, 1, 48, 2147483647, [], []), rv_i (-10000000) 10000000, rv_i 0 0, rv_i 0 0], [rv_i 1 1], []), [539], 7360250878555343285677, [(4, (-3427383903804))], [])]
def n_X1_reckon_0_33 : List rv_N := [
  (178, ([rv_r 7, rv_full, rv_i 1 2147483647, rv_i 2 40, rv_i 0 199, (1, 1, (-2147483648), 36, [], []), rv_i (-10000000) 10000000, rv_i 0 0, rv_i 0 0], [rv_i 1 1], []), [540], 7360250878555343285677, [(4, (-3427383903804))], []),
  (178, ([rv_r 7, rv_full, rv_i 1 2147483647, rv_i 2 40, rv_i 0 199, (1, 1, (-2147483648), 2147483647, [], []), rv_i (-10000000) 10000000, (1, 1, (-2147483648), 2147483647, [], []), rv_full], [rv_i 1 1], []), [541], 7360250881982727189409, [(4, (-3427383903804))], []),
  (179, ([rv_r 7, rv_full, rv_i 1 2147483647, rv_i 2 40, rv_i 0 199, (1, 1, 38, 46, [], []), rv_i (-10000000) 10000000, rv_i 0 0, (1, 1, (-2147483648), 2147483647, [], [])], [], []), [534], 7360250878555343285677, [(4, (-3427383903804))], []),
  (179, ([rv_r 7, rv_full, rv_i 1 2147483647, rv_i 2 40, rv_i 0 199, (1, 1, 48, 2147483647, [], []), rv_i (-10000000) 10000000, rv_i 0 0, (1, 1, (-2147483648), 2147483647, [], [])], [], []), [535], 7360250878555343285677, [(4, (-3427383903804))], []),
  (179, ([rv_r 7, rv_full, rv_i 1 2147483647, rv_i 2 40, rv_i 0 199, (1, 1, (-2147483648), 36, [], []), rv_i (-10000000) 10000000, rv_i 0 0, (1, 1, (-2147483648), 2147483647, [], [])], [], []), [536], 7360250878555343285677, [(4, (-3427383903804))], []),
  (179, ([rv_r 7, rv_full, rv_i 1 2147483647, rv_i 2 40, rv_i 0 199, (1, 1, (-2147483648), 2147483647, [], []), rv_i (-10000000) 10000000, (1, 1, (-2147483648), 2147483647, [], []), rv_full], [], []), [537], 7360250881982727189409, [(4, (-3427383903804))], []),
  (180, ([rv_r 7, rv_full, rv_i 1 2147483647, rv_i 2 40, rv_i 0 199, (1, 1, 38, 46, [], []), rv_i (-10000000) 10000000, rv_i 0 0, (1, 1, (-2147483648), 2147483647, [], [])], [rv_i 0 0], []), [543], 7360250878555343285676, [(4, (-3427383903804))], []),
  (180, ([rv_r 7, rv_full, rv_i 1 2147483647, rv_i 2 40, rv_i 0 199, (1, 1, 48, 2147483647, [], []), rv_i (-10000000) 10000000, rv_i 0 0, (1, 1, (-2147483648), 2147483647, [], [])], [rv_i 0 0], []), [546], 7360250878555343285676, [(4, (-3427383903804))], []),
  (180, ([rv_r 7, rv_full, rv_i 1 2147483647, rv_i 2 40, rv_i 0 199, (1, 1, (-2147483648), 36, [], []), rv_i (-10000000) 10000000, rv_i 0 0, (1, 1, (-2147483648), 2147483647, [], [])], [rv_i 0 0], []), [548], 7360250878555343285676, [(4, (-3427383903804))], []),
  (180, ([rv_r 7, rv_full, rv_i 1 2147483647, rv_i 2 40, rv_i 0 199, (1, 1, (-2147483648), 2147483647, [], []), rv_i (-10000000) 10000000, (1, 1, (-2147483648), 2147483647, [], []), rv_full], [rv_i 0 0], []), [549], 7360250881982727189408, [(4, (-3427383903804))], []),
  (180, ([rv_r 7, rv_full, rv_i 1 2147483647, rv_i 2 40, rv_i 0 199, (1, 1, 38, 46, [], []), rv_i (-10000000) 10000000, rv_i 0 0, rv_i 0 0], [rv_i 1 1], []), [543], 7360250878555343285676, [(4, (-3427383903804))], []),
  (180, ([rv_r 7, rv_full, rv_i 1 2147483647, rv_i 2 40, rv_i 0 199, (1, 1, 48, 2147483647, [], []), rv_i (-10000000) 10000000, rv_i 0 0, rv_i 0 0], [rv_i 1 1], []), [546], 7360250878555343285676, [(4, (-3427383903804))], []),
  (180, ([rv_r 7, rv_full, rv_i 1 2147483647, rv_i 2 40, rv_i 0 199, (1, 1, (-2147483648), 36, [], []), rv_i (-10000000) 10000000, rv_i 0 0, rv_i 0 0], [rv_i 1 1], []), [548], 7360250878555343285676, [(4, (-3427383903804))], []),
  (180, ([rv_r 7, rv_full, rv_i 1 2147483647, rv_i 2 40, rv_i 0 199, (1, 1, (-2147483648), 2147483647, [], []), rv_i (-10000000) 10000000, (1, 1, (-2147483648), 2147483647, [], []), rv_full], [rv_i 1 1], []), [549], 7360250881982727189408, [(4, (-3427383903804))], []),
  (181, ([rv_r 7, rv_full, rv_i 1 2147483647, rv_i 2 40, rv_i 0 199, (1, 1, 37, 37, [], []), rv_i (-10000000) 10000000, (1, 1, (-2147483648), 2147483647, [], []), rv_full], [], []), [550], 7360250878555343285675, [(4, (-3427383903804))], []),
  (181, ([rv_r 7, rv_full, rv_i 1 2147483647, rv_i 2 40, rv_i 0 199, (1, 1, 38, 46, [], []), rv_i (-10000000) 10000000, rv_i 0 0, rv_full], [], []), [551], 7360250878555343285675, [(4, (-3427383903804))], [])]
def n_X1_reckon_0_34 : List rv_N := [
  (181, ([rv_r 7, rv_full, rv_i 1 2147483647, rv_i 2 40, rv_i 0 199, (1, 1, 42, 45, [], []), rv_i (-10000000) 10000000, (1, 1, (-2147483648), 2147483647, [], []), rv_full], [], []), [552], 7360250878555343285675, [(4, (-3427383903804))], []),
  (181, ([rv_r 7, rv_full, rv_i 1 2147483647, rv_i 2 40, rv_i 0 199, (1, 1, 47, 47, [], []), rv_i (-10000000) 10000000, (1, 1, (-2147483648), 2147483647, [], []), rv_full], [], []), [553], 7360250878555343285675, [(4, (-3427383903804))], []),
  (181, ([rv_r 7, rv_full, rv_i 1 2147483647, rv_i 2 40, rv_i 0 199, (1, 1, 48, 2147483647, [], []), rv_i (-10000000) 10000000, rv_i 0 0, rv_i 0 1], [], []), [554], 7360250878555343285675, [(4, (-3427383903804))], []),
  (181, ([rv_r 7, rv_full, rv_i 1 2147483647, rv_i 2 40, rv_i 0 199, (1, 1, 60, 62, [], []), rv_i (-10000000) 10000000, (1, 1, (-2147483648), 2147483647, [], []), rv_i 0 1], [], []), [555], 7360250878555343285675, [(4, (-3427383903804))], []),
  (181, ([rv_r 7, rv_full, rv_i 1 2147483647, rv_i 2 40, rv_i 0 199, (1, 1, (-2147483648), 36, [], []), rv_i (-10000000) 10000000, rv_i 0 0, rv_i 0 1], [], []), [556], 7360250878555343285675, [(4, (-3427383903804))], []),
  (181, ([rv_r 7, rv_full, rv_i 1 2147483647, rv_i 2 40, rv_i 0 199, (1, 1, (-2147483648), 2147483647, [], []), rv_i (-10000000) 10000000, (1, 1, (-2147483648), 2147483647, [], []), rv_i 0 1], [], []), [557], 7360250881982727189407, [(4, (-3427383903804))], []),
  (182, ([rv_r 7, rv_full, rv_i 1 2147483647, rv_i 1 39, rv_i 0 199, (1, 1, 37, 37, [], []), rv_i (-10000000) 10000000, (1, 1, (-2147483648), 2147483647, [], []), rv_full], [], []), [558], 7360250878555343285674, [(4, (-3427383903804))], []),
  (182, ([rv_r 7, rv_full, rv_i 1 2147483647, rv_i 1 39, rv_i 0 199, (1, 1, 38, 46, [], []), rv_i (-10000000) 10000000, rv_i 0 0, rv_full], [], []), [559], 7360250878555343285674, [(4, (-3427383903804))], []),
  (182, ([rv_r 7, rv_full, rv_i 1 2147483647, rv_i 1 39, rv_i 0 199, (1, 1, 42, 45, [], []), rv_i (-10000000) 10000000, (1, 1, (-2147483648), 2147483647, [], []), rv_full], [], []), [560], 7360250878555343285674, [(4, (-3427383903804))], []),
  (182, ([rv_r 7, rv_full, rv_i 1 2147483647, rv_i 1 39, rv_i 0 199, (1, 1, 47, 47, [], []), rv_i (-10000000) 10000000, (1, 1, (-2147483648), 2147483647, [], []), rv_full], [], []), [561], 7360250878555343285674, [(4, (-3427383903804))], []),
  (182, ([rv_r 7, rv_full, rv_i 1 2147483647, rv_i 1 39, rv_i 0 199, (1, 1, 48, 2147483647, [], []), rv_i (-10000000) 10000000, rv_i 0 0, rv_i 0 1], [], []), [562], 7360250878555343285674, [(4, (-3427383903804))], []),
  (182, ([rv_r 7, rv_full, rv_i 1 2147483647, rv_i 1 39, rv_i 0 199, (1, 1, 60, 62, [], []), rv_i (-10000000) 10000000, (1, 1, (-2147483648), 2147483647, [], []), rv_i 0 1], [], []), [563], 7360250878555343285674, [(4, (-3427383903804))], []),
  (182, ([rv_r 7, rv_full, rv_i 1 2147483647, rv_i 1 39, rv_i 0 199, (1, 1, (-2147483648), 36, [], []), rv_i (-10000000) 10000000, rv_i 0 0, rv_i 0 1], [], []), [564], 7360250878555343285674, [(4, (-3427383903804))], []),
  (182, ([rv_r 7, rv_full, rv_i 1 2147483647, rv_i 1 39, rv_i 0 199, (1, 1, (-2147483648), 2147483647, [], []), rv_i (-10000000) 10000000, (1, 1, (-2147483648), 2147483647, [], []), rv_i 0 1], [], []), [565], 7360250881982727189406, [(4, (-3427383903804))], []),
  (183, ([rv_r 7, rv_full, rv_i 1 2147483647, rv_i 1 39, rv_i 0 199, (1, 1, 37, 37, [], []), rv_i (-10000000) 10000000, (1, 1, (-2147483648), 2147483647, [], []), rv_full], [rv_r 7], []), [566], 7360250878555343285673, [(4, (-3427383903804))], []),
  (183, ([rv_r 7, rv_full, rv_i 1 2147483647, rv_i 1 39, rv_i 0 199, (1, 1, 38, 46, [], []), rv_i (-10000000) 10000000, rv_i 0 0, rv_full], [rv_r 7], []), [567], 7360250878555343285673, [(4, (-3427383903804))], [])]
def n_X1_reckon_0_35 : List rv_N := [
  (183, ([rv_r 7, rv_full, rv_i 1 2147483647, rv_i 1 39, rv_i 0 199, (1, 1, 42, 45, [], []), rv_i (-10000000) 10000000, (1, 1, (-2147483648), 2147483647, [], []), rv_full], [rv_r 7], []), [568], 7360250878555343285673, [(4, (-3427383903804))], []),
  (183, ([rv_r 7, rv_full, rv_i 1 2147483647, rv_i 1 39, rv_i 0 199, (1, 1, 47, 47, [], []), rv_i (-10000000) 10000000, (1, 1, (-2147483648), 2147483647, [], []), rv_full], [rv_r 7], []), [569], 7360250878555343285673, [(4, (-3427383903804))], []),
  (183, ([rv_r 7, rv_full, rv_i 1 2147483647, rv_i 1 39, rv_i 0 199, (1, 1, 48, 2147483647, [], []), rv_i (-10000000) 10000000, rv_i 0 0, rv_i 0 1], [rv_r 7], []), [570], 7360250878555343285673, [(4, (-3427383903804))], []),
  (183, ([rv_r 7, rv_full, rv_i 1 2147483647, rv_i 1 39, rv_i 0 199, (1, 1, 60, 62, [], []), rv_i (-10000000) 10000000, (1, 1, (-2147483648), 2147483647, [], []), rv_i 0 1], [rv_r 7], []), [571], 7360250878555343285673, [(4, (-3427383903804))], []),
  (183, ([rv_r 7, rv_full, rv_i 1 2147483647, rv_i 1 39, rv_i 0 199, (1, 1, (-2147483648), 36, [], []), rv_i (-10000000) 10000000, rv_i 0 0, rv_i 0 1], [rv_r 7], []), [572], 7360250878555343285673, [(4, (-3427383903804))], []),
  (183, ([rv_r 7, rv_full, rv_i 1 2147483647, rv_i 1 39, rv_i 0 199, (1, 1, (-2147483648), 2147483647, [], []), rv_i (-10000000) 10000000, (1, 1, (-2147483648), 2147483647, [], []), rv_i 0 1], [rv_r 7], []), [573], 7360250881982727189405, [(4, (-3427383903804))], []),
  (184, ([rv_r 7, rv_full, rv_i 1 2147483647, rv_i 1 39, rv_i 0 199, (1, 1, 37, 37, [], []), rv_i (-10000000) 10000000, (1, 1, (-2147483648), 2147483647, [], []), rv_full], [rv_r 15], []), [574], 7360250878555343285672, [(4, (-3427383903804))], []),
  (184, ([rv_r 7, rv_full, rv_i 1 2147483647, rv_i 1 39, rv_i 0 199, (1, 1, 38, 46, [], []), rv_i (-10000000) 10000000, rv_i 0 0, rv_full], [rv_r 15], []), [575], 7360250878555343285672, [(4, (-3427383903804))], []),
  (184, ([rv_r 7, rv_full, rv_i 1 2147483647, rv_i 1 39, rv_i 0 199, (1, 1, 42, 45, [], []), rv_i (-10000000) 10000000, (1, 1, (-2147483648), 2147483647, [], []), rv_full], [rv_r 15], []), [576], 7360250878555343285672, [(4, (-3427383903804))], []),
  (184, ([rv_r 7, rv_full, rv_i 1 2147483647, rv_i 1 39, rv_i 0 199, (1, 1, 47, 47, [], []), rv_i (-10000000) 10000000, (1, 1, (-2147483648), 2147483647, [], []), rv_full], [rv_r 15], []), [577], 7360250878555343285672, [(4, (-3427383903804))], []),
  (184, ([rv_r 7, rv_full, rv_i 1 2147483647, rv_i 1 39, rv_i 0 199, (1, 1, 48, 2147483647, [], []), rv_i (-10000000) 10000000, rv_i 0 0, rv_i 0 1], [rv_r 15], []), [578], 7360250878555343285672, [(4, (-3427383903804))], []),
  (184, ([rv_r 7, rv_full, rv_i 1 2147483647, rv_i 1 39, rv_i 0 199, (1, 1, 60, 62, [], []), rv_i (-10000000) 10000000, (1, 1, (-2147483648), 2147483647, [], []), rv_i 0 1], [rv_r 15], []), [579], 7360250878555343285672, [(4, (-3427383903804))], []),
  (184, ([rv_r 7, rv_full, rv_i 1 2147483647, rv_i 1 39, rv_i 0 199, (1, 1, (-2147483648), 36, [], []), rv_i (-10000000) 10000000, rv_i 0 0, rv_i 0 1], [rv_r 15], []), [580], 7360250878555343285672, [(4, (-3427383903804))], []),
  (184, ([rv_r 7, rv_full, rv_i 1 2147483647, rv_i 1 39, rv_i 0 199, (1, 1, (-2147483648), 2147483647, [], []), rv_i (-10000000) 10000000, (1, 1, (-2147483648), 2147483647, [], []), rv_i 0 1], [rv_r 15], []), [581], 7360250881982727189404, [(4, (-3427383903804))], []),
  (185, ([rv_r 7, rv_full, rv_i 1 2147483647, rv_i 1 39, rv_i 0 199, (1, 1, 37, 37, [], []), rv_i (-10000000) 10000000, (1, 1, (-2147483648), 2147483647, [], []), rv_full], [(1, 0, 1, 39, [(.inl 3, 0)], []), rv_r 15], []), [582], 7360250878555343285671, [(4, (-3427383903804))], []),
  (185, ([rv_r 7, rv_full, rv_i 1 2147483647, rv_i 1 39, rv_i 0 199, (1, 1, 38, 46, [], []), rv_i (-10000000) 10000000, rv_i 0 0, rv_full], [(1, 0, 1, 39, [(.inl 3, 0)], []), rv_r 15], []), [583], 7360250878555343285671, [(4, (-3427383903804))], [])]
def n_X1_reckon_0_36 : List rv_N := [
  (185, ([rv_r 7, rv_full, rv_i 1 2147483647, rv_i 1 39, rv_i 0 199, (1, 1, 42, 45, [], []), rv_i (-10000000) 10000000, (1, 1, (-2147483648), 2147483647, [], []), rv_full], [(1, 0, 1, 39, [(.inl 3, 0)], []), rv_r 15], []), [584], 7360250878555343285671, [(4, (-3427383903804))], []),
  (185, ([rv_r 7, rv_full, rv_i 1 2147483647, rv_i 1 39, rv_i 0 199, (1, 1, 47, 47, [], []), rv_i (-10000000) 10000000, (1, 1, (-2147483648), 2147483647, [], []), rv_full], [(1, 0, 1, 39, [(.inl 3, 0)], []), rv_r 15], []), [585], 7360250878555343285671, [(4, (-3427383903804))], []),
  (185, ([rv_r 7, rv_full, rv_i 1 2147483647, rv_i 1 39, rv_i 0 199, (1, 1, 48, 2147483647, [], []), rv_i (-10000000) 10000000, rv_i 0 0, rv_i 0 1], [(1, 0, 1, 39, [(.inl 3, 0)], []), rv_r 15], []), [586], 7360250878555343285671, [(4, (-3427383903804))], []),
  (185, ([rv_r 7, rv_full, rv_i 1 2147483647, rv_i 1 39, rv_i 0 199, (1, 1, 60, 62, [], []), rv_i (-10000000) 10000000, (1, 1, (-2147483648), 2147483647, [], []), rv_i 0 1], [(1, 0, 1, 39, [(.inl 3, 0)], []), rv_r 15], []), [587], 7360250878555343285671, [(4, (-3427383903804))], []),
  (185, ([rv_r 7, rv_full, rv_i 1 2147483647, rv_i 1 39, rv_i 0 199, (1, 1, (-2147483648), 36, [], []), rv_i (-10000000) 10000000, rv_i 0 0, rv_i 0 1], [(1, 0, 1, 39, [(.inl 3, 0)], []), rv_r 15], []), [588], 7360250878555343285671, [(4, (-3427383903804))], []),
  (185, ([rv_r 7, rv_full, rv_i 1 2147483647, rv_i 1 39, rv_i 0 199, (1, 1, (-2147483648), 2147483647, [], []), rv_i (-10000000) 10000000, (1, 1, (-2147483648), 2147483647, [], []), rv_i 0 1], [(1, 0, 1, 39, [(.inl 3, 0)], []), rv_r 15], []), [589], 7360250881982727189403, [(4, (-3427383903804))], []),
  (186, ([rv_r 7, rv_full, rv_i 1 2147483647, rv_i 1 39, rv_i 0 199, (1, 1, 37, 37, [], []), rv_i (-10000000) 10000000, (1, 1, (-2147483648), 2147483647, [], []), rv_full], [rv_i 1 1, (1, 0, 1, 39, [(.inl 3, 0)], []), rv_r 15], []), [590], 7360250878555343285670, [(4, (-3427383903804))], []),
  (186, ([rv_r 7, rv_full, rv_i 1 2147483647, rv_i 1 39, rv_i 0 199, (1, 1, 38, 46, [], []), rv_i (-10000000) 10000000, rv_i 0 0, rv_full], [rv_i 1 1, (1, 0, 1, 39, [(.inl 3, 0)], []), rv_r 15], []), [591], 7360250878555343285670, [(4, (-3427383903804))], []),
  (186, ([rv_r 7, rv_full, rv_i 1 2147483647, rv_i 1 39, rv_i 0 199, (1, 1, 42, 45, [], []), rv_i (-10000000) 10000000, (1, 1, (-2147483648), 2147483647, [], []), rv_full], [rv_i 1 1, (1, 0, 1, 39, [(.inl 3, 0)], []), rv_r 15], []), [592], 7360250878555343285670, [(4, (-3427383903804))], []),
  (186, ([rv_r 7, rv_full, rv_i 1 2147483647, rv_i 1 39, rv_i 0 199, (1, 1, 47, 47, [], []), rv_i (-10000000) 10000000, (1, 1, (-2147483648), 2147483647, [], []), rv_full], [rv_i 1 1, (1, 0, 1, 39, [(.inl 3, 0)], []), rv_r 15], []), [593], 7360250878555343285670, [(4, (-3427383903804))], []),
  (186, ([rv_r 7, rv_full, rv_i 1 2147483647, rv_i 1 39, rv_i 0 199, (1, 1, 48, 2147483647, [], []), rv_i (-10000000) 10000000, rv_i 0 0, rv_i 0 1], [rv_i 1 1, (1, 0, 1, 39, [(.inl 3, 0)], []), rv_r 15], []), [594], 7360250878555343285670, [(4, (-3427383903804))], []),
  (186, ([rv_r 7, rv_full, rv_i 1 2147483647, rv_i 1 39, rv_i 0 199, (1, 1, 60, 62, [], []), rv_i (-10000000) 10000000, (1, 1, (-2147483648), 2147483647, [], []), rv_i 0 1], [rv_i 1 1, (1, 0, 1, 39, [(.inl 3, 0)], []), rv_r 15], []), [595], 7360250878555343285670, [(4, (-3427383903804))], []),
  (186, ([rv_r 7, rv_full, rv_i 1 2147483647, rv_i 1 39, rv_i 0 199, (1, 1, (-2147483648), 36, [], []), rv_i (-10000000) 10000000, rv_i 0 0, rv_i 0 1], [rv_i 1 1, (1, 0, 1, 39, [(.inl 3, 0)], []), rv_r 15], []), [596], 7360250878555343285670, [(4, (-3427383903804))], []),
  (186, ([rv_r 7, rv_full, rv_i 1 2147483647, rv_i 1 39, rv_i 0 199, (1, 1, (-2147483648), 2147483647, [], []), rv_i (-10000000) 10000000, (1, 1, (-2147483648), 2147483647, [], []), rv_i 0 1], [rv_i 1 1, (1, 0, 1, 39, [(.inl 3, 0)], []), rv_r 15], []), [597], 7360250881982727189402, [(4, (-3427383903804))], []),
  (187, ([rv_r 7, rv_full, rv_i 1 2147483647, rv_i 1 39, rv_i 0 199, (1, 1, 37, 37, [], []), rv_i (-10000000) 10000000, (1, 1, (-2147483648), 2147483647, [], []), rv_full], [(1, 0, 0, 38, [(.inl 3, (-1))], []), rv_r 15], []), [598], 7360250878555343285669, [(4, (-3427383903804))], []),
  (187, ([rv_r 7, rv_full, rv_i 1 2147483647, rv_i 1 39, rv_i 0 199, (1, 1, 38, 46, [], []), rv_i (-10000000) 10000000, rv_i 0 0, rv_full], [(1, 0, 0, 38, [(.inl 3, (-1))], []), rv_r 15], []), [599], 7360250878555343285669, [(4, (-3427383903804))], [])]
def n_X1_reckon_0_37 : List rv_N := [
  (187, ([rv_r 7, rv_full, rv_i 1 2147483647, rv_i 1 39, rv_i 0 199, (1, 1, 42, 45, [], []), rv_i (-10000000) 10000000, (1, 1, (-2147483648), 2147483647, [], []), rv_full], [(1, 0, 0, 38, [(.inl 3, (-1))], []), rv_r 15], []), [600], 7360250878555343285669, [(4, (-3427383903804))], []),
  (187, ([rv_r 7, rv_full, rv_i 1 2147483647, rv_i 1 39, rv_i 0 199, (1, 1, 47, 47, [], []), rv_i (-10000000) 10000000, (1, 1, (-2147483648), 2147483647, [], []), rv_full], [(1, 0, 0, 38, [(.inl 3, (-1))], []), rv_r 15], []), [601], 7360250878555343285669, [(4, (-3427383903804))], []),
  (187, ([rv_r 7, rv_full, rv_i 1 2147483647, rv_i 1 39, rv_i 0 199, (1, 1, 48, 2147483647, [], []), rv_i (-10000000) 10000000, rv_i 0 0, rv_i 0 1], [(1, 0, 0, 38, [(.inl 3, (-1))], []), rv_r 15], []), [602], 7360250878555343285669, [(4, (-3427383903804))], []),
  (187, ([rv_r 7, rv_full, rv_i 1 2147483647, rv_i 1 39, rv_i 0 199, (1, 1, 60, 62, [], []), rv_i (-10000000) 10000000, (1, 1, (-2147483648), 2147483647, [], []), rv_i 0 1], [(1, 0, 0, 38, [(.inl 3, (-1))], []), rv_r 15], []), [603], 7360250878555343285669, [(4, (-3427383903804))], []),
  (187, ([rv_r 7, rv_full, rv_i 1 2147483647, rv_i 1 39, rv_i 0 199, (1, 1, (-2147483648), 36, [], []), rv_i (-10000000) 10000000, rv_i 0 0, rv_i 0 1], [(1, 0, 0, 38, [(.inl 3, (-1))], []), rv_r 15], []), [604], 7360250878555343285669, [(4, (-3427383903804))], []),
  (187, ([rv_r 7, rv_full, rv_i 1 2147483647, rv_i 1 39, rv_i 0 199, (1, 1, (-2147483648), 2147483647, [], []), rv_i (-10000000) 10000000, (1, 1, (-2147483648), 2147483647, [], []), rv_i 0 1], [(1, 0, 0, 38, [(.inl 3, (-1))], []), rv_r 15], []), [605], 7360250881982727189401, [(4, (-3427383903804))], []),
  (188, ([rv_r 7, rv_full, rv_i 1 2147483647, rv_i 1 39, rv_i 0 199, (1, 1, 37, 37, [], []), rv_i (-10000000) 10000000, (1, 1, (-2147483648), 2147483647, [], []), rv_full], [(1, 0, (-2147483648), 2147483647, [(.inl 8, 0)], []), (1, 0, 0, 38, [(.inl 3, (-1))], []), rv_r 15], []), [612], 7360250878555343285668, [(4, (-3427383903804))], []),
  (188, ([rv_r 7, rv_full, rv_i 1 2147483647, rv_i 1 39, rv_i 0 199, (1, 1, 38, 46, [], []), rv_i (-10000000) 10000000, rv_i 0 0, rv_full], [(1, 0, (-2147483648), 2147483647, [(.inl 8, 0)], []), (1, 0, 0, 38, [(.inl 3, (-1))], []), rv_r 15], []), [613], 7360250878555343285668, [(4, (-3427383903804))], []),
  (188, ([rv_r 7, rv_full, rv_i 1 2147483647, rv_i 1 39, rv_i 0 199, (1, 1, 42, 45, [], []), rv_i (-10000000) 10000000, (1, 1, (-2147483648), 2147483647, [], []), rv_full], [(1, 0, (-2147483648), 2147483647, [(.inl 8, 0)], []), (1, 0, 0, 38, [(.inl 3, (-1))], []), rv_r 15], []), [614], 7360250878555343285668, [(4, (-3427383903804))], []),
  (188, ([rv_r 7, rv_full, rv_i 1 2147483647, rv_i 1 39, rv_i 0 199, (1, 1, 47, 47, [], []), rv_i (-10000000) 10000000, (1, 1, (-2147483648), 2147483647, [], []), rv_full], [(1, 0, (-2147483648), 2147483647, [(.inl 8, 0)], []), (1, 0, 0, 38, [(.inl 3, (-1))], []), rv_r 15], []), [615], 7360250878555343285668, [(4, (-3427383903804))], []),
  (188, ([rv_r 7, rv_full, rv_i 1 2147483647, rv_i 1 39, rv_i 0 199, (1, 1, 48, 2147483647, [], []), rv_i (-10000000) 10000000, rv_i 0 0, rv_i 0 1], [(1, 0, 0, 1, [(.inl 8, 0)], []), (1, 0, 0, 38, [(.inl 3, (-1))], []), rv_r 15], []), [616], 7360250878555343285668, [(4, (-3427383903804))], []),
  (188, ([rv_r 7, rv_full, rv_i 1 2147483647, rv_i 1 39, rv_i 0 199, (1, 1, 60, 62, [], []), rv_i (-10000000) 10000000, (1, 1, (-2147483648), 2147483647, [], []), rv_i 0 1], [(1, 0, 0, 1, [(.inl 8, 0)], []), (1, 0, 0, 38, [(.inl 3, (-1))], []), rv_r 15], []), [617], 7360250878555343285668, [(4, (-3427383903804))], []),
  (188, ([rv_r 7, rv_full, rv_i 1 2147483647, rv_i 1 39, rv_i 0 199, (1, 1, (-2147483648), 36, [], []), rv_i (-10000000) 10000000, rv_i 0 0, rv_i 0 1], [(1, 0, 0, 1, [(.inl 8, 0)], []), (1, 0, 0, 38, [(.inl 3, (-1))], []), rv_r 15], []), [618], 7360250878555343285668, [(4, (-3427383903804))], []),
  (188, ([rv_r 7, rv_full, rv_i 1 2147483647, rv_i 1 39, rv_i 0 199, (1, 1, (-2147483648), 2147483647, [], []), rv_i (-10000000) 10000000, (1, 1, (-2147483648), 2147483647, [], []), rv_i 0 1], [(1, 0, 0, 1, [(.inl 8, 0)], []), (1, 0, 0, 38, [(.inl 3, (-1))], []), rv_r 15], []), [619], 7360250881982727189400, [(4, (-3427383903804))], []),
  (189, ([rv_r 7, rv_full, rv_i 2 2147483647, rv_i 1 40, rv_i 1 199, rv_i 0 0, rv_i (-10000000) 10000000, rv_i 0 0, rv_full], [], []), [620], 7360250878555343285667, [(4, (-3427383903804))], []),
  (189, ([rv_r 7, rv_full, rv_i 1 2147483647, rv_i 1 40, rv_i 0 199, rv_i 0 0, rv_i (-10000000) 10000000, rv_u, rv_u], [], []), [621], 7360250878555343285667, [(4, (-3427383903804))], [])]
def n_X1_reckon_0_38 : List rv_N := [
  (189, ([rv_r 7, rv_full, rv_i 2 2147483647, rv_i 1 40, rv_i 1 199, (1, 1, 1, 1, [], []), rv_i 0 12, rv_i 0 0, rv_full], [], []), [622], 7360250878555343285667, [(4, (-3427383903804))], []),
  (189, ([rv_r 7, rv_full, rv_i 1 2147483647, rv_i 1 40, rv_i 0 199, (1, 1, 1, 1, [], []), rv_i 0 12, rv_u, rv_u], [], []), [623], 7360250878555343285667, [(4, (-3427383903804))], []),
  (189, ([rv_r 7, rv_full, rv_i 1 2147483647, rv_i 0 40, rv_i 0 10000000, (1, 1, 2, 3, [], []), rv_i (-10000000) 10000000, rv_i 0 0, rv_i 0 1], [], []), [624], 7360250878555343285667, [(4, (-3427383903804))], []),
  (189, ([rv_r 7, rv_full, rv_i 1 2147483647, rv_i 0 40, rv_i 0 10000000, (1, 1, 2, 4, [], []), rv_i (-10000000) 10000000, rv_full, rv_u], [], []), [625], 7360250878555343285667, [(4, (-3427383903804))], []),
  (189, ([rv_r 7, rv_full, rv_i 1 2147483647, rv_i 1 39, rv_i 0 199, (1, 1, 37, 37, [], []), rv_i (-10000000) 10000000, (1, 1, (-2147483648), 2147483647, [], []), rv_full], [], []), [626], 7360250878555343285667, [(4, (-3427383903804))], []),
  (189, ([rv_r 7, rv_full, rv_i 1 2147483647, rv_i 1 39, rv_i 0 199, (1, 1, 38, 46, [], []), rv_i (-10000000) 10000000, rv_i 0 0, rv_full], [], []), [627], 7360250878555343285667, [(4, (-3427383903804))], []),
  (189, ([rv_r 7, rv_full, rv_i 1 2147483647, rv_i 1 39, rv_i 0 199, (1, 1, 42, 45, [], []), rv_i (-10000000) 10000000, (1, 1, (-2147483648), 2147483647, [], []), rv_full], [], []), [628], 7360250878555343285667, [(4, (-3427383903804))], []),
  (189, ([rv_r 7, rv_full, rv_i 1 2147483647, rv_i 1 39, rv_i 0 199, (1, 1, 47, 47, [], []), rv_i (-10000000) 10000000, (1, 1, (-2147483648), 2147483647, [], []), rv_full], [], []), [629], 7360250878555343285667, [(4, (-3427383903804))], []),
  (189, ([rv_r 7, rv_full, rv_i 1 2147483647, rv_i 1 39, rv_i 0 199, (1, 1, 48, 2147483647, [], []), rv_i (-10000000) 10000000, rv_i 0 0, rv_i 0 1], [], []), [630], 7360250878555343285667, [(4, (-3427383903804))], []),
  (189, ([rv_r 7, rv_full, rv_i 1 2147483647, rv_i 1 39, rv_i 0 199, (1, 1, 60, 62, [], []), rv_i (-10000000) 10000000, (1, 1, (-2147483648), 2147483647, [], []), rv_i 0 1], [], []), [631], 7360250878555343285667, [(4, (-3427383903804))], []),
  (189, ([rv_r 7, rv_full, rv_i 1 2147483647, rv_i 1 39, rv_i 0 199, (1, 1, (-2147483648), 36, [], []), rv_i (-10000000) 10000000, rv_i 0 0, rv_i 0 1], [], []), [632], 7360250878555343285667, [(4, (-3427383903804))], []),
  (189, ([rv_r 7, rv_full, rv_i 1 2147483647, rv_i 1 39, rv_i 0 199, (1, 1, (-2147483648), 2147483647, [], []), rv_i (-10000000) 10000000, (1, 1, (-2147483648), 2147483647, [], []), rv_i 0 1], [], []), [633], 7360250881982727189399, [(4, (-3427383903804))], []),
  (190, ([rv_r 7, rv_full, rv_i 2 2147483647, rv_i 1 40, rv_i 2 200, rv_i 0 0, rv_i (-10000000) 10000000, rv_i 0 0, rv_full], [], []), [4], 7360250881982727189470, [(4, (-3427383903804))], []),
  (190, ([rv_r 7, rv_full, rv_i 1 2147483647, rv_i 1 40, rv_i 1 200, rv_i 0 0, rv_i (-10000000) 10000000, rv_u, rv_u], [], []), [5], 7360250881982727189470, [(4, (-3427383903804))], []),
  (190, ([rv_r 7, rv_full, rv_i 2 2147483647, rv_i 1 40, rv_i 2 200, (1, 1, 1, 1, [], []), rv_i 0 12, rv_i 0 0, rv_full], [], []), [6], 7360250881982727189470, [(4, (-3427383903804))], []),
  (190, ([rv_r 7, rv_full, rv_i 1 2147483647, rv_i 1 40, rv_i 1 200, (1, 1, 1, 1, [], []), rv_i 0 12, rv_u, rv_u], [], []), [7], 7360250881982727189470, [(4, (-3427383903804))], [])]
def n_X1_reckon_0_39 : List rv_N := [
  (190, ([rv_r 7, rv_full, rv_i 1 2147483647, rv_i 0 40, rv_i 1 10000001, (1, 1, 2, 3, [], []), rv_i (-10000000) 10000000, rv_i 0 0, rv_i 0 1], [], []), [8], 7360250881982727189470, [(4, (-3427383903804))], []),
  (190, ([rv_r 7, rv_full, rv_i 1 2147483647, rv_i 0 40, rv_i 1 10000001, (1, 1, 2, 4, [], []), rv_i (-10000000) 10000000, rv_full, rv_u], [], []), [9], 7360250881982727189470, [(4, (-3427383903804))], []),
  (190, ([rv_r 7, rv_full, rv_i 1 2147483647, rv_i 1 39, rv_i 1 200, (1, 1, 37, 37, [], []), rv_i (-10000000) 10000000, (1, 1, (-2147483648), 2147483647, [], []), rv_full], [], []), [10], 7360250881982727189470, [(4, (-3427383903804))], []),
  (190, ([rv_r 7, rv_full, rv_i 1 2147483647, rv_i 1 39, rv_i 1 200, (1, 1, 38, 46, [], []), rv_i (-10000000) 10000000, rv_i 0 0, rv_full], [], []), [11], 7360250881982727189470, [(4, (-3427383903804))], []),
  (190, ([rv_r 7, rv_full, rv_i 1 2147483647, rv_i 1 39, rv_i 1 200, (1, 1, 42, 45, [], []), rv_i (-10000000) 10000000, (1, 1, (-2147483648), 2147483647, [], []), rv_full], [], []), [12], 7360250881982727189470, [(4, (-3427383903804))], []),
  (190, ([rv_r 7, rv_full, rv_i 1 2147483647, rv_i 1 39, rv_i 1 200, (1, 1, 47, 47, [], []), rv_i (-10000000) 10000000, (1, 1, (-2147483648), 2147483647, [], []), rv_full], [], []), [13], 7360250881982727189470, [(4, (-3427383903804))], []),
  (190, ([rv_r 7, rv_full, rv_i 1 2147483647, rv_i 1 39, rv_i 1 200, (1, 1, 48, 2147483647, [], []), rv_i (-10000000) 10000000, rv_i 0 0, rv_i 0 1], [], []), [14], 7360250881982727189470, [(4, (-3427383903804))], []),
  (190, ([rv_r 7, rv_full, rv_i 1 2147483647, rv_i 1 39, rv_i 1 200, (1, 1, 60, 62, [], []), rv_i (-10000000) 10000000, (1, 1, (-2147483648), 2147483647, [], []), rv_i 0 1], [], []), [15], 7360250881982727189470, [(4, (-3427383903804))], []),
  (190, ([rv_r 7, rv_full, rv_i 1 2147483647, rv_i 1 39, rv_i 1 200, (1, 1, (-2147483648), 36, [], []), rv_i (-10000000) 10000000, rv_i 0 0, rv_i 0 1], [], []), [16], 7360250881982727189470, [(4, (-3427383903804))], []),
  (190, ([rv_r 7, rv_full, rv_i 1 2147483647, rv_i 1 39, rv_i 1 200, (1, 1, (-2147483648), 2147483647, [], []), rv_i (-10000000) 10000000, (1, 1, (-2147483648), 2147483647, [], []), rv_i 0 1], [], []), [17], 7360250885410111093202, [(4, (-3427383903804))], []),
  (191, ([rv_r 7, rv_full, rv_i 2 2147483647, rv_i 1 40, rv_i 2 200, rv_i 0 0, rv_i (-10000000) 10000000, rv_i 0 0, rv_full], [], []), [648], 8, [], []),
  (191, ([rv_r 7, rv_full, rv_i 1 2147483647, rv_i 1 40, rv_i 1 200, rv_i 0 0, rv_i (-10000000) 10000000, rv_u, rv_u], [], []), [649], 8, [], []),
  (191, ([rv_r 7, rv_full, rv_i 2 2147483647, rv_i 1 40, rv_i 2 200, (1, 1, 1, 1, [], []), rv_i 0 12, rv_i 0 0, rv_full], [], []), [650], 8, [], []),
  (191, ([rv_r 7, rv_full, rv_i 1 2147483647, rv_i 1 40, rv_i 1 200, (1, 1, 1, 1, [], []), rv_i 0 12, rv_u, rv_u], [], []), [651], 8, [], []),
  (191, ([rv_r 7, rv_full, rv_i 1 2147483647, rv_i 0 40, rv_i 1 10000001, (1, 1, 2, 3, [], []), rv_i (-10000000) 10000000, rv_i 0 0, rv_i 0 1], [], []), [652], 8, [], []),
  (191, ([rv_r 7, rv_full, rv_i 1 2147483647, rv_i 0 40, rv_i 1 10000001, (1, 1, 2, 4, [], []), rv_i (-10000000) 10000000, rv_full, rv_u], [], []), [653], 8, [], [])]
def n_X1_reckon_0_40 : List rv_N := [
  (191, ([rv_r 7, rv_full, rv_i 1 2147483647, rv_i 1 39, rv_i 1 200, (1, 1, 37, 37, [], []), rv_i (-10000000) 10000000, (1, 1, (-2147483648), 2147483647, [], []), rv_full], [], []), [654], 8, [], []),
  (191, ([rv_r 7, rv_full, rv_i 1 2147483647, rv_i 1 39, rv_i 1 200, (1, 1, 38, 46, [], []), rv_i (-10000000) 10000000, rv_i 0 0, rv_full], [], []), [655], 8, [], []),
  (191, ([rv_r 7, rv_full, rv_i 1 2147483647, rv_i 1 39, rv_i 1 200, (1, 1, 42, 45, [], []), rv_i (-10000000) 10000000, (1, 1, (-2147483648), 2147483647, [], []), rv_full], [], []), [656], 8, [], []),
  (191, ([rv_r 7, rv_full, rv_i 1 2147483647, rv_i 1 39, rv_i 1 200, (1, 1, 47, 47, [], []), rv_i (-10000000) 10000000, (1, 1, (-2147483648), 2147483647, [], []), rv_full], [], []), [657], 8, [], []),
  (191, ([rv_r 7, rv_full, rv_i 1 2147483647, rv_i 1 39, rv_i 1 200, (1, 1, 48, 2147483647, [], []), rv_i (-10000000) 10000000, rv_i 0 0, rv_i 0 1], [], []), [658], 8, [], []),
  (191, ([rv_r 7, rv_full, rv_i 1 2147483647, rv_i 1 39, rv_i 1 200, (1, 1, 60, 62, [], []), rv_i (-10000000) 10000000, (1, 1, (-2147483648), 2147483647, [], []), rv_i 0 1], [], []), [659], 8, [], []),
  (191, ([rv_r 7, rv_full, rv_i 1 2147483647, rv_i 1 39, rv_i 1 200, (1, 1, (-2147483648), 36, [], []), rv_i (-10000000) 10000000, rv_i 0 0, rv_i 0 1], [], []), [660], 8, [], []),
  (191, ([rv_r 7, rv_full, rv_full, rv_i 0 39, rv_full, rv_u, rv_u, rv_u, rv_u], [], []), [661], 8, [], []),
  (192, ([rv_r 7, rv_full, rv_i 2 2147483647, rv_i 1 40, rv_i 2 200, rv_i 0 0, rv_i (-10000000) 10000000, rv_i 0 0, rv_full], [(1, 0, 1, 40, [(.inl 3, 0)], [])], []), [662], 7, [], []),
  (192, ([rv_r 7, rv_full, rv_i 1 2147483647, rv_i 1 40, rv_i 1 200, rv_i 0 0, rv_i (-10000000) 10000000, rv_u, rv_u], [(1, 0, 1, 40, [(.inl 3, 0)], [])], []), [663], 7, [], []),
  (192, ([rv_r 7, rv_full, rv_i 2 2147483647, rv_i 1 40, rv_i 2 200, (1, 1, 1, 1, [], []), rv_i 0 12, rv_i 0 0, rv_full], [(1, 0, 1, 40, [(.inl 3, 0)], [])], []), [664], 7, [], []),
  (192, ([rv_r 7, rv_full, rv_i 1 2147483647, rv_i 1 40, rv_i 1 200, (1, 1, 1, 1, [], []), rv_i 0 12, rv_u, rv_u], [(1, 0, 1, 40, [(.inl 3, 0)], [])], []), [665], 7, [], []),
  (192, ([rv_r 7, rv_full, rv_i 1 2147483647, rv_i 0 40, rv_i 1 10000001, (1, 1, 2, 3, [], []), rv_i (-10000000) 10000000, rv_i 0 0, rv_i 0 1], [(1, 0, 0, 40, [(.inl 3, 0)], [])], []), [666], 7, [], []),
  (192, ([rv_r 7, rv_full, rv_i 1 2147483647, rv_i 0 40, rv_i 1 10000001, (1, 1, 2, 4, [], []), rv_i (-10000000) 10000000, rv_full, rv_u], [(1, 0, 0, 40, [(.inl 3, 0)], [])], []), [667], 7, [], []),
  (192, ([rv_r 7, rv_full, rv_i 1 2147483647, rv_i 1 39, rv_i 1 200, (1, 1, 37, 37, [], []), rv_i (-10000000) 10000000, (1, 1, (-2147483648), 2147483647, [], []), rv_full], [(1, 0, 1, 39, [(.inl 3, 0)], [])], []), [668], 7, [], []),
  (192, ([rv_r 7, rv_full, rv_i 1 2147483647, rv_i 1 39, rv_i 1 200, (1, 1, 38, 46, [], []), rv_i (-10000000) 10000000, rv_i 0 0, rv_full], [(1, 0, 1, 39, [(.inl 3, 0)], [])], []), [669], 7, [], [])]
def n_X1_reckon_0_41 : List rv_N := [
  (192, ([rv_r 7, rv_full, rv_i 1 2147483647, rv_i 1 39, rv_i 1 200, (1, 1, 42, 45, [], []), rv_i (-10000000) 10000000, (1, 1, (-2147483648), 2147483647, [], []), rv_full], [(1, 0, 1, 39, [(.inl 3, 0)], [])], []), [670], 7, [], []),
  (192, ([rv_r 7, rv_full, rv_i 1 2147483647, rv_i 1 39, rv_i 1 200, (1, 1, 47, 47, [], []), rv_i (-10000000) 10000000, (1, 1, (-2147483648), 2147483647, [], []), rv_full], [(1, 0, 1, 39, [(.inl 3, 0)], [])], []), [671], 7, [], []),
  (192, ([rv_r 7, rv_full, rv_i 1 2147483647, rv_i 1 39, rv_i 1 200, (1, 1, 48, 2147483647, [], []), rv_i (-10000000) 10000000, rv_i 0 0, rv_i 0 1], [(1, 0, 1, 39, [(.inl 3, 0)], [])], []), [672], 7, [], []),
  (192, ([rv_r 7, rv_full, rv_i 1 2147483647, rv_i 1 39, rv_i 1 200, (1, 1, 60, 62, [], []), rv_i (-10000000) 10000000, (1, 1, (-2147483648), 2147483647, [], []), rv_i 0 1], [(1, 0, 1, 39, [(.inl 3, 0)], [])], []), [673], 7, [], []),
  (192, ([rv_r 7, rv_full, rv_i 1 2147483647, rv_i 1 39, rv_i 1 200, (1, 1, (-2147483648), 36, [], []), rv_i (-10000000) 10000000, rv_i 0 0, rv_i 0 1], [(1, 0, 1, 39, [(.inl 3, 0)], [])], []), [674], 7, [], []),
  (192, ([rv_r 7, rv_full, rv_full, rv_i 0 39, rv_full, rv_u, rv_u, rv_u, rv_u], [(1, 0, 0, 39, [(.inl 3, 0)], [])], []), [675], 7, [], []),
  (193, ([rv_r 7, rv_full, rv_i 2 2147483647, rv_i 1 40, rv_i 2 200, rv_i 0 0, rv_i (-10000000) 10000000, rv_i 0 0, rv_full], [rv_i 1 1, (1, 0, 1, 40, [(.inl 3, 0)], [])], []), [676, 746], 6, [], []),
  (193, ([rv_r 7, rv_full, rv_i 1 2147483647, rv_i 1 40, rv_i 1 200, rv_i 0 0, rv_i (-10000000) 10000000, rv_u, rv_u], [rv_i 1 1, (1, 0, 1, 40, [(.inl 3, 0)], [])], []), [677, 747], 6, [], []),
  (193, ([rv_r 7, rv_full, rv_i 2 2147483647, rv_i 1 40, rv_i 2 200, (1, 1, 1, 1, [], []), rv_i 0 12, rv_i 0 0, rv_full], [rv_i 1 1, (1, 0, 1, 40, [(.inl 3, 0)], [])], []), [678, 748], 6, [], []),
  (193, ([rv_r 7, rv_full, rv_i 1 2147483647, rv_i 1 40, rv_i 1 200, (1, 1, 1, 1, [], []), rv_i 0 12, rv_u, rv_u], [rv_i 1 1, (1, 0, 1, 40, [(.inl 3, 0)], [])], []), [679, 749], 6, [], []),
  (193, ([rv_r 7, rv_full, rv_i 1 2147483647, rv_i 0 40, rv_i 1 10000001, (1, 1, 2, 3, [], []), rv_i (-10000000) 10000000, rv_i 0 0, rv_i 0 1], [rv_i 1 1, (1, 0, 0, 40, [(.inl 3, 0)], [])], []), [680, 750], 6, [], []),
  (193, ([rv_r 7, rv_full, rv_i 1 2147483647, rv_i 0 40, rv_i 1 10000001, (1, 1, 2, 4, [], []), rv_i (-10000000) 10000000, rv_full, rv_u], [rv_i 1 1, (1, 0, 0, 40, [(.inl 3, 0)], [])], []), [681, 751], 6, [], []),
  (193, ([rv_r 7, rv_full, rv_i 1 2147483647, rv_i 1 39, rv_i 1 200, (1, 1, 37, 37, [], []), rv_i (-10000000) 10000000, (1, 1, (-2147483648), 2147483647, [], []), rv_full], [rv_i 1 1, (1, 0, 1, 39, [(.inl 3, 0)], [])], []), [682, 752], 6, [], []),
  (193, ([rv_r 7, rv_full, rv_i 1 2147483647, rv_i 1 39, rv_i 1 200, (1, 1, 38, 46, [], []), rv_i (-10000000) 10000000, rv_i 0 0, rv_full], [rv_i 1 1, (1, 0, 1, 39, [(.inl 3, 0)], [])], []), [683, 753], 6, [], []),
  (193, ([rv_r 7, rv_full, rv_i 1 2147483647, rv_i 1 39, rv_i 1 200, (1, 1, 42, 45, [], []), rv_i (-10000000) 10000000, (1, 1, (-2147483648), 2147483647, [], []), rv_full], [rv_i 1 1, (1, 0, 1, 39, [(.inl 3, 0)], [])], []), [684, 754], 6, [], []),
  (193, ([rv_r 7, rv_full, rv_i 1 2147483647, rv_i 1 39, rv_i 1 200, (1, 1, 47, 47, [], []), rv_i (-10000000) 10000000, (1, 1, (-2147483648), 2147483647, [], []), rv_full], [rv_i 1 1, (1, 0, 1, 39, [(.inl 3, 0)], [])], []), [685, 755], 6, [], [])]
def n_X1_reckon_0_42 : List rv_N := [
  (193, ([rv_r 7, rv_full, rv_i 1 2147483647, rv_i 1 39, rv_i 1 200, (1, 1, 48, 2147483647, [], []), rv_i (-10000000) 10000000, rv_i 0 0, rv_i 0 1], [rv_i 1 1, (1, 0, 1, 39, [(.inl 3, 0)], [])], []), [686, 756], 6, [], []),
  (193, ([rv_r 7, rv_full, rv_i 1 2147483647, rv_i 1 39, rv_i 1 200, (1, 1, 60, 62, [], []), rv_i (-10000000) 10000000, (1, 1, (-2147483648), 2147483647, [], []), rv_i 0 1], [rv_i 1 1, (1, 0, 1, 39, [(.inl 3, 0)], [])], []), [687, 757], 6, [], []),
  (193, ([rv_r 7, rv_full, rv_i 1 2147483647, rv_i 1 39, rv_i 1 200, (1, 1, (-2147483648), 36, [], []), rv_i (-10000000) 10000000, rv_i 0 0, rv_i 0 1], [rv_i 1 1, (1, 0, 1, 39, [(.inl 3, 0)], [])], []), [688, 758], 6, [], []),
  (193, ([rv_r 7, rv_full, rv_full, rv_i 0 39, rv_full, rv_u, rv_u, rv_u, rv_u], [rv_i 1 1, (1, 0, 0, 39, [(.inl 3, 0)], [])], []), [689, 759], 6, [], []),
  (194, ([rv_r 7, rv_full, rv_i 2 2147483647, rv_i 1 1, rv_i 2 200, rv_i 0 0, rv_i (-10000000) 10000000, rv_i 0 0, rv_full], [], []), [690], 5, [], []),
  (194, ([rv_r 7, rv_full, rv_i 1 2147483647, rv_i 1 1, rv_i 1 200, rv_i 0 0, rv_i (-10000000) 10000000, rv_u, rv_u], [], []), [691], 5, [], []),
  (194, ([rv_r 7, rv_full, rv_i 2 2147483647, rv_i 1 1, rv_i 2 200, (1, 1, 1, 1, [], []), rv_i 0 12, rv_i 0 0, rv_full], [], []), [692], 5, [], []),
  (194, ([rv_r 7, rv_full, rv_i 1 2147483647, rv_i 1 1, rv_i 1 200, (1, 1, 1, 1, [], []), rv_i 0 12, rv_u, rv_u], [], []), [693], 5, [], []),
  (194, ([rv_r 7, rv_full, rv_i 1 2147483647, rv_i 1 1, rv_i 1 10000001, (1, 1, 2, 3, [], []), rv_i (-10000000) 10000000, rv_i 0 0, rv_i 0 1], [], []), [694], 5, [], []),
  (194, ([rv_r 7, rv_full, rv_i 1 2147483647, rv_i 1 1, rv_i 1 10000001, (1, 1, 2, 4, [], []), rv_i (-10000000) 10000000, rv_full, rv_u], [], []), [695], 5, [], []),
  (194, ([rv_r 7, rv_full, rv_i 1 2147483647, rv_i 1 1, rv_i 1 200, (1, 1, 37, 37, [], []), rv_i (-10000000) 10000000, (1, 1, (-2147483648), 2147483647, [], []), rv_full], [], []), [696], 5, [], []),
  (194, ([rv_r 7, rv_full, rv_i 1 2147483647, rv_i 1 1, rv_i 1 200, (1, 1, 38, 46, [], []), rv_i (-10000000) 10000000, rv_i 0 0, rv_full], [], []), [697], 5, [], []),
  (194, ([rv_r 7, rv_full, rv_i 1 2147483647, rv_i 1 1, rv_i 1 200, (1, 1, 42, 45, [], []), rv_i (-10000000) 10000000, (1, 1, (-2147483648), 2147483647, [], []), rv_full], [], []), [698], 5, [], []),
  (194, ([rv_r 7, rv_full, rv_i 1 2147483647, rv_i 1 1, rv_i 1 200, (1, 1, 47, 47, [], []), rv_i (-10000000) 10000000, (1, 1, (-2147483648), 2147483647, [], []), rv_full], [], []), [699], 5, [], []),
  (194, ([rv_r 7, rv_full, rv_i 1 2147483647, rv_i 1 1, rv_i 1 200, (1, 1, 48, 2147483647, [], []), rv_i (-10000000) 10000000, rv_i 0 0, rv_i 0 1], [], []), [700], 5, [], []),
  (194, ([rv_r 7, rv_full, rv_i 1 2147483647, rv_i 1 1, rv_i 1 200, (1, 1, 60, 62, [], []), rv_i (-10000000) 10000000, (1, 1, (-2147483648), 2147483647, [], []), rv_i 0 1], [], []), [701], 5, [], [])]
def n_X1_reckon_0_43 : List rv_N := [
  (194, ([rv_r 7, rv_full, rv_i 1 2147483647, rv_i 1 1, rv_i 1 200, (1, 1, (-2147483648), 36, [], []), rv_i (-10000000) 10000000, rv_i 0 0, rv_i 0 1], [], []), [702], 5, [], []),
  (194, ([rv_r 7, rv_full, rv_full, rv_i 1 1, rv_full, rv_u, rv_u, rv_u, rv_u], [], []), [703], 5, [], []),
  (195, ([rv_r 7, rv_full, rv_i 2 2147483647, rv_i 1 1, rv_i 2 200, rv_i 0 0, rv_i (-10000000) 10000000, rv_i 0 0, rv_full], [rv_r 7], []), [704], 4, [], []),
  (195, ([rv_r 7, rv_full, rv_i 1 2147483647, rv_i 1 1, rv_i 1 200, rv_i 0 0, rv_i (-10000000) 10000000, rv_u, rv_u], [rv_r 7], []), [705], 4, [], []),
  (195, ([rv_r 7, rv_full, rv_i 2 2147483647, rv_i 1 1, rv_i 2 200, (1, 1, 1, 1, [], []), rv_i 0 12, rv_i 0 0, rv_full], [rv_r 7], []), [706], 4, [], []),
  (195, ([rv_r 7, rv_full, rv_i 1 2147483647, rv_i 1 1, rv_i 1 200, (1, 1, 1, 1, [], []), rv_i 0 12, rv_u, rv_u], [rv_r 7], []), [707], 4, [], []),
  (195, ([rv_r 7, rv_full, rv_i 1 2147483647, rv_i 1 1, rv_i 1 10000001, (1, 1, 2, 3, [], []), rv_i (-10000000) 10000000, rv_i 0 0, rv_i 0 1], [rv_r 7], []), [708], 4, [], []),
  (195, ([rv_r 7, rv_full, rv_i 1 2147483647, rv_i 1 1, rv_i 1 10000001, (1, 1, 2, 4, [], []), rv_i (-10000000) 10000000, rv_full, rv_u], [rv_r 7], []), [709], 4, [], []),
  (195, ([rv_r 7, rv_full, rv_i 1 2147483647, rv_i 1 1, rv_i 1 200, (1, 1, 37, 37, [], []), rv_i (-10000000) 10000000, (1, 1, (-2147483648), 2147483647, [], []), rv_full], [rv_r 7], []), [710], 4, [], []),
  (195, ([rv_r 7, rv_full, rv_i 1 2147483647, rv_i 1 1, rv_i 1 200, (1, 1, 38, 46, [], []), rv_i (-10000000) 10000000, rv_i 0 0, rv_full], [rv_r 7], []), [711], 4, [], []),
  (195, ([rv_r 7, rv_full, rv_i 1 2147483647, rv_i 1 1, rv_i 1 200, (1, 1, 42, 45, [], []), rv_i (-10000000) 10000000, (1, 1, (-2147483648), 2147483647, [], []), rv_full], [rv_r 7], []), [712], 4, [], []),
  (195, ([rv_r 7, rv_full, rv_i 1 2147483647, rv_i 1 1, rv_i 1 200, (1, 1, 47, 47, [], []), rv_i (-10000000) 10000000, (1, 1, (-2147483648), 2147483647, [], []), rv_full], [rv_r 7], []), [713], 4, [], []),
  (195, ([rv_r 7, rv_full, rv_i 1 2147483647, rv_i 1 1, rv_i 1 200, (1, 1, 48, 2147483647, [], []), rv_i (-10000000) 10000000, rv_i 0 0, rv_i 0 1], [rv_r 7], []), [714], 4, [], []),
  (195, ([rv_r 7, rv_full, rv_i 1 2147483647, rv_i 1 1, rv_i 1 200, (1, 1, 60, 62, [], []), rv_i (-10000000) 10000000, (1, 1, (-2147483648), 2147483647, [], []), rv_i 0 1], [rv_r 7], []), [715], 4, [], []),
  (195, ([rv_r 7, rv_full, rv_i 1 2147483647, rv_i 1 1, rv_i 1 200, (1, 1, (-2147483648), 36, [], []), rv_i (-10000000) 10000000, rv_i 0 0, rv_i 0 1], [rv_r 7], []), [716], 4, [], []),
  (195, ([rv_r 7, rv_full, rv_full, rv_i 1 1, rv_full, rv_u, rv_u, rv_u, rv_u], [rv_r 7], []), [717], 4, [], [])]
def n_X1_reckon_0_44 : List rv_N := [
  (196, ([rv_r 7, rv_full, rv_i 2 2147483647, rv_i 1 1, rv_i 2 200, rv_i 0 0, rv_i (-10000000) 10000000, rv_i 0 0, rv_full], [rv_r 15], []), [718], 3, [], []),
  (196, ([rv_r 7, rv_full, rv_i 1 2147483647, rv_i 1 1, rv_i 1 200, rv_i 0 0, rv_i (-10000000) 10000000, rv_u, rv_u], [rv_r 15], []), [719], 3, [], []),
  (196, ([rv_r 7, rv_full, rv_i 2 2147483647, rv_i 1 1, rv_i 2 200, (1, 1, 1, 1, [], []), rv_i 0 12, rv_i 0 0, rv_full], [rv_r 15], []), [720], 3, [], []),
  (196, ([rv_r 7, rv_full, rv_i 1 2147483647, rv_i 1 1, rv_i 1 200, (1, 1, 1, 1, [], []), rv_i 0 12, rv_u, rv_u], [rv_r 15], []), [721], 3, [], []),
  (196, ([rv_r 7, rv_full, rv_i 1 2147483647, rv_i 1 1, rv_i 1 10000001, (1, 1, 2, 3, [], []), rv_i (-10000000) 10000000, rv_i 0 0, rv_i 0 1], [rv_r 15], []), [722], 3, [], []),
  (196, ([rv_r 7, rv_full, rv_i 1 2147483647, rv_i 1 1, rv_i 1 10000001, (1, 1, 2, 4, [], []), rv_i (-10000000) 10000000, rv_full, rv_u], [rv_r 15], []), [723], 3, [], []),
  (196, ([rv_r 7, rv_full, rv_i 1 2147483647, rv_i 1 1, rv_i 1 200, (1, 1, 37, 37, [], []), rv_i (-10000000) 10000000, (1, 1, (-2147483648), 2147483647, [], []), rv_full], [rv_r 15], []), [724], 3, [], []),
  (196, ([rv_r 7, rv_full, rv_i 1 2147483647, rv_i 1 1, rv_i 1 200, (1, 1, 38, 46, [], []), rv_i (-10000000) 10000000, rv_i 0 0, rv_full], [rv_r 15], []), [725], 3, [], []),
  (196, ([rv_r 7, rv_full, rv_i 1 2147483647, rv_i 1 1, rv_i 1 200, (1, 1, 42, 45, [], []), rv_i (-10000000) 10000000, (1, 1, (-2147483648), 2147483647, [], []), rv_full], [rv_r 15], []), [726], 3, [], []),
  (196, ([rv_r 7, rv_full, rv_i 1 2147483647, rv_i 1 1, rv_i 1 200, (1, 1, 47, 47, [], []), rv_i (-10000000) 10000000, (1, 1, (-2147483648), 2147483647, [], []), rv_full], [rv_r 15], []), [727], 3, [], []),
  (196, ([rv_r 7, rv_full, rv_i 1 2147483647, rv_i 1 1, rv_i 1 200, (1, 1, 48, 2147483647, [], []), rv_i (-10000000) 10000000, rv_i 0 0, rv_i 0 1], [rv_r 15], []), [728], 3, [], []),
  (196, ([rv_r 7, rv_full, rv_i 1 2147483647, rv_i 1 1, rv_i 1 200, (1, 1, 60, 62, [], []), rv_i (-10000000) 10000000, (1, 1, (-2147483648), 2147483647, [], []), rv_i 0 1], [rv_r 15], []), [729], 3, [], []),
  (196, ([rv_r 7, rv_full, rv_i 1 2147483647, rv_i 1 1, rv_i 1 200, (1, 1, (-2147483648), 36, [], []), rv_i (-10000000) 10000000, rv_i 0 0, rv_i 0 1], [rv_r 15], []), [730], 3, [], []),
  (196, ([rv_r 7, rv_full, rv_full, rv_i 1 1, rv_full, rv_u, rv_u, rv_u, rv_u], [rv_r 15], []), [731], 3, [], []),
  (197, ([rv_r 7, rv_full, rv_i 2 2147483647, rv_i 1 1, rv_i 2 200, rv_i 0 0, rv_i (-10000000) 10000000, rv_i 0 0, rv_full], [rv_i 0 0, rv_r 15], []), [732], 2, [], []),
  (197, ([rv_r 7, rv_full, rv_i 1 2147483647, rv_i 1 1, rv_i 1 200, rv_i 0 0, rv_i (-10000000) 10000000, rv_u, rv_u], [rv_i 0 0, rv_r 15], []), [733], 2, [], [])]
def n_X1_reckon_0_45 : List rv_N := [
  (197, ([rv_r 7, rv_full, rv_i 2 2147483647, rv_i 1 1, rv_i 2 200, (1, 1, 1, 1, [], []), rv_i 0 12, rv_i 0 0, rv_full], [rv_i 0 0, rv_r 15], []), [734], 2, [], []),
  (197, ([rv_r 7, rv_full, rv_i 1 2147483647, rv_i 1 1, rv_i 1 200, (1, 1, 1, 1, [], []), rv_i 0 12, rv_u, rv_u], [rv_i 0 0, rv_r 15], []), [735], 2, [], []),
  (197, ([rv_r 7, rv_full, rv_i 1 2147483647, rv_i 1 1, rv_i 1 10000001, (1, 1, 2, 3, [], []), rv_i (-10000000) 10000000, rv_i 0 0, rv_i 0 1], [rv_i 0 0, rv_r 15], []), [736], 2, [], []),
  (197, ([rv_r 7, rv_full, rv_i 1 2147483647, rv_i 1 1, rv_i 1 10000001, (1, 1, 2, 4, [], []), rv_i (-10000000) 10000000, rv_full, rv_u], [rv_i 0 0, rv_r 15], []), [737], 2, [], []),
  (197, ([rv_r 7, rv_full, rv_i 1 2147483647, rv_i 1 1, rv_i 1 200, (1, 1, 37, 37, [], []), rv_i (-10000000) 10000000, (1, 1, (-2147483648), 2147483647, [], []), rv_full], [rv_i 0 0, rv_r 15], []), [738], 2, [], []),
  (197, ([rv_r 7, rv_full, rv_i 1 2147483647, rv_i 1 1, rv_i 1 200, (1, 1, 38, 46, [], []), rv_i (-10000000) 10000000, rv_i 0 0, rv_full], [rv_i 0 0, rv_r 15], []), [739], 2, [], []),
  (197, ([rv_r 7, rv_full, rv_i 1 2147483647, rv_i 1 1, rv_i 1 200, (1, 1, 42, 45, [], []), rv_i (-10000000) 10000000, (1, 1, (-2147483648), 2147483647, [], []), rv_full], [rv_i 0 0, rv_r 15], []), [740], 2, [], []),
  (197, ([rv_r 7, rv_full, rv_i 1 2147483647, rv_i 1 1, rv_i 1 200, (1, 1, 47, 47, [], []), rv_i (-10000000) 10000000, (1, 1, (-2147483648), 2147483647, [], []), rv_full], [rv_i 0 0, rv_r 15], []), [741], 2, [], []),
  (197, ([rv_r 7, rv_full, rv_i 1 2147483647, rv_i 1 1, rv_i 1 200, (1, 1, 48, 2147483647, [], []), rv_i (-10000000) 10000000, rv_i 0 0, rv_i 0 1], [rv_i 0 0, rv_r 15], []), [742], 2, [], []),
  (197, ([rv_r 7, rv_full, rv_i 1 2147483647, rv_i 1 1, rv_i 1 200, (1, 1, 60, 62, [], []), rv_i (-10000000) 10000000, (1, 1, (-2147483648), 2147483647, [], []), rv_i 0 1], [rv_i 0 0, rv_r 15], []), [743], 2, [], []),
  (197, ([rv_r 7, rv_full, rv_i 1 2147483647, rv_i 1 1, rv_i 1 200, (1, 1, (-2147483648), 36, [], []), rv_i (-10000000) 10000000, rv_i 0 0, rv_i 0 1], [rv_i 0 0, rv_r 15], []), [744], 2, [], []),
  (197, ([rv_r 7, rv_full, rv_full, rv_i 1 1, rv_full, rv_u, rv_u, rv_u, rv_u], [rv_i 0 0, rv_r 15], []), [745], 2, [], []),
  (198, ([rv_r 7, rv_full, rv_i 2 2147483647, rv_i 1 1, rv_i 2 200, rv_i 0 0, rv_i (-10000000) 10000000, rv_i 0 0, rv_full], [(1, 0, (-2147483648), 2147483647, [(.inr (15, 0), 0)], [])], []), [774], 1, [], []),
  (198, ([rv_r 7, rv_full, rv_i 1 2147483647, rv_i 1 1, rv_i 1 200, rv_i 0 0, rv_i (-10000000) 10000000, rv_u, rv_u], [(1, 0, (-2147483648), 2147483647, [(.inr (15, 0), 0)], [])], []), [775], 1, [], []),
  (198, ([rv_r 7, rv_full, rv_i 2 2147483647, rv_i 1 1, rv_i 2 200, (1, 1, 1, 1, [], []), rv_i 0 12, rv_i 0 0, rv_full], [(1, 0, (-2147483648), 2147483647, [(.inr (15, 0), 0)], [])], []), [776], 1, [], []),
  (198, ([rv_r 7, rv_full, rv_i 1 2147483647, rv_i 1 1, rv_i 1 200, (1, 1, 1, 1, [], []), rv_i 0 12, rv_u, rv_u], [(1, 0, (-2147483648), 2147483647, [(.inr (15, 0), 0)], [])], []), [777], 1, [], [])]
def n_X1_reckon_0_46 : List rv_N := [
  (198, ([rv_r 7, rv_full, rv_i 1 2147483647, rv_i 1 1, rv_i 1 10000001, (1, 1, 2, 3, [], []), rv_i (-10000000) 10000000, rv_i 0 0, rv_i 0 1], [(1, 0, (-2147483648), 2147483647, [(.inr (15, 0), 0)], [])], []), [778], 1, [], []),
  (198, ([rv_r 7, rv_full, rv_i 1 2147483647, rv_i 1 1, rv_i 1 10000001, (1, 1, 2, 4, [], []), rv_i (-10000000) 10000000, rv_full, rv_u], [(1, 0, (-2147483648), 2147483647, [(.inr (15, 0), 0)], [])], []), [779], 1, [], []),
  (198, ([rv_r 7, rv_full, rv_i 1 2147483647, rv_i 1 1, rv_i 1 200, (1, 1, 37, 37, [], []), rv_i (-10000000) 10000000, (1, 1, (-2147483648), 2147483647, [], []), rv_full], [(1, 0, (-2147483648), 2147483647, [(.inr (15, 0), 0)], [])], []), [780], 1, [], []),
  (198, ([rv_r 7, rv_full, rv_i 1 2147483647, rv_i 1 1, rv_i 1 200, (1, 1, 38, 46, [], []), rv_i (-10000000) 10000000, rv_i 0 0, rv_full], [(1, 0, (-2147483648), 2147483647, [(.inr (15, 0), 0)], [])], []), [781], 1, [], []),
  (198, ([rv_r 7, rv_full, rv_i 1 2147483647, rv_i 1 1, rv_i 1 200, (1, 1, 42, 45, [], []), rv_i (-10000000) 10000000, (1, 1, (-2147483648), 2147483647, [], []), rv_full], [(1, 0, (-2147483648), 2147483647, [(.inr (15, 0), 0)], [])], []), [782], 1, [], []),
  (198, ([rv_r 7, rv_full, rv_i 1 2147483647, rv_i 1 1, rv_i 1 200, (1, 1, 47, 47, [], []), rv_i (-10000000) 10000000, (1, 1, (-2147483648), 2147483647, [], []), rv_full], [(1, 0, (-2147483648), 2147483647, [(.inr (15, 0), 0)], [])], []), [783], 1, [], []),
  (198, ([rv_r 7, rv_full, rv_i 1 2147483647, rv_i 1 1, rv_i 1 200, (1, 1, 48, 2147483647, [], []), rv_i (-10000000) 10000000, rv_i 0 0, rv_i 0 1], [(1, 0, (-2147483648), 2147483647, [(.inr (15, 0), 0)], [])], []), [784], 1, [], []),
  (198, ([rv_r 7, rv_full, rv_i 1 2147483647, rv_i 1 1, rv_i 1 200, (1, 1, 60, 62, [], []), rv_i (-10000000) 10000000, (1, 1, (-2147483648), 2147483647, [], []), rv_i 0 1], [(1, 0, (-2147483648), 2147483647, [(.inr (15, 0), 0)], [])], []), [785], 1, [], []),
  (198, ([rv_r 7, rv_full, rv_i 1 2147483647, rv_i 1 1, rv_i 1 200, (1, 1, (-2147483648), 36, [], []), rv_i (-10000000) 10000000, rv_i 0 0, rv_i 0 1], [(1, 0, (-2147483648), 2147483647, [(.inr (15, 0), 0)], [])], []), [786], 1, [], []),
  (198, ([rv_r 7, rv_full, rv_full, rv_i 1 1, rv_full, rv_u, rv_u, rv_u, rv_u], [(1, 0, (-2147483648), 2147483647, [(.inr (15, 0), 0)], [])], []), [787], 1, [], []),
  (199, ([rv_r 7, rv_full, rv_i 2 2147483647, rv_i 2 40, rv_i 2 200, rv_i 0 0, rv_i (-10000000) 10000000, rv_i 0 0, rv_full], [], []), [760], 1, [], []),
  (199, ([rv_r 7, rv_full, rv_i 1 2147483647, rv_i 2 40, rv_i 1 200, rv_i 0 0, rv_i (-10000000) 10000000, rv_u, rv_u], [], []), [761], 1, [], []),
  (199, ([rv_r 7, rv_full, rv_i 2 2147483647, rv_i 2 40, rv_i 2 200, (1, 1, 1, 1, [], []), rv_i 0 12, rv_i 0 0, rv_full], [], []), [762], 1, [], []),
  (199, ([rv_r 7, rv_full, rv_i 1 2147483647, rv_i 2 40, rv_i 1 200, (1, 1, 1, 1, [], []), rv_i 0 12, rv_u, rv_u], [], []), [763], 1, [], []),
  (199, ([rv_r 7, rv_full, rv_i 1 2147483647, rv_i 0 40, rv_i 1 10000001, (1, 1, 2, 3, [], []), rv_i (-10000000) 10000000, rv_i 0 0, rv_i 0 1], [], []), [764], 1, [], []),
  (199, ([rv_r 7, rv_full, rv_i 1 2147483647, rv_i 0 40, rv_i 1 10000001, (1, 1, 2, 4, [], []), rv_i (-10000000) 10000000, rv_full, rv_u], [], []), [765], 1, [], [])]
def n_X1_reckon_0_47 : List rv_N := [
  (199, ([rv_r 7, rv_full, rv_i 1 2147483647, rv_i 2 39, rv_i 1 200, (1, 1, 37, 37, [], []), rv_i (-10000000) 10000000, (1, 1, (-2147483648), 2147483647, [], []), rv_full], [], []), [766], 1, [], []),
  (199, ([rv_r 7, rv_full, rv_i 1 2147483647, rv_i 2 39, rv_i 1 200, (1, 1, 38, 46, [], []), rv_i (-10000000) 10000000, rv_i 0 0, rv_full], [], []), [767], 1, [], []),
  (199, ([rv_r 7, rv_full, rv_i 1 2147483647, rv_i 2 39, rv_i 1 200, (1, 1, 42, 45, [], []), rv_i (-10000000) 10000000, (1, 1, (-2147483648), 2147483647, [], []), rv_full], [], []), [768], 1, [], []),
  (199, ([rv_r 7, rv_full, rv_i 1 2147483647, rv_i 2 39, rv_i 1 200, (1, 1, 47, 47, [], []), rv_i (-10000000) 10000000, (1, 1, (-2147483648), 2147483647, [], []), rv_full], [], []), [769], 1, [], []),
  (199, ([rv_r 7, rv_full, rv_i 1 2147483647, rv_i 2 39, rv_i 1 200, (1, 1, 48, 2147483647, [], []), rv_i (-10000000) 10000000, rv_i 0 0, rv_i 0 1], [], []), [770], 1, [], []),
  (199, ([rv_r 7, rv_full, rv_i 1 2147483647, rv_i 2 39, rv_i 1 200, (1, 1, 60, 62, [], []), rv_i (-10000000) 10000000, (1, 1, (-2147483648), 2147483647, [], []), rv_i 0 1], [], []), [771], 1, [], []),
  (199, ([rv_r 7, rv_full, rv_i 1 2147483647, rv_i 2 39, rv_i 1 200, (1, 1, (-2147483648), 36, [], []), rv_i (-10000000) 10000000, rv_i 0 0, rv_i 0 1], [], []), [772], 1, [], []),
  (199, ([rv_r 7, rv_full, rv_full, rv_i 0 39, rv_full, rv_u, rv_u, rv_u, rv_u], [], []), [773], 1, [], []),
  (200, ([rv_r 7, rv_full, rv_i 2 2147483647, rv_i 2 40, rv_i 2 200, rv_i 0 0, rv_i (-10000000) 10000000, rv_i 0 0, rv_full], [rv_i 0 0], []), [], 0, [], []),
  (200, ([rv_r 7, rv_full, rv_i 1 2147483647, rv_i 2 40, rv_i 1 200, rv_i 0 0, rv_i (-10000000) 10000000, rv_u, rv_u], [rv_i 0 0], []), [], 0, [], []),
  (200, ([rv_r 7, rv_full, rv_i 2 2147483647, rv_i 2 40, rv_i 2 200, (1, 1, 1, 1, [], []), rv_i 0 12, rv_i 0 0, rv_full], [rv_i 0 0], []), [], 0, [], []),
  (200, ([rv_r 7, rv_full, rv_i 1 2147483647, rv_i 2 40, rv_i 1 200, (1, 1, 1, 1, [], []), rv_i 0 12, rv_u, rv_u], [rv_i 0 0], []), [], 0, [], []),
  (200, ([rv_r 7, rv_full, rv_i 1 2147483647, rv_i 0 40, rv_i 1 10000001, (1, 1, 2, 3, [], []), rv_i (-10000000) 10000000, rv_i 0 0, rv_i 0 1], [rv_i 0 0], []), [], 0, [], []),
  (200, ([rv_r 7, rv_full, rv_i 1 2147483647, rv_i 0 40, rv_i 1 10000001, (1, 1, 2, 4, [], []), rv_i (-10000000) 10000000, rv_full, rv_u], [rv_i 0 0], []), [], 0, [], []),
  (200, ([rv_r 7, rv_full, rv_i 1 2147483647, rv_i 2 39, rv_i 1 200, (1, 1, 37, 37, [], []), rv_i (-10000000) 10000000, (1, 1, (-2147483648), 2147483647, [], []), rv_full], [rv_i 0 0], []), [], 0, [], []),
  (200, ([rv_r 7, rv_full, rv_i 1 2147483647, rv_i 2 39, rv_i 1 200, (1, 1, 38, 46, [], []), rv_i (-10000000) 10000000, rv_i 0 0, rv_full], [rv_i 0 0], []), [], 0, [], [])]
def n_X1_reckon_0_48 : List rv_N := [
  (200, ([rv_r 7, rv_full, rv_i 1 2147483647, rv_i 2 39, rv_i 1 200, (1, 1, 42, 45, [], []), rv_i (-10000000) 10000000, (1, 1, (-2147483648), 2147483647, [], []), rv_full], [rv_i 0 0], []), [], 0, [], []),
  (200, ([rv_r 7, rv_full, rv_i 1 2147483647, rv_i 2 39, rv_i 1 200, (1, 1, 47, 47, [], []), rv_i (-10000000) 10000000, (1, 1, (-2147483648), 2147483647, [], []), rv_full], [rv_i 0 0], []), [], 0, [], []),
  (200, ([rv_r 7, rv_full, rv_i 1 2147483647, rv_i 2 39, rv_i 1 200, (1, 1, 48, 2147483647, [], []), rv_i (-10000000) 10000000, rv_i 0 0, rv_i 0 1], [rv_i 0 0], []), [], 0, [], []),
  (200, ([rv_r 7, rv_full, rv_i 1 2147483647, rv_i 2 39, rv_i 1 200, (1, 1, 60, 62, [], []), rv_i (-10000000) 10000000, (1, 1, (-2147483648), 2147483647, [], []), rv_i 0 1], [rv_i 0 0], []), [], 0, [], []),
  (200, ([rv_r 7, rv_full, rv_i 1 2147483647, rv_i 2 39, rv_i 1 200, (1, 1, (-2147483648), 36, [], []), rv_i (-10000000) 10000000, rv_i 0 0, rv_i 0 1], [rv_i 0 0], []), [], 0, [], []),
  (200, ([rv_r 7, rv_full, rv_full, rv_i 0 39, rv_full, rv_u, rv_u, rv_u, rv_u], [rv_i 0 0], []), [], 0, [], []),
  (200, ([rv_r 7, rv_full, rv_i 2 2147483647, rv_i 1 1, rv_i 2 200, rv_i 0 0, rv_i (-10000000) 10000000, rv_i 0 0, rv_full], [(1, 0, (-2147483648), 2147483647, [(.inr (15, 0), 0)], [])], []), [], 0, [], []),
  (200, ([rv_r 7, rv_full, rv_i 1 2147483647, rv_i 1 1, rv_i 1 200, rv_i 0 0, rv_i (-10000000) 10000000, rv_u, rv_u], [(1, 0, (-2147483648), 2147483647, [(.inr (15, 0), 0)], [])], []), [], 0, [], []),
  (200, ([rv_r 7, rv_full, rv_i 2 2147483647, rv_i 1 1, rv_i 2 200, (1, 1, 1, 1, [], []), rv_i 0 12, rv_i 0 0, rv_full], [(1, 0, (-2147483648), 2147483647, [(.inr (15, 0), 0)], [])], []), [], 0, [], []),
  (200, ([rv_r 7, rv_full, rv_i 1 2147483647, rv_i 1 1, rv_i 1 200, (1, 1, 1, 1, [], []), rv_i 0 12, rv_u, rv_u], [(1, 0, (-2147483648), 2147483647, [(.inr (15, 0), 0)], [])], []), [], 0, [], []),
  (200, ([rv_r 7, rv_full, rv_i 1 2147483647, rv_i 1 1, rv_i 1 10000001, (1, 1, 2, 3, [], []), rv_i (-10000000) 10000000, rv_i 0 0, rv_i 0 1], [(1, 0, (-2147483648), 2147483647, [(.inr (15, 0), 0)], [])], []), [], 0, [], []),
  (200, ([rv_r 7, rv_full, rv_i 1 2147483647, rv_i 1 1, rv_i 1 10000001, (1, 1, 2, 4, [], []), rv_i (-10000000) 10000000, rv_full, rv_u], [(1, 0, (-2147483648), 2147483647, [(.inr (15, 0), 0)], [])], []), [], 0, [], []),
  (200, ([rv_r 7, rv_full, rv_i 1 2147483647, rv_i 1 1, rv_i 1 200, (1, 1, 37, 37, [], []), rv_i (-10000000) 10000000, (1, 1, (-2147483648), 2147483647, [], []), rv_full], [(1, 0, (-2147483648), 2147483647, [(.inr (15, 0), 0)], [])], []), [], 0, [], []),
  (200, ([rv_r 7, rv_full, rv_i 1 2147483647, rv_i 1 1, rv_i 1 200, (1, 1, 38, 46, [], []), rv_i (-10000000) 10000000, rv_i 0 0, rv_full], [(1, 0, (-2147483648), 2147483647, [(.inr (15, 0), 0)], [])], []), [], 0, [], []),
  (200, ([rv_r 7, rv_full, rv_i 1 2147483647, rv_i 1 1, rv_i 1 200, (1, 1, 42, 45, [], []), rv_i (-10000000) 10000000, (1, 1, (-2147483648), 2147483647, [], []), rv_full], [(1, 0, (-2147483648), 2147483647, [(.inr (15, 0), 0)], [])], []), [], 0, [], []),
  (200, ([rv_r 7, rv_full, rv_i 1 2147483647, rv_i 1 1, rv_i 1 200, (1, 1, 47, 47, [], []), rv_i (-10000000) 10000000, (1, 1, (-2147483648), 2147483647, [], []), rv_full], [(1, 0, (-2147483648), 2147483647, [(.inr (15, 0), 0)], [])], []), [], 0, [], [])]
def n_X1_reckon_0_49 : List rv_N := [
  (200, ([rv_r 7, rv_full, rv_i 1 2147483647, rv_i 1 1, rv_i 1 200, (1, 1, 48, 2147483647, [], []), rv_i (-10000000) 10000000, rv_i 0 0, rv_i 0 1], [(1, 0, (-2147483648), 2147483647, [(.inr (15, 0), 0)], [])], []), [], 0, [], []),
  (200, ([rv_r 7, rv_full, rv_i 1 2147483647, rv_i 1 1, rv_i 1 200, (1, 1, 60, 62, [], []), rv_i (-10000000) 10000000, (1, 1, (-2147483648), 2147483647, [], []), rv_i 0 1], [(1, 0, (-2147483648), 2147483647, [(.inr (15, 0), 0)], [])], []), [], 0, [], []),
  (200, ([rv_r 7, rv_full, rv_i 1 2147483647, rv_i 1 1, rv_i 1 200, (1, 1, (-2147483648), 36, [], []), rv_i (-10000000) 10000000, rv_i 0 0, rv_i 0 1], [(1, 0, (-2147483648), 2147483647, [(.inr (15, 0), 0)], [])], []), [], 0, [], []),
  (200, ([rv_r 7, rv_full, rv_full, rv_i 1 1, rv_full, rv_u, rv_u, rv_u, rv_u], [(1, 0, (-2147483648), 2147483647, [(.inr (15, 0), 0)], [])], []), [], 0, [], [])]
def n_X1_reckon_0 : List rv_N := n_X1_reckon_0_0 ++ (n_X1_reckon_0_1 ++ (n_X1_reckon_0_2 ++ (n_X1_reckon_0_3 ++ (n_X1_reckon_0_4 ++ (n_X1_reckon_0_5 ++ (n_X1_reckon_0_6 ++ (n_X1_reckon_0_7 ++ (n_X1_reckon_0_8 ++ (n_X1_reckon_0_9 ++ (n_X1_reckon_0_10 ++ (n_X1_reckon_0_11 ++ (n_X1_reckon_0_12 ++ (n_X1_reckon_0_13 ++ (n_X1_reckon_0_14 ++ (n_X1_reckon_0_15 ++ (n_X1_reckon_0_16 ++ (n_X1_reckon_0_17 ++ (n_X1_reckon_0_18 ++ (n_X1_reckon_0_19 ++ (n_X1_reckon_0_20 ++ (n_X1_reckon_0_21 ++ (n_X1_reckon_0_22 ++ (n_X1_reckon_0_23 ++ (n_X1_reckon_0_24 ++ (n_X1_reckon_0_25 ++ (n_X1_reckon_0_26 ++ (n_X1_reckon_0_27 ++ (n_X1_reckon_0_28 ++ (n_X1_reckon_0_29 ++ (n_X1_reckon_0_30 ++ (n_X1_reckon_0_31 ++ (n_X1_reckon_0_32 ++ (n_X1_reckon_0_33 ++ (n_X1_reckon_0_34 ++ (n_X1_reckon_0_35 ++ (n_X1_reckon_0_36 ++ (n_X1_reckon_0_37 ++ (n_X1_reckon_0_38 ++ (n_X1_reckon_0_39 ++ (n_X1_reckon_0_40 ++ (n_X1_reckon_0_41 ++ (n_X1_reckon_0_42 ++ (n_X1_reckon_0_43 ++ (n_X1_reckon_0_44 ++ (n_X1_reckon_0_45 ++ (n_X1_reckon_0_46 ++ (n_X1_reckon_0_47 ++ (n_X1_reckon_0_48 ++ (n_X1_reckon_0_49)))))))))))))))))))))))))))))))))))))))))))))))))
noncomputable def gn_X1_reckon_0 : Nat → Option rv_N := rv_ap 16 (rv_at n_X1_reckon_0_0) (rv_ap 16 (rv_at n_X1_reckon_0_1) (rv_ap 16 (rv_at n_X1_reckon_0_2) (rv_ap 16 (rv_at n_X1_reckon_0_3) (rv_ap 16 (rv_at n_X1_reckon_0_4) (rv_ap 16 (rv_at n_X1_reckon_0_5) (rv_ap 16 (rv_at n_X1_reckon_0_6) (rv_ap 16 (rv_at n_X1_reckon_0_7) (rv_ap 16 (rv_at n_X1_reckon_0_8) (rv_ap 16 (rv_at n_X1_reckon_0_9) (rv_ap 16 (rv_at n_X1_reckon_0_10) (rv_ap 16 (rv_at n_X1_reckon_0_11) (rv_ap 16 (rv_at n_X1_reckon_0_12) (rv_ap 16 (rv_at n_X1_reckon_0_13) (rv_ap 16 (rv_at n_X1_reckon_0_14) (rv_ap 16 (rv_at n_X1_reckon_0_15) (rv_ap 16 (rv_at n_X1_reckon_0_16) (rv_ap 16 (rv_at n_X1_reckon_0_17) (rv_ap 16 (rv_at n_X1_reckon_0_18) (rv_ap 16 (rv_at n_X1_reckon_0_19) (rv_ap 16 (rv_at n_X1_reckon_0_20) (rv_ap 16 (rv_at n_X1_reckon_0_21) (rv_ap 16 (rv_at n_X1_reckon_0_22) (rv_ap 16 (rv_at n_X1_reckon_0_23) (rv_ap 16 (rv_at n_X1_reckon_0_24) (rv_ap 16 (rv_at n_X1_reckon_0_25) (rv_ap 16 (rv_at n_X1_reckon_0_26) (rv_ap 16 (rv_at n_X1_reckon_0_27) (rv_ap 16 (rv_at n_X1_reckon_0_28) (rv_ap 16 (rv_at n_X1_reckon_0_29) (rv_ap 16 (rv_at n_X1_reckon_0_30) (rv_ap 16 (rv_at n_X1_reckon_0_31) (rv_ap 16 (rv_at n_X1_reckon_0_32) (rv_ap 16 (rv_at n_X1_reckon_0_33) (rv_ap 16 (rv_at n_X1_reckon_0_34) (rv_ap 16 (rv_at n_X1_reckon_0_35) (rv_ap 16 (rv_at n_X1_reckon_0_36) (rv_ap 16 (rv_at n_X1_reckon_0_37) (rv_ap 16 (rv_at n_X1_reckon_0_38) (rv_ap 16 (rv_at n_X1_reckon_0_39) (rv_ap 16 (rv_at n_X1_reckon_0_40) (rv_ap 16 (rv_at n_X1_reckon_0_41) (rv_ap 16 (rv_at n_X1_reckon_0_42) (rv_ap 16 (rv_at n_X1_reckon_0_43) (rv_ap 16 (rv_at n_X1_reckon_0_44) (rv_ap 16 (rv_at n_X1_reckon_0_45) (rv_ap 16 (rv_at n_X1_reckon_0_46) (rv_ap 16 (rv_at n_X1_reckon_0_47) (rv_ap 16 (rv_at n_X1_reckon_0_48) (rv_at n_X1_reckon_0_49)))))))))))))))))))))))))))))))))))))))))))))))))
theorem hn_X1_reckon_0 : ∀ i : Nat, n_X1_reckon_0[i]? = gn_X1_reckon_0 i := rv_ap_eq (l := n_X1_reckon_0_0) (c := 16) (rv_ap_eq (l := n_X1_reckon_0_1) (c := 16) (rv_ap_eq (l := n_X1_reckon_0_2) (c := 16) (rv_ap_eq (l := n_X1_reckon_0_3) (c := 16) (rv_ap_eq (l := n_X1_reckon_0_4) (c := 16) (rv_ap_eq (l := n_X1_reckon_0_5) (c := 16) (rv_ap_eq (l := n_X1_reckon_0_6) (c := 16) (rv_ap_eq (l := n_X1_reckon_0_7) (c := 16) (rv_ap_eq (l := n_X1_reckon_0_8) (c := 16) (rv_ap_eq (l := n_X1_reckon_0_9) (c := 16) (rv_ap_eq (l := n_X1_reckon_0_10) (c := 16) (rv_ap_eq (l := n_X1_reckon_0_11) (c := 16) (rv_ap_eq (l := n_X1_reckon_0_12) (c := 16) (rv_ap_eq (l := n_X1_reckon_0_13) (c := 16) (rv_ap_eq (l := n_X1_reckon_0_14) (c := 16) (rv_ap_eq (l := n_X1_reckon_0_15) (c := 16) (rv_ap_eq (l := n_X1_reckon_0_16) (c := 16) (rv_ap_eq (l := n_X1_reckon_0_17) (c := 16) (rv_ap_eq (l := n_X1_reckon_0_18) (c := 16) (rv_ap_eq (l := n_X1_reckon_0_19) (c := 16) (rv_ap_eq (l := n_X1_reckon_0_20) (c := 16) (rv_ap_eq (l := n_X1_reckon_0_21) (c := 16) (rv_ap_eq (l := n_X1_reckon_0_22) (c := 16) (rv_ap_eq (l := n_X1_reckon_0_23) (c := 16) (rv_ap_eq (l := n_X1_reckon_0_24) (c := 16) (rv_ap_eq (l := n_X1_reckon_0_25) (c := 16) (rv_ap_eq (l := n_X1_reckon_0_26) (c := 16) (rv_ap_eq (l := n_X1_reckon_0_27) (c := 16) (rv_ap_eq (l := n_X1_reckon_0_28) (c := 16) (rv_ap_eq (l := n_X1_reckon_0_29) (c := 16) (rv_ap_eq (l := n_X1_reckon_0_30) (c := 16) (rv_ap_eq (l := n_X1_reckon_0_31) (c := 16) (rv_ap_eq (l := n_X1_reckon_0_32) (c := 16) (rv_ap_eq (l := n_X1_reckon_0_33) (c := 16) (rv_ap_eq (l := n_X1_reckon_0_34) (c := 16) (rv_ap_eq (l := n_X1_reckon_0_35) (c := 16) (rv_ap_eq (l := n_X1_reckon_0_36) (c := 16) (rv_ap_eq (l := n_X1_reckon_0_37) (c := 16) (rv_ap_eq (l := n_X1_reckon_0_38) (c := 16) (rv_ap_eq (l := n_X1_reckon_0_39) (c := 16) (rv_ap_eq (l := n_X1_reckon_0_40) (c := 16) (rv_ap_eq (l := n_X1_reckon_0_41) (c := 16) (rv_ap_eq (l := n_X1_reckon_0_42) (c := 16) (rv_ap_eq (l := n_X1_reckon_0_43) (c := 16) (rv_ap_eq (l := n_X1_reckon_0_44) (c := 16) (rv_ap_eq (l := n_X1_reckon_0_45) (c := 16) (rv_ap_eq (l := n_X1_reckon_0_46) (c := 16) (rv_ap_eq (l := n_X1_reckon_0_47) (c := 16) (rv_ap_eq (l := n_X1_reckon_0_48) (c := 16) (rv_at_eq n_X1_reckon_0_49) rfl) rfl) rfl) rfl) rfl) rfl) rfl) rfl) rfl) rfl) rfl) rfl) rfl) rfl) rfl) rfl) rfl) rfl) rfl) rfl) rfl) rfl) rfl) rfl) rfl) rfl) rfl) rfl) rfl) rfl) rfl) rfl) rfl) rfl) rfl) rfl) rfl) rfl) rfl) rfl) rfl) rfl) rfl) rfl) rfl) rfl) rfl) rfl) rfl
set_option maxRecDepth 100000 in
theorem a_X1_reckon_0 : rv_all (fm_tm, flX1, fm_wr, kcX1, klX1, K_X1_reckon_0.2.2.1, [], 9) ct_X1_reckon_0 cd_X1_reckon n_X1_reckon_0 K_X1_reckon_0 [370, 371] 0 n_X1_reckon_0 = true := rv_fast hn_X1_reckon_0 hc_X1_reckon (by decide +kernel)
theorem m_X1_reckon_0 {l : Launch} {D : va_G} {ad : Nat → Nat} {cy : Nat → ClassId} {Z : State → Heap → Prop} {Gp : fm_V → Prop} (hAd : fm_Ad fm_tm ad) (hZ : fm_Zk (fm_A fm_tm ad) Z) (hGd : fm_Gd Gp) : rv_Met l D fm_cl fm_tm ad cy fm_nt Z Gp yX1_reckon (.code yX1_reckon prog_3_method_9_code 9 (some .int) :: fm_Ts) { frames := 0, cells := 0, slots := 0, locals := 0 } K_X1_reckon_0 := rv_met hAd hZ (Or.inl (by decide +kernel)) evX1 dc_X1_reckon a_X1_reckon_0 ⟨rfl, rfl, rfl⟩ (by decide +kernel) (by decide +kernel) (by decide) (fm_gm hGd (by decide +kernel)) (Or.inl rfl) (fun p e s m args below meth c Q X Y => fun _ h => absurd h List.not_mem_nil) (fun p e s m args below meth c V0 avs hpre hr hlk X Y id hid n hn q hq V ls st hI hG ih => by
  rcases List.mem_cons.mp hid with rfl | hid
  · skip
    obtain rfl : _ = n := Option.some.inj ((show n_X1_reckon_0[370]? = some (103, ([rv_r 7, rv_full, rv_i 1 2147483647, rv_i 1 40, rv_i 0 199, (1, 1, 2, 3, [], []), rv_i (-10000000) 10000000, rv_i 0 0, (1, 1, 1, 1, [], [])], [], []), [372, 374], 7360250878555343285670, [(4, (-3427383903804))], []) from rfl).symm.trans hn)
    obtain rfl : _ = q := Option.some.inj ((show cd_X1_reckon[103]? = some (194, .iload 6, 2) from rfl).symm.trans hq)
    obtain rfl : st = [] := rv_sk_nil hG.2.1
    obtain ⟨x4, hl4, a4, b4, -⟩ := rv_lokI rfl (hG.1 4 _ rfl)
    obtain ⟨x6, hl6, a6, b6, -⟩ := rv_lokI rfl (hG.1 6 _ rfl)
    replace a4 : (0 : Int) ≤ x4.toInt := a4
    replace b4 : x4.toInt ≤ (199 : Int) := b4
    replace b6 : x6.toInt ≤ (10000000 : Int) := b6
    refine fm_iload X (dc_X1_reckon (194, .iload 6, 2) (List.mem_of_getElem? (i := 103) rfl)) hl6 ?_
    refine fm_iload X (dc_X1_reckon (196, .iload 4, 2) (List.mem_of_getElem? (i := 104) rfl)) hl4 ?_
    refine fz_icmp_le X 208 (dc_X1_reckon (198, .if_icmp .le 10, 3) (List.mem_of_getElem? (i := 105) rfl)) (by decide) (fun c1 => ?_) (fun c1 => ?_)
    · exact ih 374 (109, ([rv_r 7, rv_full, rv_i 1 2147483647, rv_i 1 40, rv_i 0 199, (1, 1, 2, 3, [], []), rv_i (-10000000) 10000000, rv_i 0 0, rv_i 0 1], [], []), [376], 7360250878555343285669, [(4, (-3427383903804))], []) (208, .iinc 3 (-1), 3) rfl rfl V ls [] hI (rv_le_ok hI.1 (by decide +kernel) hG) (by show (7360250878555343285669 + ((-3427383903804) * rv_lx ls 4 + 0) + 1).toNat < (7360250878555343285670 + ((-3427383903804) * rv_lx ls 4 + 0) + 1).toNat; rw [rv_lx_at hl4]; omega)
    · have hG2 := rv_G_set (k := 6) (a := (1, 0, 1, 10000000, [], [])) hG (by unfold rv_lok; rw [if_pos rfl]; exact ⟨x6, hl6, by show (1 : Int) ≤ _; omega, by show _ ≤ (10000000 : Int); omega, fun z => absurd (show (0 : Nat) = 1 from z) (by decide)⟩)
      refine fm_iload X (dc_X1_reckon (201, .iload 6, 2) (List.mem_of_getElem? (i := 106) rfl)) hl6 ?_
      refine fm_istore X (dc_X1_reckon (203, .istore 4, 2) (List.mem_of_getElem? (i := 107) rfl)) hI.2.2.1 hI.2.2.2.1 (by decide) (fun ls2 hst => ?_)
      have hG3 := rv_st_ok (a := (1, 0, 1, 10000000, [], [])) hst (rv_okB (by omega) (by omega)) (by decide) hG2
      exact ih 372 (108, ([rv_r 7, rv_full, rv_i 1 2147483647, rv_i 1 40, rv_i 1 10000000, (1, 1, 2, 3, [], []), rv_i 1 10000000, rv_i 0 0, (1, 1, 1, 1, [], [])], [], []), [376], 7360250878555343285669, [(4, (-3427383903804))], []) (205, .goto 6, 3) rfl rfl V ls2 [] ⟨hI.1, hI.2.1, hst.1.trans hI.2.2.1, hst.2.1, fun j hj => absurd hj List.not_mem_nil⟩ (rv_le_ok hI.1 (by decide +kernel) hG3) (by show (7360250878555343285669 + ((-3427383903804) * rv_lx ls2 4 + 0) + 1).toNat < (7360250878555343285670 + ((-3427383903804) * rv_lx ls 4 + 0) + 1).toNat; rw [rv_lx_at hl4, rv_lx_at hst.2.2.1]; omega)
  · obtain rfl := List.mem_singleton.mp hid
    obtain rfl : _ = n := Option.some.inj ((show n_X1_reckon_0[371]? = some (103, ([rv_r 7, rv_full, rv_i 1 2147483647, rv_i 1 40, rv_i 0 199, (1, 1, 2, 3, [], []), rv_i (-10000000) 10000000, (1, 1, (-2147483648), 2147483647, [], []), (1, 1, 1, 1, [], [])], [], []), [373, 375], 7360250878555343285670, [(4, (-3427383903804))], []) from rfl).symm.trans hn)
    obtain rfl : _ = q := Option.some.inj ((show cd_X1_reckon[103]? = some (194, .iload 6, 2) from rfl).symm.trans hq)
    obtain rfl : st = [] := rv_sk_nil hG.2.1
    obtain ⟨x4, hl4, a4, b4, -⟩ := rv_lokI rfl (hG.1 4 _ rfl)
    obtain ⟨x6, hl6, a6, b6, -⟩ := rv_lokI rfl (hG.1 6 _ rfl)
    replace a4 : (0 : Int) ≤ x4.toInt := a4
    replace b4 : x4.toInt ≤ (199 : Int) := b4
    replace b6 : x6.toInt ≤ (10000000 : Int) := b6
    refine fm_iload X (dc_X1_reckon (194, .iload 6, 2) (List.mem_of_getElem? (i := 103) rfl)) hl6 ?_
    refine fm_iload X (dc_X1_reckon (196, .iload 4, 2) (List.mem_of_getElem? (i := 104) rfl)) hl4 ?_
    refine fz_icmp_le X 208 (dc_X1_reckon (198, .if_icmp .le 10, 3) (List.mem_of_getElem? (i := 105) rfl)) (by decide) (fun c1 => ?_) (fun c1 => ?_)
    · exact ih 375 (109, ([rv_r 7, rv_full, rv_i 1 2147483647, rv_i 1 40, rv_i 0 199, (1, 1, 2, 3, [], []), rv_i (-10000000) 10000000, (1, 1, (-2147483648), 2147483647, [], []), rv_i 0 1], [], []), [377], 7360250878555343285669, [(4, (-3427383903804))], []) (208, .iinc 3 (-1), 3) rfl rfl V ls [] hI (rv_le_ok hI.1 (by decide +kernel) hG) (by show (7360250878555343285669 + ((-3427383903804) * rv_lx ls 4 + 0) + 1).toNat < (7360250878555343285670 + ((-3427383903804) * rv_lx ls 4 + 0) + 1).toNat; rw [rv_lx_at hl4]; omega)
    · have hG2 := rv_G_set (k := 6) (a := (1, 0, 1, 10000000, [], [])) hG (by unfold rv_lok; rw [if_pos rfl]; exact ⟨x6, hl6, by show (1 : Int) ≤ _; omega, by show _ ≤ (10000000 : Int); omega, fun z => absurd (show (0 : Nat) = 1 from z) (by decide)⟩)
      refine fm_iload X (dc_X1_reckon (201, .iload 6, 2) (List.mem_of_getElem? (i := 106) rfl)) hl6 ?_
      refine fm_istore X (dc_X1_reckon (203, .istore 4, 2) (List.mem_of_getElem? (i := 107) rfl)) hI.2.2.1 hI.2.2.2.1 (by decide) (fun ls2 hst => ?_)
      have hG3 := rv_st_ok (a := (1, 0, 1, 10000000, [], [])) hst (rv_okB (by omega) (by omega)) (by decide) hG2
      exact ih 373 (108, ([rv_r 7, rv_full, rv_i 1 2147483647, rv_i 1 40, rv_i 1 10000000, (1, 1, 2, 3, [], []), rv_i 1 10000000, (1, 1, (-2147483648), 2147483647, [], []), (1, 1, 1, 1, [], [])], [], []), [377], 7360250878555343285669, [(4, (-3427383903804))], []) (205, .goto 6, 3) rfl rfl V ls2 [] ⟨hI.1, hI.2.1, hst.1.trans hI.2.2.1, hst.2.1, fun j hj => absurd hj List.not_mem_nil⟩ (rv_le_ok hI.1 (by decide +kernel) hG3) (by show (7360250878555343285669 + ((-3427383903804) * rv_lx ls2 4 + 0) + 1).toNat < (7360250878555343285670 + ((-3427383903804) * rv_lx ls 4 + 0) + 1).toNat; rw [rv_lx_at hl4, rv_lx_at hst.2.2.1]; omega))
