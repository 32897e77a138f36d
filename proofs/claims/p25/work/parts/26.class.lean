def K_X0_takeMoving_2 : rv_K := ([rv_r 26, rv_r 41], [], [(26, 9), (26, 10), (26, 11), (26, 12), (26, 13), (27, 9999), (32, 9999), (37, 9999), (38, 9999)], [], [], [])
def ct_X0_takeMoving_2 : List (Nat × rv_K) := [(4, K_X2_takeMoving_2), (12, ([rv_r 42, rv_i 0 0, rv_r 27, rv_i 0 0, rv_i 20 20], [], [(27, 9999)], [], [], [])), (20, ([rv_r 47, rv_i 0 0, rv_r 32, rv_i 0 0, rv_i 6 6], [], [(32, 9999)], [], [], []))]
def n_X0_takeMoving_2_0 : List rv_N := [
  (0, ([rv_r 26, rv_r 41], [], []), [1], 41, [], []),
  (1, ([rv_r 26, rv_r 41], [rv_r 26], []), [2], 40, [], []),
  (2, ([rv_r 26, rv_r 41], [rv_r 36], []), [3], 39, [], []),
  (3, ([rv_r 26, rv_r 41], [rv_r 41, rv_r 36], []), [4], 38, [], []),
  (4, ([rv_r 26, rv_r 41], [rv_r 51, rv_r 36], []), [5], 37, [], [0]),
  (5, ([rv_r 26, rv_r 41], [], []), [6], 36, [], []),
  (6, ([rv_r 26, rv_r 41], [rv_r 41], []), [7], 35, [], []),
  (7, ([rv_r 26, rv_r 41], [rv_r 42], []), [8], 34, [], []),
  (8, ([rv_r 26, rv_r 41], [rv_i 0 0, rv_r 42], []), [9], 33, [], []),
  (9, ([rv_r 26, rv_r 41], [rv_r 26, rv_i 0 0, rv_r 42], []), [10], 32, [], []),
  (10, ([rv_r 26, rv_r 41], [rv_r 27, rv_i 0 0, rv_r 42], []), [11], 31, [], []),
  (11, ([rv_r 26, rv_r 41], [rv_i 0 0, rv_r 27, rv_i 0 0, rv_r 42], []), [12], 30, [], []),
  (12, ([rv_r 26, rv_r 41], [rv_i 20 20, rv_i 0 0, rv_r 27, rv_i 0 0, rv_r 42], []), [13], 29, [], [1]),
  (13, ([rv_r 26, rv_r 41], [], []), [14], 28, [], []),
  (14, ([rv_r 26, rv_r 41], [rv_r 41], []), [15], 27, [], []),
  (15, ([rv_r 26, rv_r 41], [rv_r 47], []), [16], 26, [], [])]
def n_X0_takeMoving_2_1 : List rv_N := [
  (16, ([rv_r 26, rv_r 41], [rv_i 0 0, rv_r 47], []), [17], 25, [], []),
  (17, ([rv_r 26, rv_r 41], [rv_r 26, rv_i 0 0, rv_r 47], []), [18], 24, [], []),
  (18, ([rv_r 26, rv_r 41], [rv_r 32, rv_i 0 0, rv_r 47], []), [19], 23, [], []),
  (19, ([rv_r 26, rv_r 41], [rv_i 0 0, rv_r 32, rv_i 0 0, rv_r 47], []), [20], 22, [], []),
  (20, ([rv_r 26, rv_r 41], [rv_i 6 6, rv_i 0 0, rv_r 32, rv_i 0 0, rv_r 47], []), [21], 21, [], [2]),
  (21, ([rv_r 26, rv_r 41], [], []), [22], 20, [], []),
  (22, ([rv_r 26, rv_r 41], [rv_r 26], []), [23], 19, [], []),
  (23, ([rv_r 26, rv_r 41], [rv_r 41, rv_r 26], []), [24], 18, [], []),
  (24, ([rv_r 26, rv_r 41], [(1, 0, (-2147483648), 2147483647, [(.inr (41, 9), 0)], []), rv_r 26], []), [25], 17, [], []),
  (25, ([rv_r 26, rv_r 41], [], []), [26], 16, [], []),
  (26, ([rv_r 26, rv_r 41], [rv_r 26], []), [27], 15, [], []),
  (27, ([rv_r 26, rv_r 41], [rv_r 41, rv_r 26], []), [28], 14, [], []),
  (28, ([rv_r 26, rv_r 41], [(1, 0, (-2147483648), 2147483647, [(.inr (41, 10), 0)], []), rv_r 26], []), [29], 13, [], []),
  (29, ([rv_r 26, rv_r 41], [], []), [30], 12, [], []),
  (30, ([rv_r 26, rv_r 41], [rv_r 26], []), [31], 11, [], []),
  (31, ([rv_r 26, rv_r 41], [rv_r 41, rv_r 26], []), [32], 10, [], [])]
def n_X0_takeMoving_2_2 : List rv_N := [
  (32, ([rv_r 26, rv_r 41], [(1, 0, (-2147483648), 2147483647, [(.inr (41, 11), 0)], []), rv_r 26], []), [33], 9, [], []),
  (33, ([rv_r 26, rv_r 41], [], []), [34], 8, [], []),
  (34, ([rv_r 26, rv_r 41], [rv_r 26], []), [35], 7, [], []),
  (35, ([rv_r 26, rv_r 41], [rv_r 41, rv_r 26], []), [36], 6, [], []),
  (36, ([rv_r 26, rv_r 41], [(1, 0, (-2147483648), 2147483647, [(.inr (41, 12), 0)], []), rv_r 26], []), [37], 5, [], []),
  (37, ([rv_r 26, rv_r 41], [], []), [38], 4, [], []),
  (38, ([rv_r 26, rv_r 41], [rv_r 26], []), [39], 3, [], []),
  (39, ([rv_r 26, rv_r 41], [rv_r 41, rv_r 26], []), [40], 2, [], []),
  (40, ([rv_r 26, rv_r 41], [(1, 0, (-2147483648), 2147483647, [(.inr (41, 13), 0)], []), rv_r 26], []), [41], 1, [], []),
  (41, ([rv_r 26, rv_r 41], [], []), [], 0, [], [])]
def n_X0_takeMoving_2 : List rv_N := n_X0_takeMoving_2_0 ++ (n_X0_takeMoving_2_1 ++ (n_X0_takeMoving_2_2))
noncomputable def gn_X0_takeMoving_2 : Nat → Option rv_N := rv_ap 16 (rv_at n_X0_takeMoving_2_0) (rv_ap 16 (rv_at n_X0_takeMoving_2_1) (rv_at n_X0_takeMoving_2_2))
theorem hn_X0_takeMoving_2 : ∀ i : Nat, n_X0_takeMoving_2[i]? = gn_X0_takeMoving_2 i := rv_ap_eq (l := n_X0_takeMoving_2_0) (c := 16) (rv_ap_eq (l := n_X0_takeMoving_2_1) (c := 16) (rv_at_eq n_X0_takeMoving_2_2) rfl) rfl
set_option maxRecDepth 100000 in
theorem a_X0_takeMoving_2 : rv_all (fm_tm, flX0, fm_wr, kcX0, klX0, K_X0_takeMoving_2.2.2.1, [], 2) ct_X0_takeMoving_2 cd_X0_takeMoving n_X0_takeMoving_2 K_X0_takeMoving_2 [] 0 n_X0_takeMoving_2 = true := rv_fast hn_X0_takeMoving_2 hc_X0_takeMoving (by decide +kernel)
theorem m_X0_takeMoving_2 {l : Launch} {D : va_G} {ad : Nat → Nat} {cy : Nat → ClassId} {Z : State → Heap → Prop} {Gp : fm_V → Prop} (hAd : fm_Ad fm_tm ad) (hZ : fm_Zk (fm_A fm_tm ad) Z) (hGd : fm_Gd Gp) : rv_Met l D fm_cl fm_tm ad cy fm_nt Z Gp yX0_takeMoving (.code yX0_takeMoving prog_2_method_3_code 2 none :: fm_Ts) { frames := 2, cells := 0, slots := 0, locals := 200 } K_X0_takeMoving_2 := rv_met hAd hZ (Or.inl (by decide +kernel)) evX0 dc_X0_takeMoving a_X0_takeMoving_2 ⟨rfl, rfl, rfl⟩ (by decide +kernel) (by decide +kernel) (by decide) (fm_gm hGd (by decide +kernel)) (rfl) (fun p e s m args below meth c Q X Y => List.forall_mem_cons.mpr ⟨rv_ctV X Y fm_Ts_good dc_X0_takeMoving (pc := 8) (i := 4) (idx := 92) rfl (m_X2_takeMoving_2 hAd hZ hGd) wl_X0_92 wm_X2_takeMoving wy_X2_takeMoving (by decide) ⟨rfl, rfl, rfl⟩ ⟨rfl, rfl⟩, List.forall_mem_cons.mpr ⟨rv_ctC X dc_X0_takeMoving (pc := 23) (i := 12) (idx := 86) rfl wl_X0_86 fm_acw (by decide +kernel) (a := 42) (b := 27) (n := 20) ⟨rfl, rfl⟩ (by decide) rfl, List.forall_mem_cons.mpr ⟨rv_ctC X dc_X0_takeMoving (pc := 38) (i := 20) (idx := 86) rfl wl_X0_86 fm_acw (by decide +kernel) (a := 47) (b := 32) (n := 6) ⟨rfl, rfl⟩ (by decide) rfl, fun _ h => absurd h List.not_mem_nil⟩⟩⟩) (fun _ _ _ _ _ _ _ _ _ _ _ _ _ _ _ _ h => absurd h List.not_mem_nil)
def K_X2_takeAll_2 : rv_K := ([rv_r 36, rv_r 51], [], [(36, 0), (39, 9999), (40, 9999)], [], [], [])
def ct_X2_takeAll_2 : List (Nat × rv_K) := [(11, ([rv_r 54, rv_i 0 0, rv_r 39, rv_i 0 0, rv_i 9 9], [], [(39, 9999)], [], [], [])), (19, ([rv_r 55, rv_i 0 0, rv_r 40, rv_i 0 0, rv_i 9 9], [], [(40, 9999)], [], [], []))]
def n_X2_takeAll_2_0 : List rv_N := [
  (0, ([rv_r 36, rv_r 51], [], []), [1], 20, [], []),
  (1, ([rv_r 36, rv_r 51], [rv_r 36], []), [2], 19, [], []),
  (2, ([rv_r 36, rv_r 51], [rv_r 51, rv_r 36], []), [3], 18, [], []),
  (3, ([rv_r 36, rv_r 51], [(1, 0, (-2147483648), 2147483647, [(.inr (51, 0), 0)], []), rv_r 36], []), [4], 17, [], []),
  (4, ([rv_r 36, rv_r 51], [], []), [5], 16, [], []),
  (5, ([rv_r 36, rv_r 51], [rv_r 51], []), [6], 15, [], []),
  (6, ([rv_r 36, rv_r 51], [rv_r 54], []), [7], 14, [], []),
  (7, ([rv_r 36, rv_r 51], [rv_i 0 0, rv_r 54], []), [8], 13, [], []),
  (8, ([rv_r 36, rv_r 51], [rv_r 36, rv_i 0 0, rv_r 54], []), [9], 12, [], []),
  (9, ([rv_r 36, rv_r 51], [rv_r 39, rv_i 0 0, rv_r 54], []), [10], 11, [], []),
  (10, ([rv_r 36, rv_r 51], [rv_i 0 0, rv_r 39, rv_i 0 0, rv_r 54], []), [11], 10, [], []),
  (11, ([rv_r 36, rv_r 51], [rv_i 9 9, rv_i 0 0, rv_r 39, rv_i 0 0, rv_r 54], []), [12], 9, [], [0]),
  (12, ([rv_r 36, rv_r 51], [], []), [13], 8, [], []),
  (13, ([rv_r 36, rv_r 51], [rv_r 51], []), [14], 7, [], []),
  (14, ([rv_r 36, rv_r 51], [rv_r 55], []), [15], 6, [], []),
  (15, ([rv_r 36, rv_r 51], [rv_i 0 0, rv_r 55], []), [16], 5, [], [])]
def n_X2_takeAll_2_1 : List rv_N := [
  (16, ([rv_r 36, rv_r 51], [rv_r 36, rv_i 0 0, rv_r 55], []), [17], 4, [], []),
  (17, ([rv_r 36, rv_r 51], [rv_r 40, rv_i 0 0, rv_r 55], []), [18], 3, [], []),
  (18, ([rv_r 36, rv_r 51], [rv_i 0 0, rv_r 40, rv_i 0 0, rv_r 55], []), [19], 2, [], []),
  (19, ([rv_r 36, rv_r 51], [rv_i 9 9, rv_i 0 0, rv_r 40, rv_i 0 0, rv_r 55], []), [20], 1, [], [1]),
  (20, ([rv_r 36, rv_r 51], [], []), [], 0, [], [])]
def n_X2_takeAll_2 : List rv_N := n_X2_takeAll_2_0 ++ (n_X2_takeAll_2_1)
noncomputable def gn_X2_takeAll_2 : Nat → Option rv_N := rv_ap 16 (rv_at n_X2_takeAll_2_0) (rv_at n_X2_takeAll_2_1)
theorem hn_X2_takeAll_2 : ∀ i : Nat, n_X2_takeAll_2[i]? = gn_X2_takeAll_2 i := rv_ap_eq (l := n_X2_takeAll_2_0) (c := 16) (rv_at_eq n_X2_takeAll_2_1) rfl
set_option maxRecDepth 100000 in
theorem a_X2_takeAll_2 : rv_all (fm_tm, flX2, fm_wr, kcX2, klX2, K_X2_takeAll_2.2.2.1, [], 2) ct_X2_takeAll_2 cd_X2_takeAll n_X2_takeAll_2 K_X2_takeAll_2 [] 0 n_X2_takeAll_2 = true := rv_fast hn_X2_takeAll_2 (rv_at_eq cd_X2_takeAll) (by decide +kernel)
theorem m_X2_takeAll_2 {l : Launch} {D : va_G} {ad : Nat → Nat} {cy : Nat → ClassId} {Z : State → Heap → Prop} {Gp : fm_V → Prop} (hAd : fm_Ad fm_tm ad) (hZ : fm_Zk (fm_A fm_tm ad) Z) (hGd : fm_Gd Gp) : rv_Met l D fm_cl fm_tm ad cy fm_nt Z Gp yX2_takeAll (.code yX2_takeAll prog_4_method_2_code 2 none :: fm_Ts) { frames := 1, cells := 0, slots := 0, locals := 100 } K_X2_takeAll_2 := rv_met hAd hZ (Or.inl (by decide +kernel)) evX2 dc_X2_takeAll a_X2_takeAll_2 ⟨rfl, rfl, rfl⟩ (by decide +kernel) (by decide +kernel) (by decide) (fm_gm hGd (by decide +kernel)) (rfl) (fun p e s m args below meth c Q X Y => List.forall_mem_cons.mpr ⟨rv_ctC X dc_X2_takeAll (pc := 20) (i := 11) (idx := 28) rfl wl_X2_28 fm_acw (by decide +kernel) (a := 54) (b := 39) (n := 9) ⟨rfl, rfl⟩ (by decide) rfl, List.forall_mem_cons.mpr ⟨rv_ctC X dc_X2_takeAll (pc := 35) (i := 19) (idx := 28) rfl wl_X2_28 fm_acw (by decide +kernel) (a := 55) (b := 40) (n := 9) ⟨rfl, rfl⟩ (by decide) rfl, fun _ h => absurd h List.not_mem_nil⟩⟩) (fun _ _ _ _ _ _ _ _ _ _ _ _ _ _ _ _ h => absurd h List.not_mem_nil)
def K_X0_takeAll_2 : rv_K := ([rv_r 26, rv_r 41], [], [(26, 9), (26, 10), (26, 11), (26, 12), (26, 13), (26, 14), (26, 15), (27, 9999), (28, 9999), (29, 9999), (30, 9999), (31, 9999), (32, 9999), (33, 9999), (34, 9999), (36, 0), (37, 9999), (38, 9999), (39, 9999), (40, 9999)], [], [], [])
def ct_X0_takeAll_2 : List (Nat × rv_K) := [(2, K_X0_takeMoving_2), (7, K_X2_takeAll_2), (15, ([rv_r 43, rv_i 0 0, rv_r 28, rv_i 0 0, rv_i 20 20], [], [(28, 9999)], [], [], [])), (23, ([rv_r 44, rv_i 0 0, rv_r 29, rv_i 0 0, rv_i 20 20], [], [(29, 9999)], [], [], [])), (31, ([rv_r 45, rv_i 0 0, rv_r 30, rv_i 0 0, rv_i 20 20], [], [(30, 9999)], [], [], [])), (39, ([rv_r 46, rv_i 0 0, rv_r 31, rv_i 0 0, rv_i 6 6], [], [(31, 9999)], [], [], [])), (47, ([rv_r 48, rv_i 0 0, rv_r 33, rv_i 0 0, rv_i 100 100], [], [(33, 9999)], [], [], [])), (55, ([rv_r 49, rv_i 0 0, rv_r 34, rv_i 0 0, rv_i 180 180], [], [(34, 9999)], [], [], []))]
def n_X0_takeAll_2_0 : List rv_N := [
  (0, ([rv_r 26, rv_r 41], [], []), [1], 62, [], []),
  (1, ([rv_r 26, rv_r 41], [rv_r 26], []), [2], 61, [], []),
  (2, ([rv_r 26, rv_r 41], [rv_r 41, rv_r 26], []), [3], 60, [], [0]),
  (3, ([rv_r 26, rv_r 41], [], []), [4], 59, [], []),
  (4, ([rv_r 26, rv_r 41], [rv_r 26], []), [5], 58, [], []),
  (5, ([rv_r 26, rv_r 41], [rv_r 36], []), [6], 57, [], []),
  (6, ([rv_r 26, rv_r 41], [rv_r 41, rv_r 36], []), [7], 56, [], []),
  (7, ([rv_r 26, rv_r 41], [rv_r 51, rv_r 36], []), [8], 55, [], [1]),
  (8, ([rv_r 26, rv_r 41], [], []), [9], 54, [], []),
  (9, ([rv_r 26, rv_r 41], [rv_r 41], []), [10], 53, [], []),
  (10, ([rv_r 26, rv_r 41], [rv_r 43], []), [11], 52, [], []),
  (11, ([rv_r 26, rv_r 41], [rv_i 0 0, rv_r 43], []), [12], 51, [], []),
  (12, ([rv_r 26, rv_r 41], [rv_r 26, rv_i 0 0, rv_r 43], []), [13], 50, [], []),
  (13, ([rv_r 26, rv_r 41], [rv_r 28, rv_i 0 0, rv_r 43], []), [14], 49, [], []),
  (14, ([rv_r 26, rv_r 41], [rv_i 0 0, rv_r 28, rv_i 0 0, rv_r 43], []), [15], 48, [], []),
  (15, ([rv_r 26, rv_r 41], [rv_i 20 20, rv_i 0 0, rv_r 28, rv_i 0 0, rv_r 43], []), [16], 47, [], [2])]
def n_X0_takeAll_2_1 : List rv_N := [
  (16, ([rv_r 26, rv_r 41], [], []), [17], 46, [], []),
  (17, ([rv_r 26, rv_r 41], [rv_r 41], []), [18], 45, [], []),
  (18, ([rv_r 26, rv_r 41], [rv_r 44], []), [19], 44, [], []),
  (19, ([rv_r 26, rv_r 41], [rv_i 0 0, rv_r 44], []), [20], 43, [], []),
  (20, ([rv_r 26, rv_r 41], [rv_r 26, rv_i 0 0, rv_r 44], []), [21], 42, [], []),
  (21, ([rv_r 26, rv_r 41], [rv_r 29, rv_i 0 0, rv_r 44], []), [22], 41, [], []),
  (22, ([rv_r 26, rv_r 41], [rv_i 0 0, rv_r 29, rv_i 0 0, rv_r 44], []), [23], 40, [], []),
  (23, ([rv_r 26, rv_r 41], [rv_i 20 20, rv_i 0 0, rv_r 29, rv_i 0 0, rv_r 44], []), [24], 39, [], [3]),
  (24, ([rv_r 26, rv_r 41], [], []), [25], 38, [], []),
  (25, ([rv_r 26, rv_r 41], [rv_r 41], []), [26], 37, [], []),
  (26, ([rv_r 26, rv_r 41], [rv_r 45], []), [27], 36, [], []),
  (27, ([rv_r 26, rv_r 41], [rv_i 0 0, rv_r 45], []), [28], 35, [], []),
  (28, ([rv_r 26, rv_r 41], [rv_r 26, rv_i 0 0, rv_r 45], []), [29], 34, [], []),
  (29, ([rv_r 26, rv_r 41], [rv_r 30, rv_i 0 0, rv_r 45], []), [30], 33, [], []),
  (30, ([rv_r 26, rv_r 41], [rv_i 0 0, rv_r 30, rv_i 0 0, rv_r 45], []), [31], 32, [], []),
  (31, ([rv_r 26, rv_r 41], [rv_i 20 20, rv_i 0 0, rv_r 30, rv_i 0 0, rv_r 45], []), [32], 31, [], [4])]
def n_X0_takeAll_2_2 : List rv_N := [
  (32, ([rv_r 26, rv_r 41], [], []), [33], 30, [], []),
  (33, ([rv_r 26, rv_r 41], [rv_r 41], []), [34], 29, [], []),
  (34, ([rv_r 26, rv_r 41], [rv_r 46], []), [35], 28, [], []),
  (35, ([rv_r 26, rv_r 41], [rv_i 0 0, rv_r 46], []), [36], 27, [], []),
  (36, ([rv_r 26, rv_r 41], [rv_r 26, rv_i 0 0, rv_r 46], []), [37], 26, [], []),
  (37, ([rv_r 26, rv_r 41], [rv_r 31, rv_i 0 0, rv_r 46], []), [38], 25, [], []),
  (38, ([rv_r 26, rv_r 41], [rv_i 0 0, rv_r 31, rv_i 0 0, rv_r 46], []), [39], 24, [], []),
  (39, ([rv_r 26, rv_r 41], [rv_i 6 6, rv_i 0 0, rv_r 31, rv_i 0 0, rv_r 46], []), [40], 23, [], [5]),
  (40, ([rv_r 26, rv_r 41], [], []), [41], 22, [], []),
  (41, ([rv_r 26, rv_r 41], [rv_r 41], []), [42], 21, [], []),
  (42, ([rv_r 26, rv_r 41], [rv_r 48], []), [43], 20, [], []),
  (43, ([rv_r 26, rv_r 41], [rv_i 0 0, rv_r 48], []), [44], 19, [], []),
  (44, ([rv_r 26, rv_r 41], [rv_r 26, rv_i 0 0, rv_r 48], []), [45], 18, [], []),
  (45, ([rv_r 26, rv_r 41], [rv_r 33, rv_i 0 0, rv_r 48], []), [46], 17, [], []),
  (46, ([rv_r 26, rv_r 41], [rv_i 0 0, rv_r 33, rv_i 0 0, rv_r 48], []), [47], 16, [], []),
  (47, ([rv_r 26, rv_r 41], [rv_i 100 100, rv_i 0 0, rv_r 33, rv_i 0 0, rv_r 48], []), [48], 15, [], [6])]
def n_X0_takeAll_2_3 : List rv_N := [
  (48, ([rv_r 26, rv_r 41], [], []), [49], 14, [], []),
  (49, ([rv_r 26, rv_r 41], [rv_r 41], []), [50], 13, [], []),
  (50, ([rv_r 26, rv_r 41], [rv_r 49], []), [51], 12, [], []),
  (51, ([rv_r 26, rv_r 41], [rv_i 0 0, rv_r 49], []), [52], 11, [], []),
  (52, ([rv_r 26, rv_r 41], [rv_r 26, rv_i 0 0, rv_r 49], []), [53], 10, [], []),
  (53, ([rv_r 26, rv_r 41], [rv_r 34, rv_i 0 0, rv_r 49], []), [54], 9, [], []),
  (54, ([rv_r 26, rv_r 41], [rv_i 0 0, rv_r 34, rv_i 0 0, rv_r 49], []), [55], 8, [], []),
  (55, ([rv_r 26, rv_r 41], [rv_i 180 180, rv_i 0 0, rv_r 34, rv_i 0 0, rv_r 49], []), [56], 7, [], [7]),
  (56, ([rv_r 26, rv_r 41], [], []), [57], 6, [], []),
  (57, ([rv_r 26, rv_r 41], [rv_r 26], []), [58], 5, [], []),
  (58, ([rv_r 26, rv_r 41], [rv_i 1 1, rv_r 26], []), [59], 4, [], []),
  (59, ([rv_r 26, rv_r 41], [], [((26, 14), 1, 1, [])]), [60], 3, [], []),
  (60, ([rv_r 26, rv_r 41], [rv_r 26], [((26, 14), 1, 1, [])]), [61], 2, [], []),
  (61, ([rv_r 26, rv_r 41], [rv_i 6 6, rv_r 26], [((26, 14), 1, 1, [])]), [62], 1, [], []),
  (62, ([rv_r 26, rv_r 41], [], [((26, 14), 1, 1, []), ((26, 15), 6, 6, [])]), [], 0, [], [])]
def n_X0_takeAll_2 : List rv_N := n_X0_takeAll_2_0 ++ (n_X0_takeAll_2_1 ++ (n_X0_takeAll_2_2 ++ (n_X0_takeAll_2_3)))
noncomputable def gn_X0_takeAll_2 : Nat → Option rv_N := rv_ap 16 (rv_at n_X0_takeAll_2_0) (rv_ap 16 (rv_at n_X0_takeAll_2_1) (rv_ap 16 (rv_at n_X0_takeAll_2_2) (rv_at n_X0_takeAll_2_3)))
theorem hn_X0_takeAll_2 : ∀ i : Nat, n_X0_takeAll_2[i]? = gn_X0_takeAll_2 i := rv_ap_eq (l := n_X0_takeAll_2_0) (c := 16) (rv_ap_eq (l := n_X0_takeAll_2_1) (c := 16) (rv_ap_eq (l := n_X0_takeAll_2_2) (c := 16) (rv_at_eq n_X0_takeAll_2_3) rfl) rfl) rfl
set_option maxRecDepth 100000 in
theorem a_X0_takeAll_2 : rv_all (fm_tm, flX0, fm_wr, kcX0, klX0, K_X0_takeAll_2.2.2.1, [], 2) ct_X0_takeAll_2 cd_X0_takeAll n_X0_takeAll_2 K_X0_takeAll_2 [] 0 n_X0_takeAll_2 = true := rv_fast hn_X0_takeAll_2 hc_X0_takeAll (by decide +kernel)
theorem m_X0_takeAll_2 {l : Launch} {D : va_G} {ad : Nat → Nat} {cy : Nat → ClassId} {Z : State → Heap → Prop} {Gp : fm_V → Prop} (hAd : fm_Ad fm_tm ad) (hZ : fm_Zk (fm_A fm_tm ad) Z) (hGd : fm_Gd Gp) : rv_Met l D fm_cl fm_tm ad cy fm_nt Z Gp yX0_takeAll (.code yX0_takeAll prog_2_method_2_code 2 none :: fm_Ts) { frames := 3, cells := 0, slots := 0, locals := 300 } K_X0_takeAll_2 := rv_met hAd hZ (Or.inl (by decide +kernel)) evX0 dc_X0_takeAll a_X0_takeAll_2 ⟨rfl, rfl, rfl⟩ (by decide +kernel) (by decide +kernel) (by decide) (fm_gm hGd (by decide +kernel)) (rfl) (fun p e s m args below meth c Q X Y => List.forall_mem_cons.mpr ⟨rv_ctV X Y fm_Ts_good dc_X0_takeAll (pc := 2) (i := 2) (idx := 78) rfl (m_X0_takeMoving_2 hAd hZ hGd) wl_X0_78 wm_X0_takeMoving wy_X0_takeMoving (by decide) ⟨rfl, rfl, rfl⟩ ⟨rfl, rfl⟩, List.forall_mem_cons.mpr ⟨rv_ctV X Y fm_Ts_good dc_X0_takeAll (pc := 13) (i := 7) (idx := 82) rfl (m_X2_takeAll_2 hAd hZ hGd) wl_X0_82 wm_X2_takeAll wy_X2_takeAll (by decide) ⟨rfl, rfl, rfl⟩ ⟨rfl, rfl⟩, List.forall_mem_cons.mpr ⟨rv_ctC X dc_X0_takeAll (pc := 28) (i := 15) (idx := 86) rfl wl_X0_86 fm_acw (by decide +kernel) (a := 43) (b := 28) (n := 20) ⟨rfl, rfl⟩ (by decide) rfl, List.forall_mem_cons.mpr ⟨rv_ctC X dc_X0_takeAll (pc := 43) (i := 23) (idx := 86) rfl wl_X0_86 fm_acw (by decide +kernel) (a := 44) (b := 29) (n := 20) ⟨rfl, rfl⟩ (by decide) rfl, List.forall_mem_cons.mpr ⟨rv_ctC X dc_X0_takeAll (pc := 58) (i := 31) (idx := 86) rfl wl_X0_86 fm_acw (by decide +kernel) (a := 45) (b := 30) (n := 20) ⟨rfl, rfl⟩ (by decide) rfl, List.forall_mem_cons.mpr ⟨rv_ctC X dc_X0_takeAll (pc := 73) (i := 39) (idx := 86) rfl wl_X0_86 fm_acw (by decide +kernel) (a := 46) (b := 31) (n := 6) ⟨rfl, rfl⟩ (by decide) rfl, List.forall_mem_cons.mpr ⟨rv_ctC X dc_X0_takeAll (pc := 88) (i := 47) (idx := 86) rfl wl_X0_86 fm_acw (by decide +kernel) (a := 48) (b := 33) (n := 100) ⟨rfl, rfl⟩ (by decide) rfl, List.forall_mem_cons.mpr ⟨rv_ctC X dc_X0_takeAll (pc := 104) (i := 55) (idx := 86) rfl wl_X0_86 fm_acw (by decide +kernel) (a := 49) (b := 34) (n := 180) ⟨rfl, rfl⟩ (by decide) rfl, fun _ h => absurd h List.not_mem_nil⟩⟩⟩⟩⟩⟩⟩⟩) (fun _ _ _ _ _ _ _ _ _ _ _ _ _ _ _ _ h => absurd h List.not_mem_nil)
def K_X6_take_1 : rv_K := ([rv_r 3, rv_r 5], [], [(3, 1), (4, 9999)], [], [], [])
def ct_X6_take_1 : List (Nat × rv_K) := [(7, ([rv_r 6, rv_i 0 0, rv_r 4, rv_i 0 0, rv_i 220 220], [], [(4, 9999)], [], [], []))]
def n_X6_take_1 : List rv_N := [
  (0, ([rv_r 3, rv_r 5], [], []), [1], 12, [], []),
  (1, ([rv_r 3, rv_r 5], [rv_r 5], []), [2], 11, [], []),
  (2, ([rv_r 3, rv_r 5], [rv_r 6], []), [3], 10, [], []),
  (3, ([rv_r 3, rv_r 5], [rv_i 0 0, rv_r 6], []), [4], 9, [], []),
  (4, ([rv_r 3, rv_r 5], [rv_r 3, rv_i 0 0, rv_r 6], []), [5], 8, [], []),
  (5, ([rv_r 3, rv_r 5], [rv_r 4, rv_i 0 0, rv_r 6], []), [6], 7, [], []),
  (6, ([rv_r 3, rv_r 5], [rv_i 0 0, rv_r 4, rv_i 0 0, rv_r 6], []), [7], 6, [], []),
  (7, ([rv_r 3, rv_r 5], [rv_i 220 220, rv_i 0 0, rv_r 4, rv_i 0 0, rv_r 6], []), [8], 5, [], [0]),
  (8, ([rv_r 3, rv_r 5], [], []), [9], 4, [], []),
  (9, ([rv_r 3, rv_r 5], [rv_r 3], []), [10], 3, [], []),
  (10, ([rv_r 3, rv_r 5], [rv_r 5, rv_r 3], []), [11], 2, [], []),
  (11, ([rv_r 3, rv_r 5], [(1, 0, (-2147483648), 2147483647, [(.inr (5, 1), 0)], []), rv_r 3], []), [12], 1, [], []),
  (12, ([rv_r 3, rv_r 5], [], []), [], 0, [], [])]
set_option maxRecDepth 100000 in
theorem a_X6_take_1 : rv_all (fm_tm, flX6, fm_wr, kcX6, klX6, K_X6_take_1.2.2.1, [], 2) ct_X6_take_1 cd_X6_take n_X6_take_1 K_X6_take_1 [] 0 n_X6_take_1 = true := rv_fast (rv_at_eq n_X6_take_1) (rv_at_eq cd_X6_take) (by decide +kernel)
theorem m_X6_take_1 {l : Launch} {D : va_G} {ad : Nat → Nat} {cy : Nat → ClassId} {Z : State → Heap → Prop} {Gp : fm_V → Prop} (hAd : fm_Ad fm_tm ad) (hZ : fm_Zk (fm_A fm_tm ad) Z) (hGd : fm_Gd Gp) : rv_Met l D fm_cl fm_tm ad cy fm_nt Z Gp yX6_take (.code yX6_take prog_8_method_6_code 2 none :: fm_Ts) { frames := 1, cells := 0, slots := 0, locals := 100 } K_X6_take_1 := rv_met hAd hZ (Or.inl (by decide +kernel)) evX6 dc_X6_take a_X6_take_1 ⟨rfl, rfl, rfl⟩ (by decide +kernel) (by decide +kernel) (by decide) (fm_gm hGd (by decide +kernel)) (rfl) (fun p e s m args below meth c Q X Y => List.forall_mem_cons.mpr ⟨rv_ctC X dc_X6_take (pc := 13) (i := 7) (idx := 23) rfl wl_X6_23 fm_acw (by decide +kernel) (a := 6) (b := 4) (n := 220) ⟨rfl, rfl⟩ (by decide) rfl, fun _ h => absurd h List.not_mem_nil⟩) (fun _ _ _ _ _ _ _ _ _ _ _ _ _ _ _ _ h => absurd h List.not_mem_nil)
def cd_X7_undo : List (Nat × Instr × Nat) := [(0, .aload_n 0, 1), (1, .getfield 71, 3), (4, .ifCond .ne 5, 3), (7, .iconst 0, 1), (8, .ireturn, 1), (9, .aload_n 0, 1), (10, .getfield 38, 3), (13, .aload_n 0, 1), (14, .getfield 42, 3), (17, .invokevirtual 168, 3), (20, .aload_n 0, 1), (21, .getfield 12, 3), (24, .aload_n 0, 1), (25, .getfield 16, 3), (28, .invokevirtual 293, 3), (31, .iconst 1, 1), (32, .ireturn, 1)]
theorem dc_X7_undo : ∀ q ∈ cd_X7_undo, decode prog_1_method_31_code q.1 = .ok (q.2.1, q.2.2) := by decide +kernel
def K_X7_undo_0 : rv_K := ([rv_r 0], [], [(3, 1), (4, 9999), (26, 9), (26, 10), (26, 11), (26, 12), (26, 13), (26, 14), (26, 15), (27, 9999), (28, 9999), (29, 9999), (30, 9999), (31, 9999), (32, 9999), (33, 9999), (34, 9999), (36, 0), (37, 9999), (38, 9999), (39, 9999), (40, 9999)], [(0, 0, 1)], [], [])
def ct_X7_undo_0 : List (Nat × rv_K) := [(9, K_X0_takeAll_2), (14, K_X6_take_1)]
def n_X7_undo_0_0 : List rv_N := [
  (0, ([rv_r 0], [], []), [1], 14, [], []),
  (1, ([rv_r 0], [rv_r 0], []), [2], 13, [], []),
  (2, ([rv_r 0], [(1, 0, 0, 1, [(.inr (0, 11), 0)], [])], []), [3, 5], 12, [], []),
  (3, ([rv_r 0], [], [((0, 11), 0, 0, [])]), [4], 1, [], []),
  (4, ([rv_r 0], [rv_i 0 0], [((0, 11), 0, 0, [])]), [], 0, [], []),
  (5, ([rv_r 0], [], [((0, 11), 1, 1, [])]), [6], 11, [], []),
  (6, ([rv_r 0], [rv_r 0], [((0, 11), 1, 1, [])]), [7], 10, [], []),
  (7, ([rv_r 0], [rv_r 26], [((0, 11), 1, 1, [])]), [8], 9, [], []),
  (8, ([rv_r 0], [rv_r 0, rv_r 26], [((0, 11), 1, 1, [])]), [9], 8, [], []),
  (9, ([rv_r 0], [rv_r 41, rv_r 26], [((0, 11), 1, 1, [])]), [10], 7, [], [0]),
  (10, ([rv_r 0], [], [((0, 11), 1, 1, [])]), [11], 6, [], []),
  (11, ([rv_r 0], [rv_r 0], [((0, 11), 1, 1, [])]), [12], 5, [], []),
  (12, ([rv_r 0], [rv_r 3], [((0, 11), 1, 1, [])]), [13], 4, [], []),
  (13, ([rv_r 0], [rv_r 0, rv_r 3], [((0, 11), 1, 1, [])]), [14], 3, [], []),
  (14, ([rv_r 0], [rv_r 5, rv_r 3], [((0, 11), 1, 1, [])]), [15], 2, [], [1]),
  (15, ([rv_r 0], [], [((0, 11), 1, 1, [])]), [16], 1, [], [])]
def n_X7_undo_0_1 : List rv_N := [
  (16, ([rv_r 0], [rv_i 1 1], [((0, 11), 1, 1, [])]), [], 0, [], [])]
def n_X7_undo_0 : List rv_N := n_X7_undo_0_0 ++ (n_X7_undo_0_1)
noncomputable def gn_X7_undo_0 : Nat → Option rv_N := rv_ap 16 (rv_at n_X7_undo_0_0) (rv_at n_X7_undo_0_1)
theorem hn_X7_undo_0 : ∀ i : Nat, n_X7_undo_0[i]? = gn_X7_undo_0 i := rv_ap_eq (l := n_X7_undo_0_0) (c := 16) (rv_at_eq n_X7_undo_0_1) rfl
set_option maxRecDepth 100000 in
theorem a_X7_undo_0 : rv_all (fm_tm, flX7, fm_wr, kcX7, klX7, K_X7_undo_0.2.2.1, [], 1) ct_X7_undo_0 cd_X7_undo n_X7_undo_0 K_X7_undo_0 [] 0 n_X7_undo_0 = true := rv_fast hn_X7_undo_0 (rv_at_eq cd_X7_undo) (by decide +kernel)
theorem m_X7_undo_0 {l : Launch} {D : va_G} {ad : Nat → Nat} {cy : Nat → ClassId} {Z : State → Heap → Prop} {Gp : fm_V → Prop} (hAd : fm_Ad fm_tm ad) (hZ : fm_Zk (fm_A fm_tm ad) Z) (hGd : fm_Gd Gp) : rv_Met l D fm_cl fm_tm ad cy fm_nt Z Gp yX7_undo (.code yX7_undo prog_1_method_31_code 1 (some .boolean) :: fm_Ts) { frames := 4, cells := 0, slots := 0, locals := 400 } K_X7_undo_0 := rv_met hAd hZ (Or.inl (by decide +kernel)) evX7 dc_X7_undo a_X7_undo_0 ⟨rfl, rfl, rfl⟩ (by decide +kernel) (by decide +kernel) (by decide) (fm_gm hGd (by decide +kernel)) (Or.inr ⟨rfl, by decide, by decide⟩) (fun p e s m args below meth c Q X Y => List.forall_mem_cons.mpr ⟨rv_ctV X Y fm_Ts_good dc_X7_undo (pc := 17) (i := 9) (idx := 168) rfl (m_X0_takeAll_2 hAd hZ hGd) wl_X7_168 wm_X0_takeAll wy_X0_takeAll (by decide) ⟨rfl, rfl, rfl⟩ ⟨rfl, rfl⟩, List.forall_mem_cons.mpr ⟨rv_ctV X Y fm_Ts_good dc_X7_undo (pc := 28) (i := 14) (idx := 293) rfl (m_X6_take_1 hAd hZ hGd) wl_X7_293 wm_X6_take wy_X6_take (by decide) ⟨rfl, rfl, rfl⟩ ⟨rfl, rfl⟩, fun _ h => absurd h List.not_mem_nil⟩⟩) (fun _ _ _ _ _ _ _ _ _ _ _ _ _ _ _ _ h => absurd h List.not_mem_nil)
def K_X7_isWithin_20 : rv_K := ([rv_full, rv_i 0 0, rv_i 20 20], [], [], [(0, 0, 1)], [(.inl 0, 0, 20)], [])
def ct_X7_isWithin_20 : List (Nat × rv_K) := []
def n_X7_isWithin_20 : List rv_N := [
  (0, ([rv_full, rv_i 0 0, rv_i 20 20], [], []), [1], 8, [], []),
  (1, ([rv_full, rv_i 0 0, rv_i 20 20], [(1, 0, (-2147483648), 2147483647, [(.inl 0, 0)], [])], []), [2], 7, [], []),
  (2, ([rv_full, rv_i 0 0, rv_i 20 20], [(1, 0, 0, 0, [(.inl 1, 0)], []), (1, 0, (-2147483648), 2147483647, [(.inl 0, 0)], [])], []), [3, 8], 6, [], []),
  (3, ([rv_i 0 2147483647, rv_i 0 0, rv_i 20 20], [], []), [4], 5, [], []),
  (4, ([rv_i 0 2147483647, rv_i 0 0, rv_i 20 20], [(1, 0, 0, 2147483647, [(.inl 0, 0)], [])], []), [5], 4, [], []),
  (5, ([rv_i 0 2147483647, rv_i 0 0, rv_i 20 20], [(1, 0, 20, 20, [(.inl 2, 0)], []), (1, 0, 0, 2147483647, [(.inl 0, 0)], [])], []), [6, 8], 3, [], []),
  (6, ([rv_i 0 20, rv_i 0 0, rv_i 20 20], [], []), [7], 2, [], []),
  (7, ([rv_i 0 20, rv_i 0 0, rv_i 20 20], [rv_i 1 1], []), [10], 1, [], []),
  (8, ([rv_full, rv_i 0 0, rv_i 20 20], [], []), [9], 1, [], []),
  (9, ([rv_full, rv_i 0 0, rv_i 20 20], [rv_i 0 0], []), [], 0, [], []),
  (9, ([rv_i 0 20, rv_i 0 0, rv_i 20 20], [rv_i 1 1], []), [], 0, [], [])]
set_option maxRecDepth 100000 in
theorem a_X7_isWithin_20 : rv_all (fm_tm, flX7, fm_wr, kcX7, klX7, K_X7_isWithin_20.2.2.1, [0, 1, 2], 3) ct_X7_isWithin_20 cd_X7_isWithin n_X7_isWithin_20 K_X7_isWithin_20 [] 0 n_X7_isWithin_20 = true := rv_fast (rv_at_eq n_X7_isWithin_20) (rv_at_eq cd_X7_isWithin) (by decide +kernel)
theorem m_X7_isWithin_20 {l : Launch} {D : va_G} {ad : Nat → Nat} {cy : Nat → ClassId} {Z : State → Heap → Prop} {Gp : fm_V → Prop} (hAd : fm_Ad fm_tm ad) (hZ : fm_Zk (fm_A fm_tm ad) Z) (hGd : fm_Gd Gp) : rv_Met l D fm_cl fm_tm ad cy fm_nt Z Gp yX7_isWithin (.code yX7_isWithin prog_1_method_34_code 3 (some .boolean) :: fm_Ts) { frames := 0, cells := 0, slots := 0, locals := 0 } K_X7_isWithin_20 := rv_met hAd hZ (Or.inl (by decide +kernel)) evX7 dc_X7_isWithin a_X7_isWithin_20 ⟨rfl, rfl, rfl⟩ (by decide +kernel) (by decide +kernel) (by decide) (fm_gm hGd (by decide +kernel)) (Or.inr ⟨rfl, by decide, by decide⟩) (fun p e s m args below meth c Q X Y => fun _ h => absurd h List.not_mem_nil) (fun _ _ _ _ _ _ _ _ _ _ _ _ _ _ _ _ h => absurd h List.not_mem_nil)
def cd_X6_numberAt : List (Nat × Instr × Nat) := [(0, .iconst 0, 1), (1, .istore_n 2, 1), (2, .iconst 0, 1), (3, .istore_n 3, 1), (4, .iload_n 3, 1), (5, .iconst 4, 1), (6, .if_icmp .ge 24, 3), (9, .iload_n 2, 1), (10, .bipush 8, 2), (12, .ishl, 1), (13, .aload_n 0, 1), (14, .iconst 4, 1), (15, .iload_n 1, 1), (16, .imul, 1), (17, .iload_n 3, 1), (18, .iadd, 1), (19, .invokevirtual 19, 3), (22, .ior, 1), (23, .istore_n 2, 1), (24, .iinc 3 1, 3), (27, .goto (-23), 3), (30, .iload_n 2, 1), (31, .ireturn, 1)]
theorem dc_X6_numberAt : ∀ q ∈ cd_X6_numberAt, decode prog_8_method_5_code q.1 = .ok (q.2.1, q.2.2) := by decide +kernel
def K_X6_numberAt_0 : rv_K := ([rv_r 3, rv_full], [], [], [(0, (-2147483648), 2147483647)], [], [])
def ct_X6_numberAt_0 : List (Nat × rv_K) := [(16, K_X6_byteAt_0)]
def n_X6_numberAt_0_0 : List rv_N := [
  (0, ([rv_r 3, rv_full, rv_u, rv_u], [], []), [1], 932, [], []),
  (1, ([rv_r 3, rv_full, rv_u, rv_u], [rv_i 0 0], []), [2], 931, [], []),
  (2, ([rv_r 3, rv_full, rv_i 0 0, rv_u], [], []), [3], 930, [], []),
  (3, ([rv_r 3, rv_full, rv_i 0 0, rv_u], [rv_i 0 0], []), [4], 929, [], []),
  (4, ([rv_r 3, rv_full, rv_full, rv_i 0 4], [], []), [5], 928, [(3, (-231))], []),
  (5, ([rv_r 3, rv_full, rv_full, rv_i 0 4], [(1, 0, 0, 4, [(.inl 3, 0)], [])], []), [6], 927, [(3, (-231))], []),
  (6, ([rv_r 3, rv_full, rv_full, rv_i 0 4], [rv_i 4 4, (1, 0, 0, 4, [(.inl 3, 0)], [])], []), [7, 21], 926, [(3, (-231))], []),
  (7, ([rv_r 3, rv_full, rv_full, rv_i 0 3], [], []), [8], 711, [(3, (-231))], []),
  (8, ([rv_r 3, rv_full, rv_full, rv_i 0 3], [(1, 0, (-2147483648), 2147483647, [(.inl 2, 0)], [])], []), [9], 710, [(3, (-231))], []),
  (9, ([rv_r 3, rv_full, rv_full, rv_i 0 3], [rv_i 8 8, (1, 0, (-2147483648), 2147483647, [(.inl 2, 0)], [])], []), [10], 709, [(3, (-231))], []),
  (10, ([rv_r 3, rv_full, rv_full, rv_i 0 3], [rv_full], []), [11], 708, [(3, (-231))], []),
  (11, ([rv_r 3, rv_full, rv_full, rv_i 0 3], [rv_r 3, rv_full], []), [12], 707, [(3, (-231))], []),
  (12, ([rv_r 3, rv_full, rv_full, rv_i 0 3], [rv_i 4 4, rv_r 3, rv_full], []), [13], 706, [(3, (-231))], []),
  (13, ([rv_r 3, rv_full, rv_full, rv_i 0 3], [(1, 0, (-2147483648), 2147483647, [(.inl 1, 0)], []), rv_i 4 4, rv_r 3, rv_full], []), [14], 705, [(3, (-231))], []),
  (14, ([rv_r 3, rv_full, rv_full, rv_i 0 3], [rv_full, rv_r 3, rv_full], []), [15], 704, [(3, (-231))], []),
  (15, ([rv_r 3, rv_full, rv_full, rv_i 0 3], [(1, 0, 0, 3, [(.inl 3, 0)], []), rv_full, rv_r 3, rv_full], []), [16], 703, [(3, (-231))], [])]
def n_X6_numberAt_0_1 : List rv_N := [
  (16, ([rv_r 3, rv_full, rv_full, rv_i 0 3], [rv_full, rv_r 3, rv_full], []), [17], 702, [(3, (-231))], [0]),
  (17, ([rv_r 3, rv_full, rv_full, rv_i 0 3], [rv_i (-1) 255, rv_full], []), [18], 701, [(3, (-231))], []),
  (18, ([rv_r 3, rv_full, rv_full, rv_i 0 3], [rv_full], []), [19], 700, [(3, (-231))], []),
  (19, ([rv_r 3, rv_full, rv_full, rv_i 0 3], [], []), [20], 699, [(3, (-231))], []),
  (20, ([rv_r 3, rv_full, rv_full, rv_i 1 4], [], []), [4], 929, [(3, (-231))], []),
  (21, ([rv_r 3, rv_full, rv_full, rv_i 4 4], [], []), [22], 1, [], []),
  (22, ([rv_r 3, rv_full, rv_full, rv_i 4 4], [(1, 0, (-2147483648), 2147483647, [(.inl 2, 0)], [])], []), [], 0, [], [])]
def n_X6_numberAt_0 : List rv_N := n_X6_numberAt_0_0 ++ (n_X6_numberAt_0_1)
noncomputable def gn_X6_numberAt_0 : Nat → Option rv_N := rv_ap 16 (rv_at n_X6_numberAt_0_0) (rv_at n_X6_numberAt_0_1)
theorem hn_X6_numberAt_0 : ∀ i : Nat, n_X6_numberAt_0[i]? = gn_X6_numberAt_0 i := rv_ap_eq (l := n_X6_numberAt_0_0) (c := 16) (rv_at_eq n_X6_numberAt_0_1) rfl
set_option maxRecDepth 100000 in
theorem a_X6_numberAt_0 : rv_all (fm_tm, flX6, fm_wr, kcX6, klX6, K_X6_numberAt_0.2.2.1, [], 4) ct_X6_numberAt_0 cd_X6_numberAt n_X6_numberAt_0 K_X6_numberAt_0 [] 0 n_X6_numberAt_0 = true := rv_fast hn_X6_numberAt_0 (rv_at_eq cd_X6_numberAt) (by decide +kernel)
theorem m_X6_numberAt_0 {l : Launch} {D : va_G} {ad : Nat → Nat} {cy : Nat → ClassId} {Z : State → Heap → Prop} {Gp : fm_V → Prop} (hAd : fm_Ad fm_tm ad) (hZ : fm_Zk (fm_A fm_tm ad) Z) (hGd : fm_Gd Gp) : rv_Met l D fm_cl fm_tm ad cy fm_nt Z Gp yX6_numberAt (.code yX6_numberAt prog_8_method_5_code 4 (some .int) :: fm_Ts) { frames := 1, cells := 0, slots := 0, locals := 100 } K_X6_numberAt_0 := rv_met hAd hZ (Or.inl (by decide +kernel)) evX6 dc_X6_numberAt a_X6_numberAt_0 ⟨rfl, rfl, rfl⟩ (by decide +kernel) (by decide +kernel) (by decide) (fm_gm hGd (by decide +kernel)) (Or.inl rfl) (fun p e s m args below meth c Q X Y => List.forall_mem_cons.mpr ⟨rv_ctV X Y fm_Ts_good dc_X6_numberAt (pc := 19) (i := 16) (idx := 19) rfl (m_X6_byteAt_0 hAd hZ hGd) wl_X6_19 wm_X6_byteAt wy_X6_byteAt (by decide) ⟨rfl, rfl, rfl⟩ ⟨rfl, rfl⟩, fun _ h => absurd h List.not_mem_nil⟩) (fun _ _ _ _ _ _ _ _ _ _ _ _ _ _ _ _ h => absurd h List.not_mem_nil)
def cd_X7_check : List (Nat × Instr × Nat) := [(0, .iload_n 1, 1), (1, .iconst 0, 1), (2, .bipush 20, 2), (4, .invokestatic 80, 3), (7, .ifCond .eq 16, 3), (10, .aload_n 0, 1), (11, .getfield 12, 3), (14, .getfield 137, 3), (17, .iconst 4, 1), (18, .iload_n 1, 1), (19, .imul, 1), (20, .if_icmp .ge 6, 3), (23, .bipush (-2), 2), (25, .ireturn, 1), (26, .aload_n 0, 1), (27, .getfield 12, 3), (30, .iconst 0, 1), (31, .putfield 137, 3), (34, .iconst 0, 1), (35, .istore_n 2, 1), (36, .iload_n 2, 1), (37, .iload_n 1, 1), (38, .if_icmp .ge 31, 3), (41, .aload_n 0, 1), (42, .getfield 12, 3), (45, .iload_n 2, 1), (46, .invokevirtual 298, 3), (49, .aload_n 0, 1), (50, .getfield 38, 3), (53, .getfield 84, 3), (56, .iload_n 2, 1), (57, .iaload, 1), (58, .if_icmp .eq 5, 3), (61, .iload_n 2, 1), (62, .ireturn, 1), (63, .iinc 2 1, 3), (66, .goto (-30), 3), (69, .iconst (-1), 1), (70, .ireturn, 1)]
theorem dc_X7_check : ∀ q ∈ cd_X7_check, decode prog_1_method_32_code q.1 = .ok (q.2.1, q.2.2) := by decide +kernel
def ch_X7_check_0 : List (Nat × Instr × Nat) := [(0, .iload_n 1, 1), (1, .iconst 0, 1), (2, .bipush 20, 2), (4, .invokestatic 80, 3), (7, .ifCond .eq 16, 3), (10, .aload_n 0, 1), (11, .getfield 12, 3), (14, .getfield 137, 3), (17, .iconst 4, 1), (18, .iload_n 1, 1), (19, .imul, 1), (20, .if_icmp .ge 6, 3), (23, .bipush (-2), 2), (25, .ireturn, 1), (26, .aload_n 0, 1), (27, .getfield 12, 3)]
def ch_X7_check_1 : List (Nat × Instr × Nat) := [(30, .iconst 0, 1), (31, .putfield 137, 3), (34, .iconst 0, 1), (35, .istore_n 2, 1), (36, .iload_n 2, 1), (37, .iload_n 1, 1), (38, .if_icmp .ge 31, 3), (41, .aload_n 0, 1), (42, .getfield 12, 3), (45, .iload_n 2, 1), (46, .invokevirtual 298, 3), (49, .aload_n 0, 1), (50, .getfield 38, 3), (53, .getfield 84, 3), (56, .iload_n 2, 1), (57, .iaload, 1)]
def ch_X7_check_2 : List (Nat × Instr × Nat) := [(58, .if_icmp .eq 5, 3), (61, .iload_n 2, 1), (62, .ireturn, 1), (63, .iinc 2 1, 3), (66, .goto (-30), 3), (69, .iconst (-1), 1), (70, .ireturn, 1)]
set_option maxRecDepth 100000 in
theorem he_X7_check : cd_X7_check = ch_X7_check_0 ++ (ch_X7_check_1 ++ (ch_X7_check_2)) := rfl
noncomputable def gc_X7_check : Nat → Option (Nat × Instr × Nat) := rv_ap 16 (rv_at ch_X7_check_0) (rv_ap 16 (rv_at ch_X7_check_1) (rv_at ch_X7_check_2))
theorem hc_X7_check : ∀ i : Nat, cd_X7_check[i]? = gc_X7_check i := by
  rw [he_X7_check]
  exact rv_ap_eq (l := ch_X7_check_0) (c := 16) (rv_ap_eq (l := ch_X7_check_1) (c := 16) (rv_at_eq ch_X7_check_2) rfl) rfl
def K_X7_check_0 : rv_K := ([rv_r 0, rv_full], [], [(3, 1)], [(0, (-2), 19)], [], [])
def ct_X7_check_0 : List (Nat × rv_K) := [(3, K_X7_isWithin_20), (26, K_X6_numberAt_0)]
def n_X7_check_0_0 : List rv_N := [
  (0, ([rv_r 0, rv_full, rv_u], [], []), [1], 22562, [], []),
  (1, ([rv_r 0, rv_full, rv_u], [(1, 0, (-2147483648), 2147483647, [(.inl 1, 0)], [])], []), [2], 22561, [], []),
  (2, ([rv_r 0, rv_full, rv_u], [rv_i 0 0, (1, 0, (-2147483648), 2147483647, [(.inl 1, 0)], [])], []), [3], 22560, [], []),
  (3, ([rv_r 0, rv_full, rv_u], [rv_i 20 20, rv_i 0 0, (1, 0, (-2147483648), 2147483647, [(.inl 1, 0)], [])], []), [4], 22559, [], [0]),
  (4, ([rv_r 0, rv_full, rv_u], [(1, 0, 0, 1, [], [(.inl 1, 0, 20)])], []), [5, 12], 22558, [], []),
  (5, ([rv_r 0, rv_i 0 20, rv_u], [], []), [6], 22557, [], []),
  (6, ([rv_r 0, rv_i 0 20, rv_u], [rv_r 0], []), [7], 22556, [], []),
  (7, ([rv_r 0, rv_i 0 20, rv_u], [rv_r 3], []), [8], 22555, [], []),
  (8, ([rv_r 0, rv_i 0 20, rv_u], [(1, 0, (-2147483648), 2147483647, [(.inr (3, 1), 0)], [])], []), [9], 22554, [], []),
  (9, ([rv_r 0, rv_i 0 20, rv_u], [rv_i 4 4, (1, 0, (-2147483648), 2147483647, [(.inr (3, 1), 0)], [])], []), [10], 22553, [], []),
  (10, ([rv_r 0, rv_i 0 20, rv_u], [(1, 0, 0, 20, [(.inl 1, 0)], []), rv_i 4 4, (1, 0, (-2147483648), 2147483647, [(.inr (3, 1), 0)], [])], []), [11], 22552, [], []),
  (11, ([rv_r 0, rv_i 0 20, rv_u], [rv_i 0 80, (1, 0, (-2147483648), 2147483647, [(.inr (3, 1), 0)], [])], []), [12, 14], 22551, [], []),
  (12, ([rv_r 0, rv_full, rv_u], [], []), [13], 1, [], []),
  (13, ([rv_r 0, rv_full, rv_u], [rv_i (-2) (-2)], []), [], 0, [], []),
  (14, ([rv_r 0, rv_i 0 20, rv_u], [], [((3, 1), 0, 2147483647, [])]), [15], 22550, [], []),
  (15, ([rv_r 0, rv_i 0 20, rv_u], [rv_r 0], [((3, 1), 0, 2147483647, [])]), [16], 22549, [], [])]
def n_X7_check_0_1 : List rv_N := [
  (16, ([rv_r 0, rv_i 0 20, rv_u], [rv_r 3], [((3, 1), 0, 2147483647, [])]), [17], 22548, [], []),
  (17, ([rv_r 0, rv_i 0 20, rv_u], [rv_i 0 0, rv_r 3], [((3, 1), 0, 2147483647, [])]), [18], 22547, [], []),
  (18, ([rv_r 0, rv_i 0 20, rv_u], [], [((3, 1), 0, 0, [])]), [19], 22546, [], []),
  (19, ([rv_r 0, rv_i 0 20, rv_u], [rv_i 0 0], [((3, 1), 0, 0, [])]), [20], 22545, [], []),
  (20, ([rv_r 0, rv_i 0 20, rv_i 0 20], [], [((3, 1), 0, 0, [])]), [21], 22544, [(2, (-1127))], []),
  (21, ([rv_r 0, rv_i 0 20, rv_i 0 20], [(1, 0, 0, 20, [(.inl 2, 0)], [])], [((3, 1), 0, 0, [])]), [22], 22543, [(2, (-1127))], []),
  (22, ([rv_r 0, rv_i 0 20, rv_i 0 20], [(1, 0, 0, 20, [(.inl 1, 0)], []), (1, 0, 0, 20, [(.inl 2, 0)], [])], [((3, 1), 0, 0, [])]), [23, 37], 22542, [(2, (-1127))], []),
  (23, ([rv_r 0, rv_i 1 20, rv_i 0 19], [], [((3, 1), 0, 0, [])]), [24], 21429, [(2, (-1127))], []),
  (24, ([rv_r 0, rv_i 1 20, rv_i 0 19], [rv_r 0], [((3, 1), 0, 0, [])]), [25], 21428, [(2, (-1127))], []),
  (25, ([rv_r 0, rv_i 1 20, rv_i 0 19], [rv_r 3], [((3, 1), 0, 0, [])]), [26], 21427, [(2, (-1127))], []),
  (26, ([rv_r 0, rv_i 1 20, rv_i 0 19], [(1, 0, 0, 19, [(.inl 2, 0)], []), rv_r 3], [((3, 1), 0, 0, [])]), [27], 21426, [(2, (-1127))], [1]),
  (27, ([rv_r 0, rv_i 1 20, rv_i 0 19], [rv_full], [((3, 1), 0, 0, [])]), [28], 21425, [(2, (-1127))], []),
  (28, ([rv_r 0, rv_i 1 20, rv_i 0 19], [rv_r 0, rv_full], [((3, 1), 0, 0, [])]), [29], 21424, [(2, (-1127))], []),
  (29, ([rv_r 0, rv_i 1 20, rv_i 0 19], [rv_r 26, rv_full], [((3, 1), 0, 0, [])]), [30], 21423, [(2, (-1127))], []),
  (30, ([rv_r 0, rv_i 1 20, rv_i 0 19], [rv_r 27, rv_full], [((3, 1), 0, 0, [])]), [31], 21422, [(2, (-1127))], []),
  (31, ([rv_r 0, rv_i 1 20, rv_i 0 19], [(1, 0, 0, 19, [(.inl 2, 0)], []), rv_r 27, rv_full], [((3, 1), 0, 0, [])]), [32], 21421, [(2, (-1127))], [])]
def n_X7_check_0_2 : List rv_N := [
  (32, ([rv_r 0, rv_i 1 20, rv_i 0 19], [(1, 0, (-2147483648), 2147483647, [(.inr (27, 5002), 0)], []), rv_full], [((3, 1), 0, 0, [])]), [33, 35], 21420, [(2, (-1127))], []),
  (33, ([rv_r 0, rv_i 1 20, rv_i 0 19], [], [((3, 1), 0, 0, [])]), [34], 1, [], []),
  (34, ([rv_r 0, rv_i 1 20, rv_i 0 19], [(1, 0, 0, 19, [(.inl 2, 0)], [])], [((3, 1), 0, 0, [])]), [], 0, [], []),
  (35, ([rv_r 0, rv_i 1 20, rv_i 0 19], [], [((3, 1), 0, 0, [])]), [36], 21419, [(2, (-1127))], []),
  (36, ([rv_r 0, rv_i 1 20, rv_i 1 20], [], [((3, 1), 0, 0, [])]), [20], 22545, [(2, (-1127))], []),
  (37, ([rv_r 0, rv_i 0 20, rv_i 0 20], [], [((3, 1), 0, 0, [])]), [38], 1, [], []),
  (38, ([rv_r 0, rv_i 0 20, rv_i 0 20], [rv_i (-1) (-1)], [((3, 1), 0, 0, [])]), [], 0, [], [])]
def n_X7_check_0 : List rv_N := n_X7_check_0_0 ++ (n_X7_check_0_1 ++ (n_X7_check_0_2))
noncomputable def gn_X7_check_0 : Nat → Option rv_N := rv_ap 16 (rv_at n_X7_check_0_0) (rv_ap 16 (rv_at n_X7_check_0_1) (rv_at n_X7_check_0_2))
theorem hn_X7_check_0 : ∀ i : Nat, n_X7_check_0[i]? = gn_X7_check_0 i := rv_ap_eq (l := n_X7_check_0_0) (c := 16) (rv_ap_eq (l := n_X7_check_0_1) (c := 16) (rv_at_eq n_X7_check_0_2) rfl) rfl
set_option maxRecDepth 100000 in
theorem a_X7_check_0 : rv_all (fm_tm, flX7, fm_wr, kcX7, klX7, K_X7_check_0.2.2.1, [], 3) ct_X7_check_0 cd_X7_check n_X7_check_0 K_X7_check_0 [] 0 n_X7_check_0 = true := rv_fast hn_X7_check_0 hc_X7_check (by decide +kernel)
theorem m_X7_check_0 {l : Launch} {D : va_G} {ad : Nat → Nat} {cy : Nat → ClassId} {Z : State → Heap → Prop} {Gp : fm_V → Prop} (hAd : fm_Ad fm_tm ad) (hZ : fm_Zk (fm_A fm_tm ad) Z) (hGd : fm_Gd Gp) : rv_Met l D fm_cl fm_tm ad cy fm_nt Z Gp yX7_check (.code yX7_check prog_1_method_32_code 3 (some .int) :: fm_Ts) { frames := 2, cells := 0, slots := 0, locals := 200 } K_X7_check_0 := rv_met hAd hZ (Or.inl (by decide +kernel)) evX7 dc_X7_check a_X7_check_0 ⟨rfl, rfl, rfl⟩ (by decide +kernel) (by decide +kernel) (by decide) (fm_gm hGd (by decide +kernel)) (Or.inl rfl) (fun p e s m args below meth c Q X Y => List.forall_mem_cons.mpr ⟨rv_ctS X Y fm_Ts_good dc_X7_check (pc := 4) (i := 3) (idx := 80) rfl (m_X7_isWithin_20 hAd hZ hGd) wl_X7_80 wm_X7_isWithin wy_X7_isWithin (by decide) rfl, List.forall_mem_cons.mpr ⟨rv_ctV X Y fm_Ts_good dc_X7_check (pc := 46) (i := 26) (idx := 298) rfl (m_X6_numberAt_0 hAd hZ hGd) wl_X7_298 wm_X6_numberAt wy_X6_numberAt (by decide) ⟨rfl, rfl, rfl⟩ ⟨rfl, rfl⟩, fun _ h => absurd h List.not_mem_nil⟩⟩) (fun _ _ _ _ _ _ _ _ _ _ _ _ _ _ _ _ h => absurd h List.not_mem_nil)
def K_X7_isWithin_21 : rv_K := ([rv_full, rv_i 100 100, rv_i 199 199], [], [], [(0, 0, 1)], [(.inl 0, 100, 199)], [])
def ct_X7_isWithin_21 : List (Nat × rv_K) := []
def n_X7_isWithin_21 : List rv_N := [
  (0, ([rv_full, rv_i 100 100, rv_i 199 199], [], []), [1], 8, [], []),
  (1, ([rv_full, rv_i 100 100, rv_i 199 199], [(1, 0, (-2147483648), 2147483647, [(.inl 0, 0)], [])], []), [2], 7, [], []),
  (2, ([rv_full, rv_i 100 100, rv_i 199 199], [(1, 0, 100, 100, [(.inl 1, 0)], []), (1, 0, (-2147483648), 2147483647, [(.inl 0, 0)], [])], []), [3, 8], 6, [], []),
  (3, ([rv_i 100 2147483647, rv_i 100 100, rv_i 199 199], [], []), [4], 5, [], []),
  (4, ([rv_i 100 2147483647, rv_i 100 100, rv_i 199 199], [(1, 0, 100, 2147483647, [(.inl 0, 0)], [])], []), [5], 4, [], []),
  (5, ([rv_i 100 2147483647, rv_i 100 100, rv_i 199 199], [(1, 0, 199, 199, [(.inl 2, 0)], []), (1, 0, 100, 2147483647, [(.inl 0, 0)], [])], []), [6, 8], 3, [], []),
  (6, ([rv_i 100 199, rv_i 100 100, rv_i 199 199], [], []), [7], 2, [], []),
  (7, ([rv_i 100 199, rv_i 100 100, rv_i 199 199], [rv_i 1 1], []), [10], 1, [], []),
  (8, ([rv_full, rv_i 100 100, rv_i 199 199], [], []), [9], 1, [], []),
  (9, ([rv_full, rv_i 100 100, rv_i 199 199], [rv_i 0 0], []), [], 0, [], []),
  (9, ([rv_i 100 199, rv_i 100 100, rv_i 199 199], [rv_i 1 1], []), [], 0, [], [])]
set_option maxRecDepth 100000 in
theorem a_X7_isWithin_21 : rv_all (fm_tm, flX7, fm_wr, kcX7, klX7, K_X7_isWithin_21.2.2.1, [0, 1, 2], 3) ct_X7_isWithin_21 cd_X7_isWithin n_X7_isWithin_21 K_X7_isWithin_21 [] 0 n_X7_isWithin_21 = true := rv_fast (rv_at_eq n_X7_isWithin_21) (rv_at_eq cd_X7_isWithin) (by decide +kernel)
theorem m_X7_isWithin_21 {l : Launch} {D : va_G} {ad : Nat → Nat} {cy : Nat → ClassId} {Z : State → Heap → Prop} {Gp : fm_V → Prop} (hAd : fm_Ad fm_tm ad) (hZ : fm_Zk (fm_A fm_tm ad) Z) (hGd : fm_Gd Gp) : rv_Met l D fm_cl fm_tm ad cy fm_nt Z Gp yX7_isWithin (.code yX7_isWithin prog_1_method_34_code 3 (some .boolean) :: fm_Ts) { frames := 0, cells := 0, slots := 0, locals := 0 } K_X7_isWithin_21 := rv_met hAd hZ (Or.inl (by decide +kernel)) evX7 dc_X7_isWithin a_X7_isWithin_21 ⟨rfl, rfl, rfl⟩ (by decide +kernel) (by decide +kernel) (by decide) (fm_gm hGd (by decide +kernel)) (Or.inr ⟨rfl, by decide, by decide⟩) (fun p e s m args below meth c Q X Y => fun _ h => absurd h List.not_mem_nil) (fun _ _ _ _ _ _ _ _ _ _ _ _ _ _ _ _ h => absurd h List.not_mem_nil)
def cd_X0_sumDust : List (Nat × Instr × Nat) := [(0, .iconst 0, 1), (1, .istore_n 1, 1), (2, .iconst 0, 1), (3, .istore_n 2, 1), (4, .iload_n 2, 1), (5, .bipush 20, 2), (7, .if_icmp .ge 18, 3), (10, .iload_n 1, 1), (11, .aload_n 0, 1), (12, .getfield 9, 3), (15, .iload_n 2, 1), (16, .iaload, 1), (17, .iadd, 1), (18, .istore_n 1, 1), (19, .iinc 2 1, 3), (22, .goto (-18), 3), (25, .iload_n 1, 1), (26, .ireturn, 1)]
theorem dc_X0_sumDust : ∀ q ∈ cd_X0_sumDust, decode prog_2_method_4_code q.1 = .ok (q.2.1, q.2.2) := by decide +kernel
def K_X0_sumDust_0 : rv_K := ([rv_r 26], [], [], [(0, (-2147483648), 2147483647)], [], [])
def ct_X0_sumDust_0 : List (Nat × rv_K) := []
def n_X0_sumDust_0_0 : List rv_N := [
  (0, ([rv_r 26, rv_u, rv_u], [], []), [1], 12888, [], []),
  (1, ([rv_r 26, rv_u, rv_u], [rv_i 0 0], []), [2], 12887, [], []),
  (2, ([rv_r 26, rv_i 0 0, rv_u], [], []), [3], 12886, [], []),
  (3, ([rv_r 26, rv_i 0 0, rv_u], [rv_i 0 0], []), [4], 12885, [], []),
  (4, ([rv_r 26, rv_full, rv_i 0 20], [], []), [5], 12884, [(2, (-644))], []),
  (5, ([rv_r 26, rv_full, rv_i 0 20], [(1, 0, 0, 20, [(.inl 2, 0)], [])], []), [6], 12883, [(2, (-644))], []),
  (6, ([rv_r 26, rv_full, rv_i 0 20], [rv_i 20 20, (1, 0, 0, 20, [(.inl 2, 0)], [])], []), [7, 16], 12882, [(2, (-644))], []),
  (7, ([rv_r 26, rv_full, rv_i 0 19], [], []), [8], 12249, [(2, (-644))], []),
  (8, ([rv_r 26, rv_full, rv_i 0 19], [(1, 0, (-2147483648), 2147483647, [(.inl 1, 0)], [])], []), [9], 12248, [(2, (-644))], []),
  (9, ([rv_r 26, rv_full, rv_i 0 19], [rv_r 26, (1, 0, (-2147483648), 2147483647, [(.inl 1, 0)], [])], []), [10], 12247, [(2, (-644))], []),
  (10, ([rv_r 26, rv_full, rv_i 0 19], [rv_r 27, (1, 0, (-2147483648), 2147483647, [(.inl 1, 0)], [])], []), [11], 12246, [(2, (-644))], []),
  (11, ([rv_r 26, rv_full, rv_i 0 19], [(1, 0, 0, 19, [(.inl 2, 0)], []), rv_r 27, (1, 0, (-2147483648), 2147483647, [(.inl 1, 0)], [])], []), [12], 12245, [(2, (-644))], []),
  (12, ([rv_r 26, rv_full, rv_i 0 19], [(1, 0, (-2147483648), 2147483647, [(.inr (27, 5002), 0)], []), (1, 0, (-2147483648), 2147483647, [(.inl 1, 0)], [])], []), [13], 12244, [(2, (-644))], []),
  (13, ([rv_r 26, rv_full, rv_i 0 19], [rv_full], []), [14], 12243, [(2, (-644))], []),
  (14, ([rv_r 26, rv_full, rv_i 0 19], [], []), [15], 12242, [(2, (-644))], []),
  (15, ([rv_r 26, rv_full, rv_i 1 20], [], []), [4], 12885, [(2, (-644))], [])]
def n_X0_sumDust_0_1 : List rv_N := [
  (16, ([rv_r 26, rv_full, rv_i 20 20], [], []), [17], 1, [], []),
  (17, ([rv_r 26, rv_full, rv_i 20 20], [(1, 0, (-2147483648), 2147483647, [(.inl 1, 0)], [])], []), [], 0, [], [])]
def n_X0_sumDust_0 : List rv_N := n_X0_sumDust_0_0 ++ (n_X0_sumDust_0_1)
noncomputable def gn_X0_sumDust_0 : Nat → Option rv_N := rv_ap 16 (rv_at n_X0_sumDust_0_0) (rv_at n_X0_sumDust_0_1)
theorem hn_X0_sumDust_0 : ∀ i : Nat, n_X0_sumDust_0[i]? = gn_X0_sumDust_0 i := rv_ap_eq (l := n_X0_sumDust_0_0) (c := 16) (rv_at_eq n_X0_sumDust_0_1) rfl
set_option maxRecDepth 100000 in
theorem a_X0_sumDust_0 : rv_all (fm_tm, flX0, fm_wr, kcX0, klX0, K_X0_sumDust_0.2.2.1, [], 3) ct_X0_sumDust_0 cd_X0_sumDust n_X0_sumDust_0 K_X0_sumDust_0 [] 0 n_X0_sumDust_0 = true := rv_fast hn_X0_sumDust_0 (rv_at_eq cd_X0_sumDust) (by decide +kernel)
theorem m_X0_sumDust_0 {l : Launch} {D : va_G} {ad : Nat → Nat} {cy : Nat → ClassId} {Z : State → Heap → Prop} {Gp : fm_V → Prop} (hAd : fm_Ad fm_tm ad) (hZ : fm_Zk (fm_A fm_tm ad) Z) (hGd : fm_Gd Gp) : rv_Met l D fm_cl fm_tm ad cy fm_nt Z Gp yX0_sumDust (.code yX0_sumDust prog_2_method_4_code 3 (some .int) :: fm_Ts) { frames := 0, cells := 0, slots := 0, locals := 0 } K_X0_sumDust_0 := rv_met hAd hZ (Or.inl (by decide +kernel)) evX0 dc_X0_sumDust a_X0_sumDust_0 ⟨rfl, rfl, rfl⟩ (by decide +kernel) (by decide +kernel) (by decide) (fm_gm hGd (by decide +kernel)) (Or.inl rfl) (fun p e s m args below meth c Q X Y => fun _ h => absurd h List.not_mem_nil) (fun _ _ _ _ _ _ _ _ _ _ _ _ _ _ _ _ h => absurd h List.not_mem_nil)
def cd_X7_count : List (Nat × Instr × Nat) := [(0, .iload_n 1, 1), (1, .bipush 100, 2), (3, .sipush 199, 3), (6, .invokestatic 80, 3), (9, .ifCond .eq 16, 3), (12, .aload_n 0, 1), (13, .getfield 38, 3), (16, .getfield 93, 3), (19, .iload_n 1, 1), (20, .bipush 100, 2), (22, .isub, 1), (23, .iaload, 1), (24, .ireturn, 1), (25, .iload_n 1, 1), (26, .bipush 20, 2), (28, .isub, 1), (29, .invokestatic 124, 3), (32, .ifCond .eq 16, 3), (35, .aload_n 0, 1), (36, .getfield 38, 3), (39, .getfield 127, 3), (42, .iload_n 1, 1), (43, .bipush 20, 2), (45, .isub, 1), (46, .iaload, 1), (47, .ireturn, 1), (48, .iload_n 1, 1), (49, .bipush 10, 2), (51, .isub, 1), (52, .invokestatic 124, 3), (55, .ifCond .eq 16, 3), (58, .aload_n 0, 1), (59, .getfield 38, 3), (62, .getfield 172, 3), (65, .iload_n 1, 1), (66, .bipush 10, 2), (68, .isub, 1), (69, .iaload, 1), (70, .ireturn, 1), (71, .iload_n 1, 1), (72, .tableswitch 127 0 8 #[52, 60, 68, 76, 84, 92, 100, 108, 116], 52), (124, .aload_n 0, 1), (125, .getfield 38, 3), (128, .getfield 295, 3), (131, .ireturn, 1), (132, .aload_n 0, 1), (133, .getfield 22, 3), (136, .getfield 301, 3), (139, .ireturn, 1), (140, .aload_n 0, 1), (141, .getfield 12, 3), (144, .getfield 137, 3), (147, .ireturn, 1), (148, .aload_n 0, 1), (149, .getfield 38, 3), (152, .getfield 290, 3), (155, .ireturn, 1), (156, .aload_n 0, 1), (157, .getfield 38, 3), (160, .getfield 175, 3), (163, .ireturn, 1), (164, .aload_n 0, 1), (165, .getfield 38, 3), (168, .getfield 178, 3), (171, .ireturn, 1), (172, .aload_n 0, 1), (173, .getfield 38, 3), (176, .getfield 181, 3), (179, .ireturn, 1), (180, .aload_n 0, 1), (181, .getfield 38, 3), (184, .invokevirtual 304, 3), (187, .ireturn, 1), (188, .aload_n 0, 1), (189, .getfield 38, 3), (192, .getfield 99, 3), (195, .getfield 103, 3), (198, .ireturn, 1), (199, .iconst (-1), 1), (200, .ireturn, 1)]
theorem dc_X7_count : ∀ q ∈ cd_X7_count, decode prog_1_method_33_code q.1 = .ok (q.2.1, q.2.2) := by decide +kernel
def ch_X7_count_0 : List (Nat × Instr × Nat) := [(0, .iload_n 1, 1), (1, .bipush 100, 2), (3, .sipush 199, 3), (6, .invokestatic 80, 3), (9, .ifCond .eq 16, 3), (12, .aload_n 0, 1), (13, .getfield 38, 3), (16, .getfield 93, 3), (19, .iload_n 1, 1), (20, .bipush 100, 2), (22, .isub, 1), (23, .iaload, 1), (24, .ireturn, 1), (25, .iload_n 1, 1), (26, .bipush 20, 2), (28, .isub, 1)]
def ch_X7_count_1 : List (Nat × Instr × Nat) := [(29, .invokestatic 124, 3), (32, .ifCond .eq 16, 3), (35, .aload_n 0, 1), (36, .getfield 38, 3), (39, .getfield 127, 3), (42, .iload_n 1, 1), (43, .bipush 20, 2), (45, .isub, 1), (46, .iaload, 1), (47, .ireturn, 1), (48, .iload_n 1, 1), (49, .bipush 10, 2), (51, .isub, 1), (52, .invokestatic 124, 3), (55, .ifCond .eq 16, 3), (58, .aload_n 0, 1)]
def ch_X7_count_2 : List (Nat × Instr × Nat) := [(59, .getfield 38, 3), (62, .getfield 172, 3), (65, .iload_n 1, 1), (66, .bipush 10, 2), (68, .isub, 1), (69, .iaload, 1), (70, .ireturn, 1), (71, .iload_n 1, 1), (72, .tableswitch 127 0 8 #[52, 60, 68, 76, 84, 92, 100, 108, 116], 52), (124, .aload_n 0, 1), (125, .getfield 38, 3), (128, .getfield 295, 3), (131, .ireturn, 1), (132, .aload_n 0, 1), (133, .getfield 22, 3), (136, .getfield 301, 3)]
def ch_X7_count_3 : List (Nat × Instr × Nat) := [(139, .ireturn, 1), (140, .aload_n 0, 1), (141, .getfield 12, 3), (144, .getfield 137, 3), (147, .ireturn, 1), (148, .aload_n 0, 1), (149, .getfield 38, 3), (152, .getfield 290, 3), (155, .ireturn, 1), (156, .aload_n 0, 1), (157, .getfield 38, 3), (160, .getfield 175, 3), (163, .ireturn, 1), (164, .aload_n 0, 1), (165, .getfield 38, 3), (168, .getfield 178, 3)]
def ch_X7_count_4 : List (Nat × Instr × Nat) := [(171, .ireturn, 1), (172, .aload_n 0, 1), (173, .getfield 38, 3), (176, .getfield 181, 3), (179, .ireturn, 1), (180, .aload_n 0, 1), (181, .getfield 38, 3), (184, .invokevirtual 304, 3), (187, .ireturn, 1), (188, .aload_n 0, 1), (189, .getfield 38, 3), (192, .getfield 99, 3), (195, .getfield 103, 3), (198, .ireturn, 1), (199, .iconst (-1), 1), (200, .ireturn, 1)]
set_option maxRecDepth 100000 in
theorem he_X7_count : cd_X7_count = ch_X7_count_0 ++ (ch_X7_count_1 ++ (ch_X7_count_2 ++ (ch_X7_count_3 ++ (ch_X7_count_4)))) := rfl
noncomputable def gc_X7_count : Nat → Option (Nat × Instr × Nat) := rv_ap 16 (rv_at ch_X7_count_0) (rv_ap 16 (rv_at ch_X7_count_1) (rv_ap 16 (rv_at ch_X7_count_2) (rv_ap 16 (rv_at ch_X7_count_3) (rv_at ch_X7_count_4))))
theorem hc_X7_count : ∀ i : Nat, cd_X7_count[i]? = gc_X7_count i := by
  rw [he_X7_count]
  exact rv_ap_eq (l := ch_X7_count_0) (c := 16) (rv_ap_eq (l := ch_X7_count_1) (c := 16) (rv_ap_eq (l := ch_X7_count_2) (c := 16) (rv_ap_eq (l := ch_X7_count_3) (c := 16) (rv_at_eq ch_X7_count_4) rfl) rfl) rfl) rfl
def K_X7_count_0 : rv_K := ([rv_r 0, rv_full], [], [], [(0, (-2147483648), 2147483647)], [], [])
def ct_X7_count_0 : List (Nat × rv_K) := [(3, K_X7_isWithin_21), (16, K_X7_isBeggar_0), (29, K_X7_isBeggar_0), (71, K_X0_sumDust_0)]
def n_X7_count_0_0 : List rv_N := [
  (0, ([rv_r 0, rv_full], [], []), [1], 22, [], []),
  (1, ([rv_r 0, rv_full], [(1, 0, (-2147483648), 2147483647, [(.inl 1, 0)], [])], []), [2], 21, [], []),
  (2, ([rv_r 0, rv_full], [rv_i 100 100, (1, 0, (-2147483648), 2147483647, [(.inl 1, 0)], [])], []), [3], 20, [], []),
  (3, ([rv_r 0, rv_full], [rv_i 199 199, rv_i 100 100, (1, 0, (-2147483648), 2147483647, [(.inl 1, 0)], [])], []), [4], 19, [], [0]),
  (4, ([rv_r 0, rv_full], [(1, 0, 0, 1, [], [(.inl 1, 100, 199)])], []), [5, 13], 18, [], []),
  (5, ([rv_r 0, rv_i 100 199], [], []), [6], 7, [], []),
  (6, ([rv_r 0, rv_i 100 199], [rv_r 0], []), [7], 6, [], []),
  (7, ([rv_r 0, rv_i 100 199], [rv_r 26], []), [8], 5, [], []),
  (8, ([rv_r 0, rv_i 100 199], [rv_r 33], []), [9], 4, [], []),
  (9, ([rv_r 0, rv_i 100 199], [(1, 0, 100, 199, [(.inl 1, 0)], []), rv_r 33], []), [10], 3, [], []),
  (10, ([rv_r 0, rv_i 100 199], [rv_i 100 100, (1, 0, 100, 199, [(.inl 1, 0)], []), rv_r 33], []), [11], 2, [], []),
  (11, ([rv_r 0, rv_i 100 199], [(1, 0, 0, 99, [(.inl 1, (-100))], []), rv_r 33], []), [12], 1, [], []),
  (12, ([rv_r 0, rv_i 100 199], [rv_full], []), [], 0, [], []),
  (13, ([rv_r 0, rv_full], [], []), [14], 17, [], []),
  (14, ([rv_r 0, rv_full], [(1, 0, (-2147483648), 2147483647, [(.inl 1, 0)], [])], []), [15], 16, [], []),
  (15, ([rv_r 0, rv_full], [rv_i 20 20, (1, 0, (-2147483648), 2147483647, [(.inl 1, 0)], [])], []), [16], 15, [], [])]
def n_X7_count_0_1 : List rv_N := [
  (16, ([rv_r 0, rv_full], [(1, 0, (-2147483648), 2147483647, [(.inl 1, (-20))], [])], []), [17], 14, [], [1]),
  (17, ([rv_r 0, rv_full], [(1, 0, 0, 1, [], [(.inl 1, 20, 25)])], []), [18, 26], 13, [], []),
  (18, ([rv_r 0, rv_i 20 25], [], []), [19], 7, [], []),
  (19, ([rv_r 0, rv_i 20 25], [rv_r 0], []), [20], 6, [], []),
  (20, ([rv_r 0, rv_i 20 25], [rv_r 26], []), [21], 5, [], []),
  (21, ([rv_r 0, rv_i 20 25], [rv_r 31], []), [22], 4, [], []),
  (22, ([rv_r 0, rv_i 20 25], [(1, 0, 20, 25, [(.inl 1, 0)], []), rv_r 31], []), [23], 3, [], []),
  (23, ([rv_r 0, rv_i 20 25], [rv_i 20 20, (1, 0, 20, 25, [(.inl 1, 0)], []), rv_r 31], []), [24], 2, [], []),
  (24, ([rv_r 0, rv_i 20 25], [(1, 0, 0, 5, [(.inl 1, (-20))], []), rv_r 31], []), [25], 1, [], []),
  (25, ([rv_r 0, rv_i 20 25], [rv_full], []), [], 0, [], []),
  (26, ([rv_r 0, rv_full], [], []), [27], 12, [], []),
  (27, ([rv_r 0, rv_full], [(1, 0, (-2147483648), 2147483647, [(.inl 1, 0)], [])], []), [28], 11, [], []),
  (28, ([rv_r 0, rv_full], [rv_i 10 10, (1, 0, (-2147483648), 2147483647, [(.inl 1, 0)], [])], []), [29], 10, [], []),
  (29, ([rv_r 0, rv_full], [(1, 0, (-2147483648), 2147483647, [(.inl 1, (-10))], [])], []), [30], 9, [], [2]),
  (30, ([rv_r 0, rv_full], [(1, 0, 0, 1, [], [(.inl 1, 10, 15)])], []), [31, 39], 8, [], []),
  (31, ([rv_r 0, rv_i 10 15], [], []), [32], 7, [], [])]
def n_X7_count_0_2 : List rv_N := [
  (32, ([rv_r 0, rv_i 10 15], [rv_r 0], []), [33], 6, [], []),
  (33, ([rv_r 0, rv_i 10 15], [rv_r 26], []), [34], 5, [], []),
  (34, ([rv_r 0, rv_i 10 15], [rv_r 32], []), [35], 4, [], []),
  (35, ([rv_r 0, rv_i 10 15], [(1, 0, 10, 15, [(.inl 1, 0)], []), rv_r 32], []), [36], 3, [], []),
  (36, ([rv_r 0, rv_i 10 15], [rv_i 10 10, (1, 0, 10, 15, [(.inl 1, 0)], []), rv_r 32], []), [37], 2, [], []),
  (37, ([rv_r 0, rv_i 10 15], [(1, 0, 0, 5, [(.inl 1, (-10))], []), rv_r 32], []), [38], 1, [], []),
  (38, ([rv_r 0, rv_i 10 15], [rv_full], []), [], 0, [], []),
  (39, ([rv_r 0, rv_full], [], []), [40], 6, [], []),
  (40, ([rv_r 0, rv_full], [(1, 0, (-2147483648), 2147483647, [(.inl 1, 0)], [])], []), [41, 45, 49, 53, 57, 61, 65, 69, 73, 78], 5, [], []),
  (41, ([rv_r 0, rv_i 0 0], [], []), [42], 3, [], []),
  (42, ([rv_r 0, rv_i 0 0], [rv_r 0], []), [43], 2, [], []),
  (43, ([rv_r 0, rv_i 0 0], [rv_r 26], []), [44], 1, [], []),
  (44, ([rv_r 0, rv_i 0 0], [(1, 0, (-2147483648), 2147483647, [(.inr (26, 9), 0)], [])], []), [], 0, [], []),
  (45, ([rv_r 0, rv_i 1 1], [], []), [46], 3, [], []),
  (46, ([rv_r 0, rv_i 1 1], [rv_r 0], []), [47], 2, [], []),
  (47, ([rv_r 0, rv_i 1 1], [rv_r 7], []), [48], 1, [], [])]
def n_X7_count_0_3 : List rv_N := [
  (48, ([rv_r 0, rv_i 1 1], [(1, 0, (-2147483648), 2147483647, [(.inr (7, 7), 0)], [])], []), [], 0, [], []),
  (49, ([rv_r 0, rv_i 2 2], [], []), [50], 3, [], []),
  (50, ([rv_r 0, rv_i 2 2], [rv_r 0], []), [51], 2, [], []),
  (51, ([rv_r 0, rv_i 2 2], [rv_r 3], []), [52], 1, [], []),
  (52, ([rv_r 0, rv_i 2 2], [(1, 0, (-2147483648), 2147483647, [(.inr (3, 1), 0)], [])], []), [], 0, [], []),
  (53, ([rv_r 0, rv_i 3 3], [], []), [54], 3, [], []),
  (54, ([rv_r 0, rv_i 3 3], [rv_r 0], []), [55], 2, [], []),
  (55, ([rv_r 0, rv_i 3 3], [rv_r 26], []), [56], 1, [], []),
  (56, ([rv_r 0, rv_i 3 3], [(1, 0, (-2147483648), 2147483647, [(.inr (26, 10), 0)], [])], []), [], 0, [], []),
  (57, ([rv_r 0, rv_i 4 4], [], []), [58], 3, [], []),
  (58, ([rv_r 0, rv_i 4 4], [rv_r 0], []), [59], 2, [], []),
  (59, ([rv_r 0, rv_i 4 4], [rv_r 26], []), [60], 1, [], []),
  (60, ([rv_r 0, rv_i 4 4], [(1, 0, (-2147483648), 2147483647, [(.inr (26, 11), 0)], [])], []), [], 0, [], []),
  (61, ([rv_r 0, rv_i 5 5], [], []), [62], 3, [], []),
  (62, ([rv_r 0, rv_i 5 5], [rv_r 0], []), [63], 2, [], []),
  (63, ([rv_r 0, rv_i 5 5], [rv_r 26], []), [64], 1, [], [])]
def n_X7_count_0_4 : List rv_N := [
  (64, ([rv_r 0, rv_i 5 5], [(1, 0, (-2147483648), 2147483647, [(.inr (26, 12), 0)], [])], []), [], 0, [], []),
  (65, ([rv_r 0, rv_i 6 6], [], []), [66], 3, [], []),
  (66, ([rv_r 0, rv_i 6 6], [rv_r 0], []), [67], 2, [], []),
  (67, ([rv_r 0, rv_i 6 6], [rv_r 26], []), [68], 1, [], []),
  (68, ([rv_r 0, rv_i 6 6], [(1, 0, (-2147483648), 2147483647, [(.inr (26, 13), 0)], [])], []), [], 0, [], []),
  (69, ([rv_r 0, rv_i 7 7], [], []), [70], 3, [], []),
  (70, ([rv_r 0, rv_i 7 7], [rv_r 0], []), [71], 2, [], []),
  (71, ([rv_r 0, rv_i 7 7], [rv_r 26], []), [72], 1, [], [3]),
  (72, ([rv_r 0, rv_i 7 7], [rv_full], []), [], 0, [], []),
  (73, ([rv_r 0, rv_i 8 8], [], []), [74], 4, [], []),
  (74, ([rv_r 0, rv_i 8 8], [rv_r 0], []), [75], 3, [], []),
  (75, ([rv_r 0, rv_i 8 8], [rv_r 26], []), [76], 2, [], []),
  (76, ([rv_r 0, rv_i 8 8], [rv_r 36], []), [77], 1, [], []),
  (77, ([rv_r 0, rv_i 8 8], [(1, 0, (-2147483648), 2147483647, [(.inr (36, 0), 0)], [])], []), [], 0, [], []),
  (78, ([rv_r 0, rv_full], [], []), [79], 1, [], []),
  (79, ([rv_r 0, rv_full], [rv_i (-1) (-1)], []), [], 0, [], [])]
def n_X7_count_0 : List rv_N := n_X7_count_0_0 ++ (n_X7_count_0_1 ++ (n_X7_count_0_2 ++ (n_X7_count_0_3 ++ (n_X7_count_0_4))))
noncomputable def gn_X7_count_0 : Nat → Option rv_N := rv_ap 16 (rv_at n_X7_count_0_0) (rv_ap 16 (rv_at n_X7_count_0_1) (rv_ap 16 (rv_at n_X7_count_0_2) (rv_ap 16 (rv_at n_X7_count_0_3) (rv_at n_X7_count_0_4))))
theorem hn_X7_count_0 : ∀ i : Nat, n_X7_count_0[i]? = gn_X7_count_0 i := rv_ap_eq (l := n_X7_count_0_0) (c := 16) (rv_ap_eq (l := n_X7_count_0_1) (c := 16) (rv_ap_eq (l := n_X7_count_0_2) (c := 16) (rv_ap_eq (l := n_X7_count_0_3) (c := 16) (rv_at_eq n_X7_count_0_4) rfl) rfl) rfl) rfl
set_option maxRecDepth 100000 in
theorem a_X7_count_0 : rv_all (fm_tm, flX7, fm_wr, kcX7, klX7, K_X7_count_0.2.2.1, [], 2) ct_X7_count_0 cd_X7_count n_X7_count_0 K_X7_count_0 [] 0 n_X7_count_0 = true := rv_fast hn_X7_count_0 hc_X7_count (by decide +kernel)
theorem m_X7_count_0 {l : Launch} {D : va_G} {ad : Nat → Nat} {cy : Nat → ClassId} {Z : State → Heap → Prop} {Gp : fm_V → Prop} (hAd : fm_Ad fm_tm ad) (hZ : fm_Zk (fm_A fm_tm ad) Z) (hGd : fm_Gd Gp) : rv_Met l D fm_cl fm_tm ad cy fm_nt Z Gp yX7_count (.code yX7_count prog_1_method_33_code 2 (some .int) :: fm_Ts) { frames := 1, cells := 0, slots := 0, locals := 100 } K_X7_count_0 := rv_met hAd hZ (Or.inl (by decide +kernel)) evX7 dc_X7_count a_X7_count_0 ⟨rfl, rfl, rfl⟩ (by decide +kernel) (by decide +kernel) (by decide) (fm_gm hGd (by decide +kernel)) (Or.inl rfl) (fun p e s m args below meth c Q X Y => List.forall_mem_cons.mpr ⟨rv_ctS X Y fm_Ts_good dc_X7_count (pc := 6) (i := 3) (idx := 80) rfl (m_X7_isWithin_21 hAd hZ hGd) wl_X7_80 wm_X7_isWithin wy_X7_isWithin (by decide) rfl, List.forall_mem_cons.mpr ⟨rv_ctS X Y fm_Ts_good dc_X7_count (pc := 29) (i := 16) (idx := 124) rfl (m_X7_isBeggar_0 hAd hZ hGd) wl_X7_124 wm_X7_isBeggar wy_X7_isBeggar (by decide) rfl, List.forall_mem_cons.mpr ⟨rv_ctS X Y fm_Ts_good dc_X7_count (pc := 52) (i := 29) (idx := 124) rfl (m_X7_isBeggar_0 hAd hZ hGd) wl_X7_124 wm_X7_isBeggar wy_X7_isBeggar (by decide) rfl, List.forall_mem_cons.mpr ⟨rv_ctV X Y fm_Ts_good dc_X7_count (pc := 184) (i := 71) (idx := 304) rfl (m_X0_sumDust_0 hAd hZ hGd) wl_X7_304 wm_X0_sumDust wy_X0_sumDust (by decide) ⟨rfl, rfl, rfl⟩ ⟨rfl, rfl⟩, fun _ h => absurd h List.not_mem_nil⟩⟩⟩⟩) (fun _ _ _ _ _ _ _ _ _ _ _ _ _ _ _ _ h => absurd h List.not_mem_nil)
