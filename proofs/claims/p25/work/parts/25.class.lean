def cd_X5_whoseFor : List (Nat × Instr × Nat) := [(0, .iconst 0, 1), (1, .istore_n 2, 1), (2, .iload_n 2, 1), (3, .aload_n 0, 1), (4, .getfield 21, 3), (7, .if_icmp .ge 32, 3), (10, .iload_n 2, 1), (11, .bipush 6, 2), (13, .if_icmp .ge 26, 3), (16, .aload_n 0, 1), (17, .getfield 9, 3), (20, .iload_n 2, 1), (21, .iaload, 1), (22, .iload_n 1, 1), (23, .if_icmp .ne 10, 3), (26, .aload_n 0, 1), (27, .getfield 18, 3), (30, .iload_n 2, 1), (31, .iaload, 1), (32, .ireturn, 1), (33, .iinc 2 1, 3), (36, .goto (-34), 3), (39, .iconst (-1), 1), (40, .ireturn, 1)]
theorem dc_X5_whoseFor : ∀ q ∈ cd_X5_whoseFor, decode prog_7_method_6_code q.1 = .ok (q.2.1, q.2.2) := by decide +kernel
def K_X5_whoseFor_0 : rv_K := ([rv_r 76, rv_full], [], [], [(0, (-2147483648), 2147483647)], [], [])
def ct_X5_whoseFor_0 : List (Nat × rv_K) := []
def n_X5_whoseFor_0_0 : List rv_N := [
  (0, ([rv_r 76, rv_full, rv_u], [], []), [1], 1843, [], []),
  (1, ([rv_r 76, rv_full, rv_u], [rv_i 0 0], []), [2], 1842, [], []),
  (2, ([rv_r 76, rv_full, rv_i 0 6], [], []), [3], 1841, [(2, (-306))], []),
  (3, ([rv_r 76, rv_full, rv_i 0 6], [(1, 0, 0, 6, [(.inl 2, 0)], [])], []), [4], 1840, [(2, (-306))], []),
  (4, ([rv_r 76, rv_full, rv_i 0 6], [rv_r 76, (1, 0, 0, 6, [(.inl 2, 0)], [])], []), [5], 1839, [(2, (-306))], []),
  (5, ([rv_r 76, rv_full, rv_i 0 6], [(1, 0, 0, 6, [(.inr (76, 3), 0)], []), (1, 0, 0, 6, [(.inl 2, 0)], [])], []), [6, 22], 1838, [(2, (-306))], []),
  (6, ([rv_r 76, rv_full, rv_i 0 5], [], [((76, 3), 1, 6, [])]), [7], 1546, [(2, (-306))], []),
  (7, ([rv_r 76, rv_full, rv_i 0 5], [(1, 0, 0, 5, [(.inl 2, 0)], [])], [((76, 3), 1, 6, [])]), [8], 1545, [(2, (-306))], []),
  (8, ([rv_r 76, rv_full, rv_i 0 5], [rv_i 6 6, (1, 0, 0, 5, [(.inl 2, 0)], [])], [((76, 3), 1, 6, [])]), [9], 1544, [(2, (-306))], []),
  (9, ([rv_r 76, rv_full, rv_i 0 5], [], [((76, 3), 1, 6, [])]), [10], 1543, [(2, (-306))], []),
  (10, ([rv_r 76, rv_full, rv_i 0 5], [rv_r 76], [((76, 3), 1, 6, [])]), [11], 1542, [(2, (-306))], []),
  (11, ([rv_r 76, rv_full, rv_i 0 5], [rv_r 77], [((76, 3), 1, 6, [])]), [12], 1541, [(2, (-306))], []),
  (12, ([rv_r 76, rv_full, rv_i 0 5], [(1, 0, 0, 5, [(.inl 2, 0)], []), rv_r 77], [((76, 3), 1, 6, [])]), [13], 1540, [(2, (-306))], []),
  (13, ([rv_r 76, rv_full, rv_i 0 5], [(1, 0, (-2147483648), 2147483647, [(.inr (77, 5002), 0)], [])], [((76, 3), 1, 6, [])]), [14], 1539, [(2, (-306))], []),
  (14, ([rv_r 76, rv_full, rv_i 0 5], [(1, 0, (-2147483648), 2147483647, [(.inl 1, 0)], []), (1, 0, (-2147483648), 2147483647, [(.inr (77, 5002), 0)], [])], [((76, 3), 1, 6, [])]), [15, 20], 1538, [(2, (-306))], []),
  (15, ([rv_r 76, rv_full, rv_i 0 5], [], [((76, 3), 1, 6, [])]), [16], 4, [], [])]
def n_X5_whoseFor_0_1 : List rv_N := [
  (16, ([rv_r 76, rv_full, rv_i 0 5], [rv_r 76], [((76, 3), 1, 6, [])]), [17], 3, [], []),
  (17, ([rv_r 76, rv_full, rv_i 0 5], [rv_r 79], [((76, 3), 1, 6, [])]), [18], 2, [], []),
  (18, ([rv_r 76, rv_full, rv_i 0 5], [(1, 0, 0, 5, [(.inl 2, 0)], []), rv_r 79], [((76, 3), 1, 6, [])]), [19], 1, [], []),
  (19, ([rv_r 76, rv_full, rv_i 0 5], [(1, 0, (-2147483648), 2147483647, [(.inr (79, 5002), 0)], [])], [((76, 3), 1, 6, [])]), [], 0, [], []),
  (20, ([rv_r 76, rv_full, rv_i 0 5], [], [((76, 3), 1, 6, [])]), [21], 1537, [(2, (-306))], []),
  (21, ([rv_r 76, rv_full, rv_i 1 6], [], [((76, 3), 1, 6, [])]), [2], 1842, [(2, (-306))], []),
  (22, ([rv_r 76, rv_full, rv_i 0 6], [], []), [23], 1, [], []),
  (23, ([rv_r 76, rv_full, rv_i 0 6], [rv_i (-1) (-1)], []), [], 0, [], [])]
def n_X5_whoseFor_0 : List rv_N := n_X5_whoseFor_0_0 ++ (n_X5_whoseFor_0_1)
noncomputable def gn_X5_whoseFor_0 : Nat → Option rv_N := rv_ap 16 (rv_at n_X5_whoseFor_0_0) (rv_at n_X5_whoseFor_0_1)
theorem hn_X5_whoseFor_0 : ∀ i : Nat, n_X5_whoseFor_0[i]? = gn_X5_whoseFor_0 i := rv_ap_eq (l := n_X5_whoseFor_0_0) (c := 16) (rv_at_eq n_X5_whoseFor_0_1) rfl
set_option maxRecDepth 100000 in
theorem a_X5_whoseFor_0 : rv_all (fm_tm, flX5, fm_wr, kcX5, klX5, K_X5_whoseFor_0.2.2.1, [], 3) ct_X5_whoseFor_0 cd_X5_whoseFor n_X5_whoseFor_0 K_X5_whoseFor_0 [] 0 n_X5_whoseFor_0 = true := rv_fast hn_X5_whoseFor_0 (rv_at_eq cd_X5_whoseFor) (by decide +kernel)
theorem m_X5_whoseFor_0 {l : Launch} {D : va_G} {ad : Nat → Nat} {cy : Nat → ClassId} {Z : State → Heap → Prop} {Gp : fm_V → Prop} (hAd : fm_Ad fm_tm ad) (hZ : fm_Zk (fm_A fm_tm ad) Z) (hGd : fm_Gd Gp) : rv_Met l D fm_cl fm_tm ad cy fm_nt Z Gp yX5_whoseFor (.code yX5_whoseFor prog_7_method_6_code 3 (some .int) :: fm_Ts) { frames := 0, cells := 0, slots := 0, locals := 0 } K_X5_whoseFor_0 := rv_met hAd hZ (Or.inl (by decide +kernel)) evX5 dc_X5_whoseFor a_X5_whoseFor_0 ⟨rfl, rfl, rfl⟩ (by decide +kernel) (by decide +kernel) (by decide) (fm_gm hGd (by decide +kernel)) (Or.inl rfl) (fun p e s m args below meth c Q X Y => fun _ h => absurd h List.not_mem_nil) (fun _ _ _ _ _ _ _ _ _ _ _ _ _ _ _ _ h => absurd h List.not_mem_nil)
def K_X5_handOutBy_1 : rv_K := ([rv_r 76, rv_r 79, rv_r 66, rv_r 36], [], [(38, 9999)], [], [], [])
def ct_X5_handOutBy_1 : List (Nat × rv_K) := [(13, K_X7_isPorter_0), (18, K_X7_isPorter_0)]
def n_X5_handOutBy_1_0 : List rv_N := [
  (0, ([rv_r 76, rv_r 79, rv_r 66, rv_r 36, rv_u], [], []), [1], 2490, [], []),
  (1, ([rv_r 76, rv_r 79, rv_r 66, rv_r 36, rv_u], [rv_i 0 0], []), [2], 2489, [], []),
  (2, ([rv_r 76, rv_r 79, rv_r 66, rv_r 36, rv_i 0 6], [], []), [3], 2488, [(4, (-414))], []),
  (3, ([rv_r 76, rv_r 79, rv_r 66, rv_r 36, rv_i 0 6], [(1, 0, 0, 6, [(.inl 4, 0)], [])], []), [4], 2487, [(4, (-414))], []),
  (4, ([rv_r 76, rv_r 79, rv_r 66, rv_r 36, rv_i 0 6], [rv_r 76, (1, 0, 0, 6, [(.inl 4, 0)], [])], []), [5], 2486, [(4, (-414))], []),
  (5, ([rv_r 76, rv_r 79, rv_r 66, rv_r 36, rv_i 0 6], [(1, 0, 0, 6, [(.inr (76, 3), 0)], []), (1, 0, 0, 6, [(.inl 4, 0)], [])], []), [6, 35], 2485, [(4, (-414))], []),
  (6, ([rv_r 76, rv_r 79, rv_r 66, rv_r 36, rv_i 0 5], [], [((76, 3), 1, 6, [])]), [7], 2103, [(4, (-414))], []),
  (7, ([rv_r 76, rv_r 79, rv_r 66, rv_r 36, rv_i 0 5], [(1, 0, 0, 5, [(.inl 4, 0)], [])], [((76, 3), 1, 6, [])]), [8], 2102, [(4, (-414))], []),
  (8, ([rv_r 76, rv_r 79, rv_r 66, rv_r 36, rv_i 0 5], [rv_i 6 6, (1, 0, 0, 5, [(.inl 4, 0)], [])], [((76, 3), 1, 6, [])]), [9], 2101, [(4, (-414))], []),
  (9, ([rv_r 76, rv_r 79, rv_r 66, rv_r 36, rv_i 0 5], [], [((76, 3), 1, 6, [])]), [10], 2100, [(4, (-414))], []),
  (10, ([rv_r 76, rv_r 79, rv_r 66, rv_r 36, rv_i 0 5], [rv_r 76], [((76, 3), 1, 6, [])]), [11], 2099, [(4, (-414))], []),
  (11, ([rv_r 76, rv_r 79, rv_r 66, rv_r 36, rv_i 0 5], [rv_r 77], [((76, 3), 1, 6, [])]), [12], 2098, [(4, (-414))], []),
  (12, ([rv_r 76, rv_r 79, rv_r 66, rv_r 36, rv_i 0 5], [(1, 0, 0, 5, [(.inl 4, 0)], []), rv_r 77], [((76, 3), 1, 6, [])]), [13], 2097, [(4, (-414))], []),
  (13, ([rv_r 76, rv_r 79, rv_r 66, rv_r 36, rv_i 0 5], [(1, 0, (-2147483648), 2147483647, [(.inr (77, 5004), 0)], [])], [((76, 3), 1, 6, [])]), [14], 2096, [(4, (-414))], [0]),
  (14, ([rv_r 76, rv_r 79, rv_r 66, rv_r 36, rv_i 0 5], [(1, 0, 0, 1, [], [(.inr (77, 5004), 0, 8)])], [((76, 3), 1, 6, [])]), [15, 33], 2095, [(4, (-414))], []),
  (15, ([rv_r 76, rv_r 79, rv_r 66, rv_r 36, rv_i 0 5], [], [((76, 3), 1, 6, []), ((77, 5004), 0, 8, [])]), [16], 2094, [(4, (-414))], [])]
def n_X5_handOutBy_1_1 : List rv_N := [
  (16, ([rv_r 76, rv_r 79, rv_r 66, rv_r 36, rv_i 0 5], [rv_r 79], [((76, 3), 1, 6, []), ((77, 5004), 0, 8, [])]), [17], 2093, [(4, (-414))], []),
  (17, ([rv_r 76, rv_r 79, rv_r 66, rv_r 36, rv_i 0 5], [(1, 0, 0, 5, [(.inl 4, 0)], []), rv_r 79], [((76, 3), 1, 6, []), ((77, 5004), 0, 8, [])]), [18], 2092, [(4, (-414))], []),
  (18, ([rv_r 76, rv_r 79, rv_r 66, rv_r 36, rv_i 0 5], [(1, 0, (-2147483648), 2147483647, [(.inr (79, 5004), 0)], [])], [((76, 3), 1, 6, []), ((77, 5004), 0, 8, [])]), [19], 2091, [(4, (-414))], [1]),
  (19, ([rv_r 76, rv_r 79, rv_r 66, rv_r 36, rv_i 0 5], [(1, 0, 0, 1, [], [(.inr (79, 5004), 0, 8)])], [((76, 3), 1, 6, []), ((77, 5004), 0, 8, [])]), [20, 33], 2090, [(4, (-414))], []),
  (20, ([rv_r 76, rv_r 79, rv_r 66, rv_r 36, rv_i 0 5], [], [((76, 3), 1, 6, []), ((77, 5004), 0, 8, []), ((79, 5004), 0, 8, [])]), [21], 2089, [(4, (-414))], []),
  (21, ([rv_r 76, rv_r 79, rv_r 66, rv_r 36, rv_i 0 5], [rv_r 36], [((76, 3), 1, 6, []), ((77, 5004), 0, 8, []), ((79, 5004), 0, 8, [])]), [22], 2088, [(4, (-414))], []),
  (22, ([rv_r 76, rv_r 79, rv_r 66, rv_r 36, rv_i 0 5], [rv_r 38], [((76, 3), 1, 6, []), ((77, 5004), 0, 8, []), ((79, 5004), 0, 8, [])]), [23], 2087, [(4, (-414))], []),
  (23, ([rv_r 76, rv_r 79, rv_r 66, rv_r 36, rv_i 0 5], [rv_r 76, rv_r 38], [((76, 3), 1, 6, []), ((77, 5004), 0, 8, []), ((79, 5004), 0, 8, [])]), [24], 2086, [(4, (-414))], []),
  (24, ([rv_r 76, rv_r 79, rv_r 66, rv_r 36, rv_i 0 5], [rv_r 77, rv_r 38], [((76, 3), 1, 6, []), ((77, 5004), 0, 8, []), ((79, 5004), 0, 8, [])]), [25], 2085, [(4, (-414))], []),
  (25, ([rv_r 76, rv_r 79, rv_r 66, rv_r 36, rv_i 0 5], [(1, 0, 0, 5, [(.inl 4, 0)], []), rv_r 77, rv_r 38], [((76, 3), 1, 6, []), ((77, 5004), 0, 8, []), ((79, 5004), 0, 8, [])]), [26], 2084, [(4, (-414))], []),
  (26, ([rv_r 76, rv_r 79, rv_r 66, rv_r 36, rv_i 0 5], [(1, 0, 0, 8, [(.inr (77, 5004), 0)], []), rv_r 38], [((76, 3), 1, 6, []), ((77, 5004), 0, 8, []), ((79, 5004), 0, 8, [])]), [27], 2083, [(4, (-414))], []),
  (27, ([rv_r 76, rv_r 79, rv_r 66, rv_r 36, rv_i 0 5], [rv_r 66, (1, 0, 0, 8, [(.inr (77, 5004), 0)], []), rv_r 38], [((76, 3), 1, 6, []), ((77, 5004), 0, 8, []), ((79, 5004), 0, 8, [])]), [28], 2082, [(4, (-414))], []),
  (28, ([rv_r 76, rv_r 79, rv_r 66, rv_r 36, rv_i 0 5], [rv_r 68, (1, 0, 0, 8, [(.inr (77, 5004), 0)], []), rv_r 38], [((76, 3), 1, 6, []), ((77, 5004), 0, 8, []), ((79, 5004), 0, 8, [])]), [29], 2081, [(4, (-414))], []),
  (29, ([rv_r 76, rv_r 79, rv_r 66, rv_r 36, rv_i 0 5], [rv_r 79, rv_r 68, (1, 0, 0, 8, [(.inr (77, 5004), 0)], []), rv_r 38], [((76, 3), 1, 6, []), ((77, 5004), 0, 8, []), ((79, 5004), 0, 8, [])]), [30], 2080, [(4, (-414))], []),
  (30, ([rv_r 76, rv_r 79, rv_r 66, rv_r 36, rv_i 0 5], [(1, 0, 0, 5, [(.inl 4, 0)], []), rv_r 79, rv_r 68, (1, 0, 0, 8, [(.inr (77, 5004), 0)], []), rv_r 38], [((76, 3), 1, 6, []), ((77, 5004), 0, 8, []), ((79, 5004), 0, 8, [])]), [31], 2079, [(4, (-414))], []),
  (31, ([rv_r 76, rv_r 79, rv_r 66, rv_r 36, rv_i 0 5], [(1, 0, 0, 8, [(.inr (79, 5004), 0)], []), rv_r 68, (1, 0, 0, 8, [(.inr (77, 5004), 0)], []), rv_r 38], [((76, 3), 1, 6, []), ((77, 5004), 0, 8, []), ((79, 5004), 0, 8, [])]), [32], 2078, [(4, (-414))], [])]
def n_X5_handOutBy_1_2 : List rv_N := [
  (32, ([rv_r 76, rv_r 79, rv_r 66, rv_r 36, rv_i 0 5], [rv_full, (1, 0, 0, 8, [(.inr (77, 5004), 0)], []), rv_r 38], [((76, 3), 1, 6, []), ((77, 5004), 0, 8, []), ((79, 5004), 0, 8, [])]), [33], 2077, [(4, (-414))], []),
  (33, ([rv_r 76, rv_r 79, rv_r 66, rv_r 36, rv_i 0 5], [], [((76, 3), 1, 6, [])]), [34], 2076, [(4, (-414))], []),
  (34, ([rv_r 76, rv_r 79, rv_r 66, rv_r 36, rv_i 1 6], [], [((76, 3), 1, 6, [])]), [2], 2489, [(4, (-414))], []),
  (35, ([rv_r 76, rv_r 79, rv_r 66, rv_r 36, rv_i 0 6], [], []), [], 0, [], [])]
def n_X5_handOutBy_1 : List rv_N := n_X5_handOutBy_1_0 ++ (n_X5_handOutBy_1_1 ++ (n_X5_handOutBy_1_2))
noncomputable def gn_X5_handOutBy_1 : Nat → Option rv_N := rv_ap 16 (rv_at n_X5_handOutBy_1_0) (rv_ap 16 (rv_at n_X5_handOutBy_1_1) (rv_at n_X5_handOutBy_1_2))
theorem hn_X5_handOutBy_1 : ∀ i : Nat, n_X5_handOutBy_1[i]? = gn_X5_handOutBy_1 i := rv_ap_eq (l := n_X5_handOutBy_1_0) (c := 16) (rv_ap_eq (l := n_X5_handOutBy_1_1) (c := 16) (rv_at_eq n_X5_handOutBy_1_2) rfl) rfl
set_option maxRecDepth 100000 in
theorem a_X5_handOutBy_1 : rv_all (fm_tm, flX5, fm_wr, kcX5, klX5, K_X5_handOutBy_1.2.2.1, [], 5) ct_X5_handOutBy_1 cd_X5_handOutBy n_X5_handOutBy_1 K_X5_handOutBy_1 [] 0 n_X5_handOutBy_1 = true := rv_fast hn_X5_handOutBy_1 hc_X5_handOutBy (by decide +kernel)
theorem m_X5_handOutBy_1 {l : Launch} {D : va_G} {ad : Nat → Nat} {cy : Nat → ClassId} {Z : State → Heap → Prop} {Gp : fm_V → Prop} (hAd : fm_Ad fm_tm ad) (hZ : fm_Zk (fm_A fm_tm ad) Z) (hGd : fm_Gd Gp) : rv_Met l D fm_cl fm_tm ad cy fm_nt Z Gp yX5_handOutBy (.code yX5_handOutBy prog_7_method_9_code 5 none :: fm_Ts) { frames := 1, cells := 0, slots := 0, locals := 100 } K_X5_handOutBy_1 := rv_met hAd hZ (Or.inl (by decide +kernel)) evX5 dc_X5_handOutBy a_X5_handOutBy_1 ⟨rfl, rfl, rfl⟩ (by decide +kernel) (by decide +kernel) (by decide) (fm_gm hGd (by decide +kernel)) (rfl) (fun p e s m args below meth c Q X Y => List.forall_mem_cons.mpr ⟨rv_ctN X Y fm_Ts_good dc_X5_handOutBy (pc := 26) (i := 13) (idx := 39) rfl (m_X7_isPorter_0 hAd hZ hGd) wl_X5_39 wm_X7_isPorter wy_X7_isPorter (by decide) rfl, List.forall_mem_cons.mpr ⟨rv_ctN X Y fm_Ts_good dc_X5_handOutBy (pc := 36) (i := 18) (idx := 39) rfl (m_X7_isPorter_0 hAd hZ hGd) wl_X5_39 wm_X7_isPorter wy_X7_isPorter (by decide) rfl, fun _ h => absurd h List.not_mem_nil⟩⟩) (fun _ _ _ _ _ _ _ _ _ _ _ _ _ _ _ _ h => absurd h List.not_mem_nil)
def cd_X5_handOutBest : List (Nat × Instr × Nat) := [(0, .aload_n 0, 1), (1, .aload_n 0, 1), (2, .getfield 18, 3), (5, .aload_n 1, 1), (6, .aload_n 2, 1), (7, .invokevirtual 35, 3), (10, .return_, 1)]
theorem dc_X5_handOutBest : ∀ q ∈ cd_X5_handOutBest, decode prog_7_method_8_code q.1 = .ok (q.2.1, q.2.2) := by decide +kernel
def K_X5_handOutBest_0 : rv_K := ([rv_r 76, rv_r 66, rv_r 36], [], [(38, 9999)], [], [], [])
def ct_X5_handOutBest_0 : List (Nat × rv_K) := [(5, K_X5_handOutBy_1)]
def n_X5_handOutBest_0 : List rv_N := [
  (0, ([rv_r 76, rv_r 66, rv_r 36], [], []), [1], 6, [], []),
  (1, ([rv_r 76, rv_r 66, rv_r 36], [rv_r 76], []), [2], 5, [], []),
  (2, ([rv_r 76, rv_r 66, rv_r 36], [rv_r 76, rv_r 76], []), [3], 4, [], []),
  (3, ([rv_r 76, rv_r 66, rv_r 36], [rv_r 79, rv_r 76], []), [4], 3, [], []),
  (4, ([rv_r 76, rv_r 66, rv_r 36], [rv_r 66, rv_r 79, rv_r 76], []), [5], 2, [], []),
  (5, ([rv_r 76, rv_r 66, rv_r 36], [rv_r 36, rv_r 66, rv_r 79, rv_r 76], []), [6], 1, [], [0]),
  (6, ([rv_r 76, rv_r 66, rv_r 36], [], []), [], 0, [], [])]
set_option maxRecDepth 100000 in
theorem a_X5_handOutBest_0 : rv_all (fm_tm, flX5, fm_wr, kcX5, klX5, K_X5_handOutBest_0.2.2.1, [], 3) ct_X5_handOutBest_0 cd_X5_handOutBest n_X5_handOutBest_0 K_X5_handOutBest_0 [] 0 n_X5_handOutBest_0 = true := rv_fast (rv_at_eq n_X5_handOutBest_0) (rv_at_eq cd_X5_handOutBest) (by decide +kernel)
theorem m_X5_handOutBest_0 {l : Launch} {D : va_G} {ad : Nat → Nat} {cy : Nat → ClassId} {Z : State → Heap → Prop} {Gp : fm_V → Prop} (hAd : fm_Ad fm_tm ad) (hZ : fm_Zk (fm_A fm_tm ad) Z) (hGd : fm_Gd Gp) : rv_Met l D fm_cl fm_tm ad cy fm_nt Z Gp yX5_handOutBest (.code yX5_handOutBest prog_7_method_8_code 3 none :: fm_Ts) { frames := 2, cells := 0, slots := 0, locals := 200 } K_X5_handOutBest_0 := rv_met hAd hZ (Or.inl (by decide +kernel)) evX5 dc_X5_handOutBest a_X5_handOutBest_0 ⟨rfl, rfl, rfl⟩ (by decide +kernel) (by decide +kernel) (by decide) (fm_gm hGd (by decide +kernel)) (rfl) (fun p e s m args below meth c Q X Y => List.forall_mem_cons.mpr ⟨rv_ctV X Y fm_Ts_good dc_X5_handOutBest (pc := 7) (i := 5) (idx := 35) rfl (m_X5_handOutBy_1 hAd hZ hGd) wl_X5_35 wm_X5_handOutBy wy_X5_handOutBy (by decide) ⟨rfl, rfl, rfl⟩ ⟨rfl, rfl⟩, fun _ h => absurd h List.not_mem_nil⟩) (fun _ _ _ _ _ _ _ _ _ _ _ _ _ _ _ _ h => absurd h List.not_mem_nil)
def cd_X7_bowls : List (Nat × Instr × Nat) := [(0, .iload_n 1, 1), (1, .iconst 0, 1), (2, .sipush 511, 3), (5, .invokestatic 80, 3), (8, .ifCond .eq 13, 3), (11, .iload_n 2, 1), (12, .iconst 1, 1), (13, .bipush 20, 2), (15, .invokestatic 80, 3), (18, .ifCond .ne 5, 3), (21, .iconst (-1), 1), (22, .ireturn, 1), (23, .iload_n 1, 1), (24, .invokestatic 206, 3), (27, .iconst 2, 1), (28, .bipush 6, 2), (30, .invokestatic 80, 3), (33, .ifCond .ne 5, 3), (36, .iconst (-1), 1), (37, .ireturn, 1), (38, .iload_n 3, 1), (39, .iconst (-1), 1), (40, .if_icmp .eq 13, 3), (43, .iload_n 3, 1), (44, .bipush 9, 2), (46, .if_icmp .eq 7, 3), (49, .iconst 1, 1), (50, .goto 4, 3), (53, .iconst 0, 1), (54, .istore 4, 2), (56, .iload 4, 2), (58, .ifCond .eq 20, 3), (61, .iload_n 3, 1), (62, .invokestatic 96, 3), (65, .ifCond .eq 11, 3), (68, .iload_n 1, 1), (69, .iload_n 3, 1), (70, .ishr, 1), (71, .iconst 1, 1), (72, .iand, 1), (73, .ifCond .ne 5, 3), (76, .iconst (-1), 1), (77, .ireturn, 1), (78, .aload_n 0, 1), (79, .getfield 38, 3), (82, .getfield 99, 3), (85, .iload_n 1, 1), (86, .invokevirtual 211, 3), (89, .ifCond .ne 6, 3), (92, .bipush (-2), 2), (94, .ireturn, 1), (95, .aload_n 0, 1), (96, .iload_n 1, 1), (97, .iload_n 2, 1), (98, .invokevirtual 214, 3), (101, .istore 5, 2), (103, .iload 4, 2), (105, .ifCond .eq 12, 3), (108, .aload_n 0, 1), (109, .getfield 60, 3), (112, .iload_n 3, 1), (113, .invokevirtual 218, 3), (116, .ireturn, 1), (117, .iload_n 3, 1), (118, .bipush 9, 2), (120, .if_icmp .ne 35, 3), (123, .aload_n 0, 1), (124, .getfield 45, 3), (127, .aload_n 0, 1), (128, .getfield 38, 3), (131, .invokevirtual 221, 3), (134, .aload_n 0, 1), (135, .getfield 60, 3), (138, .aload_n 0, 1), (139, .getfield 45, 3), (142, .getfield 99, 3), (145, .aload_n 0, 1), (146, .getfield 38, 3), (149, .getfield 99, 3), (152, .invokevirtual 224, 3), (155, .iload 5, 2), (157, .ireturn, 1)]
theorem dc_X7_bowls : ∀ q ∈ cd_X7_bowls, decode prog_1_method_16_code q.1 = .ok (q.2.1, q.2.2) := by decide +kernel
def ch_X7_bowls_0 : List (Nat × Instr × Nat) := [(0, .iload_n 1, 1), (1, .iconst 0, 1), (2, .sipush 511, 3), (5, .invokestatic 80, 3), (8, .ifCond .eq 13, 3), (11, .iload_n 2, 1), (12, .iconst 1, 1), (13, .bipush 20, 2), (15, .invokestatic 80, 3), (18, .ifCond .ne 5, 3), (21, .iconst (-1), 1), (22, .ireturn, 1), (23, .iload_n 1, 1), (24, .invokestatic 206, 3), (27, .iconst 2, 1), (28, .bipush 6, 2)]
def ch_X7_bowls_1 : List (Nat × Instr × Nat) := [(30, .invokestatic 80, 3), (33, .ifCond .ne 5, 3), (36, .iconst (-1), 1), (37, .ireturn, 1), (38, .iload_n 3, 1), (39, .iconst (-1), 1), (40, .if_icmp .eq 13, 3), (43, .iload_n 3, 1), (44, .bipush 9, 2), (46, .if_icmp .eq 7, 3), (49, .iconst 1, 1), (50, .goto 4, 3), (53, .iconst 0, 1), (54, .istore 4, 2), (56, .iload 4, 2), (58, .ifCond .eq 20, 3)]
def ch_X7_bowls_2 : List (Nat × Instr × Nat) := [(61, .iload_n 3, 1), (62, .invokestatic 96, 3), (65, .ifCond .eq 11, 3), (68, .iload_n 1, 1), (69, .iload_n 3, 1), (70, .ishr, 1), (71, .iconst 1, 1), (72, .iand, 1), (73, .ifCond .ne 5, 3), (76, .iconst (-1), 1), (77, .ireturn, 1), (78, .aload_n 0, 1), (79, .getfield 38, 3), (82, .getfield 99, 3), (85, .iload_n 1, 1), (86, .invokevirtual 211, 3)]
def ch_X7_bowls_3 : List (Nat × Instr × Nat) := [(89, .ifCond .ne 6, 3), (92, .bipush (-2), 2), (94, .ireturn, 1), (95, .aload_n 0, 1), (96, .iload_n 1, 1), (97, .iload_n 2, 1), (98, .invokevirtual 214, 3), (101, .istore 5, 2), (103, .iload 4, 2), (105, .ifCond .eq 12, 3), (108, .aload_n 0, 1), (109, .getfield 60, 3), (112, .iload_n 3, 1), (113, .invokevirtual 218, 3), (116, .ireturn, 1), (117, .iload_n 3, 1)]
def ch_X7_bowls_4 : List (Nat × Instr × Nat) := [(118, .bipush 9, 2), (120, .if_icmp .ne 35, 3), (123, .aload_n 0, 1), (124, .getfield 45, 3), (127, .aload_n 0, 1), (128, .getfield 38, 3), (131, .invokevirtual 221, 3), (134, .aload_n 0, 1), (135, .getfield 60, 3), (138, .aload_n 0, 1), (139, .getfield 45, 3), (142, .getfield 99, 3), (145, .aload_n 0, 1), (146, .getfield 38, 3), (149, .getfield 99, 3), (152, .invokevirtual 224, 3)]
def ch_X7_bowls_5 : List (Nat × Instr × Nat) := [(155, .iload 5, 2), (157, .ireturn, 1)]
set_option maxRecDepth 100000 in
theorem he_X7_bowls : cd_X7_bowls = ch_X7_bowls_0 ++ (ch_X7_bowls_1 ++ (ch_X7_bowls_2 ++ (ch_X7_bowls_3 ++ (ch_X7_bowls_4 ++ (ch_X7_bowls_5))))) := rfl
noncomputable def gc_X7_bowls : Nat → Option (Nat × Instr × Nat) := rv_ap 16 (rv_at ch_X7_bowls_0) (rv_ap 16 (rv_at ch_X7_bowls_1) (rv_ap 16 (rv_at ch_X7_bowls_2) (rv_ap 16 (rv_at ch_X7_bowls_3) (rv_ap 16 (rv_at ch_X7_bowls_4) (rv_at ch_X7_bowls_5)))))
theorem hc_X7_bowls : ∀ i : Nat, cd_X7_bowls[i]? = gc_X7_bowls i := by
  rw [he_X7_bowls]
  exact rv_ap_eq (l := ch_X7_bowls_0) (c := 16) (rv_ap_eq (l := ch_X7_bowls_1) (c := 16) (rv_ap_eq (l := ch_X7_bowls_2) (c := 16) (rv_ap_eq (l := ch_X7_bowls_3) (c := 16) (rv_ap_eq (l := ch_X7_bowls_4) (c := 16) (rv_at_eq ch_X7_bowls_5) rfl) rfl) rfl) rfl) rfl
def K_X7_bowls_0 : rv_K := ([rv_r 0, rv_full, rv_full, rv_full], [], [(14, 0), (14, 1), (14, 2), (14, 3), (14, 4), (14, 5), (14, 6), (14, 7), (14, 8), (14, 9), (14, 10), (14, 11), (14, 12), (14, 9999), (15, 9999), (38, 9999), (56, 9), (56, 10), (56, 11), (56, 12), (56, 13), (56, 14), (56, 15), (56, 16), (57, 9999), (58, 9999), (59, 9999), (60, 9999), (61, 9999), (62, 9999), (63, 9999), (64, 9999), (65, 9999), (66, 0), (67, 9999), (68, 9999), (69, 9999), (70, 9999), (76, 3), (77, 9999), (78, 9999), (79, 9999)], [(0, (-2147483648), 2147483647)], [], [])
def ct_X7_bowls_0 : List (Nat × rv_K) := [(3, K_X7_isWithin_13), (8, K_X7_isWithin_9), (13, K_J6_bitCount_0f7a4_0), (16, K_X7_isWithin_14), (33, K_X7_isPorter_0), (47, K_X2_allClimb_0), (54, K_X7_searchSwap_0), (61, K_X5_whoseFor_0), (70, K_X0_takeMoving_0), (79, K_X5_handOutBest_0)]
def n_X7_bowls_0_0 : List rv_N := [
  (0, ([rv_r 0, rv_full, rv_full, rv_full, rv_u, rv_u], [], []), [1], 67, [], []),
  (1, ([rv_r 0, rv_full, rv_full, rv_full, rv_u, rv_u], [(1, 0, (-2147483648), 2147483647, [(.inl 1, 0)], [])], []), [2], 66, [], []),
  (2, ([rv_r 0, rv_full, rv_full, rv_full, rv_u, rv_u], [rv_i 0 0, (1, 0, (-2147483648), 2147483647, [(.inl 1, 0)], [])], []), [3], 65, [], []),
  (3, ([rv_r 0, rv_full, rv_full, rv_full, rv_u, rv_u], [rv_i 511 511, rv_i 0 0, (1, 0, (-2147483648), 2147483647, [(.inl 1, 0)], [])], []), [4], 64, [], [0]),
  (4, ([rv_r 0, rv_full, rv_full, rv_full, rv_u, rv_u], [(1, 0, 0, 1, [], [(.inl 1, 0, 511)])], []), [5, 10], 63, [], []),
  (5, ([rv_r 0, rv_i 0 511, rv_full, rv_full, rv_u, rv_u], [], []), [6], 62, [], []),
  (6, ([rv_r 0, rv_i 0 511, rv_full, rv_full, rv_u, rv_u], [(1, 0, (-2147483648), 2147483647, [(.inl 2, 0)], [])], []), [7], 61, [], []),
  (7, ([rv_r 0, rv_i 0 511, rv_full, rv_full, rv_u, rv_u], [rv_i 1 1, (1, 0, (-2147483648), 2147483647, [(.inl 2, 0)], [])], []), [8], 60, [], []),
  (8, ([rv_r 0, rv_i 0 511, rv_full, rv_full, rv_u, rv_u], [rv_i 20 20, rv_i 1 1, (1, 0, (-2147483648), 2147483647, [(.inl 2, 0)], [])], []), [9], 59, [], [1]),
  (9, ([rv_r 0, rv_i 0 511, rv_full, rv_full, rv_u, rv_u], [(1, 0, 0, 1, [], [(.inl 2, 1, 20)])], []), [10, 12], 58, [], []),
  (10, ([rv_r 0, rv_full, rv_full, rv_full, rv_u, rv_u], [], []), [11], 1, [], []),
  (11, ([rv_r 0, rv_full, rv_full, rv_full, rv_u, rv_u], [rv_i (-1) (-1)], []), [], 0, [], []),
  (12, ([rv_r 0, rv_i 0 511, rv_i 1 20, rv_full, rv_u, rv_u], [], []), [13], 57, [], []),
  (13, ([rv_r 0, rv_i 0 511, rv_i 1 20, rv_full, rv_u, rv_u], [(1, 0, 0, 511, [(.inl 1, 0)], [])], []), [14], 56, [], [2]),
  (14, ([rv_r 0, rv_i 0 511, rv_i 1 20, rv_full, rv_u, rv_u], [rv_i 0 63], []), [15], 55, [], []),
  (15, ([rv_r 0, rv_i 0 511, rv_i 1 20, rv_full, rv_u, rv_u], [rv_i 2 2, rv_i 0 63], []), [16], 54, [], [])]
def n_X7_bowls_0_1 : List rv_N := [
  (16, ([rv_r 0, rv_i 0 511, rv_i 1 20, rv_full, rv_u, rv_u], [rv_i 6 6, rv_i 2 2, rv_i 0 63], []), [17], 53, [], [3]),
  (17, ([rv_r 0, rv_i 0 511, rv_i 1 20, rv_full, rv_u, rv_u], [rv_i 0 1], []), [18, 20], 52, [], []),
  (18, ([rv_r 0, rv_i 0 511, rv_i 1 20, rv_full, rv_u, rv_u], [], []), [19], 1, [], []),
  (19, ([rv_r 0, rv_i 0 511, rv_i 1 20, rv_full, rv_u, rv_u], [rv_i (-1) (-1)], []), [], 0, [], []),
  (20, ([rv_r 0, rv_i 0 511, rv_i 1 20, rv_full, rv_u, rv_u], [], []), [21], 51, [], []),
  (21, ([rv_r 0, rv_i 0 511, rv_i 1 20, rv_full, rv_u, rv_u], [(1, 0, (-2147483648), 2147483647, [(.inl 3, 0)], [])], []), [22], 50, [], []),
  (22, ([rv_r 0, rv_i 0 511, rv_i 1 20, rv_full, rv_u, rv_u], [rv_i (-1) (-1), (1, 0, (-2147483648), 2147483647, [(.inl 3, 0)], [])], []), [23, 28], 49, [], []),
  (23, ([rv_r 0, rv_i 0 511, rv_i 1 20, rv_full, rv_u, rv_u], [], []), [24], 48, [], []),
  (24, ([rv_r 0, rv_i 0 511, rv_i 1 20, rv_full, rv_u, rv_u], [(1, 0, (-2147483648), 2147483647, [(.inl 3, 0)], [])], []), [25], 47, [], []),
  (25, ([rv_r 0, rv_i 0 511, rv_i 1 20, rv_full, rv_u, rv_u], [rv_i 9 9, (1, 0, (-2147483648), 2147483647, [(.inl 3, 0)], [])], []), [26, 28], 46, [], []),
  (26, ([rv_r 0, rv_i 0 511, rv_i 1 20, rv_full, rv_u, rv_u], [], []), [27], 45, [], []),
  (27, ([rv_r 0, rv_i 0 511, rv_i 1 20, rv_full, rv_u, rv_u], [rv_i 1 1], []), [30], 44, [], []),
  (28, ([rv_r 0, rv_i 0 511, rv_i 1 20, rv_i (-1) 9, rv_u, rv_u], [], []), [29], 44, [], []),
  (29, ([rv_r 0, rv_i 0 511, rv_i 1 20, rv_i (-1) 9, rv_u, rv_u], [rv_i 0 0], []), [31], 43, [], []),
  (29, ([rv_r 0, rv_i 0 511, rv_i 1 20, rv_full, rv_u, rv_u], [rv_i 1 1], []), [31], 43, [], []),
  (30, ([rv_r 0, rv_i 0 511, rv_i 1 20, rv_full, rv_i 0 1, rv_u], [], []), [32], 42, [], [])]
def n_X7_bowls_0_2 : List rv_N := [
  (31, ([rv_r 0, rv_i 0 511, rv_i 1 20, rv_full, rv_i 0 1, rv_u], [(1, 0, 0, 1, [(.inl 4, 0)], [])], []), [33, 44], 41, [], []),
  (32, ([rv_r 0, rv_i 0 511, rv_i 1 20, rv_full, (1, 1, 1, 1, [], []), rv_u], [], []), [34], 40, [], []),
  (33, ([rv_r 0, rv_i 0 511, rv_i 1 20, rv_full, (1, 1, 1, 1, [], []), rv_u], [(1, 0, (-2147483648), 2147483647, [(.inl 3, 0)], [])], []), [35], 39, [], [4]),
  (34, ([rv_r 0, rv_i 0 511, rv_i 1 20, rv_full, (1, 1, 1, 1, [], []), rv_u], [(1, 0, 0, 1, [], [(.inl 3, 0, 8)])], []), [36, 42], 38, [], []),
  (35, ([rv_r 0, rv_i 0 511, rv_i 1 20, rv_i 0 8, (1, 1, 1, 1, [], []), rv_u], [], []), [37], 37, [], []),
  (36, ([rv_r 0, rv_i 0 511, rv_i 1 20, rv_i 0 8, (1, 1, 1, 1, [], []), rv_u], [(1, 0, 0, 511, [(.inl 1, 0)], [])], []), [38], 36, [], []),
  (37, ([rv_r 0, rv_i 0 511, rv_i 1 20, rv_i 0 8, (1, 1, 1, 1, [], []), rv_u], [(1, 0, 0, 8, [(.inl 3, 0)], []), (1, 0, 0, 511, [(.inl 1, 0)], [])], []), [39], 35, [], []),
  (38, ([rv_r 0, rv_i 0 511, rv_i 1 20, rv_i 0 8, (1, 1, 1, 1, [], []), rv_u], [rv_full], []), [40], 34, [], []),
  (39, ([rv_r 0, rv_i 0 511, rv_i 1 20, rv_i 0 8, (1, 1, 1, 1, [], []), rv_u], [rv_i 1 1, rv_full], []), [41], 33, [], []),
  (40, ([rv_r 0, rv_i 0 511, rv_i 1 20, rv_i 0 8, (1, 1, 1, 1, [], []), rv_u], [rv_i 0 1], []), [42, 44], 32, [], []),
  (41, ([rv_r 0, rv_i 0 511, rv_i 1 20, rv_full, (1, 1, 1, 1, [], []), rv_u], [], []), [43], 1, [], []),
  (42, ([rv_r 0, rv_i 0 511, rv_i 1 20, rv_full, (1, 1, 1, 1, [], []), rv_u], [rv_i (-1) (-1)], []), [], 0, [], []),
  (43, ([rv_r 0, rv_i 0 511, rv_i 1 20, rv_full, rv_i 0 1, rv_u], [], []), [45], 31, [], []),
  (44, ([rv_r 0, rv_i 0 511, rv_i 1 20, rv_full, rv_i 0 1, rv_u], [rv_r 0], []), [46], 30, [], []),
  (45, ([rv_r 0, rv_i 0 511, rv_i 1 20, rv_full, rv_i 0 1, rv_u], [rv_r 26], []), [47], 29, [], []),
  (46, ([rv_r 0, rv_i 0 511, rv_i 1 20, rv_full, rv_i 0 1, rv_u], [rv_r 36], []), [48], 28, [], [])]
def n_X7_bowls_0_3 : List rv_N := [
  (47, ([rv_r 0, rv_i 0 511, rv_i 1 20, rv_full, rv_i 0 1, rv_u], [(1, 0, 0, 511, [(.inl 1, 0)], []), rv_r 36], []), [49], 27, [], [5]),
  (48, ([rv_r 0, rv_i 0 511, rv_i 1 20, rv_full, rv_i 0 1, rv_u], [rv_i 0 1], []), [50, 52], 26, [], []),
  (49, ([rv_r 0, rv_i 0 511, rv_i 1 20, rv_full, rv_i 0 1, rv_u], [], []), [51], 1, [], []),
  (50, ([rv_r 0, rv_i 0 511, rv_i 1 20, rv_full, rv_i 0 1, rv_u], [rv_i (-2) (-2)], []), [], 0, [], []),
  (51, ([rv_r 0, rv_i 0 511, rv_i 1 20, rv_full, rv_i 0 1, rv_u], [], []), [53], 25, [], []),
  (52, ([rv_r 0, rv_i 0 511, rv_i 1 20, rv_full, rv_i 0 1, rv_u], [rv_r 0], []), [54], 24, [], []),
  (53, ([rv_r 0, rv_i 0 511, rv_i 1 20, rv_full, rv_i 0 1, rv_u], [(1, 0, 0, 511, [(.inl 1, 0)], []), rv_r 0], []), [55], 23, [], []),
  (54, ([rv_r 0, rv_i 0 511, rv_i 1 20, rv_full, rv_i 0 1, rv_u], [(1, 0, 1, 20, [(.inl 2, 0)], []), (1, 0, 0, 511, [(.inl 1, 0)], []), rv_r 0], []), [56], 22, [], [6]),
  (55, ([rv_r 0, rv_i 0 511, rv_i 1 20, rv_full, rv_i 0 1, rv_u], [rv_i (-2147483648) 1000000000], []), [57], 21, [], []),
  (56, ([rv_r 0, rv_i 0 511, rv_i 1 20, rv_full, rv_i 0 1, rv_i (-2147483648) 1000000000], [], []), [58], 20, [], []),
  (57, ([rv_r 0, rv_i 0 511, rv_i 1 20, rv_full, rv_i 0 1, rv_i (-2147483648) 1000000000], [(1, 0, 0, 1, [(.inl 4, 0)], [])], []), [59, 64], 19, [], []),
  (58, ([rv_r 0, rv_i 0 511, rv_i 1 20, rv_full, (1, 1, 1, 1, [], []), rv_i (-2147483648) 1000000000], [], []), [60], 4, [], []),
  (59, ([rv_r 0, rv_i 0 511, rv_i 1 20, rv_full, (1, 1, 1, 1, [], []), rv_i (-2147483648) 1000000000], [rv_r 0], []), [61], 3, [], []),
  (60, ([rv_r 0, rv_i 0 511, rv_i 1 20, rv_full, (1, 1, 1, 1, [], []), rv_i (-2147483648) 1000000000], [rv_r 76], []), [62], 2, [], []),
  (61, ([rv_r 0, rv_i 0 511, rv_i 1 20, rv_full, (1, 1, 1, 1, [], []), rv_i (-2147483648) 1000000000], [(1, 0, (-2147483648), 2147483647, [(.inl 3, 0)], []), rv_r 76], []), [63], 1, [], [7]),
  (62, ([rv_r 0, rv_i 0 511, rv_i 1 20, rv_full, (1, 1, 1, 1, [], []), rv_i (-2147483648) 1000000000], [rv_full], []), [], 0, [], [])]
def n_X7_bowls_0_4 : List rv_N := [
  (63, ([rv_r 0, rv_i 0 511, rv_i 1 20, rv_full, rv_i 0 0, rv_i (-2147483648) 1000000000], [], []), [65], 18, [], []),
  (64, ([rv_r 0, rv_i 0 511, rv_i 1 20, rv_full, rv_i 0 0, rv_i (-2147483648) 1000000000], [(1, 0, (-2147483648), 2147483647, [(.inl 3, 0)], [])], []), [66], 17, [], []),
  (65, ([rv_r 0, rv_i 0 511, rv_i 1 20, rv_full, rv_i 0 0, rv_i (-2147483648) 1000000000], [rv_i 9 9, (1, 0, (-2147483648), 2147483647, [(.inl 3, 0)], [])], []), [67, 81], 16, [], []),
  (66, ([rv_r 0, rv_i 0 511, rv_i 1 20, rv_i 9 9, rv_i 0 0, rv_i (-2147483648) 1000000000], [], []), [68], 15, [], []),
  (67, ([rv_r 0, rv_i 0 511, rv_i 1 20, rv_i 9 9, rv_i 0 0, rv_i (-2147483648) 1000000000], [rv_r 0], []), [69], 14, [], []),
  (68, ([rv_r 0, rv_i 0 511, rv_i 1 20, rv_i 9 9, rv_i 0 0, rv_i (-2147483648) 1000000000], [rv_r 56], []), [70], 13, [], []),
  (69, ([rv_r 0, rv_i 0 511, rv_i 1 20, rv_i 9 9, rv_i 0 0, rv_i (-2147483648) 1000000000], [rv_r 0, rv_r 56], []), [71], 12, [], []),
  (70, ([rv_r 0, rv_i 0 511, rv_i 1 20, rv_i 9 9, rv_i 0 0, rv_i (-2147483648) 1000000000], [rv_r 26, rv_r 56], []), [72], 11, [], [8]),
  (71, ([rv_r 0, rv_i 0 511, rv_i 1 20, rv_i 9 9, rv_i 0 0, rv_i (-2147483648) 1000000000], [], []), [73], 10, [], []),
  (72, ([rv_r 0, rv_i 0 511, rv_i 1 20, rv_i 9 9, rv_i 0 0, rv_i (-2147483648) 1000000000], [rv_r 0], []), [74], 9, [], []),
  (73, ([rv_r 0, rv_i 0 511, rv_i 1 20, rv_i 9 9, rv_i 0 0, rv_i (-2147483648) 1000000000], [rv_r 76], []), [75], 8, [], []),
  (74, ([rv_r 0, rv_i 0 511, rv_i 1 20, rv_i 9 9, rv_i 0 0, rv_i (-2147483648) 1000000000], [rv_r 0, rv_r 76], []), [76], 7, [], []),
  (75, ([rv_r 0, rv_i 0 511, rv_i 1 20, rv_i 9 9, rv_i 0 0, rv_i (-2147483648) 1000000000], [rv_r 56, rv_r 76], []), [77], 6, [], []),
  (76, ([rv_r 0, rv_i 0 511, rv_i 1 20, rv_i 9 9, rv_i 0 0, rv_i (-2147483648) 1000000000], [rv_r 66, rv_r 76], []), [78], 5, [], []),
  (77, ([rv_r 0, rv_i 0 511, rv_i 1 20, rv_i 9 9, rv_i 0 0, rv_i (-2147483648) 1000000000], [rv_r 0, rv_r 66, rv_r 76], []), [79], 4, [], []),
  (78, ([rv_r 0, rv_i 0 511, rv_i 1 20, rv_i 9 9, rv_i 0 0, rv_i (-2147483648) 1000000000], [rv_r 26, rv_r 66, rv_r 76], []), [80], 3, [], [])]
def n_X7_bowls_0_5 : List rv_N := [
  (79, ([rv_r 0, rv_i 0 511, rv_i 1 20, rv_i 9 9, rv_i 0 0, rv_i (-2147483648) 1000000000], [rv_r 36, rv_r 66, rv_r 76], []), [81], 2, [], [9]),
  (80, ([rv_r 0, rv_i 0 511, rv_i 1 20, rv_full, rv_i 0 0, rv_i (-2147483648) 1000000000], [], []), [82], 1, [], []),
  (81, ([rv_r 0, rv_i 0 511, rv_i 1 20, rv_full, rv_i 0 0, rv_i (-2147483648) 1000000000], [(1, 0, (-2147483648), 1000000000, [(.inl 5, 0)], [])], []), [], 0, [], [])]
def n_X7_bowls_0 : List rv_N := n_X7_bowls_0_0 ++ (n_X7_bowls_0_1 ++ (n_X7_bowls_0_2 ++ (n_X7_bowls_0_3 ++ (n_X7_bowls_0_4 ++ (n_X7_bowls_0_5)))))
noncomputable def gn_X7_bowls_0 : Nat → Option rv_N := rv_ap 16 (rv_at n_X7_bowls_0_0) (rv_ap 16 (rv_at n_X7_bowls_0_1) (rv_ap 16 (rv_at n_X7_bowls_0_2) (rv_ap 16 (rv_at n_X7_bowls_0_3) (rv_ap 16 (rv_at n_X7_bowls_0_4) (rv_at n_X7_bowls_0_5)))))
theorem hn_X7_bowls_0 : ∀ i : Nat, n_X7_bowls_0[i]? = gn_X7_bowls_0 i := rv_ap_eq (l := n_X7_bowls_0_0) (c := 16) (rv_ap_eq (l := n_X7_bowls_0_1) (c := 16) (rv_ap_eq (l := n_X7_bowls_0_2) (c := 16) (rv_ap_eq (l := n_X7_bowls_0_3) (c := 16) (rv_ap_eq (l := n_X7_bowls_0_4) (c := 16) (rv_at_eq n_X7_bowls_0_5) rfl) rfl) rfl) rfl) rfl
set_option maxRecDepth 100000 in
theorem a_X7_bowls_0 : rv_all (fm_tm, flX7, fm_wr, kcX7, klX7, K_X7_bowls_0.2.2.1, [], 6) ct_X7_bowls_0 cd_X7_bowls n_X7_bowls_0 K_X7_bowls_0 [] 0 n_X7_bowls_0 = true := rv_fast hn_X7_bowls_0 hc_X7_bowls (by decide +kernel)
theorem m_X7_bowls_0 {l : Launch} {D : va_G} {ad : Nat → Nat} {cy : Nat → ClassId} {Z : State → Heap → Prop} {Gp : fm_V → Prop} (hAd : fm_Ad fm_tm ad) (hZ : fm_Zk (fm_A fm_tm ad) Z) (hGd : fm_Gd Gp) : rv_Met l D fm_cl fm_tm ad cy fm_nt Z Gp yX7_bowls (.code yX7_bowls prog_1_method_16_code 6 (some .int) :: fm_Ts) { frames := 7, cells := 0, slots := 0, locals := 700 } K_X7_bowls_0 := rv_met hAd hZ (Or.inl (by decide +kernel)) evX7 dc_X7_bowls a_X7_bowls_0 ⟨rfl, rfl, rfl⟩ (by decide +kernel) (by decide +kernel) (by decide) (fm_gm hGd (by decide +kernel)) (Or.inl rfl) (fun p e s m args below meth c Q X Y => List.forall_mem_cons.mpr ⟨rv_ctS X Y fm_Ts_good dc_X7_bowls (pc := 5) (i := 3) (idx := 80) rfl (m_X7_isWithin_13 hAd hZ hGd) wl_X7_80 wm_X7_isWithin wy_X7_isWithin (by decide) rfl, List.forall_mem_cons.mpr ⟨rv_ctS X Y fm_Ts_good dc_X7_bowls (pc := 15) (i := 8) (idx := 80) rfl (m_X7_isWithin_9 hAd hZ hGd) wl_X7_80 wm_X7_isWithin wy_X7_isWithin (by decide) rfl, List.forall_mem_cons.mpr ⟨rv_ctS X Y fm_Ts_good dc_X7_bowls (pc := 24) (i := 13) (idx := 206) rfl (m_J6_bitCount_0f7a4_0 hAd hZ hGd) wl_X7_206 wm_J6_bitCount_0f7a4 wy_J6_bitCount_0f7a4 (by decide) rfl, List.forall_mem_cons.mpr ⟨rv_ctS X Y fm_Ts_good dc_X7_bowls (pc := 30) (i := 16) (idx := 80) rfl (m_X7_isWithin_14 hAd hZ hGd) wl_X7_80 wm_X7_isWithin wy_X7_isWithin (by decide) rfl, List.forall_mem_cons.mpr ⟨rv_ctS X Y fm_Ts_good dc_X7_bowls (pc := 62) (i := 33) (idx := 96) rfl (m_X7_isPorter_0 hAd hZ hGd) wl_X7_96 wm_X7_isPorter wy_X7_isPorter (by decide) rfl, List.forall_mem_cons.mpr ⟨rv_ctV X Y fm_Ts_good dc_X7_bowls (pc := 86) (i := 47) (idx := 211) rfl (m_X2_allClimb_0 hAd hZ hGd) wl_X7_211 wm_X2_allClimb wy_X2_allClimb (by decide) ⟨rfl, rfl, rfl⟩ ⟨rfl, rfl⟩, List.forall_mem_cons.mpr ⟨rv_ctV X Y fm_Ts_good dc_X7_bowls (pc := 98) (i := 54) (idx := 214) rfl (m_X7_searchSwap_0 hAd hZ hGd) wl_X7_214 wm_X7_searchSwap wy_X7_searchSwap (by decide) ⟨rfl, rfl, rfl⟩ ⟨rfl, rfl⟩, List.forall_mem_cons.mpr ⟨rv_ctV X Y fm_Ts_good dc_X7_bowls (pc := 113) (i := 61) (idx := 218) rfl (m_X5_whoseFor_0 hAd hZ hGd) wl_X7_218 wm_X5_whoseFor wy_X5_whoseFor (by decide) ⟨rfl, rfl, rfl⟩ ⟨rfl, rfl⟩, List.forall_mem_cons.mpr ⟨rv_ctV X Y fm_Ts_good dc_X7_bowls (pc := 131) (i := 70) (idx := 221) rfl (m_X0_takeMoving_0 hAd hZ hGd) wl_X7_221 wm_X0_takeMoving wy_X0_takeMoving (by decide) ⟨rfl, rfl, rfl⟩ ⟨rfl, rfl⟩, List.forall_mem_cons.mpr ⟨rv_ctV X Y fm_Ts_good dc_X7_bowls (pc := 152) (i := 79) (idx := 224) rfl (m_X5_handOutBest_0 hAd hZ hGd) wl_X7_224 wm_X5_handOutBest wy_X5_handOutBest (by decide) ⟨rfl, rfl, rfl⟩ ⟨rfl, rfl⟩, fun _ h => absurd h List.not_mem_nil⟩⟩⟩⟩⟩⟩⟩⟩⟩⟩) (fun _ _ _ _ _ _ _ _ _ _ _ _ _ _ _ _ h => absurd h List.not_mem_nil)
def K_X7_isWithin_15 : rv_K := ([rv_full, rv_i 0 0, rv_i 1 1], [], [], [(0, 0, 1)], [(.inl 0, 0, 1)], [])
def ct_X7_isWithin_15 : List (Nat × rv_K) := []
def n_X7_isWithin_15 : List rv_N := [
  (0, ([rv_full, rv_i 0 0, rv_i 1 1], [], []), [1], 8, [], []),
  (1, ([rv_full, rv_i 0 0, rv_i 1 1], [(1, 0, (-2147483648), 2147483647, [(.inl 0, 0)], [])], []), [2], 7, [], []),
  (2, ([rv_full, rv_i 0 0, rv_i 1 1], [(1, 0, 0, 0, [(.inl 1, 0)], []), (1, 0, (-2147483648), 2147483647, [(.inl 0, 0)], [])], []), [3, 8], 6, [], []),
  (3, ([rv_i 0 2147483647, rv_i 0 0, rv_i 1 1], [], []), [4], 5, [], []),
  (4, ([rv_i 0 2147483647, rv_i 0 0, rv_i 1 1], [(1, 0, 0, 2147483647, [(.inl 0, 0)], [])], []), [5], 4, [], []),
  (5, ([rv_i 0 2147483647, rv_i 0 0, rv_i 1 1], [(1, 0, 1, 1, [(.inl 2, 0)], []), (1, 0, 0, 2147483647, [(.inl 0, 0)], [])], []), [6, 8], 3, [], []),
  (6, ([rv_i 0 1, rv_i 0 0, rv_i 1 1], [], []), [7], 2, [], []),
  (7, ([rv_i 0 1, rv_i 0 0, rv_i 1 1], [rv_i 1 1], []), [10], 1, [], []),
  (8, ([rv_full, rv_i 0 0, rv_i 1 1], [], []), [9], 1, [], []),
  (9, ([rv_full, rv_i 0 0, rv_i 1 1], [rv_i 0 0], []), [], 0, [], []),
  (9, ([rv_i 0 1, rv_i 0 0, rv_i 1 1], [rv_i 1 1], []), [], 0, [], [])]
set_option maxRecDepth 100000 in
theorem a_X7_isWithin_15 : rv_all (fm_tm, flX7, fm_wr, kcX7, klX7, K_X7_isWithin_15.2.2.1, [0, 1, 2], 3) ct_X7_isWithin_15 cd_X7_isWithin n_X7_isWithin_15 K_X7_isWithin_15 [] 0 n_X7_isWithin_15 = true := rv_fast (rv_at_eq n_X7_isWithin_15) (rv_at_eq cd_X7_isWithin) (by decide +kernel)
theorem m_X7_isWithin_15 {l : Launch} {D : va_G} {ad : Nat → Nat} {cy : Nat → ClassId} {Z : State → Heap → Prop} {Gp : fm_V → Prop} (hAd : fm_Ad fm_tm ad) (hZ : fm_Zk (fm_A fm_tm ad) Z) (hGd : fm_Gd Gp) : rv_Met l D fm_cl fm_tm ad cy fm_nt Z Gp yX7_isWithin (.code yX7_isWithin prog_1_method_34_code 3 (some .boolean) :: fm_Ts) { frames := 0, cells := 0, slots := 0, locals := 0 } K_X7_isWithin_15 := rv_met hAd hZ (Or.inl (by decide +kernel)) evX7 dc_X7_isWithin a_X7_isWithin_15 ⟨rfl, rfl, rfl⟩ (by decide +kernel) (by decide +kernel) (by decide) (fm_gm hGd (by decide +kernel)) (Or.inr ⟨rfl, by decide, by decide⟩) (fun p e s m args below meth c Q X Y => fun _ h => absurd h List.not_mem_nil) (fun _ _ _ _ _ _ _ _ _ _ _ _ _ _ _ _ h => absurd h List.not_mem_nil)
def cd_X7_carpet : List (Nat × Instr × Nat) := [(0, .iload_n 1, 1), (1, .iconst 1, 1), (2, .bipush 20, 2), (4, .invokestatic 80, 3), (7, .ifCond .eq 12, 3), (10, .iload_n 2, 1), (11, .iconst 0, 1), (12, .iconst 1, 1), (13, .invokestatic 80, 3), (16, .ifCond .ne 5, 3), (19, .iconst (-1), 1), (20, .ireturn, 1), (21, .bipush (-2), 2), (23, .istore_n 3, 1), (24, .ldc 228, 2), (26, .istore 4, 2), (28, .aload_n 0, 1), (29, .getfield 45, 3), (32, .aload_n 0, 1), (33, .getfield 38, 3), (36, .invokevirtual 168, 3), (39, .aload_n 0, 1), (40, .getfield 45, 3), (43, .aload_n 0, 1), (44, .getfield 22, 3), (47, .getfield 231, 3), (50, .putfield 234, 3), (53, .iconst 0, 1), (54, .istore 5, 2), (56, .iload 5, 2), (58, .bipush 20, 2), (60, .if_icmp .ge 85, 3), (63, .aload_n 0, 1), (64, .getfield 38, 3), (67, .getfield 90, 3), (70, .iload 5, 2), (72, .iaload, 1), (73, .ifCond .ne 66, 3), (76, .aload_n 0, 1), (77, .getfield 45, 3), (80, .aload_n 0, 1), (81, .getfield 38, 3), (84, .invokevirtual 221, 3), (87, .aload_n 0, 1), (88, .getfield 45, 3), (91, .getfield 90, 3), (94, .iload 5, 2), (96, .iconst 1, 1), (97, .iastore, 1), (98, .aload_n 0, 1), (99, .getfield 45, 3), (102, .aload_n 0, 1), (103, .getfield 22, 3), (106, .iload_n 1, 1), (107, .iload 4, 2), (109, .invokevirtual 240, 3), (112, .istore 6, 2), (114, .aload_n 0, 1), (115, .getfield 45, 3), (118, .getfield 90, 3), (121, .iload 5, 2), (123, .iconst 0, 1), (124, .iastore, 1), (125, .iload 6, 2), (127, .iload 4, 2), (129, .if_icmp .ge 10, 3), (132, .iload 6, 2), (134, .istore 4, 2), (136, .iload 5, 2), (138, .istore_n 3, 1), (139, .iinc 5 1, 3), (142, .goto (-86), 3), (145, .iload_n 2, 1), (146, .ifCond .eq 9, 3), (149, .iload_n 3, 1), (150, .bipush (-2), 2), (152, .if_icmp .ne 7, 3), (155, .iload_n 3, 1), (156, .goto 5, 3), (159, .iload 4, 2), (161, .ireturn, 1)]
theorem dc_X7_carpet : ∀ q ∈ cd_X7_carpet, decode prog_1_method_18_code q.1 = .ok (q.2.1, q.2.2) := by decide +kernel
def ch_X7_carpet_0 : List (Nat × Instr × Nat) := [(0, .iload_n 1, 1), (1, .iconst 1, 1), (2, .bipush 20, 2), (4, .invokestatic 80, 3), (7, .ifCond .eq 12, 3), (10, .iload_n 2, 1), (11, .iconst 0, 1), (12, .iconst 1, 1), (13, .invokestatic 80, 3), (16, .ifCond .ne 5, 3), (19, .iconst (-1), 1), (20, .ireturn, 1), (21, .bipush (-2), 2), (23, .istore_n 3, 1), (24, .ldc 228, 2), (26, .istore 4, 2)]
def ch_X7_carpet_1 : List (Nat × Instr × Nat) := [(28, .aload_n 0, 1), (29, .getfield 45, 3), (32, .aload_n 0, 1), (33, .getfield 38, 3), (36, .invokevirtual 168, 3), (39, .aload_n 0, 1), (40, .getfield 45, 3), (43, .aload_n 0, 1), (44, .getfield 22, 3), (47, .getfield 231, 3), (50, .putfield 234, 3), (53, .iconst 0, 1), (54, .istore 5, 2), (56, .iload 5, 2), (58, .bipush 20, 2), (60, .if_icmp .ge 85, 3)]
def ch_X7_carpet_2 : List (Nat × Instr × Nat) := [(63, .aload_n 0, 1), (64, .getfield 38, 3), (67, .getfield 90, 3), (70, .iload 5, 2), (72, .iaload, 1), (73, .ifCond .ne 66, 3), (76, .aload_n 0, 1), (77, .getfield 45, 3), (80, .aload_n 0, 1), (81, .getfield 38, 3), (84, .invokevirtual 221, 3), (87, .aload_n 0, 1), (88, .getfield 45, 3), (91, .getfield 90, 3), (94, .iload 5, 2), (96, .iconst 1, 1)]
def ch_X7_carpet_3 : List (Nat × Instr × Nat) := [(97, .iastore, 1), (98, .aload_n 0, 1), (99, .getfield 45, 3), (102, .aload_n 0, 1), (103, .getfield 22, 3), (106, .iload_n 1, 1), (107, .iload 4, 2), (109, .invokevirtual 240, 3), (112, .istore 6, 2), (114, .aload_n 0, 1), (115, .getfield 45, 3), (118, .getfield 90, 3), (121, .iload 5, 2), (123, .iconst 0, 1), (124, .iastore, 1), (125, .iload 6, 2)]
def ch_X7_carpet_4 : List (Nat × Instr × Nat) := [(127, .iload 4, 2), (129, .if_icmp .ge 10, 3), (132, .iload 6, 2), (134, .istore 4, 2), (136, .iload 5, 2), (138, .istore_n 3, 1), (139, .iinc 5 1, 3), (142, .goto (-86), 3), (145, .iload_n 2, 1), (146, .ifCond .eq 9, 3), (149, .iload_n 3, 1), (150, .bipush (-2), 2), (152, .if_icmp .ne 7, 3), (155, .iload_n 3, 1), (156, .goto 5, 3), (159, .iload 4, 2)]
def ch_X7_carpet_5 : List (Nat × Instr × Nat) := [(161, .ireturn, 1)]
set_option maxRecDepth 100000 in
theorem he_X7_carpet : cd_X7_carpet = ch_X7_carpet_0 ++ (ch_X7_carpet_1 ++ (ch_X7_carpet_2 ++ (ch_X7_carpet_3 ++ (ch_X7_carpet_4 ++ (ch_X7_carpet_5))))) := rfl
noncomputable def gc_X7_carpet : Nat → Option (Nat × Instr × Nat) := rv_ap 16 (rv_at ch_X7_carpet_0) (rv_ap 16 (rv_at ch_X7_carpet_1) (rv_ap 16 (rv_at ch_X7_carpet_2) (rv_ap 16 (rv_at ch_X7_carpet_3) (rv_ap 16 (rv_at ch_X7_carpet_4) (rv_at ch_X7_carpet_5)))))
theorem hc_X7_carpet : ∀ i : Nat, cd_X7_carpet[i]? = gc_X7_carpet i := by
  rw [he_X7_carpet]
  exact rv_ap_eq (l := ch_X7_carpet_0) (c := 16) (rv_ap_eq (l := ch_X7_carpet_1) (c := 16) (rv_ap_eq (l := ch_X7_carpet_2) (c := 16) (rv_ap_eq (l := ch_X7_carpet_3) (c := 16) (rv_ap_eq (l := ch_X7_carpet_4) (c := 16) (rv_at_eq ch_X7_carpet_5) rfl) rfl) rfl) rfl) rfl
def K_X7_carpet_0 : rv_K := ([rv_r 0, rv_full, rv_full], [], [(14, 0), (14, 1), (14, 2), (14, 3), (14, 4), (14, 5), (14, 6), (14, 7), (14, 8), (14, 9), (14, 10), (14, 11), (14, 12), (14, 9999), (15, 9999), (56, 9), (56, 10), (56, 11), (56, 12), (56, 13), (56, 14), (56, 15), (56, 16), (57, 9999), (58, 9999), (59, 9999), (60, 9999), (61, 9999), (62, 9999), (63, 9999), (64, 9999), (65, 9999), (66, 0), (67, 9999), (68, 9999), (69, 9999), (70, 9999)], [(0, (-2147483648), 1000000000)], [], [])
def ct_X7_carpet_0 : List (Nat × rv_K) := [(3, K_X7_isWithin_9), (8, K_X7_isWithin_15), (20, K_X0_takeAll_0), (42, K_X0_takeMoving_0), (55, K_X0_passUnder_0)]
def n_X7_carpet_0_0 : List rv_N := [
  (0, ([rv_r 0, rv_full, rv_full, rv_u, rv_u, rv_u, rv_u], [], []), [1], 41897, [], []),
  (1, ([rv_r 0, rv_full, rv_full, rv_u, rv_u, rv_u, rv_u], [(1, 0, (-2147483648), 2147483647, [(.inl 1, 0)], [])], []), [2], 41896, [], []),
  (2, ([rv_r 0, rv_full, rv_full, rv_u, rv_u, rv_u, rv_u], [rv_i 1 1, (1, 0, (-2147483648), 2147483647, [(.inl 1, 0)], [])], []), [3], 41895, [], []),
  (3, ([rv_r 0, rv_full, rv_full, rv_u, rv_u, rv_u, rv_u], [rv_i 20 20, rv_i 1 1, (1, 0, (-2147483648), 2147483647, [(.inl 1, 0)], [])], []), [4], 41894, [], [0]),
  (4, ([rv_r 0, rv_full, rv_full, rv_u, rv_u, rv_u, rv_u], [(1, 0, 0, 1, [], [(.inl 1, 1, 20)])], []), [5, 10], 41893, [], []),
  (5, ([rv_r 0, rv_i 1 20, rv_full, rv_u, rv_u, rv_u, rv_u], [], []), [6], 41892, [], []),
  (6, ([rv_r 0, rv_i 1 20, rv_full, rv_u, rv_u, rv_u, rv_u], [(1, 0, (-2147483648), 2147483647, [(.inl 2, 0)], [])], []), [7], 41891, [], []),
  (7, ([rv_r 0, rv_i 1 20, rv_full, rv_u, rv_u, rv_u, rv_u], [rv_i 0 0, (1, 0, (-2147483648), 2147483647, [(.inl 2, 0)], [])], []), [8], 41890, [], []),
  (8, ([rv_r 0, rv_i 1 20, rv_full, rv_u, rv_u, rv_u, rv_u], [rv_i 1 1, rv_i 0 0, (1, 0, (-2147483648), 2147483647, [(.inl 2, 0)], [])], []), [9], 41889, [], [1]),
  (9, ([rv_r 0, rv_i 1 20, rv_full, rv_u, rv_u, rv_u, rv_u], [(1, 0, 0, 1, [], [(.inl 2, 0, 1)])], []), [10, 12], 41888, [], []),
  (10, ([rv_r 0, rv_full, rv_full, rv_u, rv_u, rv_u, rv_u], [], []), [11], 1, [], []),
  (11, ([rv_r 0, rv_full, rv_full, rv_u, rv_u, rv_u, rv_u], [rv_i (-1) (-1)], []), [], 0, [], []),
  (12, ([rv_r 0, rv_i 1 20, rv_i 0 1, rv_u, rv_u, rv_u, rv_u], [], []), [13], 41887, [], []),
  (13, ([rv_r 0, rv_i 1 20, rv_i 0 1, rv_u, rv_u, rv_u, rv_u], [rv_i (-2) (-2)], []), [14], 41886, [], []),
  (14, ([rv_r 0, rv_i 1 20, rv_i 0 1, rv_i (-2) (-2), rv_u, rv_u, rv_u], [], []), [15], 41885, [], []),
  (15, ([rv_r 0, rv_i 1 20, rv_i 0 1, rv_i (-2) (-2), rv_u, rv_u, rv_u], [rv_i 1000000000 1000000000], []), [16], 41884, [], [])]
def n_X7_carpet_0_1 : List rv_N := [
  (16, ([rv_r 0, rv_i 1 20, rv_i 0 1, rv_i (-2) (-2), rv_i 1000000000 1000000000, rv_u, rv_u], [], []), [17], 41883, [], []),
  (17, ([rv_r 0, rv_i 1 20, rv_i 0 1, rv_i (-2) (-2), rv_i 1000000000 1000000000, rv_u, rv_u], [rv_r 0], []), [18], 41882, [], []),
  (18, ([rv_r 0, rv_i 1 20, rv_i 0 1, rv_i (-2) (-2), rv_i 1000000000 1000000000, rv_u, rv_u], [rv_r 56], []), [19], 41881, [], []),
  (19, ([rv_r 0, rv_i 1 20, rv_i 0 1, rv_i (-2) (-2), rv_i 1000000000 1000000000, rv_u, rv_u], [rv_r 0, rv_r 56], []), [20], 41880, [], []),
  (20, ([rv_r 0, rv_i 1 20, rv_i 0 1, rv_i (-2) (-2), rv_i 1000000000 1000000000, rv_u, rv_u], [rv_r 26, rv_r 56], []), [21], 41879, [], [2]),
  (21, ([rv_r 0, rv_i 1 20, rv_i 0 1, rv_i (-2) (-2), rv_i 1000000000 1000000000, rv_u, rv_u], [], []), [22], 41878, [], []),
  (22, ([rv_r 0, rv_i 1 20, rv_i 0 1, rv_i (-2) (-2), rv_i 1000000000 1000000000, rv_u, rv_u], [rv_r 0], []), [23], 41877, [], []),
  (23, ([rv_r 0, rv_i 1 20, rv_i 0 1, rv_i (-2) (-2), rv_i 1000000000 1000000000, rv_u, rv_u], [rv_r 56], []), [24], 41876, [], []),
  (24, ([rv_r 0, rv_i 1 20, rv_i 0 1, rv_i (-2) (-2), rv_i 1000000000 1000000000, rv_u, rv_u], [rv_r 0, rv_r 56], []), [25], 41875, [], []),
  (25, ([rv_r 0, rv_i 1 20, rv_i 0 1, rv_i (-2) (-2), rv_i 1000000000 1000000000, rv_u, rv_u], [rv_r 7, rv_r 56], []), [26], 41874, [], []),
  (26, ([rv_r 0, rv_i 1 20, rv_i 0 1, rv_i (-2) (-2), rv_i 1000000000 1000000000, rv_u, rv_u], [(1, 0, 0, 1, [(.inr (7, 8), 0)], []), rv_r 56], []), [27], 41873, [], []),
  (27, ([rv_r 0, rv_i 1 20, rv_i 0 1, rv_i (-2) (-2), rv_i 1000000000 1000000000, rv_u, rv_u], [], []), [28], 41872, [], []),
  (28, ([rv_r 0, rv_i 1 20, rv_i 0 1, rv_i (-2) (-2), rv_i 1000000000 1000000000, rv_u, rv_u], [rv_i 0 0], []), [29], 41871, [], []),
  (29, ([rv_r 0, rv_i 1 20, rv_i 0 1, rv_i (-2) 19, rv_i (-2147483648) 1000000000, rv_i 0 20, rv_u], [], []), [30], 41870, [(5, (-2093))], []),
  (30, ([rv_r 0, rv_i 1 20, rv_i 0 1, rv_i (-2) 19, rv_i (-2147483648) 1000000000, rv_i 0 20, rv_u], [(1, 0, 0, 20, [(.inl 5, 0)], [])], []), [31], 41869, [(5, (-2093))], []),
  (31, ([rv_r 0, rv_i 1 20, rv_i 0 1, rv_i (-2) 19, rv_i (-2147483648) 1000000000, rv_i 0 20, rv_u], [rv_i 20 20, (1, 0, 0, 20, [(.inl 5, 0)], [])], []), [32, 72], 41868, [(5, (-2093))], [])]
def n_X7_carpet_0_2 : List rv_N := [
  (32, ([rv_r 0, rv_i 1 20, rv_i 0 1, rv_i (-2) 19, rv_i (-2147483648) 1000000000, rv_i 0 19, rv_u], [], []), [33], 39817, [(5, (-2093))], []),
  (33, ([rv_r 0, rv_i 1 20, rv_i 0 1, rv_i (-2) 19, rv_i (-2147483648) 1000000000, rv_i 0 19, rv_u], [rv_r 0], []), [34], 39816, [(5, (-2093))], []),
  (34, ([rv_r 0, rv_i 1 20, rv_i 0 1, rv_i (-2) 19, rv_i (-2147483648) 1000000000, rv_i 0 19, rv_u], [rv_r 26], []), [35], 39815, [(5, (-2093))], []),
  (35, ([rv_r 0, rv_i 1 20, rv_i 0 1, rv_i (-2) 19, rv_i (-2147483648) 1000000000, rv_i 0 19, rv_u], [rv_r 29], []), [36], 39814, [(5, (-2093))], []),
  (36, ([rv_r 0, rv_i 1 20, rv_i 0 1, rv_i (-2) 19, rv_i (-2147483648) 1000000000, rv_i 0 19, rv_u], [(1, 0, 0, 19, [(.inl 5, 0)], []), rv_r 29], []), [37], 39813, [(5, (-2093))], []),
  (37, ([rv_r 0, rv_i 1 20, rv_i 0 1, rv_i (-2) 19, rv_i (-2147483648) 1000000000, rv_i 0 19, rv_u], [(1, 0, (-2147483648), 2147483647, [(.inr (29, 5005), 0)], [])], []), [38, 70], 39812, [(5, (-2093))], []),
  (38, ([rv_r 0, rv_i 1 20, rv_i 0 1, rv_i (-2) 19, rv_i (-2147483648) 1000000000, rv_i 0 19, rv_u], [], [((29, 5005), 0, 0, [])]), [39], 39811, [(5, (-2093))], []),
  (39, ([rv_r 0, rv_i 1 20, rv_i 0 1, rv_i (-2) 19, rv_i (-2147483648) 1000000000, rv_i 0 19, rv_u], [rv_r 0], [((29, 5005), 0, 0, [])]), [40], 39810, [(5, (-2093))], []),
  (40, ([rv_r 0, rv_i 1 20, rv_i 0 1, rv_i (-2) 19, rv_i (-2147483648) 1000000000, rv_i 0 19, rv_u], [rv_r 56], [((29, 5005), 0, 0, [])]), [41], 39809, [(5, (-2093))], []),
  (41, ([rv_r 0, rv_i 1 20, rv_i 0 1, rv_i (-2) 19, rv_i (-2147483648) 1000000000, rv_i 0 19, rv_u], [rv_r 0, rv_r 56], [((29, 5005), 0, 0, [])]), [42], 39808, [(5, (-2093))], []),
  (42, ([rv_r 0, rv_i 1 20, rv_i 0 1, rv_i (-2) 19, rv_i (-2147483648) 1000000000, rv_i 0 19, rv_u], [rv_r 26, rv_r 56], [((29, 5005), 0, 0, [])]), [43], 39807, [(5, (-2093))], [3]),
  (43, ([rv_r 0, rv_i 1 20, rv_i 0 1, rv_i (-2) 19, rv_i (-2147483648) 1000000000, rv_i 0 19, rv_u], [], [((29, 5005), 0, 0, [])]), [44], 39806, [(5, (-2093))], []),
  (44, ([rv_r 0, rv_i 1 20, rv_i 0 1, rv_i (-2) 19, rv_i (-2147483648) 1000000000, rv_i 0 19, rv_u], [rv_r 0], [((29, 5005), 0, 0, [])]), [45], 39805, [(5, (-2093))], []),
  (45, ([rv_r 0, rv_i 1 20, rv_i 0 1, rv_i (-2) 19, rv_i (-2147483648) 1000000000, rv_i 0 19, rv_u], [rv_r 56], [((29, 5005), 0, 0, [])]), [46], 39804, [(5, (-2093))], []),
  (46, ([rv_r 0, rv_i 1 20, rv_i 0 1, rv_i (-2) 19, rv_i (-2147483648) 1000000000, rv_i 0 19, rv_u], [rv_r 59], [((29, 5005), 0, 0, [])]), [47], 39803, [(5, (-2093))], []),
  (47, ([rv_r 0, rv_i 1 20, rv_i 0 1, rv_i (-2) 19, rv_i (-2147483648) 1000000000, rv_i 0 19, rv_u], [(1, 0, 0, 19, [(.inl 5, 0)], []), rv_r 59], [((29, 5005), 0, 0, [])]), [48], 39802, [(5, (-2093))], [])]
def n_X7_carpet_0_3 : List rv_N := [
  (48, ([rv_r 0, rv_i 1 20, rv_i 0 1, rv_i (-2) 19, rv_i (-2147483648) 1000000000, rv_i 0 19, rv_u], [rv_i 1 1, (1, 0, 0, 19, [(.inl 5, 0)], []), rv_r 59], [((29, 5005), 0, 0, [])]), [49], 39801, [(5, (-2093))], []),
  (49, ([rv_r 0, rv_i 1 20, rv_i 0 1, rv_i (-2) 19, rv_i (-2147483648) 1000000000, rv_i 0 19, rv_u], [], [((29, 5005), 0, 0, [])]), [50], 39800, [(5, (-2093))], []),
  (50, ([rv_r 0, rv_i 1 20, rv_i 0 1, rv_i (-2) 19, rv_i (-2147483648) 1000000000, rv_i 0 19, rv_u], [rv_r 0], [((29, 5005), 0, 0, [])]), [51], 39799, [(5, (-2093))], []),
  (51, ([rv_r 0, rv_i 1 20, rv_i 0 1, rv_i (-2) 19, rv_i (-2147483648) 1000000000, rv_i 0 19, rv_u], [rv_r 56], [((29, 5005), 0, 0, [])]), [52], 39798, [(5, (-2093))], []),
  (52, ([rv_r 0, rv_i 1 20, rv_i 0 1, rv_i (-2) 19, rv_i (-2147483648) 1000000000, rv_i 0 19, rv_u], [rv_r 0, rv_r 56], [((29, 5005), 0, 0, [])]), [53], 39797, [(5, (-2093))], []),
  (53, ([rv_r 0, rv_i 1 20, rv_i 0 1, rv_i (-2) 19, rv_i (-2147483648) 1000000000, rv_i 0 19, rv_u], [rv_r 7, rv_r 56], [((29, 5005), 0, 0, [])]), [54], 39796, [(5, (-2093))], []),
  (54, ([rv_r 0, rv_i 1 20, rv_i 0 1, rv_i (-2) 19, rv_i (-2147483648) 1000000000, rv_i 0 19, rv_u], [(1, 0, 1, 20, [(.inl 1, 0)], []), rv_r 7, rv_r 56], [((29, 5005), 0, 0, [])]), [55], 39795, [(5, (-2093))], []),
  (55, ([rv_r 0, rv_i 1 20, rv_i 0 1, rv_i (-2) 19, rv_i (-2147483648) 1000000000, rv_i 0 19, rv_u], [(1, 0, (-2147483648), 1000000000, [(.inl 4, 0)], []), (1, 0, 1, 20, [(.inl 1, 0)], []), rv_r 7, rv_r 56], [((29, 5005), 0, 0, [])]), [56], 39794, [(5, (-2093))], [4]),
  (56, ([rv_r 0, rv_i 1 20, rv_i 0 1, rv_i (-2) 19, rv_i (-2147483648) 1000000000, rv_i 0 19, rv_u], [rv_full], [((29, 5005), 0, 0, [])]), [57], 39793, [(5, (-2093))], []),
  (57, ([rv_r 0, rv_i 1 20, rv_i 0 1, rv_i (-2) 19, rv_i (-2147483648) 1000000000, rv_i 0 19, rv_full], [], [((29, 5005), 0, 0, [])]), [58], 39792, [(5, (-2093))], []),
  (58, ([rv_r 0, rv_i 1 20, rv_i 0 1, rv_i (-2) 19, rv_i (-2147483648) 1000000000, rv_i 0 19, rv_full], [rv_r 0], [((29, 5005), 0, 0, [])]), [59], 39791, [(5, (-2093))], []),
  (59, ([rv_r 0, rv_i 1 20, rv_i 0 1, rv_i (-2) 19, rv_i (-2147483648) 1000000000, rv_i 0 19, rv_full], [rv_r 56], [((29, 5005), 0, 0, [])]), [60], 39790, [(5, (-2093))], []),
  (60, ([rv_r 0, rv_i 1 20, rv_i 0 1, rv_i (-2) 19, rv_i (-2147483648) 1000000000, rv_i 0 19, rv_full], [rv_r 59], [((29, 5005), 0, 0, [])]), [61], 39789, [(5, (-2093))], []),
  (61, ([rv_r 0, rv_i 1 20, rv_i 0 1, rv_i (-2) 19, rv_i (-2147483648) 1000000000, rv_i 0 19, rv_full], [(1, 0, 0, 19, [(.inl 5, 0)], []), rv_r 59], [((29, 5005), 0, 0, [])]), [62], 39788, [(5, (-2093))], []),
  (62, ([rv_r 0, rv_i 1 20, rv_i 0 1, rv_i (-2) 19, rv_i (-2147483648) 1000000000, rv_i 0 19, rv_full], [rv_i 0 0, (1, 0, 0, 19, [(.inl 5, 0)], []), rv_r 59], [((29, 5005), 0, 0, [])]), [63], 39787, [(5, (-2093))], []),
  (63, ([rv_r 0, rv_i 1 20, rv_i 0 1, rv_i (-2) 19, rv_i (-2147483648) 1000000000, rv_i 0 19, rv_full], [], [((29, 5005), 0, 0, [])]), [64], 39786, [(5, (-2093))], [])]
def n_X7_carpet_0_4 : List rv_N := [
  (64, ([rv_r 0, rv_i 1 20, rv_i 0 1, rv_i (-2) 19, rv_i (-2147483648) 1000000000, rv_i 0 19, rv_full], [(1, 0, (-2147483648), 2147483647, [(.inl 6, 0)], [])], [((29, 5005), 0, 0, [])]), [65], 39785, [(5, (-2093))], []),
  (65, ([rv_r 0, rv_i 1 20, rv_i 0 1, rv_i (-2) 19, rv_i (-2147483648) 1000000000, rv_i 0 19, rv_full], [(1, 0, (-2147483648), 1000000000, [(.inl 4, 0)], []), (1, 0, (-2147483648), 2147483647, [(.inl 6, 0)], [])], [((29, 5005), 0, 0, [])]), [66, 70], 39784, [(5, (-2093))], []),
  (66, ([rv_r 0, rv_i 1 20, rv_i 0 1, rv_i (-2) 19, rv_i (-2147483647) 1000000000, rv_i 0 19, rv_i (-2147483648) 999999999], [], [((29, 5005), 0, 0, [])]), [67], 39783, [(5, (-2093))], []),
  (67, ([rv_r 0, rv_i 1 20, rv_i 0 1, rv_i (-2) 19, rv_i (-2147483647) 1000000000, rv_i 0 19, rv_i (-2147483648) 999999999], [(1, 0, (-2147483648), 999999999, [(.inl 6, 0)], [])], [((29, 5005), 0, 0, [])]), [68], 39782, [(5, (-2093))], []),
  (68, ([rv_r 0, rv_i 1 20, rv_i 0 1, rv_i (-2) 19, rv_i (-2147483648) 999999999, rv_i 0 19, rv_i (-2147483648) 999999999], [], [((29, 5005), 0, 0, [])]), [69], 39781, [(5, (-2093))], []),
  (69, ([rv_r 0, rv_i 1 20, rv_i 0 1, rv_i (-2) 19, rv_i (-2147483648) 999999999, rv_i 0 19, rv_i (-2147483648) 999999999], [(1, 0, 0, 19, [(.inl 5, 0)], [])], [((29, 5005), 0, 0, [])]), [70], 39780, [(5, (-2093))], []),
  (70, ([rv_r 0, rv_i 1 20, rv_i 0 1, rv_i (-2) 19, rv_i (-2147483648) 1000000000, rv_i 0 19, rv_u], [], []), [71], 39779, [(5, (-2093))], []),
  (71, ([rv_r 0, rv_i 1 20, rv_i 0 1, rv_i (-2) 19, rv_i (-2147483648) 1000000000, rv_i 1 20, rv_u], [], []), [29], 41871, [(5, (-2093))], []),
  (72, ([rv_r 0, rv_i 1 20, rv_i 0 1, rv_i (-2) 19, rv_i (-2147483648) 1000000000, rv_i 20 20, rv_u], [], []), [73], 7, [], []),
  (73, ([rv_r 0, rv_i 1 20, rv_i 0 1, rv_i (-2) 19, rv_i (-2147483648) 1000000000, rv_i 20 20, rv_u], [(1, 0, 0, 1, [(.inl 2, 0)], [])], []), [74, 77], 6, [], []),
  (74, ([rv_r 0, rv_i 1 20, (1, 1, 1, 1, [], []), rv_i (-2) 19, rv_i (-2147483648) 1000000000, rv_i 20 20, rv_u], [], []), [75], 5, [], []),
  (75, ([rv_r 0, rv_i 1 20, (1, 1, 1, 1, [], []), rv_i (-2) 19, rv_i (-2147483648) 1000000000, rv_i 20 20, rv_u], [(1, 0, (-2), 19, [(.inl 3, 0)], [])], []), [76], 4, [], []),
  (76, ([rv_r 0, rv_i 1 20, (1, 1, 1, 1, [], []), rv_i (-2) 19, rv_i (-2147483648) 1000000000, rv_i 20 20, rv_u], [rv_i (-2) (-2), (1, 0, (-2), 19, [(.inl 3, 0)], [])], []), [77, 79], 3, [], []),
  (77, ([rv_r 0, rv_i 1 20, rv_i 0 1, rv_i (-2) 19, rv_i (-2147483648) 1000000000, rv_i 20 20, rv_u], [], []), [78], 2, [], []),
  (78, ([rv_r 0, rv_i 1 20, rv_i 0 1, rv_i (-2) 19, rv_i (-2147483648) 1000000000, rv_i 20 20, rv_u], [(1, 0, (-2), 19, [(.inl 3, 0)], [])], []), [80], 1, [], []),
  (79, ([rv_r 0, rv_i 1 20, (1, 1, 1, 1, [], []), rv_i (-1) 19, rv_i (-2147483648) 1000000000, rv_i 20 20, rv_u], [], []), [80], 1, [], [])]
def n_X7_carpet_0_5 : List rv_N := [
  (80, ([rv_r 0, rv_i 1 20, rv_i 0 1, rv_i (-2) 19, rv_i (-2147483648) 1000000000, rv_i 20 20, rv_u], [rv_i (-2147483648) 1000000000], []), [], 0, [], [])]
def n_X7_carpet_0 : List rv_N := n_X7_carpet_0_0 ++ (n_X7_carpet_0_1 ++ (n_X7_carpet_0_2 ++ (n_X7_carpet_0_3 ++ (n_X7_carpet_0_4 ++ (n_X7_carpet_0_5)))))
noncomputable def gn_X7_carpet_0 : Nat → Option rv_N := rv_ap 16 (rv_at n_X7_carpet_0_0) (rv_ap 16 (rv_at n_X7_carpet_0_1) (rv_ap 16 (rv_at n_X7_carpet_0_2) (rv_ap 16 (rv_at n_X7_carpet_0_3) (rv_ap 16 (rv_at n_X7_carpet_0_4) (rv_at n_X7_carpet_0_5)))))
theorem hn_X7_carpet_0 : ∀ i : Nat, n_X7_carpet_0[i]? = gn_X7_carpet_0 i := rv_ap_eq (l := n_X7_carpet_0_0) (c := 16) (rv_ap_eq (l := n_X7_carpet_0_1) (c := 16) (rv_ap_eq (l := n_X7_carpet_0_2) (c := 16) (rv_ap_eq (l := n_X7_carpet_0_3) (c := 16) (rv_ap_eq (l := n_X7_carpet_0_4) (c := 16) (rv_at_eq n_X7_carpet_0_5) rfl) rfl) rfl) rfl) rfl
set_option maxRecDepth 100000 in
theorem a_X7_carpet_0 : rv_all (fm_tm, flX7, fm_wr, kcX7, klX7, K_X7_carpet_0.2.2.1, [], 7) ct_X7_carpet_0 cd_X7_carpet n_X7_carpet_0 K_X7_carpet_0 [] 0 n_X7_carpet_0 = true := rv_fast hn_X7_carpet_0 hc_X7_carpet (by decide +kernel)
theorem m_X7_carpet_0 {l : Launch} {D : va_G} {ad : Nat → Nat} {cy : Nat → ClassId} {Z : State → Heap → Prop} {Gp : fm_V → Prop} (hAd : fm_Ad fm_tm ad) (hZ : fm_Zk (fm_A fm_tm ad) Z) (hGd : fm_Gd Gp) : rv_Met l D fm_cl fm_tm ad cy fm_nt Z Gp yX7_carpet (.code yX7_carpet prog_1_method_18_code 7 (some .int) :: fm_Ts) { frames := 6, cells := 0, slots := 0, locals := 600 } K_X7_carpet_0 := rv_met hAd hZ (Or.inl (by decide +kernel)) evX7 dc_X7_carpet a_X7_carpet_0 ⟨rfl, rfl, rfl⟩ (by decide +kernel) (by decide +kernel) (by decide) (fm_gm hGd (by decide +kernel)) (Or.inl rfl) (fun p e s m args below meth c Q X Y => List.forall_mem_cons.mpr ⟨rv_ctS X Y fm_Ts_good dc_X7_carpet (pc := 4) (i := 3) (idx := 80) rfl (m_X7_isWithin_9 hAd hZ hGd) wl_X7_80 wm_X7_isWithin wy_X7_isWithin (by decide) rfl, List.forall_mem_cons.mpr ⟨rv_ctS X Y fm_Ts_good dc_X7_carpet (pc := 13) (i := 8) (idx := 80) rfl (m_X7_isWithin_15 hAd hZ hGd) wl_X7_80 wm_X7_isWithin wy_X7_isWithin (by decide) rfl, List.forall_mem_cons.mpr ⟨rv_ctV X Y fm_Ts_good dc_X7_carpet (pc := 36) (i := 20) (idx := 168) rfl (m_X0_takeAll_0 hAd hZ hGd) wl_X7_168 wm_X0_takeAll wy_X0_takeAll (by decide) ⟨rfl, rfl, rfl⟩ ⟨rfl, rfl⟩, List.forall_mem_cons.mpr ⟨rv_ctV X Y fm_Ts_good dc_X7_carpet (pc := 84) (i := 42) (idx := 221) rfl (m_X0_takeMoving_0 hAd hZ hGd) wl_X7_221 wm_X0_takeMoving wy_X0_takeMoving (by decide) ⟨rfl, rfl, rfl⟩ ⟨rfl, rfl⟩, List.forall_mem_cons.mpr ⟨rv_ctV X Y fm_Ts_good dc_X7_carpet (pc := 109) (i := 55) (idx := 240) rfl (m_X0_passUnder_0 hAd hZ hGd) wl_X7_240 wm_X0_passUnder wy_X0_passUnder (by decide) ⟨rfl, rfl, rfl⟩ ⟨rfl, rfl⟩, fun _ h => absurd h List.not_mem_nil⟩⟩⟩⟩⟩) (fun _ _ _ _ _ _ _ _ _ _ _ _ _ _ _ _ h => absurd h List.not_mem_nil)
def K_X7_isWithin_16 : rv_K := ([rv_full, rv_i 0 0, rv_i 2 2], [], [], [(0, 0, 1)], [(.inl 0, 0, 2)], [])
def ct_X7_isWithin_16 : List (Nat × rv_K) := []
def n_X7_isWithin_16 : List rv_N := [
  (0, ([rv_full, rv_i 0 0, rv_i 2 2], [], []), [1], 8, [], []),
  (1, ([rv_full, rv_i 0 0, rv_i 2 2], [(1, 0, (-2147483648), 2147483647, [(.inl 0, 0)], [])], []), [2], 7, [], []),
  (2, ([rv_full, rv_i 0 0, rv_i 2 2], [(1, 0, 0, 0, [(.inl 1, 0)], []), (1, 0, (-2147483648), 2147483647, [(.inl 0, 0)], [])], []), [3, 8], 6, [], []),
  (3, ([rv_i 0 2147483647, rv_i 0 0, rv_i 2 2], [], []), [4], 5, [], []),
  (4, ([rv_i 0 2147483647, rv_i 0 0, rv_i 2 2], [(1, 0, 0, 2147483647, [(.inl 0, 0)], [])], []), [5], 4, [], []),
  (5, ([rv_i 0 2147483647, rv_i 0 0, rv_i 2 2], [(1, 0, 2, 2, [(.inl 2, 0)], []), (1, 0, 0, 2147483647, [(.inl 0, 0)], [])], []), [6, 8], 3, [], []),
  (6, ([rv_i 0 2, rv_i 0 0, rv_i 2 2], [], []), [7], 2, [], []),
  (7, ([rv_i 0 2, rv_i 0 0, rv_i 2 2], [rv_i 1 1], []), [10], 1, [], []),
  (8, ([rv_full, rv_i 0 0, rv_i 2 2], [], []), [9], 1, [], []),
  (9, ([rv_full, rv_i 0 0, rv_i 2 2], [rv_i 0 0], []), [], 0, [], []),
  (9, ([rv_i 0 2, rv_i 0 0, rv_i 2 2], [rv_i 1 1], []), [], 0, [], [])]
set_option maxRecDepth 100000 in
theorem a_X7_isWithin_16 : rv_all (fm_tm, flX7, fm_wr, kcX7, klX7, K_X7_isWithin_16.2.2.1, [0, 1, 2], 3) ct_X7_isWithin_16 cd_X7_isWithin n_X7_isWithin_16 K_X7_isWithin_16 [] 0 n_X7_isWithin_16 = true := rv_fast (rv_at_eq n_X7_isWithin_16) (rv_at_eq cd_X7_isWithin) (by decide +kernel)
theorem m_X7_isWithin_16 {l : Launch} {D : va_G} {ad : Nat → Nat} {cy : Nat → ClassId} {Z : State → Heap → Prop} {Gp : fm_V → Prop} (hAd : fm_Ad fm_tm ad) (hZ : fm_Zk (fm_A fm_tm ad) Z) (hGd : fm_Gd Gp) : rv_Met l D fm_cl fm_tm ad cy fm_nt Z Gp yX7_isWithin (.code yX7_isWithin prog_1_method_34_code 3 (some .boolean) :: fm_Ts) { frames := 0, cells := 0, slots := 0, locals := 0 } K_X7_isWithin_16 := rv_met hAd hZ (Or.inl (by decide +kernel)) evX7 dc_X7_isWithin a_X7_isWithin_16 ⟨rfl, rfl, rfl⟩ (by decide +kernel) (by decide +kernel) (by decide) (fm_gm hGd (by decide +kernel)) (Or.inr ⟨rfl, by decide, by decide⟩) (fun p e s m args below meth c Q X Y => fun _ h => absurd h List.not_mem_nil) (fun _ _ _ _ _ _ _ _ _ _ _ _ _ _ _ _ h => absurd h List.not_mem_nil)
def cd_J9_abs_0f7a4 : List (Nat × Instr × Nat) := [(0, .iload_n 0, 1), (1, .ifCond .ge 8, 3), (4, .iload_n 0, 1), (5, .ineg, 1), (6, .goto 4, 3), (9, .iload_n 0, 1), (10, .ireturn, 1)]
theorem dc_J9_abs_0f7a4 : ∀ q ∈ cd_J9_abs_0f7a4, decode prog_13_method_59_code q.1 = .ok (q.2.1, q.2.2) := by decide +kernel
def K_J9_abs_0f7a4_0 : rv_K := ([rv_full], [], [], [(0, (-2147483648), 2147483647)], [], [])
def ct_J9_abs_0f7a4_0 : List (Nat × rv_K) := []
def n_J9_abs_0f7a4_0 : List rv_N := [
  (0, ([rv_full], [], []), [1], 5, [], []),
  (1, ([rv_full], [(1, 0, (-2147483648), 2147483647, [(.inl 0, 0)], [])], []), [2, 5], 4, [], []),
  (2, ([rv_i (-2147483648) (-1)], [], []), [3], 3, [], []),
  (3, ([rv_i (-2147483648) (-1)], [(1, 0, (-2147483648), (-1), [(.inl 0, 0)], [])], []), [4], 2, [], []),
  (4, ([rv_i (-2147483648) (-1)], [rv_full], []), [6], 1, [], []),
  (5, ([rv_i 0 2147483647], [], []), [6], 1, [], []),
  (6, ([rv_full], [rv_full], []), [], 0, [], [])]
set_option maxRecDepth 100000 in
theorem a_J9_abs_0f7a4_0 : rv_all (fm_tm, [], fm_wr, kcJ9, klJ9, K_J9_abs_0f7a4_0.2.2.1, [], 1) ct_J9_abs_0f7a4_0 cd_J9_abs_0f7a4 n_J9_abs_0f7a4_0 K_J9_abs_0f7a4_0 [] 0 n_J9_abs_0f7a4_0 = true := rv_fast (rv_at_eq n_J9_abs_0f7a4_0) (rv_at_eq cd_J9_abs_0f7a4) (by decide +kernel)
theorem m_J9_abs_0f7a4_0 {l : Launch} {D : va_G} {ad : Nat → Nat} {cy : Nat → ClassId} {Z : State → Heap → Prop} {Gp : fm_V → Prop} (hAd : fm_Ad fm_tm ad) (hZ : fm_Zk (fm_A fm_tm ad) Z) (hGd : fm_Gd Gp) : rv_Met l D fm_cl fm_tm ad cy fm_nt Z Gp yJ9_abs_0f7a4 (.code yJ9_abs_0f7a4 prog_13_method_59_code 1 (some .int) :: fm_Ts) { frames := 0, cells := 0, slots := 0, locals := 0 } K_J9_abs_0f7a4_0 := rv_met hAd hZ (Or.inr (by decide +kernel)) evJ9 dc_J9_abs_0f7a4 a_J9_abs_0f7a4_0 ⟨rfl, rfl, rfl⟩ (by decide +kernel) (by decide +kernel) (by decide) (fm_gm hGd (by decide +kernel)) (Or.inl rfl) (fun p e s m args below meth c Q X Y => fun _ h => absurd h List.not_mem_nil) (fun _ _ _ _ _ _ _ _ _ _ _ _ _ _ _ _ h => absurd h List.not_mem_nil)
def cd_X7_gust : List (Nat × Instr × Nat) := [(0, .iload_n 1, 1), (1, .invokestatic 75, 3), (4, .ifCond .eq 13, 3), (7, .iload_n 2, 1), (8, .bipush (-3), 2), (10, .iconst 3, 1), (11, .invokestatic 80, 3), (14, .ifCond .ne 5, 3), (17, .iconst (-1), 1), (18, .ireturn, 1), (19, .iload_n 3, 1), (20, .iconst 1, 1), (21, .bipush 40, 2), (23, .invokestatic 80, 3), (26, .ifCond .eq 13, 3), (29, .iload 4, 2), (31, .iconst 0, 1), (32, .iconst 2, 1), (33, .invokestatic 80, 3), (36, .ifCond .ne 5, 3), (39, .iconst (-1), 1), (40, .ireturn, 1), (41, .aload_n 0, 1), (42, .getfield 45, 3), (45, .aload_n 0, 1), (46, .getfield 38, 3), (49, .invokevirtual 168, 3), (52, .aload_n 0, 1), (53, .getfield 45, 3), (56, .aload_n 0, 1), (57, .getfield 22, 3), (60, .iload_n 3, 1), (61, .invokevirtual 151, 3), (64, .pop, 1), (65, .aload_n 0, 1), (66, .getfield 45, 3), (69, .getfield 84, 3), (72, .iconst 0, 1), (73, .aload_n 0, 1), (74, .getfield 64, 3), (77, .iconst 0, 1), (78, .bipush 20, 2), (80, .invokestatic 250, 3), (83, .aload_n 0, 1), (84, .getfield 45, 3), (87, .aload_n 0, 1), (88, .getfield 38, 3), (91, .invokevirtual 221, 3), (94, .aload_n 0, 1), (95, .getfield 45, 3), (98, .getfield 87, 3), (101, .iload_n 1, 1), (102, .iload_n 2, 1), (103, .iastore, 1), (104, .aload_n 0, 1), (105, .getfield 45, 3), (108, .aload_n 0, 1), (109, .getfield 22, 3), (112, .iload_n 3, 1), (113, .invokevirtual 151, 3), (116, .pop, 1), (117, .iconst 0, 1), (118, .istore 5, 2), (120, .bipush (-2), 2), (122, .istore 6, 2), (124, .iconst 0, 1), (125, .istore 7, 2), (127, .iconst 0, 1), (128, .istore 8, 2), (130, .iload 8, 2), (132, .bipush 20, 2), (134, .if_icmp .ge 54, 3), (137, .aload_n 0, 1), (138, .getfield 45, 3), (141, .getfield 84, 3), (144, .iload 8, 2), (146, .iaload, 1), (147, .aload_n 0, 1), (148, .getfield 64, 3), (151, .iload 8, 2), (153, .iaload, 1), (154, .isub, 1), (155, .istore 9, 2), (157, .iload 5, 2), (159, .iload 9, 2), (161, .invokestatic 256, 3), (164, .iadd, 1), (165, .istore 5, 2), (167, .iload 9, 2), (169, .iload 7, 2), (171, .if_icmp .le 11, 3), (174, .iload 9, 2), (176, .istore 7, 2), (178, .iload 8, 2), (180, .istore 6, 2), (182, .iinc 8 1, 3), (185, .goto (-55), 3), (188, .iload 4, 2), (190, .lookupswitch 32 #[(0, 26), (1, 29)], 26), (216, .iload 5, 2), (218, .ireturn, 1), (219, .iload 6, 2), (221, .ireturn, 1), (222, .iload 7, 2), (224, .ireturn, 1)]
theorem dc_X7_gust : ∀ q ∈ cd_X7_gust, decode prog_1_method_19_code q.1 = .ok (q.2.1, q.2.2) := by decide +kernel
def ch_X7_gust_0 : List (Nat × Instr × Nat) := [(0, .iload_n 1, 1), (1, .invokestatic 75, 3), (4, .ifCond .eq 13, 3), (7, .iload_n 2, 1), (8, .bipush (-3), 2), (10, .iconst 3, 1), (11, .invokestatic 80, 3), (14, .ifCond .ne 5, 3), (17, .iconst (-1), 1), (18, .ireturn, 1), (19, .iload_n 3, 1), (20, .iconst 1, 1), (21, .bipush 40, 2), (23, .invokestatic 80, 3), (26, .ifCond .eq 13, 3), (29, .iload 4, 2)]
def ch_X7_gust_1 : List (Nat × Instr × Nat) := [(31, .iconst 0, 1), (32, .iconst 2, 1), (33, .invokestatic 80, 3), (36, .ifCond .ne 5, 3), (39, .iconst (-1), 1), (40, .ireturn, 1), (41, .aload_n 0, 1), (42, .getfield 45, 3), (45, .aload_n 0, 1), (46, .getfield 38, 3), (49, .invokevirtual 168, 3), (52, .aload_n 0, 1), (53, .getfield 45, 3), (56, .aload_n 0, 1), (57, .getfield 22, 3), (60, .iload_n 3, 1)]
def ch_X7_gust_2 : List (Nat × Instr × Nat) := [(61, .invokevirtual 151, 3), (64, .pop, 1), (65, .aload_n 0, 1), (66, .getfield 45, 3), (69, .getfield 84, 3), (72, .iconst 0, 1), (73, .aload_n 0, 1), (74, .getfield 64, 3), (77, .iconst 0, 1), (78, .bipush 20, 2), (80, .invokestatic 250, 3), (83, .aload_n 0, 1), (84, .getfield 45, 3), (87, .aload_n 0, 1), (88, .getfield 38, 3), (91, .invokevirtual 221, 3)]
def ch_X7_gust_3 : List (Nat × Instr × Nat) := [(94, .aload_n 0, 1), (95, .getfield 45, 3), (98, .getfield 87, 3), (101, .iload_n 1, 1), (102, .iload_n 2, 1), (103, .iastore, 1), (104, .aload_n 0, 1), (105, .getfield 45, 3), (108, .aload_n 0, 1), (109, .getfield 22, 3), (112, .iload_n 3, 1), (113, .invokevirtual 151, 3), (116, .pop, 1), (117, .iconst 0, 1), (118, .istore 5, 2), (120, .bipush (-2), 2)]
def ch_X7_gust_4 : List (Nat × Instr × Nat) := [(122, .istore 6, 2), (124, .iconst 0, 1), (125, .istore 7, 2), (127, .iconst 0, 1), (128, .istore 8, 2), (130, .iload 8, 2), (132, .bipush 20, 2), (134, .if_icmp .ge 54, 3), (137, .aload_n 0, 1), (138, .getfield 45, 3), (141, .getfield 84, 3), (144, .iload 8, 2), (146, .iaload, 1), (147, .aload_n 0, 1), (148, .getfield 64, 3), (151, .iload 8, 2)]
def ch_X7_gust_5 : List (Nat × Instr × Nat) := [(153, .iaload, 1), (154, .isub, 1), (155, .istore 9, 2), (157, .iload 5, 2), (159, .iload 9, 2), (161, .invokestatic 256, 3), (164, .iadd, 1), (165, .istore 5, 2), (167, .iload 9, 2), (169, .iload 7, 2), (171, .if_icmp .le 11, 3), (174, .iload 9, 2), (176, .istore 7, 2), (178, .iload 8, 2), (180, .istore 6, 2), (182, .iinc 8 1, 3)]
def ch_X7_gust_6 : List (Nat × Instr × Nat) := [(185, .goto (-55), 3), (188, .iload 4, 2), (190, .lookupswitch 32 #[(0, 26), (1, 29)], 26), (216, .iload 5, 2), (218, .ireturn, 1), (219, .iload 6, 2), (221, .ireturn, 1), (222, .iload 7, 2), (224, .ireturn, 1)]
set_option maxRecDepth 100000 in
theorem he_X7_gust : cd_X7_gust = ch_X7_gust_0 ++ (ch_X7_gust_1 ++ (ch_X7_gust_2 ++ (ch_X7_gust_3 ++ (ch_X7_gust_4 ++ (ch_X7_gust_5 ++ (ch_X7_gust_6)))))) := rfl
noncomputable def gc_X7_gust : Nat → Option (Nat × Instr × Nat) := rv_ap 16 (rv_at ch_X7_gust_0) (rv_ap 16 (rv_at ch_X7_gust_1) (rv_ap 16 (rv_at ch_X7_gust_2) (rv_ap 16 (rv_at ch_X7_gust_3) (rv_ap 16 (rv_at ch_X7_gust_4) (rv_ap 16 (rv_at ch_X7_gust_5) (rv_at ch_X7_gust_6))))))
theorem hc_X7_gust : ∀ i : Nat, cd_X7_gust[i]? = gc_X7_gust i := by
  rw [he_X7_gust]
  exact rv_ap_eq (l := ch_X7_gust_0) (c := 16) (rv_ap_eq (l := ch_X7_gust_1) (c := 16) (rv_ap_eq (l := ch_X7_gust_2) (c := 16) (rv_ap_eq (l := ch_X7_gust_3) (c := 16) (rv_ap_eq (l := ch_X7_gust_4) (c := 16) (rv_ap_eq (l := ch_X7_gust_5) (c := 16) (rv_at_eq ch_X7_gust_6) rfl) rfl) rfl) rfl) rfl) rfl
def K_X7_gust_0 : rv_K := ([rv_r 0, rv_full, rv_full, rv_full, rv_full], [], [(1, 9999), (14, 0), (14, 1), (14, 2), (14, 3), (14, 4), (14, 5), (14, 6), (14, 7), (14, 8), (14, 9), (14, 10), (14, 11), (14, 12), (14, 9999), (15, 9999), (56, 9), (56, 10), (56, 11), (56, 12), (56, 13), (56, 14), (56, 15), (56, 16), (57, 9999), (58, 9999), (59, 9999), (60, 9999), (61, 9999), (62, 9999), (63, 9999), (64, 9999), (65, 9999), (66, 0), (67, 9999), (68, 9999), (69, 9999), (70, 9999)], [(0, (-2147483648), 2147483647)], [], [])
def ct_X7_gust_0 : List (Nat × rv_K) := [(1, K_X7_isYard_0), (6, K_X7_isWithin_1), (13, K_X7_isWithin_7), (18, K_X7_isWithin_16), (26, K_X0_takeAll_0), (32, K_X0_passDrawn_1), (42, ([rv_r 57, rv_i 0 0, rv_r 1, rv_i 0 0, rv_i 20 20], [], [(1, 9999)], [], [], [])), (47, K_X0_takeMoving_0), (59, K_X0_passDrawn_1), (85, K_J9_abs_0f7a4_0)]
def n_X7_gust_0_0 : List rv_N := [
  (0, ([rv_r 0, rv_full, rv_full, rv_full, rv_full, rv_u, rv_u, rv_u, rv_u, rv_u], [], []), [1], 52971, [], []),
  (1, ([rv_r 0, rv_full, rv_full, rv_full, rv_full, rv_u, rv_u, rv_u, rv_u, rv_u], [(1, 0, (-2147483648), 2147483647, [(.inl 1, 0)], [])], []), [2], 52970, [], [0]),
  (2, ([rv_r 0, rv_full, rv_full, rv_full, rv_full, rv_u, rv_u, rv_u, rv_u, rv_u], [(1, 0, 0, 1, [], [(.inl 1, 0, 19)])], []), [3, 8], 52969, [], []),
  (3, ([rv_r 0, rv_i 0 19, rv_full, rv_full, rv_full, rv_u, rv_u, rv_u, rv_u, rv_u], [], []), [4], 52968, [], []),
  (4, ([rv_r 0, rv_i 0 19, rv_full, rv_full, rv_full, rv_u, rv_u, rv_u, rv_u, rv_u], [(1, 0, (-2147483648), 2147483647, [(.inl 2, 0)], [])], []), [5], 52967, [], []),
  (5, ([rv_r 0, rv_i 0 19, rv_full, rv_full, rv_full, rv_u, rv_u, rv_u, rv_u, rv_u], [rv_i (-3) (-3), (1, 0, (-2147483648), 2147483647, [(.inl 2, 0)], [])], []), [6], 52966, [], []),
  (6, ([rv_r 0, rv_i 0 19, rv_full, rv_full, rv_full, rv_u, rv_u, rv_u, rv_u, rv_u], [rv_i 3 3, rv_i (-3) (-3), (1, 0, (-2147483648), 2147483647, [(.inl 2, 0)], [])], []), [7], 52965, [], [1]),
  (7, ([rv_r 0, rv_i 0 19, rv_full, rv_full, rv_full, rv_u, rv_u, rv_u, rv_u, rv_u], [(1, 0, 0, 1, [], [(.inl 2, (-3), 3)])], []), [8, 10], 52964, [], []),
  (8, ([rv_r 0, rv_full, rv_full, rv_full, rv_full, rv_u, rv_u, rv_u, rv_u, rv_u], [], []), [9], 1, [], []),
  (9, ([rv_r 0, rv_full, rv_full, rv_full, rv_full, rv_u, rv_u, rv_u, rv_u, rv_u], [rv_i (-1) (-1)], []), [], 0, [], []),
  (10, ([rv_r 0, rv_i 0 19, rv_i (-3) 3, rv_full, rv_full, rv_u, rv_u, rv_u, rv_u, rv_u], [], []), [11], 52963, [], []),
  (11, ([rv_r 0, rv_i 0 19, rv_i (-3) 3, rv_full, rv_full, rv_u, rv_u, rv_u, rv_u, rv_u], [(1, 0, (-2147483648), 2147483647, [(.inl 3, 0)], [])], []), [12], 52962, [], []),
  (12, ([rv_r 0, rv_i 0 19, rv_i (-3) 3, rv_full, rv_full, rv_u, rv_u, rv_u, rv_u, rv_u], [rv_i 1 1, (1, 0, (-2147483648), 2147483647, [(.inl 3, 0)], [])], []), [13], 52961, [], []),
  (13, ([rv_r 0, rv_i 0 19, rv_i (-3) 3, rv_full, rv_full, rv_u, rv_u, rv_u, rv_u, rv_u], [rv_i 40 40, rv_i 1 1, (1, 0, (-2147483648), 2147483647, [(.inl 3, 0)], [])], []), [14], 52960, [], [2]),
  (14, ([rv_r 0, rv_i 0 19, rv_i (-3) 3, rv_full, rv_full, rv_u, rv_u, rv_u, rv_u, rv_u], [(1, 0, 0, 1, [], [(.inl 3, 1, 40)])], []), [15, 20], 52959, [], []),
  (15, ([rv_r 0, rv_i 0 19, rv_i (-3) 3, rv_i 1 40, rv_full, rv_u, rv_u, rv_u, rv_u, rv_u], [], []), [16], 52958, [], [])]
def n_X7_gust_0_1 : List rv_N := [
  (16, ([rv_r 0, rv_i 0 19, rv_i (-3) 3, rv_i 1 40, rv_full, rv_u, rv_u, rv_u, rv_u, rv_u], [(1, 0, (-2147483648), 2147483647, [(.inl 4, 0)], [])], []), [17], 52957, [], []),
  (17, ([rv_r 0, rv_i 0 19, rv_i (-3) 3, rv_i 1 40, rv_full, rv_u, rv_u, rv_u, rv_u, rv_u], [rv_i 0 0, (1, 0, (-2147483648), 2147483647, [(.inl 4, 0)], [])], []), [18], 52956, [], []),
  (18, ([rv_r 0, rv_i 0 19, rv_i (-3) 3, rv_i 1 40, rv_full, rv_u, rv_u, rv_u, rv_u, rv_u], [rv_i 2 2, rv_i 0 0, (1, 0, (-2147483648), 2147483647, [(.inl 4, 0)], [])], []), [19], 52955, [], [3]),
  (19, ([rv_r 0, rv_i 0 19, rv_i (-3) 3, rv_i 1 40, rv_full, rv_u, rv_u, rv_u, rv_u, rv_u], [(1, 0, 0, 1, [], [(.inl 4, 0, 2)])], []), [20, 22], 52954, [], []),
  (20, ([rv_r 0, rv_i 0 19, rv_i (-3) 3, rv_full, rv_full, rv_u, rv_u, rv_u, rv_u, rv_u], [], []), [21], 1, [], []),
  (21, ([rv_r 0, rv_i 0 19, rv_i (-3) 3, rv_full, rv_full, rv_u, rv_u, rv_u, rv_u, rv_u], [rv_i (-1) (-1)], []), [], 0, [], []),
  (22, ([rv_r 0, rv_i 0 19, rv_i (-3) 3, rv_i 1 40, rv_i 0 2, rv_u, rv_u, rv_u, rv_u, rv_u], [], []), [23], 52953, [], []),
  (23, ([rv_r 0, rv_i 0 19, rv_i (-3) 3, rv_i 1 40, rv_i 0 2, rv_u, rv_u, rv_u, rv_u, rv_u], [rv_r 0], []), [24], 52952, [], []),
  (24, ([rv_r 0, rv_i 0 19, rv_i (-3) 3, rv_i 1 40, rv_i 0 2, rv_u, rv_u, rv_u, rv_u, rv_u], [rv_r 56], []), [25], 52951, [], []),
  (25, ([rv_r 0, rv_i 0 19, rv_i (-3) 3, rv_i 1 40, rv_i 0 2, rv_u, rv_u, rv_u, rv_u, rv_u], [rv_r 0, rv_r 56], []), [26], 52950, [], []),
  (26, ([rv_r 0, rv_i 0 19, rv_i (-3) 3, rv_i 1 40, rv_i 0 2, rv_u, rv_u, rv_u, rv_u, rv_u], [rv_r 26, rv_r 56], []), [27], 52949, [], [4]),
  (27, ([rv_r 0, rv_i 0 19, rv_i (-3) 3, rv_i 1 40, rv_i 0 2, rv_u, rv_u, rv_u, rv_u, rv_u], [], []), [28], 52948, [], []),
  (28, ([rv_r 0, rv_i 0 19, rv_i (-3) 3, rv_i 1 40, rv_i 0 2, rv_u, rv_u, rv_u, rv_u, rv_u], [rv_r 0], []), [29], 52947, [], []),
  (29, ([rv_r 0, rv_i 0 19, rv_i (-3) 3, rv_i 1 40, rv_i 0 2, rv_u, rv_u, rv_u, rv_u, rv_u], [rv_r 56], []), [30], 52946, [], []),
  (30, ([rv_r 0, rv_i 0 19, rv_i (-3) 3, rv_i 1 40, rv_i 0 2, rv_u, rv_u, rv_u, rv_u, rv_u], [rv_r 0, rv_r 56], []), [31], 52945, [], []),
  (31, ([rv_r 0, rv_i 0 19, rv_i (-3) 3, rv_i 1 40, rv_i 0 2, rv_u, rv_u, rv_u, rv_u, rv_u], [rv_r 7, rv_r 56], []), [32], 52944, [], [])]
def n_X7_gust_0_2 : List rv_N := [
  (32, ([rv_r 0, rv_i 0 19, rv_i (-3) 3, rv_i 1 40, rv_i 0 2, rv_u, rv_u, rv_u, rv_u, rv_u], [(1, 0, 1, 40, [(.inl 3, 0)], []), rv_r 7, rv_r 56], []), [33], 52943, [], [5]),
  (33, ([rv_r 0, rv_i 0 19, rv_i (-3) 3, rv_i 1 40, rv_i 0 2, rv_u, rv_u, rv_u, rv_u, rv_u], [rv_full], []), [34], 52942, [], []),
  (34, ([rv_r 0, rv_i 0 19, rv_i (-3) 3, rv_i 1 40, rv_i 0 2, rv_u, rv_u, rv_u, rv_u, rv_u], [], []), [35], 52941, [], []),
  (35, ([rv_r 0, rv_i 0 19, rv_i (-3) 3, rv_i 1 40, rv_i 0 2, rv_u, rv_u, rv_u, rv_u, rv_u], [rv_r 0], []), [36], 52940, [], []),
  (36, ([rv_r 0, rv_i 0 19, rv_i (-3) 3, rv_i 1 40, rv_i 0 2, rv_u, rv_u, rv_u, rv_u, rv_u], [rv_r 56], []), [37], 52939, [], []),
  (37, ([rv_r 0, rv_i 0 19, rv_i (-3) 3, rv_i 1 40, rv_i 0 2, rv_u, rv_u, rv_u, rv_u, rv_u], [rv_r 57], []), [38], 52938, [], []),
  (38, ([rv_r 0, rv_i 0 19, rv_i (-3) 3, rv_i 1 40, rv_i 0 2, rv_u, rv_u, rv_u, rv_u, rv_u], [rv_i 0 0, rv_r 57], []), [39], 52937, [], []),
  (39, ([rv_r 0, rv_i 0 19, rv_i (-3) 3, rv_i 1 40, rv_i 0 2, rv_u, rv_u, rv_u, rv_u, rv_u], [rv_r 0, rv_i 0 0, rv_r 57], []), [40], 52936, [], []),
  (40, ([rv_r 0, rv_i 0 19, rv_i (-3) 3, rv_i 1 40, rv_i 0 2, rv_u, rv_u, rv_u, rv_u, rv_u], [rv_r 1, rv_i 0 0, rv_r 57], []), [41], 52935, [], []),
  (41, ([rv_r 0, rv_i 0 19, rv_i (-3) 3, rv_i 1 40, rv_i 0 2, rv_u, rv_u, rv_u, rv_u, rv_u], [rv_i 0 0, rv_r 1, rv_i 0 0, rv_r 57], []), [42], 52934, [], []),
  (42, ([rv_r 0, rv_i 0 19, rv_i (-3) 3, rv_i 1 40, rv_i 0 2, rv_u, rv_u, rv_u, rv_u, rv_u], [rv_i 20 20, rv_i 0 0, rv_r 1, rv_i 0 0, rv_r 57], []), [43], 52933, [], [6]),
  (43, ([rv_r 0, rv_i 0 19, rv_i (-3) 3, rv_i 1 40, rv_i 0 2, rv_u, rv_u, rv_u, rv_u, rv_u], [], []), [44], 52932, [], []),
  (44, ([rv_r 0, rv_i 0 19, rv_i (-3) 3, rv_i 1 40, rv_i 0 2, rv_u, rv_u, rv_u, rv_u, rv_u], [rv_r 0], []), [45], 52931, [], []),
  (45, ([rv_r 0, rv_i 0 19, rv_i (-3) 3, rv_i 1 40, rv_i 0 2, rv_u, rv_u, rv_u, rv_u, rv_u], [rv_r 56], []), [46], 52930, [], []),
  (46, ([rv_r 0, rv_i 0 19, rv_i (-3) 3, rv_i 1 40, rv_i 0 2, rv_u, rv_u, rv_u, rv_u, rv_u], [rv_r 0, rv_r 56], []), [47], 52929, [], []),
  (47, ([rv_r 0, rv_i 0 19, rv_i (-3) 3, rv_i 1 40, rv_i 0 2, rv_u, rv_u, rv_u, rv_u, rv_u], [rv_r 26, rv_r 56], []), [48], 52928, [], [7])]
def n_X7_gust_0_3 : List rv_N := [
  (48, ([rv_r 0, rv_i 0 19, rv_i (-3) 3, rv_i 1 40, rv_i 0 2, rv_u, rv_u, rv_u, rv_u, rv_u], [], []), [49], 52927, [], []),
  (49, ([rv_r 0, rv_i 0 19, rv_i (-3) 3, rv_i 1 40, rv_i 0 2, rv_u, rv_u, rv_u, rv_u, rv_u], [rv_r 0], []), [50], 52926, [], []),
  (50, ([rv_r 0, rv_i 0 19, rv_i (-3) 3, rv_i 1 40, rv_i 0 2, rv_u, rv_u, rv_u, rv_u, rv_u], [rv_r 56], []), [51], 52925, [], []),
  (51, ([rv_r 0, rv_i 0 19, rv_i (-3) 3, rv_i 1 40, rv_i 0 2, rv_u, rv_u, rv_u, rv_u, rv_u], [rv_r 58], []), [52], 52924, [], []),
  (52, ([rv_r 0, rv_i 0 19, rv_i (-3) 3, rv_i 1 40, rv_i 0 2, rv_u, rv_u, rv_u, rv_u, rv_u], [(1, 0, 0, 19, [(.inl 1, 0)], []), rv_r 58], []), [53], 52923, [], []),
  (53, ([rv_r 0, rv_i 0 19, rv_i (-3) 3, rv_i 1 40, rv_i 0 2, rv_u, rv_u, rv_u, rv_u, rv_u], [(1, 0, (-3), 3, [(.inl 2, 0)], []), (1, 0, 0, 19, [(.inl 1, 0)], []), rv_r 58], []), [54], 52922, [], []),
  (54, ([rv_r 0, rv_i 0 19, rv_i (-3) 3, rv_i 1 40, rv_i 0 2, rv_u, rv_u, rv_u, rv_u, rv_u], [], []), [55], 52921, [], []),
  (55, ([rv_r 0, rv_i 0 19, rv_i (-3) 3, rv_i 1 40, rv_i 0 2, rv_u, rv_u, rv_u, rv_u, rv_u], [rv_r 0], []), [56], 52920, [], []),
  (56, ([rv_r 0, rv_i 0 19, rv_i (-3) 3, rv_i 1 40, rv_i 0 2, rv_u, rv_u, rv_u, rv_u, rv_u], [rv_r 56], []), [57], 52919, [], []),
  (57, ([rv_r 0, rv_i 0 19, rv_i (-3) 3, rv_i 1 40, rv_i 0 2, rv_u, rv_u, rv_u, rv_u, rv_u], [rv_r 0, rv_r 56], []), [58], 52918, [], []),
  (58, ([rv_r 0, rv_i 0 19, rv_i (-3) 3, rv_i 1 40, rv_i 0 2, rv_u, rv_u, rv_u, rv_u, rv_u], [rv_r 7, rv_r 56], []), [59], 52917, [], []),
  (59, ([rv_r 0, rv_i 0 19, rv_i (-3) 3, rv_i 1 40, rv_i 0 2, rv_u, rv_u, rv_u, rv_u, rv_u], [(1, 0, 1, 40, [(.inl 3, 0)], []), rv_r 7, rv_r 56], []), [60], 52916, [], [8]),
  (60, ([rv_r 0, rv_i 0 19, rv_i (-3) 3, rv_i 1 40, rv_i 0 2, rv_u, rv_u, rv_u, rv_u, rv_u], [rv_full], []), [61], 52915, [], []),
  (61, ([rv_r 0, rv_i 0 19, rv_i (-3) 3, rv_i 1 40, rv_i 0 2, rv_u, rv_u, rv_u, rv_u, rv_u], [], []), [62], 52914, [], []),
  (62, ([rv_r 0, rv_i 0 19, rv_i (-3) 3, rv_i 1 40, rv_i 0 2, rv_u, rv_u, rv_u, rv_u, rv_u], [rv_i 0 0], []), [63], 52913, [], []),
  (63, ([rv_r 0, rv_i 0 19, rv_i (-3) 3, rv_i 1 40, rv_i 0 2, rv_i 0 0, rv_u, rv_u, rv_u, rv_u], [], []), [64], 52912, [], [])]
def n_X7_gust_0_4 : List rv_N := [
  (64, ([rv_r 0, rv_i 0 19, rv_i (-3) 3, rv_i 1 40, rv_i 0 2, rv_i 0 0, rv_u, rv_u, rv_u, rv_u], [rv_i (-2) (-2)], []), [65], 52911, [], []),
  (65, ([rv_r 0, rv_i 0 19, rv_i (-3) 3, rv_i 1 40, rv_i 0 2, rv_i 0 0, rv_i (-2) (-2), rv_u, rv_u, rv_u], [], []), [66], 52910, [], []),
  (66, ([rv_r 0, rv_i 0 19, rv_i (-3) 3, rv_i 1 40, rv_i 0 2, rv_i 0 0, rv_i (-2) (-2), rv_u, rv_u, rv_u], [rv_i 0 0], []), [67], 52909, [], []),
  (67, ([rv_r 0, rv_i 0 19, rv_i (-3) 3, rv_i 1 40, rv_i 0 2, rv_i 0 0, rv_i (-2) (-2), rv_i 0 0, rv_u, rv_u], [], []), [68], 52908, [], []),
  (68, ([rv_r 0, rv_i 0 19, rv_i (-3) 3, rv_i 1 40, rv_i 0 2, rv_i 0 0, rv_i (-2) (-2), rv_i 0 0, rv_u, rv_u], [rv_i 0 0], []), [69], 52907, [], []),
  (69, ([rv_r 0, rv_i 0 19, rv_i (-3) 3, rv_i 1 40, rv_i 0 2, rv_full, rv_i (-2) 19, rv_i 0 2147483647, rv_i 0 20, rv_u], [], []), [70], 52906, [(8, (-2645))], []),
  (70, ([rv_r 0, rv_i 0 19, rv_i (-3) 3, rv_i 1 40, rv_i 0 2, rv_full, rv_i (-2) 19, rv_i 0 2147483647, rv_i 0 20, rv_u], [(1, 0, 0, 20, [(.inl 8, 0)], [])], []), [71], 52905, [(8, (-2645))], []),
  (71, ([rv_r 0, rv_i 0 19, rv_i (-3) 3, rv_i 1 40, rv_i 0 2, rv_full, rv_i (-2) 19, rv_i 0 2147483647, rv_i 0 20, rv_u], [rv_i 20 20, (1, 0, 0, 20, [(.inl 8, 0)], [])], []), [72, 97], 52904, [(8, (-2645))], []),
  (72, ([rv_r 0, rv_i 0 19, rv_i (-3) 3, rv_i 1 40, rv_i 0 2, rv_full, rv_i (-2) 19, rv_i 0 2147483647, rv_i 0 19, rv_u], [], []), [73], 50286, [(8, (-2645))], []),
  (73, ([rv_r 0, rv_i 0 19, rv_i (-3) 3, rv_i 1 40, rv_i 0 2, rv_full, rv_i (-2) 19, rv_i 0 2147483647, rv_i 0 19, rv_u], [rv_r 0], []), [74], 50285, [(8, (-2645))], []),
  (74, ([rv_r 0, rv_i 0 19, rv_i (-3) 3, rv_i 1 40, rv_i 0 2, rv_full, rv_i (-2) 19, rv_i 0 2147483647, rv_i 0 19, rv_u], [rv_r 56], []), [75], 50284, [(8, (-2645))], []),
  (75, ([rv_r 0, rv_i 0 19, rv_i (-3) 3, rv_i 1 40, rv_i 0 2, rv_full, rv_i (-2) 19, rv_i 0 2147483647, rv_i 0 19, rv_u], [rv_r 57], []), [76], 50283, [(8, (-2645))], []),
  (76, ([rv_r 0, rv_i 0 19, rv_i (-3) 3, rv_i 1 40, rv_i 0 2, rv_full, rv_i (-2) 19, rv_i 0 2147483647, rv_i 0 19, rv_u], [(1, 0, 0, 19, [(.inl 8, 0)], []), rv_r 57], []), [77], 50282, [(8, (-2645))], []),
  (77, ([rv_r 0, rv_i 0 19, rv_i (-3) 3, rv_i 1 40, rv_i 0 2, rv_full, rv_i (-2) 19, rv_i 0 2147483647, rv_i 0 19, rv_u], [(1, 0, (-2147483648), 2147483647, [(.inr (57, 5008), 0)], [])], []), [78], 50281, [(8, (-2645))], []),
  (78, ([rv_r 0, rv_i 0 19, rv_i (-3) 3, rv_i 1 40, rv_i 0 2, rv_full, rv_i (-2) 19, rv_i 0 2147483647, rv_i 0 19, rv_u], [rv_r 0, (1, 0, (-2147483648), 2147483647, [(.inr (57, 5008), 0)], [])], []), [79], 50280, [(8, (-2645))], []),
  (79, ([rv_r 0, rv_i 0 19, rv_i (-3) 3, rv_i 1 40, rv_i 0 2, rv_full, rv_i (-2) 19, rv_i 0 2147483647, rv_i 0 19, rv_u], [rv_r 1, (1, 0, (-2147483648), 2147483647, [(.inr (57, 5008), 0)], [])], []), [80], 50279, [(8, (-2645))], [])]
def n_X7_gust_0_5 : List rv_N := [
  (80, ([rv_r 0, rv_i 0 19, rv_i (-3) 3, rv_i 1 40, rv_i 0 2, rv_full, rv_i (-2) 19, rv_i 0 2147483647, rv_i 0 19, rv_u], [(1, 0, 0, 19, [(.inl 8, 0)], []), rv_r 1, (1, 0, (-2147483648), 2147483647, [(.inr (57, 5008), 0)], [])], []), [81], 50278, [(8, (-2645))], []),
  (81, ([rv_r 0, rv_i 0 19, rv_i (-3) 3, rv_i 1 40, rv_i 0 2, rv_full, rv_i (-2) 19, rv_i 0 2147483647, rv_i 0 19, rv_u], [(1, 0, (-2147483648), 2147483647, [(.inr (1, 5008), 0)], []), (1, 0, (-2147483648), 2147483647, [(.inr (57, 5008), 0)], [])], []), [82], 50277, [(8, (-2645))], []),
  (82, ([rv_r 0, rv_i 0 19, rv_i (-3) 3, rv_i 1 40, rv_i 0 2, rv_full, rv_i (-2) 19, rv_i 0 2147483647, rv_i 0 19, rv_u], [rv_full], []), [83], 50276, [(8, (-2645))], []),
  (83, ([rv_r 0, rv_i 0 19, rv_i (-3) 3, rv_i 1 40, rv_i 0 2, rv_full, rv_i (-2) 19, rv_i 0 2147483647, rv_i 0 19, rv_full], [], []), [84], 50275, [(8, (-2645))], []),
  (84, ([rv_r 0, rv_i 0 19, rv_i (-3) 3, rv_i 1 40, rv_i 0 2, rv_full, rv_i (-2) 19, rv_i 0 2147483647, rv_i 0 19, rv_full], [(1, 0, (-2147483648), 2147483647, [(.inl 5, 0)], [])], []), [85], 50274, [(8, (-2645))], []),
  (85, ([rv_r 0, rv_i 0 19, rv_i (-3) 3, rv_i 1 40, rv_i 0 2, rv_full, rv_i (-2) 19, rv_i 0 2147483647, rv_i 0 19, rv_full], [(1, 0, (-2147483648), 2147483647, [(.inl 9, 0)], []), (1, 0, (-2147483648), 2147483647, [(.inl 5, 0)], [])], []), [86], 50273, [(8, (-2645))], [9]),
  (86, ([rv_r 0, rv_i 0 19, rv_i (-3) 3, rv_i 1 40, rv_i 0 2, rv_full, rv_i (-2) 19, rv_i 0 2147483647, rv_i 0 19, rv_full], [rv_full, (1, 0, (-2147483648), 2147483647, [(.inl 5, 0)], [])], []), [87], 50272, [(8, (-2645))], []),
  (87, ([rv_r 0, rv_i 0 19, rv_i (-3) 3, rv_i 1 40, rv_i 0 2, rv_full, rv_i (-2) 19, rv_i 0 2147483647, rv_i 0 19, rv_full], [rv_full], []), [88], 50271, [(8, (-2645))], []),
  (88, ([rv_r 0, rv_i 0 19, rv_i (-3) 3, rv_i 1 40, rv_i 0 2, rv_full, rv_i (-2) 19, rv_i 0 2147483647, rv_i 0 19, rv_full], [], []), [89], 50270, [(8, (-2645))], []),
  (89, ([rv_r 0, rv_i 0 19, rv_i (-3) 3, rv_i 1 40, rv_i 0 2, rv_full, rv_i (-2) 19, rv_i 0 2147483647, rv_i 0 19, rv_full], [(1, 0, (-2147483648), 2147483647, [(.inl 9, 0)], [])], []), [90], 50269, [(8, (-2645))], []),
  (90, ([rv_r 0, rv_i 0 19, rv_i (-3) 3, rv_i 1 40, rv_i 0 2, rv_full, rv_i (-2) 19, rv_i 0 2147483647, rv_i 0 19, rv_full], [(1, 0, 0, 2147483647, [(.inl 7, 0)], []), (1, 0, (-2147483648), 2147483647, [(.inl 9, 0)], [])], []), [91, 95], 50268, [(8, (-2645))], []),
  (91, ([rv_r 0, rv_i 0 19, rv_i (-3) 3, rv_i 1 40, rv_i 0 2, rv_full, rv_i (-2) 19, rv_i 0 2147483646, rv_i 0 19, rv_i 1 2147483647], [], []), [92], 50267, [(8, (-2645))], []),
  (92, ([rv_r 0, rv_i 0 19, rv_i (-3) 3, rv_i 1 40, rv_i 0 2, rv_full, rv_i (-2) 19, rv_i 0 2147483646, rv_i 0 19, rv_i 1 2147483647], [(1, 0, 1, 2147483647, [(.inl 9, 0)], [])], []), [93], 50266, [(8, (-2645))], []),
  (93, ([rv_r 0, rv_i 0 19, rv_i (-3) 3, rv_i 1 40, rv_i 0 2, rv_full, rv_i (-2) 19, rv_i 1 2147483647, rv_i 0 19, rv_i 1 2147483647], [], []), [94], 50265, [(8, (-2645))], []),
  (94, ([rv_r 0, rv_i 0 19, rv_i (-3) 3, rv_i 1 40, rv_i 0 2, rv_full, rv_i (-2) 19, rv_i 1 2147483647, rv_i 0 19, rv_i 1 2147483647], [(1, 0, 0, 19, [(.inl 8, 0)], [])], []), [95], 50264, [(8, (-2645))], []),
  (95, ([rv_r 0, rv_i 0 19, rv_i (-3) 3, rv_i 1 40, rv_i 0 2, rv_full, rv_i (-2) 19, rv_i 0 2147483647, rv_i 0 19, rv_full], [], []), [96], 50263, [(8, (-2645))], [])]
def n_X7_gust_0_6 : List rv_N := [
  (96, ([rv_r 0, rv_i 0 19, rv_i (-3) 3, rv_i 1 40, rv_i 0 2, rv_full, rv_i (-2) 19, rv_i 0 2147483647, rv_i 1 20, rv_full], [], []), [69], 52907, [(8, (-2645))], []),
  (97, ([rv_r 0, rv_i 0 19, rv_i (-3) 3, rv_i 1 40, rv_i 0 2, rv_full, rv_i (-2) 19, rv_i 0 2147483647, rv_i 20 20, rv_u], [], []), [98], 3, [], []),
  (98, ([rv_r 0, rv_i 0 19, rv_i (-3) 3, rv_i 1 40, rv_i 0 2, rv_full, rv_i (-2) 19, rv_i 0 2147483647, rv_i 20 20, rv_u], [(1, 0, 0, 2, [(.inl 4, 0)], [])], []), [99, 101, 103], 2, [], []),
  (99, ([rv_r 0, rv_i 0 19, rv_i (-3) 3, rv_i 1 40, rv_i 0 0, rv_full, rv_i (-2) 19, rv_i 0 2147483647, rv_i 20 20, rv_u], [], []), [100], 1, [], []),
  (100, ([rv_r 0, rv_i 0 19, rv_i (-3) 3, rv_i 1 40, rv_i 0 0, rv_full, rv_i (-2) 19, rv_i 0 2147483647, rv_i 20 20, rv_u], [(1, 0, (-2147483648), 2147483647, [(.inl 5, 0)], [])], []), [], 0, [], []),
  (101, ([rv_r 0, rv_i 0 19, rv_i (-3) 3, rv_i 1 40, rv_i 1 1, rv_full, rv_i (-2) 19, rv_i 0 2147483647, rv_i 20 20, rv_u], [], []), [102], 1, [], []),
  (102, ([rv_r 0, rv_i 0 19, rv_i (-3) 3, rv_i 1 40, rv_i 1 1, rv_full, rv_i (-2) 19, rv_i 0 2147483647, rv_i 20 20, rv_u], [(1, 0, (-2), 19, [(.inl 6, 0)], [])], []), [], 0, [], []),
  (103, ([rv_r 0, rv_i 0 19, rv_i (-3) 3, rv_i 1 40, rv_i 0 2, rv_full, rv_i (-2) 19, rv_i 0 2147483647, rv_i 20 20, rv_u], [], []), [104], 1, [], []),
  (104, ([rv_r 0, rv_i 0 19, rv_i (-3) 3, rv_i 1 40, rv_i 0 2, rv_full, rv_i (-2) 19, rv_i 0 2147483647, rv_i 20 20, rv_u], [(1, 0, 0, 2147483647, [(.inl 7, 0)], [])], []), [], 0, [], [])]
def n_X7_gust_0 : List rv_N := n_X7_gust_0_0 ++ (n_X7_gust_0_1 ++ (n_X7_gust_0_2 ++ (n_X7_gust_0_3 ++ (n_X7_gust_0_4 ++ (n_X7_gust_0_5 ++ (n_X7_gust_0_6))))))
noncomputable def gn_X7_gust_0 : Nat → Option rv_N := rv_ap 16 (rv_at n_X7_gust_0_0) (rv_ap 16 (rv_at n_X7_gust_0_1) (rv_ap 16 (rv_at n_X7_gust_0_2) (rv_ap 16 (rv_at n_X7_gust_0_3) (rv_ap 16 (rv_at n_X7_gust_0_4) (rv_ap 16 (rv_at n_X7_gust_0_5) (rv_at n_X7_gust_0_6))))))
theorem hn_X7_gust_0 : ∀ i : Nat, n_X7_gust_0[i]? = gn_X7_gust_0 i := rv_ap_eq (l := n_X7_gust_0_0) (c := 16) (rv_ap_eq (l := n_X7_gust_0_1) (c := 16) (rv_ap_eq (l := n_X7_gust_0_2) (c := 16) (rv_ap_eq (l := n_X7_gust_0_3) (c := 16) (rv_ap_eq (l := n_X7_gust_0_4) (c := 16) (rv_ap_eq (l := n_X7_gust_0_5) (c := 16) (rv_at_eq n_X7_gust_0_6) rfl) rfl) rfl) rfl) rfl) rfl
set_option maxRecDepth 100000 in
theorem a_X7_gust_0 : rv_all (fm_tm, flX7, fm_wr, kcX7, klX7, K_X7_gust_0.2.2.1, [], 10) ct_X7_gust_0 cd_X7_gust n_X7_gust_0 K_X7_gust_0 [] 0 n_X7_gust_0 = true := rv_fast hn_X7_gust_0 hc_X7_gust (by decide +kernel)
theorem m_X7_gust_0 {l : Launch} {D : va_G} {ad : Nat → Nat} {cy : Nat → ClassId} {Z : State → Heap → Prop} {Gp : fm_V → Prop} (hAd : fm_Ad fm_tm ad) (hZ : fm_Zk (fm_A fm_tm ad) Z) (hGd : fm_Gd Gp) : rv_Met l D fm_cl fm_tm ad cy fm_nt Z Gp yX7_gust (.code yX7_gust prog_1_method_19_code 10 (some .int) :: fm_Ts) { frames := 6, cells := 0, slots := 0, locals := 600 } K_X7_gust_0 := rv_met hAd hZ (Or.inl (by decide +kernel)) evX7 dc_X7_gust a_X7_gust_0 ⟨rfl, rfl, rfl⟩ (by decide +kernel) (by decide +kernel) (by decide) (fm_gm hGd (by decide +kernel)) (Or.inl rfl) (fun p e s m args below meth c Q X Y => List.forall_mem_cons.mpr ⟨rv_ctS X Y fm_Ts_good dc_X7_gust (pc := 1) (i := 1) (idx := 75) rfl (m_X7_isYard_0 hAd hZ hGd) wl_X7_75 wm_X7_isYard wy_X7_isYard (by decide) rfl, List.forall_mem_cons.mpr ⟨rv_ctS X Y fm_Ts_good dc_X7_gust (pc := 11) (i := 6) (idx := 80) rfl (m_X7_isWithin_1 hAd hZ hGd) wl_X7_80 wm_X7_isWithin wy_X7_isWithin (by decide) rfl, List.forall_mem_cons.mpr ⟨rv_ctS X Y fm_Ts_good dc_X7_gust (pc := 23) (i := 13) (idx := 80) rfl (m_X7_isWithin_7 hAd hZ hGd) wl_X7_80 wm_X7_isWithin wy_X7_isWithin (by decide) rfl, List.forall_mem_cons.mpr ⟨rv_ctS X Y fm_Ts_good dc_X7_gust (pc := 33) (i := 18) (idx := 80) rfl (m_X7_isWithin_16 hAd hZ hGd) wl_X7_80 wm_X7_isWithin wy_X7_isWithin (by decide) rfl, List.forall_mem_cons.mpr ⟨rv_ctV X Y fm_Ts_good dc_X7_gust (pc := 49) (i := 26) (idx := 168) rfl (m_X0_takeAll_0 hAd hZ hGd) wl_X7_168 wm_X0_takeAll wy_X0_takeAll (by decide) ⟨rfl, rfl, rfl⟩ ⟨rfl, rfl⟩, List.forall_mem_cons.mpr ⟨rv_ctV X Y fm_Ts_good dc_X7_gust (pc := 61) (i := 32) (idx := 151) rfl (m_X0_passDrawn_1 hAd hZ hGd) wl_X7_151 wm_X0_passDrawn wy_X0_passDrawn (by decide) ⟨rfl, rfl, rfl⟩ ⟨rfl, rfl⟩, List.forall_mem_cons.mpr ⟨rv_ctC X dc_X7_gust (pc := 80) (i := 42) (idx := 250) rfl wl_X7_250 fm_acw (by decide +kernel) (a := 57) (b := 1) (n := 20) ⟨rfl, rfl⟩ (by decide) rfl, List.forall_mem_cons.mpr ⟨rv_ctV X Y fm_Ts_good dc_X7_gust (pc := 91) (i := 47) (idx := 221) rfl (m_X0_takeMoving_0 hAd hZ hGd) wl_X7_221 wm_X0_takeMoving wy_X0_takeMoving (by decide) ⟨rfl, rfl, rfl⟩ ⟨rfl, rfl⟩, List.forall_mem_cons.mpr ⟨rv_ctV X Y fm_Ts_good dc_X7_gust (pc := 113) (i := 59) (idx := 151) rfl (m_X0_passDrawn_1 hAd hZ hGd) wl_X7_151 wm_X0_passDrawn wy_X0_passDrawn (by decide) ⟨rfl, rfl, rfl⟩ ⟨rfl, rfl⟩, List.forall_mem_cons.mpr ⟨rv_ctS X Y fm_Ts_good dc_X7_gust (pc := 161) (i := 85) (idx := 256) rfl (m_J9_abs_0f7a4_0 hAd hZ hGd) wl_X7_256 wm_J9_abs_0f7a4 wy_J9_abs_0f7a4 (by decide) rfl, fun _ h => absurd h List.not_mem_nil⟩⟩⟩⟩⟩⟩⟩⟩⟩⟩) (fun _ _ _ _ _ _ _ _ _ _ _ _ _ _ _ _ h => absurd h List.not_mem_nil)
def cd_X7_tryUnlicensed : List (Nat × Instr × Nat) := [(0, .aload_n 0, 1), (1, .getfield 45, 3), (4, .aload_n 0, 1), (5, .getfield 38, 3), (8, .invokevirtual 168, 3), (11, .iload_n 1, 1), (12, .invokestatic 75, 3), (15, .ifCond .eq 14, 3), (18, .aload_n 0, 1), (19, .getfield 45, 3), (22, .getfield 121, 3), (25, .iload_n 1, 1), (26, .bipush 6, 2), (28, .iastore, 1), (29, .aload_n 0, 1), (30, .getfield 45, 3), (33, .aload_n 0, 1), (34, .getfield 22, 3), (37, .iload_n 2, 1), (38, .invokevirtual 151, 3), (41, .pop, 1), (42, .aload_n 0, 1), (43, .getfield 45, 3), (46, .getfield 172, 3), (49, .iconst 0, 1), (50, .aload_n 0, 1), (51, .getfield 64, 3), (54, .iconst 0, 1), (55, .bipush 6, 2), (57, .invokestatic 250, 3), (60, .return_, 1)]
theorem dc_X7_tryUnlicensed : ∀ q ∈ cd_X7_tryUnlicensed, decode prog_1_method_22_code q.1 = .ok (q.2.1, q.2.2) := by decide +kernel
def K_X7_tryUnlicensed_0 : rv_K := ([rv_r 0, rv_full, rv_full], [], [(1, 9999), (14, 0), (14, 1), (14, 2), (14, 3), (14, 4), (14, 5), (14, 6), (14, 7), (14, 8), (14, 9), (14, 10), (14, 11), (14, 12), (14, 9999), (15, 9999), (56, 9), (56, 10), (56, 11), (56, 12), (56, 13), (56, 14), (56, 15), (56, 16), (57, 9999), (58, 9999), (59, 9999), (60, 9999), (61, 9999), (62, 9999), (63, 9999), (64, 9999), (65, 9999), (66, 0), (67, 9999), (68, 9999), (69, 9999), (70, 9999)], [], [], [])
def ct_X7_tryUnlicensed_0 : List (Nat × rv_K) := [(4, K_X0_takeAll_0), (6, K_X7_isYard_0), (19, K_X0_passDrawn_1), (29, ([rv_r 62, rv_i 0 0, rv_r 1, rv_i 0 0, rv_i 6 6], [], [(1, 9999)], [], [], []))]
def n_X7_tryUnlicensed_0_0 : List rv_N := [
  (0, ([rv_r 0, rv_full, rv_full], [], []), [1], 30, [], []),
  (1, ([rv_r 0, rv_full, rv_full], [rv_r 0], []), [2], 29, [], []),
  (2, ([rv_r 0, rv_full, rv_full], [rv_r 56], []), [3], 28, [], []),
  (3, ([rv_r 0, rv_full, rv_full], [rv_r 0, rv_r 56], []), [4], 27, [], []),
  (4, ([rv_r 0, rv_full, rv_full], [rv_r 26, rv_r 56], []), [5], 26, [], [0]),
  (5, ([rv_r 0, rv_full, rv_full], [], []), [6], 25, [], []),
  (6, ([rv_r 0, rv_full, rv_full], [(1, 0, (-2147483648), 2147483647, [(.inl 1, 0)], [])], []), [7], 24, [], [1]),
  (7, ([rv_r 0, rv_full, rv_full], [(1, 0, 0, 1, [], [(.inl 1, 0, 19)])], []), [8, 14], 23, [], []),
  (8, ([rv_r 0, rv_i 0 19, rv_full], [], []), [9], 22, [], []),
  (9, ([rv_r 0, rv_i 0 19, rv_full], [rv_r 0], []), [10], 21, [], []),
  (10, ([rv_r 0, rv_i 0 19, rv_full], [rv_r 56], []), [11], 20, [], []),
  (11, ([rv_r 0, rv_i 0 19, rv_full], [rv_r 60], []), [12], 19, [], []),
  (12, ([rv_r 0, rv_i 0 19, rv_full], [(1, 0, 0, 19, [(.inl 1, 0)], []), rv_r 60], []), [13], 18, [], []),
  (13, ([rv_r 0, rv_i 0 19, rv_full], [rv_i 6 6, (1, 0, 0, 19, [(.inl 1, 0)], []), rv_r 60], []), [14], 17, [], []),
  (14, ([rv_r 0, rv_full, rv_full], [], []), [15], 16, [], []),
  (15, ([rv_r 0, rv_full, rv_full], [rv_r 0], []), [16], 15, [], [])]
def n_X7_tryUnlicensed_0_1 : List rv_N := [
  (16, ([rv_r 0, rv_full, rv_full], [rv_r 56], []), [17], 14, [], []),
  (17, ([rv_r 0, rv_full, rv_full], [rv_r 0, rv_r 56], []), [18], 13, [], []),
  (18, ([rv_r 0, rv_full, rv_full], [rv_r 7, rv_r 56], []), [19], 12, [], []),
  (19, ([rv_r 0, rv_full, rv_full], [(1, 0, (-2147483648), 2147483647, [(.inl 2, 0)], []), rv_r 7, rv_r 56], []), [20], 11, [], [2]),
  (20, ([rv_r 0, rv_full, rv_full], [rv_full], []), [21], 10, [], []),
  (21, ([rv_r 0, rv_full, rv_full], [], []), [22], 9, [], []),
  (22, ([rv_r 0, rv_full, rv_full], [rv_r 0], []), [23], 8, [], []),
  (23, ([rv_r 0, rv_full, rv_full], [rv_r 56], []), [24], 7, [], []),
  (24, ([rv_r 0, rv_full, rv_full], [rv_r 62], []), [25], 6, [], []),
  (25, ([rv_r 0, rv_full, rv_full], [rv_i 0 0, rv_r 62], []), [26], 5, [], []),
  (26, ([rv_r 0, rv_full, rv_full], [rv_r 0, rv_i 0 0, rv_r 62], []), [27], 4, [], []),
  (27, ([rv_r 0, rv_full, rv_full], [rv_r 1, rv_i 0 0, rv_r 62], []), [28], 3, [], []),
  (28, ([rv_r 0, rv_full, rv_full], [rv_i 0 0, rv_r 1, rv_i 0 0, rv_r 62], []), [29], 2, [], []),
  (29, ([rv_r 0, rv_full, rv_full], [rv_i 6 6, rv_i 0 0, rv_r 1, rv_i 0 0, rv_r 62], []), [30], 1, [], [3]),
  (30, ([rv_r 0, rv_full, rv_full], [], []), [], 0, [], [])]
def n_X7_tryUnlicensed_0 : List rv_N := n_X7_tryUnlicensed_0_0 ++ (n_X7_tryUnlicensed_0_1)
noncomputable def gn_X7_tryUnlicensed_0 : Nat → Option rv_N := rv_ap 16 (rv_at n_X7_tryUnlicensed_0_0) (rv_at n_X7_tryUnlicensed_0_1)
theorem hn_X7_tryUnlicensed_0 : ∀ i : Nat, n_X7_tryUnlicensed_0[i]? = gn_X7_tryUnlicensed_0 i := rv_ap_eq (l := n_X7_tryUnlicensed_0_0) (c := 16) (rv_at_eq n_X7_tryUnlicensed_0_1) rfl
set_option maxRecDepth 100000 in
theorem a_X7_tryUnlicensed_0 : rv_all (fm_tm, flX7, fm_wr, kcX7, klX7, K_X7_tryUnlicensed_0.2.2.1, [], 3) ct_X7_tryUnlicensed_0 cd_X7_tryUnlicensed n_X7_tryUnlicensed_0 K_X7_tryUnlicensed_0 [] 0 n_X7_tryUnlicensed_0 = true := rv_fast hn_X7_tryUnlicensed_0 (rv_at_eq cd_X7_tryUnlicensed) (by decide +kernel)
theorem m_X7_tryUnlicensed_0 {l : Launch} {D : va_G} {ad : Nat → Nat} {cy : Nat → ClassId} {Z : State → Heap → Prop} {Gp : fm_V → Prop} (hAd : fm_Ad fm_tm ad) (hZ : fm_Zk (fm_A fm_tm ad) Z) (hGd : fm_Gd Gp) : rv_Met l D fm_cl fm_tm ad cy fm_nt Z Gp yX7_tryUnlicensed (.code yX7_tryUnlicensed prog_1_method_22_code 3 none :: fm_Ts) { frames := 6, cells := 0, slots := 0, locals := 600 } K_X7_tryUnlicensed_0 := rv_met hAd hZ (Or.inl (by decide +kernel)) evX7 dc_X7_tryUnlicensed a_X7_tryUnlicensed_0 ⟨rfl, rfl, rfl⟩ (by decide +kernel) (by decide +kernel) (by decide) (fm_gm hGd (by decide +kernel)) (rfl) (fun p e s m args below meth c Q X Y => List.forall_mem_cons.mpr ⟨rv_ctV X Y fm_Ts_good dc_X7_tryUnlicensed (pc := 8) (i := 4) (idx := 168) rfl (m_X0_takeAll_0 hAd hZ hGd) wl_X7_168 wm_X0_takeAll wy_X0_takeAll (by decide) ⟨rfl, rfl, rfl⟩ ⟨rfl, rfl⟩, List.forall_mem_cons.mpr ⟨rv_ctS X Y fm_Ts_good dc_X7_tryUnlicensed (pc := 12) (i := 6) (idx := 75) rfl (m_X7_isYard_0 hAd hZ hGd) wl_X7_75 wm_X7_isYard wy_X7_isYard (by decide) rfl, List.forall_mem_cons.mpr ⟨rv_ctV X Y fm_Ts_good dc_X7_tryUnlicensed (pc := 38) (i := 19) (idx := 151) rfl (m_X0_passDrawn_1 hAd hZ hGd) wl_X7_151 wm_X0_passDrawn wy_X0_passDrawn (by decide) ⟨rfl, rfl, rfl⟩ ⟨rfl, rfl⟩, List.forall_mem_cons.mpr ⟨rv_ctC X dc_X7_tryUnlicensed (pc := 57) (i := 29) (idx := 250) rfl wl_X7_250 fm_acw (by decide +kernel) (a := 62) (b := 1) (n := 6) ⟨rfl, rfl⟩ (by decide) rfl, fun _ h => absurd h List.not_mem_nil⟩⟩⟩⟩) (fun _ _ _ _ _ _ _ _ _ _ _ _ _ _ _ _ h => absurd h List.not_mem_nil)
def cd_X7_worthTo : List (Nat × Instr × Nat) := [(0, .iload_n 1, 1), (1, .invokestatic 75, 3), (4, .ifCond .eq 10, 3), (7, .iload_n 2, 1), (8, .invokestatic 124, 3), (11, .ifCond .ne 5, 3), (14, .iconst (-1), 1), (15, .ireturn, 1), (16, .aload_n 0, 1), (17, .getfield 45, 3), (20, .aload_n 0, 1), (21, .getfield 38, 3), (24, .invokevirtual 221, 3), (27, .aload_n 0, 1), (28, .getfield 45, 3), (31, .getfield 121, 3), (34, .iload_n 1, 1), (35, .iload_n 2, 1), (36, .iastore, 1), (37, .aload_n 0, 1), (38, .getfield 45, 3), (41, .aload_n 0, 1), (42, .getfield 22, 3), (45, .iload_n 3, 1), (46, .invokevirtual 151, 3), (49, .pop, 1), (50, .aload_n 0, 1), (51, .getfield 45, 3), (54, .getfield 172, 3), (57, .iload_n 2, 1), (58, .iaload, 1), (59, .aload_n 0, 1), (60, .getfield 64, 3), (63, .iload_n 2, 1), (64, .iaload, 1), (65, .isub, 1), (66, .ireturn, 1)]
theorem dc_X7_worthTo : ∀ q ∈ cd_X7_worthTo, decode prog_1_method_23_code q.1 = .ok (q.2.1, q.2.2) := by decide +kernel
def ch_X7_worthTo_0 : List (Nat × Instr × Nat) := [(0, .iload_n 1, 1), (1, .invokestatic 75, 3), (4, .ifCond .eq 10, 3), (7, .iload_n 2, 1), (8, .invokestatic 124, 3), (11, .ifCond .ne 5, 3), (14, .iconst (-1), 1), (15, .ireturn, 1), (16, .aload_n 0, 1), (17, .getfield 45, 3), (20, .aload_n 0, 1), (21, .getfield 38, 3), (24, .invokevirtual 221, 3), (27, .aload_n 0, 1), (28, .getfield 45, 3), (31, .getfield 121, 3)]
def ch_X7_worthTo_1 : List (Nat × Instr × Nat) := [(34, .iload_n 1, 1), (35, .iload_n 2, 1), (36, .iastore, 1), (37, .aload_n 0, 1), (38, .getfield 45, 3), (41, .aload_n 0, 1), (42, .getfield 22, 3), (45, .iload_n 3, 1), (46, .invokevirtual 151, 3), (49, .pop, 1), (50, .aload_n 0, 1), (51, .getfield 45, 3), (54, .getfield 172, 3), (57, .iload_n 2, 1), (58, .iaload, 1), (59, .aload_n 0, 1)]
def ch_X7_worthTo_2 : List (Nat × Instr × Nat) := [(60, .getfield 64, 3), (63, .iload_n 2, 1), (64, .iaload, 1), (65, .isub, 1), (66, .ireturn, 1)]
set_option maxRecDepth 100000 in
theorem he_X7_worthTo : cd_X7_worthTo = ch_X7_worthTo_0 ++ (ch_X7_worthTo_1 ++ (ch_X7_worthTo_2)) := rfl
noncomputable def gc_X7_worthTo : Nat → Option (Nat × Instr × Nat) := rv_ap 16 (rv_at ch_X7_worthTo_0) (rv_ap 16 (rv_at ch_X7_worthTo_1) (rv_at ch_X7_worthTo_2))
theorem hc_X7_worthTo : ∀ i : Nat, cd_X7_worthTo[i]? = gc_X7_worthTo i := by
  rw [he_X7_worthTo]
  exact rv_ap_eq (l := ch_X7_worthTo_0) (c := 16) (rv_ap_eq (l := ch_X7_worthTo_1) (c := 16) (rv_at_eq ch_X7_worthTo_2) rfl) rfl
def K_X7_worthTo_0 : rv_K := ([rv_r 0, rv_full, rv_full, rv_full], [], [(14, 0), (14, 1), (14, 2), (14, 3), (14, 4), (14, 5), (14, 6), (14, 7), (14, 8), (14, 9), (14, 10), (14, 11), (14, 12), (14, 9999), (15, 9999), (56, 9), (56, 10), (56, 11), (56, 12), (56, 13), (56, 16), (57, 9999), (60, 9999), (62, 9999), (64, 9999), (65, 9999), (67, 9999), (68, 9999)], [(0, (-2147483648), 2147483647)], [], [])
def ct_X7_worthTo_0 : List (Nat × rv_K) := [(1, K_X7_isYard_0), (4, K_X7_isBeggar_0), (12, K_X0_takeMoving_0), (24, K_X0_passDrawn_1)]
def n_X7_worthTo_0_0 : List rv_N := [
  (0, ([rv_r 0, rv_full, rv_full, rv_full], [], []), [1], 34, [], []),
  (1, ([rv_r 0, rv_full, rv_full, rv_full], [(1, 0, (-2147483648), 2147483647, [(.inl 1, 0)], [])], []), [2], 33, [], [0]),
  (2, ([rv_r 0, rv_full, rv_full, rv_full], [(1, 0, 0, 1, [], [(.inl 1, 0, 19)])], []), [3, 6], 32, [], []),
  (3, ([rv_r 0, rv_i 0 19, rv_full, rv_full], [], []), [4], 31, [], []),
  (4, ([rv_r 0, rv_i 0 19, rv_full, rv_full], [(1, 0, (-2147483648), 2147483647, [(.inl 2, 0)], [])], []), [5], 30, [], [1]),
  (5, ([rv_r 0, rv_i 0 19, rv_full, rv_full], [(1, 0, 0, 1, [], [(.inl 2, 0, 5)])], []), [6, 8], 29, [], []),
  (6, ([rv_r 0, rv_full, rv_full, rv_full], [], []), [7], 1, [], []),
  (7, ([rv_r 0, rv_full, rv_full, rv_full], [rv_i (-1) (-1)], []), [], 0, [], []),
  (8, ([rv_r 0, rv_i 0 19, rv_i 0 5, rv_full], [], []), [9], 28, [], []),
  (9, ([rv_r 0, rv_i 0 19, rv_i 0 5, rv_full], [rv_r 0], []), [10], 27, [], []),
  (10, ([rv_r 0, rv_i 0 19, rv_i 0 5, rv_full], [rv_r 56], []), [11], 26, [], []),
  (11, ([rv_r 0, rv_i 0 19, rv_i 0 5, rv_full], [rv_r 0, rv_r 56], []), [12], 25, [], []),
  (12, ([rv_r 0, rv_i 0 19, rv_i 0 5, rv_full], [rv_r 26, rv_r 56], []), [13], 24, [], [2]),
  (13, ([rv_r 0, rv_i 0 19, rv_i 0 5, rv_full], [], []), [14], 23, [], []),
  (14, ([rv_r 0, rv_i 0 19, rv_i 0 5, rv_full], [rv_r 0], []), [15], 22, [], []),
  (15, ([rv_r 0, rv_i 0 19, rv_i 0 5, rv_full], [rv_r 56], []), [16], 21, [], [])]
def n_X7_worthTo_0_1 : List rv_N := [
  (16, ([rv_r 0, rv_i 0 19, rv_i 0 5, rv_full], [rv_r 60], []), [17], 20, [], []),
  (17, ([rv_r 0, rv_i 0 19, rv_i 0 5, rv_full], [(1, 0, 0, 19, [(.inl 1, 0)], []), rv_r 60], []), [18], 19, [], []),
  (18, ([rv_r 0, rv_i 0 19, rv_i 0 5, rv_full], [(1, 0, 0, 5, [(.inl 2, 0)], []), (1, 0, 0, 19, [(.inl 1, 0)], []), rv_r 60], []), [19], 18, [], []),
  (19, ([rv_r 0, rv_i 0 19, rv_i 0 5, rv_full], [], []), [20], 17, [], []),
  (20, ([rv_r 0, rv_i 0 19, rv_i 0 5, rv_full], [rv_r 0], []), [21], 16, [], []),
  (21, ([rv_r 0, rv_i 0 19, rv_i 0 5, rv_full], [rv_r 56], []), [22], 15, [], []),
  (22, ([rv_r 0, rv_i 0 19, rv_i 0 5, rv_full], [rv_r 0, rv_r 56], []), [23], 14, [], []),
  (23, ([rv_r 0, rv_i 0 19, rv_i 0 5, rv_full], [rv_r 7, rv_r 56], []), [24], 13, [], []),
  (24, ([rv_r 0, rv_i 0 19, rv_i 0 5, rv_full], [(1, 0, (-2147483648), 2147483647, [(.inl 3, 0)], []), rv_r 7, rv_r 56], []), [25], 12, [], [3]),
  (25, ([rv_r 0, rv_i 0 19, rv_i 0 5, rv_full], [rv_full], []), [26], 11, [], []),
  (26, ([rv_r 0, rv_i 0 19, rv_i 0 5, rv_full], [], []), [27], 10, [], []),
  (27, ([rv_r 0, rv_i 0 19, rv_i 0 5, rv_full], [rv_r 0], []), [28], 9, [], []),
  (28, ([rv_r 0, rv_i 0 19, rv_i 0 5, rv_full], [rv_r 56], []), [29], 8, [], []),
  (29, ([rv_r 0, rv_i 0 19, rv_i 0 5, rv_full], [rv_r 62], []), [30], 7, [], []),
  (30, ([rv_r 0, rv_i 0 19, rv_i 0 5, rv_full], [(1, 0, 0, 5, [(.inl 2, 0)], []), rv_r 62], []), [31], 6, [], []),
  (31, ([rv_r 0, rv_i 0 19, rv_i 0 5, rv_full], [(1, 0, (-2147483648), 2147483647, [(.inr (62, 5002), 0)], [])], []), [32], 5, [], [])]
def n_X7_worthTo_0_2 : List rv_N := [
  (32, ([rv_r 0, rv_i 0 19, rv_i 0 5, rv_full], [rv_r 0, (1, 0, (-2147483648), 2147483647, [(.inr (62, 5002), 0)], [])], []), [33], 4, [], []),
  (33, ([rv_r 0, rv_i 0 19, rv_i 0 5, rv_full], [rv_r 1, (1, 0, (-2147483648), 2147483647, [(.inr (62, 5002), 0)], [])], []), [34], 3, [], []),
  (34, ([rv_r 0, rv_i 0 19, rv_i 0 5, rv_full], [(1, 0, 0, 5, [(.inl 2, 0)], []), rv_r 1, (1, 0, (-2147483648), 2147483647, [(.inr (62, 5002), 0)], [])], []), [35], 2, [], []),
  (35, ([rv_r 0, rv_i 0 19, rv_i 0 5, rv_full], [(1, 0, (-2147483648), 2147483647, [(.inr (1, 5002), 0)], []), (1, 0, (-2147483648), 2147483647, [(.inr (62, 5002), 0)], [])], []), [36], 1, [], []),
  (36, ([rv_r 0, rv_i 0 19, rv_i 0 5, rv_full], [rv_full], []), [], 0, [], [])]
def n_X7_worthTo_0 : List rv_N := n_X7_worthTo_0_0 ++ (n_X7_worthTo_0_1 ++ (n_X7_worthTo_0_2))
noncomputable def gn_X7_worthTo_0 : Nat → Option rv_N := rv_ap 16 (rv_at n_X7_worthTo_0_0) (rv_ap 16 (rv_at n_X7_worthTo_0_1) (rv_at n_X7_worthTo_0_2))
theorem hn_X7_worthTo_0 : ∀ i : Nat, n_X7_worthTo_0[i]? = gn_X7_worthTo_0 i := rv_ap_eq (l := n_X7_worthTo_0_0) (c := 16) (rv_ap_eq (l := n_X7_worthTo_0_1) (c := 16) (rv_at_eq n_X7_worthTo_0_2) rfl) rfl
set_option maxRecDepth 100000 in
theorem a_X7_worthTo_0 : rv_all (fm_tm, flX7, fm_wr, kcX7, klX7, K_X7_worthTo_0.2.2.1, [], 4) ct_X7_worthTo_0 cd_X7_worthTo n_X7_worthTo_0 K_X7_worthTo_0 [] 0 n_X7_worthTo_0 = true := rv_fast hn_X7_worthTo_0 hc_X7_worthTo (by decide +kernel)
theorem m_X7_worthTo_0 {l : Launch} {D : va_G} {ad : Nat → Nat} {cy : Nat → ClassId} {Z : State → Heap → Prop} {Gp : fm_V → Prop} (hAd : fm_Ad fm_tm ad) (hZ : fm_Zk (fm_A fm_tm ad) Z) (hGd : fm_Gd Gp) : rv_Met l D fm_cl fm_tm ad cy fm_nt Z Gp yX7_worthTo (.code yX7_worthTo prog_1_method_23_code 4 (some .int) :: fm_Ts) { frames := 6, cells := 0, slots := 0, locals := 600 } K_X7_worthTo_0 := rv_met hAd hZ (Or.inl (by decide +kernel)) evX7 dc_X7_worthTo a_X7_worthTo_0 ⟨rfl, rfl, rfl⟩ (by decide +kernel) (by decide +kernel) (by decide) (fm_gm hGd (by decide +kernel)) (Or.inl rfl) (fun p e s m args below meth c Q X Y => List.forall_mem_cons.mpr ⟨rv_ctS X Y fm_Ts_good dc_X7_worthTo (pc := 1) (i := 1) (idx := 75) rfl (m_X7_isYard_0 hAd hZ hGd) wl_X7_75 wm_X7_isYard wy_X7_isYard (by decide) rfl, List.forall_mem_cons.mpr ⟨rv_ctS X Y fm_Ts_good dc_X7_worthTo (pc := 8) (i := 4) (idx := 124) rfl (m_X7_isBeggar_0 hAd hZ hGd) wl_X7_124 wm_X7_isBeggar wy_X7_isBeggar (by decide) rfl, List.forall_mem_cons.mpr ⟨rv_ctV X Y fm_Ts_good dc_X7_worthTo (pc := 24) (i := 12) (idx := 221) rfl (m_X0_takeMoving_0 hAd hZ hGd) wl_X7_221 wm_X0_takeMoving wy_X0_takeMoving (by decide) ⟨rfl, rfl, rfl⟩ ⟨rfl, rfl⟩, List.forall_mem_cons.mpr ⟨rv_ctV X Y fm_Ts_good dc_X7_worthTo (pc := 46) (i := 24) (idx := 151) rfl (m_X0_passDrawn_1 hAd hZ hGd) wl_X7_151 wm_X0_passDrawn wy_X0_passDrawn (by decide) ⟨rfl, rfl, rfl⟩ ⟨rfl, rfl⟩, fun _ h => absurd h List.not_mem_nil⟩⟩⟩⟩) (fun _ _ _ _ _ _ _ _ _ _ _ _ _ _ _ _ h => absurd h List.not_mem_nil)
def cd_X7_worth : List (Nat × Instr × Nat) := [(0, .iload_n 1, 1), (1, .invokestatic 75, 3), (4, .ifCond .eq 20, 3), (7, .iload_n 2, 1), (8, .invokestatic 124, 3), (11, .ifCond .eq 13, 3), (14, .iload_n 3, 1), (15, .iconst 1, 1), (16, .bipush 40, 2), (18, .invokestatic 80, 3), (21, .ifCond .ne 5, 3), (24, .iconst (-1), 1), (25, .ireturn, 1), (26, .aload_n 0, 1), (27, .iload_n 1, 1), (28, .iload_n 3, 1), (29, .invokevirtual 261, 3), (32, .aload_n 0, 1), (33, .iload_n 1, 1), (34, .iload_n 2, 1), (35, .iload_n 3, 1), (36, .invokevirtual 265, 3), (39, .ireturn, 1)]
theorem dc_X7_worth : ∀ q ∈ cd_X7_worth, decode prog_1_method_20_code q.1 = .ok (q.2.1, q.2.2) := by decide +kernel
def K_X7_worth_0 : rv_K := ([rv_r 0, rv_full, rv_full, rv_full], [], [(1, 9999), (14, 0), (14, 1), (14, 2), (14, 3), (14, 4), (14, 5), (14, 6), (14, 7), (14, 8), (14, 9), (14, 10), (14, 11), (14, 12), (14, 9999), (15, 9999), (56, 9), (56, 10), (56, 11), (56, 12), (56, 13), (56, 14), (56, 15), (56, 16), (57, 9999), (58, 9999), (59, 9999), (60, 9999), (61, 9999), (62, 9999), (63, 9999), (64, 9999), (65, 9999), (66, 0), (67, 9999), (68, 9999), (69, 9999), (70, 9999)], [(0, (-2147483648), 2147483647)], [], [])
def ct_X7_worth_0 : List (Nat × rv_K) := [(1, K_X7_isYard_0), (4, K_X7_isBeggar_0), (9, K_X7_isWithin_7), (16, K_X7_tryUnlicensed_0), (21, K_X7_worthTo_0)]
def n_X7_worth_0_0 : List rv_N := [
  (0, ([rv_r 0, rv_full, rv_full, rv_full], [], []), [1], 20, [], []),
  (1, ([rv_r 0, rv_full, rv_full, rv_full], [(1, 0, (-2147483648), 2147483647, [(.inl 1, 0)], [])], []), [2], 19, [], [0]),
  (2, ([rv_r 0, rv_full, rv_full, rv_full], [(1, 0, 0, 1, [], [(.inl 1, 0, 19)])], []), [3, 11], 18, [], []),
  (3, ([rv_r 0, rv_i 0 19, rv_full, rv_full], [], []), [4], 17, [], []),
  (4, ([rv_r 0, rv_i 0 19, rv_full, rv_full], [(1, 0, (-2147483648), 2147483647, [(.inl 2, 0)], [])], []), [5], 16, [], [1]),
  (5, ([rv_r 0, rv_i 0 19, rv_full, rv_full], [(1, 0, 0, 1, [], [(.inl 2, 0, 5)])], []), [6, 11], 15, [], []),
  (6, ([rv_r 0, rv_i 0 19, rv_i 0 5, rv_full], [], []), [7], 14, [], []),
  (7, ([rv_r 0, rv_i 0 19, rv_i 0 5, rv_full], [(1, 0, (-2147483648), 2147483647, [(.inl 3, 0)], [])], []), [8], 13, [], []),
  (8, ([rv_r 0, rv_i 0 19, rv_i 0 5, rv_full], [rv_i 1 1, (1, 0, (-2147483648), 2147483647, [(.inl 3, 0)], [])], []), [9], 12, [], []),
  (9, ([rv_r 0, rv_i 0 19, rv_i 0 5, rv_full], [rv_i 40 40, rv_i 1 1, (1, 0, (-2147483648), 2147483647, [(.inl 3, 0)], [])], []), [10], 11, [], [2]),
  (10, ([rv_r 0, rv_i 0 19, rv_i 0 5, rv_full], [(1, 0, 0, 1, [], [(.inl 3, 1, 40)])], []), [11, 13], 10, [], []),
  (11, ([rv_r 0, rv_full, rv_full, rv_full], [], []), [12], 1, [], []),
  (12, ([rv_r 0, rv_full, rv_full, rv_full], [rv_i (-1) (-1)], []), [], 0, [], []),
  (13, ([rv_r 0, rv_i 0 19, rv_i 0 5, rv_i 1 40], [], []), [14], 9, [], []),
  (14, ([rv_r 0, rv_i 0 19, rv_i 0 5, rv_i 1 40], [rv_r 0], []), [15], 8, [], []),
  (15, ([rv_r 0, rv_i 0 19, rv_i 0 5, rv_i 1 40], [(1, 0, 0, 19, [(.inl 1, 0)], []), rv_r 0], []), [16], 7, [], [])]
def n_X7_worth_0_1 : List rv_N := [
  (16, ([rv_r 0, rv_i 0 19, rv_i 0 5, rv_i 1 40], [(1, 0, 1, 40, [(.inl 3, 0)], []), (1, 0, 0, 19, [(.inl 1, 0)], []), rv_r 0], []), [17], 6, [], [3]),
  (17, ([rv_r 0, rv_i 0 19, rv_i 0 5, rv_i 1 40], [], []), [18], 5, [], []),
  (18, ([rv_r 0, rv_i 0 19, rv_i 0 5, rv_i 1 40], [rv_r 0], []), [19], 4, [], []),
  (19, ([rv_r 0, rv_i 0 19, rv_i 0 5, rv_i 1 40], [(1, 0, 0, 19, [(.inl 1, 0)], []), rv_r 0], []), [20], 3, [], []),
  (20, ([rv_r 0, rv_i 0 19, rv_i 0 5, rv_i 1 40], [(1, 0, 0, 5, [(.inl 2, 0)], []), (1, 0, 0, 19, [(.inl 1, 0)], []), rv_r 0], []), [21], 2, [], []),
  (21, ([rv_r 0, rv_i 0 19, rv_i 0 5, rv_i 1 40], [(1, 0, 1, 40, [(.inl 3, 0)], []), (1, 0, 0, 5, [(.inl 2, 0)], []), (1, 0, 0, 19, [(.inl 1, 0)], []), rv_r 0], []), [22], 1, [], [4]),
  (22, ([rv_r 0, rv_i 0 19, rv_i 0 5, rv_i 1 40], [rv_full], []), [], 0, [], [])]
def n_X7_worth_0 : List rv_N := n_X7_worth_0_0 ++ (n_X7_worth_0_1)
noncomputable def gn_X7_worth_0 : Nat → Option rv_N := rv_ap 16 (rv_at n_X7_worth_0_0) (rv_at n_X7_worth_0_1)
theorem hn_X7_worth_0 : ∀ i : Nat, n_X7_worth_0[i]? = gn_X7_worth_0 i := rv_ap_eq (l := n_X7_worth_0_0) (c := 16) (rv_at_eq n_X7_worth_0_1) rfl
set_option maxRecDepth 100000 in
theorem a_X7_worth_0 : rv_all (fm_tm, flX7, fm_wr, kcX7, klX7, K_X7_worth_0.2.2.1, [], 4) ct_X7_worth_0 cd_X7_worth n_X7_worth_0 K_X7_worth_0 [] 0 n_X7_worth_0 = true := rv_fast hn_X7_worth_0 (rv_at_eq cd_X7_worth) (by decide +kernel)
theorem m_X7_worth_0 {l : Launch} {D : va_G} {ad : Nat → Nat} {cy : Nat → ClassId} {Z : State → Heap → Prop} {Gp : fm_V → Prop} (hAd : fm_Ad fm_tm ad) (hZ : fm_Zk (fm_A fm_tm ad) Z) (hGd : fm_Gd Gp) : rv_Met l D fm_cl fm_tm ad cy fm_nt Z Gp yX7_worth (.code yX7_worth prog_1_method_20_code 4 (some .int) :: fm_Ts) { frames := 7, cells := 0, slots := 0, locals := 700 } K_X7_worth_0 := rv_met hAd hZ (Or.inl (by decide +kernel)) evX7 dc_X7_worth a_X7_worth_0 ⟨rfl, rfl, rfl⟩ (by decide +kernel) (by decide +kernel) (by decide) (fm_gm hGd (by decide +kernel)) (Or.inl rfl) (fun p e s m args below meth c Q X Y => List.forall_mem_cons.mpr ⟨rv_ctS X Y fm_Ts_good dc_X7_worth (pc := 1) (i := 1) (idx := 75) rfl (m_X7_isYard_0 hAd hZ hGd) wl_X7_75 wm_X7_isYard wy_X7_isYard (by decide) rfl, List.forall_mem_cons.mpr ⟨rv_ctS X Y fm_Ts_good dc_X7_worth (pc := 8) (i := 4) (idx := 124) rfl (m_X7_isBeggar_0 hAd hZ hGd) wl_X7_124 wm_X7_isBeggar wy_X7_isBeggar (by decide) rfl, List.forall_mem_cons.mpr ⟨rv_ctS X Y fm_Ts_good dc_X7_worth (pc := 18) (i := 9) (idx := 80) rfl (m_X7_isWithin_7 hAd hZ hGd) wl_X7_80 wm_X7_isWithin wy_X7_isWithin (by decide) rfl, List.forall_mem_cons.mpr ⟨rv_ctV X Y fm_Ts_good dc_X7_worth (pc := 29) (i := 16) (idx := 261) rfl (m_X7_tryUnlicensed_0 hAd hZ hGd) wl_X7_261 wm_X7_tryUnlicensed wy_X7_tryUnlicensed (by decide) ⟨rfl, rfl, rfl⟩ ⟨rfl, rfl⟩, List.forall_mem_cons.mpr ⟨rv_ctV X Y fm_Ts_good dc_X7_worth (pc := 36) (i := 21) (idx := 265) rfl (m_X7_worthTo_0 hAd hZ hGd) wl_X7_265 wm_X7_worthTo wy_X7_worthTo (by decide) ⟨rfl, rfl, rfl⟩ ⟨rfl, rfl⟩, fun _ h => absurd h List.not_mem_nil⟩⟩⟩⟩⟩) (fun _ _ _ _ _ _ _ _ _ _ _ _ _ _ _ _ h => absurd h List.not_mem_nil)
def cd_X7_sold : List (Nat × Instr × Nat) := [(0, .iload_n 1, 1), (1, .invokestatic 75, 3), (4, .ifCond .eq 22, 3), (7, .iload_n 2, 1), (8, .iconst 1, 1), (9, .bipush 40, 2), (11, .invokestatic 80, 3), (14, .ifCond .eq 12, 3), (17, .iload_n 3, 1), (18, .iconst 0, 1), (19, .iconst 1, 1), (20, .invokestatic 80, 3), (23, .ifCond .ne 5, 3), (26, .iconst (-1), 1), (27, .ireturn, 1), (28, .aload_n 0, 1), (29, .iload_n 1, 1), (30, .iload_n 2, 1), (31, .invokevirtual 261, 3), (34, .iconst 0, 1), (35, .istore 4, 2), (37, .iconst 0, 1), (38, .istore 5, 2), (40, .iload 5, 2), (42, .bipush 6, 2), (44, .if_icmp .ge 45, 3), (47, .aload_n 0, 1), (48, .getfield 68, 3), (51, .iload 5, 2), (53, .aload_n 0, 1), (54, .iload_n 1, 1), (55, .iload 5, 2), (57, .iload_n 2, 1), (58, .invokevirtual 265, 3), (61, .iastore, 1), (62, .aload_n 0, 1), (63, .getfield 68, 3), (66, .iload 5, 2), (68, .iaload, 1), (69, .aload_n 0, 1), (70, .getfield 68, 3), (73, .iload 4, 2), (75, .iaload, 1), (76, .if_icmp .le 7, 3), (79, .iload 5, 2), (81, .istore 4, 2), (83, .iinc 5 1, 3), (86, .goto (-46), 3), (89, .iload_n 3, 1), (90, .ifCond .ne 6, 3), (93, .iload 4, 2), (95, .ireturn, 1), (96, .ldc_w 269, 3), (99, .istore 5, 2), (101, .iconst 0, 1), (102, .istore 6, 2), (104, .iload 6, 2), (106, .bipush 6, 2), (108, .if_icmp .ge 30, 3), (111, .iload 6, 2), (113, .iload 4, 2), (115, .if_icmp .eq 17, 3), (118, .iload 5, 2), (120, .aload_n 0, 1), (121, .getfield 68, 3), (124, .iload 6, 2), (126, .iaload, 1), (127, .invokestatic 270, 3), (130, .istore 5, 2), (132, .iinc 6 1, 3), (135, .goto (-31), 3), (138, .iload 5, 2), (140, .ireturn, 1)]
theorem dc_X7_sold : ∀ q ∈ cd_X7_sold, decode prog_1_method_21_code q.1 = .ok (q.2.1, q.2.2) := by decide +kernel
def ch_X7_sold_0 : List (Nat × Instr × Nat) := [(0, .iload_n 1, 1), (1, .invokestatic 75, 3), (4, .ifCond .eq 22, 3), (7, .iload_n 2, 1), (8, .iconst 1, 1), (9, .bipush 40, 2), (11, .invokestatic 80, 3), (14, .ifCond .eq 12, 3), (17, .iload_n 3, 1), (18, .iconst 0, 1), (19, .iconst 1, 1), (20, .invokestatic 80, 3), (23, .ifCond .ne 5, 3), (26, .iconst (-1), 1), (27, .ireturn, 1), (28, .aload_n 0, 1)]
def ch_X7_sold_1 : List (Nat × Instr × Nat) := [(29, .iload_n 1, 1), (30, .iload_n 2, 1), (31, .invokevirtual 261, 3), (34, .iconst 0, 1), (35, .istore 4, 2), (37, .iconst 0, 1), (38, .istore 5, 2), (40, .iload 5, 2), (42, .bipush 6, 2), (44, .if_icmp .ge 45, 3), (47, .aload_n 0, 1), (48, .getfield 68, 3), (51, .iload 5, 2), (53, .aload_n 0, 1), (54, .iload_n 1, 1), (55, .iload 5, 2)]
def ch_X7_sold_2 : List (Nat × Instr × Nat) := [(57, .iload_n 2, 1), (58, .invokevirtual 265, 3), (61, .iastore, 1), (62, .aload_n 0, 1), (63, .getfield 68, 3), (66, .iload 5, 2), (68, .iaload, 1), (69, .aload_n 0, 1), (70, .getfield 68, 3), (73, .iload 4, 2), (75, .iaload, 1), (76, .if_icmp .le 7, 3), (79, .iload 5, 2), (81, .istore 4, 2), (83, .iinc 5 1, 3), (86, .goto (-46), 3)]
def ch_X7_sold_3 : List (Nat × Instr × Nat) := [(89, .iload_n 3, 1), (90, .ifCond .ne 6, 3), (93, .iload 4, 2), (95, .ireturn, 1), (96, .ldc_w 269, 3), (99, .istore 5, 2), (101, .iconst 0, 1), (102, .istore 6, 2), (104, .iload 6, 2), (106, .bipush 6, 2), (108, .if_icmp .ge 30, 3), (111, .iload 6, 2), (113, .iload 4, 2), (115, .if_icmp .eq 17, 3), (118, .iload 5, 2), (120, .aload_n 0, 1)]
def ch_X7_sold_4 : List (Nat × Instr × Nat) := [(121, .getfield 68, 3), (124, .iload 6, 2), (126, .iaload, 1), (127, .invokestatic 270, 3), (130, .istore 5, 2), (132, .iinc 6 1, 3), (135, .goto (-31), 3), (138, .iload 5, 2), (140, .ireturn, 1)]
set_option maxRecDepth 100000 in
theorem he_X7_sold : cd_X7_sold = ch_X7_sold_0 ++ (ch_X7_sold_1 ++ (ch_X7_sold_2 ++ (ch_X7_sold_3 ++ (ch_X7_sold_4)))) := rfl
noncomputable def gc_X7_sold : Nat → Option (Nat × Instr × Nat) := rv_ap 16 (rv_at ch_X7_sold_0) (rv_ap 16 (rv_at ch_X7_sold_1) (rv_ap 16 (rv_at ch_X7_sold_2) (rv_ap 16 (rv_at ch_X7_sold_3) (rv_at ch_X7_sold_4))))
theorem hc_X7_sold : ∀ i : Nat, cd_X7_sold[i]? = gc_X7_sold i := by
  rw [he_X7_sold]
  exact rv_ap_eq (l := ch_X7_sold_0) (c := 16) (rv_ap_eq (l := ch_X7_sold_1) (c := 16) (rv_ap_eq (l := ch_X7_sold_2) (c := 16) (rv_ap_eq (l := ch_X7_sold_3) (c := 16) (rv_at_eq ch_X7_sold_4) rfl) rfl) rfl) rfl
def K_X7_sold_0 : rv_K := ([rv_r 0, rv_full, rv_full, rv_full], [], [(1, 9999), (2, 9999), (14, 0), (14, 1), (14, 2), (14, 3), (14, 4), (14, 5), (14, 6), (14, 7), (14, 8), (14, 9), (14, 10), (14, 11), (14, 12), (14, 9999), (15, 9999), (56, 9), (56, 10), (56, 11), (56, 12), (56, 13), (56, 14), (56, 15), (56, 16), (57, 9999), (58, 9999), (59, 9999), (60, 9999), (61, 9999), (62, 9999), (63, 9999), (64, 9999), (65, 9999), (66, 0), (67, 9999), (68, 9999), (69, 9999), (70, 9999)], [(0, (-2147483648), 2147483647)], [], [])
def ct_X7_sold_0 : List (Nat × rv_K) := [(1, K_X7_isYard_0), (6, K_X7_isWithin_7), (11, K_X7_isWithin_15), (18, K_X7_tryUnlicensed_0), (33, K_X7_worthTo_0), (67, K_J9_max_7cf53_0)]
def n_X7_sold_0_0 : List rv_N := [
  (0, ([rv_r 0, rv_full, rv_full, rv_full, rv_u, rv_u, rv_u], [], []), [1], 8998, [], []),
  (1, ([rv_r 0, rv_full, rv_full, rv_full, rv_u, rv_u, rv_u], [(1, 0, (-2147483648), 2147483647, [(.inl 1, 0)], [])], []), [2], 8997, [], [0]),
  (2, ([rv_r 0, rv_full, rv_full, rv_full, rv_u, rv_u, rv_u], [(1, 0, 0, 1, [], [(.inl 1, 0, 19)])], []), [3, 13], 8996, [], []),
  (3, ([rv_r 0, rv_i 0 19, rv_full, rv_full, rv_u, rv_u, rv_u], [], []), [4], 8995, [], []),
  (4, ([rv_r 0, rv_i 0 19, rv_full, rv_full, rv_u, rv_u, rv_u], [(1, 0, (-2147483648), 2147483647, [(.inl 2, 0)], [])], []), [5], 8994, [], []),
  (5, ([rv_r 0, rv_i 0 19, rv_full, rv_full, rv_u, rv_u, rv_u], [rv_i 1 1, (1, 0, (-2147483648), 2147483647, [(.inl 2, 0)], [])], []), [6], 8993, [], []),
  (6, ([rv_r 0, rv_i 0 19, rv_full, rv_full, rv_u, rv_u, rv_u], [rv_i 40 40, rv_i 1 1, (1, 0, (-2147483648), 2147483647, [(.inl 2, 0)], [])], []), [7], 8992, [], [1]),
  (7, ([rv_r 0, rv_i 0 19, rv_full, rv_full, rv_u, rv_u, rv_u], [(1, 0, 0, 1, [], [(.inl 2, 1, 40)])], []), [8, 13], 8991, [], []),
  (8, ([rv_r 0, rv_i 0 19, rv_i 1 40, rv_full, rv_u, rv_u, rv_u], [], []), [9], 8990, [], []),
  (9, ([rv_r 0, rv_i 0 19, rv_i 1 40, rv_full, rv_u, rv_u, rv_u], [(1, 0, (-2147483648), 2147483647, [(.inl 3, 0)], [])], []), [10], 8989, [], []),
  (10, ([rv_r 0, rv_i 0 19, rv_i 1 40, rv_full, rv_u, rv_u, rv_u], [rv_i 0 0, (1, 0, (-2147483648), 2147483647, [(.inl 3, 0)], [])], []), [11], 8988, [], []),
  (11, ([rv_r 0, rv_i 0 19, rv_i 1 40, rv_full, rv_u, rv_u, rv_u], [rv_i 1 1, rv_i 0 0, (1, 0, (-2147483648), 2147483647, [(.inl 3, 0)], [])], []), [12], 8987, [], [2]),
  (12, ([rv_r 0, rv_i 0 19, rv_i 1 40, rv_full, rv_u, rv_u, rv_u], [(1, 0, 0, 1, [], [(.inl 3, 0, 1)])], []), [13, 15], 8986, [], []),
  (13, ([rv_r 0, rv_full, rv_full, rv_full, rv_u, rv_u, rv_u], [], []), [14], 1, [], []),
  (14, ([rv_r 0, rv_full, rv_full, rv_full, rv_u, rv_u, rv_u], [rv_i (-1) (-1)], []), [], 0, [], []),
  (15, ([rv_r 0, rv_i 0 19, rv_i 1 40, rv_i 0 1, rv_u, rv_u, rv_u], [], []), [16], 8985, [], [])]
def n_X7_sold_0_1 : List rv_N := [
  (16, ([rv_r 0, rv_i 0 19, rv_i 1 40, rv_i 0 1, rv_u, rv_u, rv_u], [rv_r 0], []), [17], 8984, [], []),
  (17, ([rv_r 0, rv_i 0 19, rv_i 1 40, rv_i 0 1, rv_u, rv_u, rv_u], [(1, 0, 0, 19, [(.inl 1, 0)], []), rv_r 0], []), [18], 8983, [], []),
  (18, ([rv_r 0, rv_i 0 19, rv_i 1 40, rv_i 0 1, rv_u, rv_u, rv_u], [(1, 0, 1, 40, [(.inl 2, 0)], []), (1, 0, 0, 19, [(.inl 1, 0)], []), rv_r 0], []), [19], 8982, [], [3]),
  (19, ([rv_r 0, rv_i 0 19, rv_i 1 40, rv_i 0 1, rv_u, rv_u, rv_u], [], []), [20], 8981, [], []),
  (20, ([rv_r 0, rv_i 0 19, rv_i 1 40, rv_i 0 1, rv_u, rv_u, rv_u], [rv_i 0 0], []), [21], 8980, [], []),
  (21, ([rv_r 0, rv_i 0 19, rv_i 1 40, rv_i 0 1, rv_i 0 0, rv_u, rv_u], [], []), [22], 8979, [], []),
  (22, ([rv_r 0, rv_i 0 19, rv_i 1 40, rv_i 0 1, rv_i 0 0, rv_u, rv_u], [rv_i 0 0], []), [23], 8978, [], []),
  (23, ([rv_r 0, rv_i 0 19, rv_i 1 40, rv_i 0 1, rv_i 0 5, rv_i 0 6, rv_u], [], []), [24], 8977, [(5, (-747))], []),
  (24, ([rv_r 0, rv_i 0 19, rv_i 1 40, rv_i 0 1, rv_i 0 5, rv_i 0 6, rv_u], [(1, 0, 0, 6, [(.inl 5, 0)], [])], []), [25], 8976, [(5, (-747))], []),
  (25, ([rv_r 0, rv_i 0 19, rv_i 1 40, rv_i 0 1, rv_i 0 5, rv_i 0 6, rv_u], [rv_i 6 6, (1, 0, 0, 6, [(.inl 5, 0)], [])], []), [26, 48], 8975, [(5, (-747))], []),
  (26, ([rv_r 0, rv_i 0 19, rv_i 1 40, rv_i 0 1, rv_i 0 5, rv_i 0 5, rv_u], [], []), [27], 8252, [(5, (-747))], []),
  (27, ([rv_r 0, rv_i 0 19, rv_i 1 40, rv_i 0 1, rv_i 0 5, rv_i 0 5, rv_u], [rv_r 0], []), [28], 8251, [(5, (-747))], []),
  (28, ([rv_r 0, rv_i 0 19, rv_i 1 40, rv_i 0 1, rv_i 0 5, rv_i 0 5, rv_u], [rv_r 2], []), [29], 8250, [(5, (-747))], []),
  (29, ([rv_r 0, rv_i 0 19, rv_i 1 40, rv_i 0 1, rv_i 0 5, rv_i 0 5, rv_u], [(1, 0, 0, 5, [(.inl 5, 0)], []), rv_r 2], []), [30], 8249, [(5, (-747))], []),
  (30, ([rv_r 0, rv_i 0 19, rv_i 1 40, rv_i 0 1, rv_i 0 5, rv_i 0 5, rv_u], [rv_r 0, (1, 0, 0, 5, [(.inl 5, 0)], []), rv_r 2], []), [31], 8248, [(5, (-747))], []),
  (31, ([rv_r 0, rv_i 0 19, rv_i 1 40, rv_i 0 1, rv_i 0 5, rv_i 0 5, rv_u], [(1, 0, 0, 19, [(.inl 1, 0)], []), rv_r 0, (1, 0, 0, 5, [(.inl 5, 0)], []), rv_r 2], []), [32], 8247, [(5, (-747))], [])]
def n_X7_sold_0_2 : List rv_N := [
  (32, ([rv_r 0, rv_i 0 19, rv_i 1 40, rv_i 0 1, rv_i 0 5, rv_i 0 5, rv_u], [(1, 0, 0, 5, [(.inl 5, 0)], []), (1, 0, 0, 19, [(.inl 1, 0)], []), rv_r 0, (1, 0, 0, 5, [(.inl 5, 0)], []), rv_r 2], []), [33], 8246, [(5, (-747))], []),
  (33, ([rv_r 0, rv_i 0 19, rv_i 1 40, rv_i 0 1, rv_i 0 5, rv_i 0 5, rv_u], [(1, 0, 1, 40, [(.inl 2, 0)], []), (1, 0, 0, 5, [(.inl 5, 0)], []), (1, 0, 0, 19, [(.inl 1, 0)], []), rv_r 0, (1, 0, 0, 5, [(.inl 5, 0)], []), rv_r 2], []), [34], 8245, [(5, (-747))], [4]),
  (34, ([rv_r 0, rv_i 0 19, rv_i 1 40, rv_i 0 1, rv_i 0 5, rv_i 0 5, rv_u], [rv_full, (1, 0, 0, 5, [(.inl 5, 0)], []), rv_r 2], []), [35], 8244, [(5, (-747))], []),
  (35, ([rv_r 0, rv_i 0 19, rv_i 1 40, rv_i 0 1, rv_i 0 5, rv_i 0 5, rv_u], [], []), [36], 8243, [(5, (-747))], []),
  (36, ([rv_r 0, rv_i 0 19, rv_i 1 40, rv_i 0 1, rv_i 0 5, rv_i 0 5, rv_u], [rv_r 0], []), [37], 8242, [(5, (-747))], []),
  (37, ([rv_r 0, rv_i 0 19, rv_i 1 40, rv_i 0 1, rv_i 0 5, rv_i 0 5, rv_u], [rv_r 2], []), [38], 8241, [(5, (-747))], []),
  (38, ([rv_r 0, rv_i 0 19, rv_i 1 40, rv_i 0 1, rv_i 0 5, rv_i 0 5, rv_u], [(1, 0, 0, 5, [(.inl 5, 0)], []), rv_r 2], []), [39], 8240, [(5, (-747))], []),
  (39, ([rv_r 0, rv_i 0 19, rv_i 1 40, rv_i 0 1, rv_i 0 5, rv_i 0 5, rv_u], [(1, 0, (-2147483648), 2147483647, [(.inr (2, 5005), 0)], [])], []), [40], 8239, [(5, (-747))], []),
  (40, ([rv_r 0, rv_i 0 19, rv_i 1 40, rv_i 0 1, rv_i 0 5, rv_i 0 5, rv_u], [rv_r 0, (1, 0, (-2147483648), 2147483647, [(.inr (2, 5005), 0)], [])], []), [41], 8238, [(5, (-747))], []),
  (41, ([rv_r 0, rv_i 0 19, rv_i 1 40, rv_i 0 1, rv_i 0 5, rv_i 0 5, rv_u], [rv_r 2, (1, 0, (-2147483648), 2147483647, [(.inr (2, 5005), 0)], [])], []), [42], 8237, [(5, (-747))], []),
  (42, ([rv_r 0, rv_i 0 19, rv_i 1 40, rv_i 0 1, rv_i 0 5, rv_i 0 5, rv_u], [(1, 0, 0, 5, [(.inl 4, 0)], []), rv_r 2, (1, 0, (-2147483648), 2147483647, [(.inr (2, 5005), 0)], [])], []), [43], 8236, [(5, (-747))], []),
  (43, ([rv_r 0, rv_i 0 19, rv_i 1 40, rv_i 0 1, rv_i 0 5, rv_i 0 5, rv_u], [(1, 0, (-2147483648), 2147483647, [(.inr (2, 5004), 0)], []), (1, 0, (-2147483648), 2147483647, [(.inr (2, 5005), 0)], [])], []), [44, 46], 8235, [(5, (-747))], []),
  (44, ([rv_r 0, rv_i 0 19, rv_i 1 40, rv_i 0 1, rv_i 0 5, rv_i 0 5, rv_u], [], [((2, 5004), (-2147483648), 2147483646, []), ((2, 5005), (-2147483647), 2147483647, [])]), [45], 8234, [(5, (-747))], []),
  (45, ([rv_r 0, rv_i 0 19, rv_i 1 40, rv_i 0 1, rv_i 0 5, rv_i 0 5, rv_u], [(1, 0, 0, 5, [(.inl 5, 0)], [])], [((2, 5004), (-2147483648), 2147483646, []), ((2, 5005), (-2147483647), 2147483647, [])]), [46], 8233, [(5, (-747))], []),
  (46, ([rv_r 0, rv_i 0 19, rv_i 1 40, rv_i 0 1, rv_i 0 5, rv_i 0 5, rv_u], [], []), [47], 8232, [(5, (-747))], []),
  (47, ([rv_r 0, rv_i 0 19, rv_i 1 40, rv_i 0 1, rv_i 0 5, rv_i 1 6, rv_u], [], []), [23], 8978, [(5, (-747))], [])]
def n_X7_sold_0_3 : List rv_N := [
  (48, ([rv_r 0, rv_i 0 19, rv_i 1 40, rv_i 0 1, rv_i 0 5, rv_i 6 6, rv_u], [], []), [49], 4492, [], []),
  (49, ([rv_r 0, rv_i 0 19, rv_i 1 40, rv_i 0 1, rv_i 0 5, rv_i 6 6, rv_u], [(1, 0, 0, 1, [(.inl 3, 0)], [])], []), [50, 52], 4491, [], []),
  (50, ([rv_r 0, rv_i 0 19, rv_i 1 40, rv_i 0 0, rv_i 0 5, rv_i 6 6, rv_u], [], []), [51], 1, [], []),
  (51, ([rv_r 0, rv_i 0 19, rv_i 1 40, rv_i 0 0, rv_i 0 5, rv_i 6 6, rv_u], [(1, 0, 0, 5, [(.inl 4, 0)], [])], []), [], 0, [], []),
  (52, ([rv_r 0, rv_i 0 19, rv_i 1 40, (1, 1, 1, 1, [], []), rv_i 0 5, rv_i 6 6, rv_u], [], []), [53], 4490, [], []),
  (53, ([rv_r 0, rv_i 0 19, rv_i 1 40, (1, 1, 1, 1, [], []), rv_i 0 5, rv_i 6 6, rv_u], [rv_i (-1000000000) (-1000000000)], []), [54], 4489, [], []),
  (54, ([rv_r 0, rv_i 0 19, rv_i 1 40, (1, 1, 1, 1, [], []), rv_i 0 5, rv_i (-1000000000) (-1000000000), rv_u], [], []), [55], 4488, [], []),
  (55, ([rv_r 0, rv_i 0 19, rv_i 1 40, (1, 1, 1, 1, [], []), rv_i 0 5, rv_i (-1000000000) (-1000000000), rv_u], [rv_i 0 0], []), [56], 4487, [], []),
  (56, ([rv_r 0, rv_i 0 19, rv_i 1 40, (1, 1, 1, 1, [], []), rv_i 0 5, rv_full, rv_i 0 6], [], []), [57], 4486, [(6, (-747))], []),
  (57, ([rv_r 0, rv_i 0 19, rv_i 1 40, (1, 1, 1, 1, [], []), rv_i 0 5, rv_full, rv_i 0 6], [(1, 0, 0, 6, [(.inl 6, 0)], [])], []), [58], 4485, [(6, (-747))], []),
  (58, ([rv_r 0, rv_i 0 19, rv_i 1 40, (1, 1, 1, 1, [], []), rv_i 0 5, rv_full, rv_i 0 6], [rv_i 6 6, (1, 0, 0, 6, [(.inl 6, 0)], [])], []), [59, 71], 4484, [(6, (-747))], []),
  (59, ([rv_r 0, rv_i 0 19, rv_i 1 40, (1, 1, 1, 1, [], []), rv_i 0 5, rv_full, rv_i 0 5], [], []), [60], 3751, [(6, (-747))], []),
  (60, ([rv_r 0, rv_i 0 19, rv_i 1 40, (1, 1, 1, 1, [], []), rv_i 0 5, rv_full, rv_i 0 5], [(1, 0, 0, 5, [(.inl 6, 0)], [])], []), [61], 3750, [(6, (-747))], []),
  (61, ([rv_r 0, rv_i 0 19, rv_i 1 40, (1, 1, 1, 1, [], []), rv_i 0 5, rv_full, rv_i 0 5], [(1, 0, 0, 5, [(.inl 4, 0)], []), (1, 0, 0, 5, [(.inl 6, 0)], [])], []), [62, 69], 3749, [(6, (-747))], []),
  (62, ([rv_r 0, rv_i 0 19, rv_i 1 40, (1, 1, 1, 1, [], []), rv_i 0 5, rv_full, rv_i 0 5], [], []), [63], 3748, [(6, (-747))], []),
  (63, ([rv_r 0, rv_i 0 19, rv_i 1 40, (1, 1, 1, 1, [], []), rv_i 0 5, rv_full, rv_i 0 5], [(1, 0, (-2147483648), 2147483647, [(.inl 5, 0)], [])], []), [64], 3747, [(6, (-747))], [])]
def n_X7_sold_0_4 : List rv_N := [
  (64, ([rv_r 0, rv_i 0 19, rv_i 1 40, (1, 1, 1, 1, [], []), rv_i 0 5, rv_full, rv_i 0 5], [rv_r 0, (1, 0, (-2147483648), 2147483647, [(.inl 5, 0)], [])], []), [65], 3746, [(6, (-747))], []),
  (65, ([rv_r 0, rv_i 0 19, rv_i 1 40, (1, 1, 1, 1, [], []), rv_i 0 5, rv_full, rv_i 0 5], [rv_r 2, (1, 0, (-2147483648), 2147483647, [(.inl 5, 0)], [])], []), [66], 3745, [(6, (-747))], []),
  (66, ([rv_r 0, rv_i 0 19, rv_i 1 40, (1, 1, 1, 1, [], []), rv_i 0 5, rv_full, rv_i 0 5], [(1, 0, 0, 5, [(.inl 6, 0)], []), rv_r 2, (1, 0, (-2147483648), 2147483647, [(.inl 5, 0)], [])], []), [67], 3744, [(6, (-747))], []),
  (67, ([rv_r 0, rv_i 0 19, rv_i 1 40, (1, 1, 1, 1, [], []), rv_i 0 5, rv_full, rv_i 0 5], [(1, 0, (-2147483648), 2147483647, [(.inr (2, 5006), 0)], []), (1, 0, (-2147483648), 2147483647, [(.inl 5, 0)], [])], []), [68], 3743, [(6, (-747))], [5]),
  (68, ([rv_r 0, rv_i 0 19, rv_i 1 40, (1, 1, 1, 1, [], []), rv_i 0 5, rv_full, rv_i 0 5], [rv_full], []), [69], 3742, [(6, (-747))], []),
  (69, ([rv_r 0, rv_i 0 19, rv_i 1 40, (1, 1, 1, 1, [], []), rv_i 0 5, rv_full, rv_i 0 5], [], []), [70], 3741, [(6, (-747))], []),
  (70, ([rv_r 0, rv_i 0 19, rv_i 1 40, (1, 1, 1, 1, [], []), rv_i 0 5, rv_full, rv_i 1 6], [], []), [56], 4487, [(6, (-747))], []),
  (71, ([rv_r 0, rv_i 0 19, rv_i 1 40, (1, 1, 1, 1, [], []), rv_i 0 5, rv_full, rv_i 6 6], [], []), [72], 1, [], []),
  (72, ([rv_r 0, rv_i 0 19, rv_i 1 40, (1, 1, 1, 1, [], []), rv_i 0 5, rv_full, rv_i 6 6], [(1, 0, (-2147483648), 2147483647, [(.inl 5, 0)], [])], []), [], 0, [], [])]
def n_X7_sold_0 : List rv_N := n_X7_sold_0_0 ++ (n_X7_sold_0_1 ++ (n_X7_sold_0_2 ++ (n_X7_sold_0_3 ++ (n_X7_sold_0_4))))
noncomputable def gn_X7_sold_0 : Nat → Option rv_N := rv_ap 16 (rv_at n_X7_sold_0_0) (rv_ap 16 (rv_at n_X7_sold_0_1) (rv_ap 16 (rv_at n_X7_sold_0_2) (rv_ap 16 (rv_at n_X7_sold_0_3) (rv_at n_X7_sold_0_4))))
theorem hn_X7_sold_0 : ∀ i : Nat, n_X7_sold_0[i]? = gn_X7_sold_0 i := rv_ap_eq (l := n_X7_sold_0_0) (c := 16) (rv_ap_eq (l := n_X7_sold_0_1) (c := 16) (rv_ap_eq (l := n_X7_sold_0_2) (c := 16) (rv_ap_eq (l := n_X7_sold_0_3) (c := 16) (rv_at_eq n_X7_sold_0_4) rfl) rfl) rfl) rfl
set_option maxRecDepth 100000 in
theorem a_X7_sold_0 : rv_all (fm_tm, flX7, fm_wr, kcX7, klX7, K_X7_sold_0.2.2.1, [], 7) ct_X7_sold_0 cd_X7_sold n_X7_sold_0 K_X7_sold_0 [] 0 n_X7_sold_0 = true := rv_fast hn_X7_sold_0 hc_X7_sold (by decide +kernel)
theorem m_X7_sold_0 {l : Launch} {D : va_G} {ad : Nat → Nat} {cy : Nat → ClassId} {Z : State → Heap → Prop} {Gp : fm_V → Prop} (hAd : fm_Ad fm_tm ad) (hZ : fm_Zk (fm_A fm_tm ad) Z) (hGd : fm_Gd Gp) : rv_Met l D fm_cl fm_tm ad cy fm_nt Z Gp yX7_sold (.code yX7_sold prog_1_method_21_code 7 (some .int) :: fm_Ts) { frames := 7, cells := 0, slots := 0, locals := 700 } K_X7_sold_0 := rv_met hAd hZ (Or.inl (by decide +kernel)) evX7 dc_X7_sold a_X7_sold_0 ⟨rfl, rfl, rfl⟩ (by decide +kernel) (by decide +kernel) (by decide) (fm_gm hGd (by decide +kernel)) (Or.inl rfl) (fun p e s m args below meth c Q X Y => List.forall_mem_cons.mpr ⟨rv_ctS X Y fm_Ts_good dc_X7_sold (pc := 1) (i := 1) (idx := 75) rfl (m_X7_isYard_0 hAd hZ hGd) wl_X7_75 wm_X7_isYard wy_X7_isYard (by decide) rfl, List.forall_mem_cons.mpr ⟨rv_ctS X Y fm_Ts_good dc_X7_sold (pc := 11) (i := 6) (idx := 80) rfl (m_X7_isWithin_7 hAd hZ hGd) wl_X7_80 wm_X7_isWithin wy_X7_isWithin (by decide) rfl, List.forall_mem_cons.mpr ⟨rv_ctS X Y fm_Ts_good dc_X7_sold (pc := 20) (i := 11) (idx := 80) rfl (m_X7_isWithin_15 hAd hZ hGd) wl_X7_80 wm_X7_isWithin wy_X7_isWithin (by decide) rfl, List.forall_mem_cons.mpr ⟨rv_ctV X Y fm_Ts_good dc_X7_sold (pc := 31) (i := 18) (idx := 261) rfl (m_X7_tryUnlicensed_0 hAd hZ hGd) wl_X7_261 wm_X7_tryUnlicensed wy_X7_tryUnlicensed (by decide) ⟨rfl, rfl, rfl⟩ ⟨rfl, rfl⟩, List.forall_mem_cons.mpr ⟨rv_ctV X Y fm_Ts_good dc_X7_sold (pc := 58) (i := 33) (idx := 265) rfl (m_X7_worthTo_0 hAd hZ hGd) wl_X7_265 wm_X7_worthTo wy_X7_worthTo (by decide) ⟨rfl, rfl, rfl⟩ ⟨rfl, rfl⟩, List.forall_mem_cons.mpr ⟨rv_ctS X Y fm_Ts_good dc_X7_sold (pc := 127) (i := 67) (idx := 270) rfl (m_J9_max_7cf53_0 hAd hZ hGd) wl_X7_270 wm_J9_max_7cf53 wy_J9_max_7cf53 (by decide) rfl, fun _ h => absurd h List.not_mem_nil⟩⟩⟩⟩⟩⟩) (fun _ _ _ _ _ _ _ _ _ _ _ _ _ _ _ _ h => absurd h List.not_mem_nil)
def K_X7_isWithin_17 : rv_K := ([rv_full, rv_i 1 1, rv_i 8 8], [], [], [(0, 0, 1)], [(.inl 0, 1, 8)], [])
def ct_X7_isWithin_17 : List (Nat × rv_K) := []
def n_X7_isWithin_17 : List rv_N := [
  (0, ([rv_full, rv_i 1 1, rv_i 8 8], [], []), [1], 8, [], []),
  (1, ([rv_full, rv_i 1 1, rv_i 8 8], [(1, 0, (-2147483648), 2147483647, [(.inl 0, 0)], [])], []), [2], 7, [], []),
  (2, ([rv_full, rv_i 1 1, rv_i 8 8], [(1, 0, 1, 1, [(.inl 1, 0)], []), (1, 0, (-2147483648), 2147483647, [(.inl 0, 0)], [])], []), [3, 8], 6, [], []),
  (3, ([rv_i 1 2147483647, rv_i 1 1, rv_i 8 8], [], []), [4], 5, [], []),
  (4, ([rv_i 1 2147483647, rv_i 1 1, rv_i 8 8], [(1, 0, 1, 2147483647, [(.inl 0, 0)], [])], []), [5], 4, [], []),
  (5, ([rv_i 1 2147483647, rv_i 1 1, rv_i 8 8], [(1, 0, 8, 8, [(.inl 2, 0)], []), (1, 0, 1, 2147483647, [(.inl 0, 0)], [])], []), [6, 8], 3, [], []),
  (6, ([rv_i 1 8, rv_i 1 1, rv_i 8 8], [], []), [7], 2, [], []),
  (7, ([rv_i 1 8, rv_i 1 1, rv_i 8 8], [rv_i 1 1], []), [10], 1, [], []),
  (8, ([rv_full, rv_i 1 1, rv_i 8 8], [], []), [9], 1, [], []),
  (9, ([rv_full, rv_i 1 1, rv_i 8 8], [rv_i 0 0], []), [], 0, [], []),
  (9, ([rv_i 1 8, rv_i 1 1, rv_i 8 8], [rv_i 1 1], []), [], 0, [], [])]
set_option maxRecDepth 100000 in
theorem a_X7_isWithin_17 : rv_all (fm_tm, flX7, fm_wr, kcX7, klX7, K_X7_isWithin_17.2.2.1, [0, 1, 2], 3) ct_X7_isWithin_17 cd_X7_isWithin n_X7_isWithin_17 K_X7_isWithin_17 [] 0 n_X7_isWithin_17 = true := rv_fast (rv_at_eq n_X7_isWithin_17) (rv_at_eq cd_X7_isWithin) (by decide +kernel)
theorem m_X7_isWithin_17 {l : Launch} {D : va_G} {ad : Nat → Nat} {cy : Nat → ClassId} {Z : State → Heap → Prop} {Gp : fm_V → Prop} (hAd : fm_Ad fm_tm ad) (hZ : fm_Zk (fm_A fm_tm ad) Z) (hGd : fm_Gd Gp) : rv_Met l D fm_cl fm_tm ad cy fm_nt Z Gp yX7_isWithin (.code yX7_isWithin prog_1_method_34_code 3 (some .boolean) :: fm_Ts) { frames := 0, cells := 0, slots := 0, locals := 0 } K_X7_isWithin_17 := rv_met hAd hZ (Or.inl (by decide +kernel)) evX7 dc_X7_isWithin a_X7_isWithin_17 ⟨rfl, rfl, rfl⟩ (by decide +kernel) (by decide +kernel) (by decide) (fm_gm hGd (by decide +kernel)) (Or.inr ⟨rfl, by decide, by decide⟩) (fun p e s m args below meth c Q X Y => fun _ h => absurd h List.not_mem_nil) (fun _ _ _ _ _ _ _ _ _ _ _ _ _ _ _ _ h => absurd h List.not_mem_nil)
def K_X7_isWithin_18 : rv_K := ([rv_full, rv_i (-1) (-1), rv_i 1 1], [], [], [(0, 0, 1)], [(.inl 0, (-1), 1)], [])
def ct_X7_isWithin_18 : List (Nat × rv_K) := []
def n_X7_isWithin_18 : List rv_N := [
  (0, ([rv_full, rv_i (-1) (-1), rv_i 1 1], [], []), [1], 8, [], []),
  (1, ([rv_full, rv_i (-1) (-1), rv_i 1 1], [(1, 0, (-2147483648), 2147483647, [(.inl 0, 0)], [])], []), [2], 7, [], []),
  (2, ([rv_full, rv_i (-1) (-1), rv_i 1 1], [(1, 0, (-1), (-1), [(.inl 1, 0)], []), (1, 0, (-2147483648), 2147483647, [(.inl 0, 0)], [])], []), [3, 8], 6, [], []),
  (3, ([rv_i (-1) 2147483647, rv_i (-1) (-1), rv_i 1 1], [], []), [4], 5, [], []),
  (4, ([rv_i (-1) 2147483647, rv_i (-1) (-1), rv_i 1 1], [(1, 0, (-1), 2147483647, [(.inl 0, 0)], [])], []), [5], 4, [], []),
  (5, ([rv_i (-1) 2147483647, rv_i (-1) (-1), rv_i 1 1], [(1, 0, 1, 1, [(.inl 2, 0)], []), (1, 0, (-1), 2147483647, [(.inl 0, 0)], [])], []), [6, 8], 3, [], []),
  (6, ([rv_i (-1) 1, rv_i (-1) (-1), rv_i 1 1], [], []), [7], 2, [], []),
  (7, ([rv_i (-1) 1, rv_i (-1) (-1), rv_i 1 1], [rv_i 1 1], []), [10], 1, [], []),
  (8, ([rv_full, rv_i (-1) (-1), rv_i 1 1], [], []), [9], 1, [], []),
  (9, ([rv_full, rv_i (-1) (-1), rv_i 1 1], [rv_i 0 0], []), [], 0, [], []),
  (9, ([rv_i (-1) 1, rv_i (-1) (-1), rv_i 1 1], [rv_i 1 1], []), [], 0, [], [])]
set_option maxRecDepth 100000 in
theorem a_X7_isWithin_18 : rv_all (fm_tm, flX7, fm_wr, kcX7, klX7, K_X7_isWithin_18.2.2.1, [0, 1, 2], 3) ct_X7_isWithin_18 cd_X7_isWithin n_X7_isWithin_18 K_X7_isWithin_18 [] 0 n_X7_isWithin_18 = true := rv_fast (rv_at_eq n_X7_isWithin_18) (rv_at_eq cd_X7_isWithin) (by decide +kernel)
theorem m_X7_isWithin_18 {l : Launch} {D : va_G} {ad : Nat → Nat} {cy : Nat → ClassId} {Z : State → Heap → Prop} {Gp : fm_V → Prop} (hAd : fm_Ad fm_tm ad) (hZ : fm_Zk (fm_A fm_tm ad) Z) (hGd : fm_Gd Gp) : rv_Met l D fm_cl fm_tm ad cy fm_nt Z Gp yX7_isWithin (.code yX7_isWithin prog_1_method_34_code 3 (some .boolean) :: fm_Ts) { frames := 0, cells := 0, slots := 0, locals := 0 } K_X7_isWithin_18 := rv_met hAd hZ (Or.inl (by decide +kernel)) evX7 dc_X7_isWithin a_X7_isWithin_18 ⟨rfl, rfl, rfl⟩ (by decide +kernel) (by decide +kernel) (by decide) (fm_gm hGd (by decide +kernel)) (Or.inr ⟨rfl, by decide, by decide⟩) (fun p e s m args below meth c Q X Y => fun _ h => absurd h List.not_mem_nil) (fun _ _ _ _ _ _ _ _ _ _ _ _ _ _ _ _ h => absurd h List.not_mem_nil)
def cd_X0_sumLed : List (Nat × Instr × Nat) := [(0, .iconst 0, 1), (1, .istore_n 3, 1), (2, .iload_n 1, 1), (3, .iconst (-1), 1), (4, .if_icmp .ne 7, 3), (7, .iconst 0, 1), (8, .goto 4, 3), (11, .iload_n 1, 1), (12, .istore 4, 2), (14, .iload 4, 2), (16, .ifCond .lt 84, 3), (19, .iload 4, 2), (21, .bipush 9, 2), (23, .if_icmp .ge 77, 3), (26, .iload_n 1, 1), (27, .iconst (-1), 1), (28, .if_icmp .eq 9, 3), (31, .iload 4, 2), (33, .iload_n 1, 1), (34, .if_icmp .ne 66, 3), (37, .iload_n 2, 1), (38, .iconst (-1), 1), (39, .if_icmp .ne 7, 3), (42, .iconst 0, 1), (43, .goto 4, 3), (46, .iload_n 2, 1), (47, .istore 5, 2), (49, .iload 5, 2), (51, .ifCond .lt 43, 3), (54, .iload 5, 2), (56, .bipush 20, 2), (58, .if_icmp .ge 36, 3), (61, .iload_n 2, 1), (62, .iconst (-1), 1), (63, .if_icmp .eq 9, 3), (66, .iload 5, 2), (68, .iload_n 2, 1), (69, .if_icmp .ne 25, 3), (72, .iload_n 3, 1), (73, .aload_n 0, 1), (74, .getfield 40, 3), (77, .iload 4, 2), (79, .bipush 20, 2), (81, .imul, 1), (82, .iload 5, 2), (84, .iadd, 1), (85, .iaload, 1), (86, .iadd, 1), (87, .istore_n 3, 1), (88, .iinc 5 1, 3), (91, .goto (-42), 3), (94, .iinc 4 1, 3), (97, .goto (-83), 3), (100, .iload_n 3, 1), (101, .ireturn, 1)]
theorem dc_X0_sumLed : ∀ q ∈ cd_X0_sumLed, decode prog_2_method_5_code q.1 = .ok (q.2.1, q.2.2) := by decide +kernel
def ch_X0_sumLed_0 : List (Nat × Instr × Nat) := [(0, .iconst 0, 1), (1, .istore_n 3, 1), (2, .iload_n 1, 1), (3, .iconst (-1), 1), (4, .if_icmp .ne 7, 3), (7, .iconst 0, 1), (8, .goto 4, 3), (11, .iload_n 1, 1), (12, .istore 4, 2), (14, .iload 4, 2), (16, .ifCond .lt 84, 3), (19, .iload 4, 2), (21, .bipush 9, 2), (23, .if_icmp .ge 77, 3), (26, .iload_n 1, 1), (27, .iconst (-1), 1)]
def ch_X0_sumLed_1 : List (Nat × Instr × Nat) := [(28, .if_icmp .eq 9, 3), (31, .iload 4, 2), (33, .iload_n 1, 1), (34, .if_icmp .ne 66, 3), (37, .iload_n 2, 1), (38, .iconst (-1), 1), (39, .if_icmp .ne 7, 3), (42, .iconst 0, 1), (43, .goto 4, 3), (46, .iload_n 2, 1), (47, .istore 5, 2), (49, .iload 5, 2), (51, .ifCond .lt 43, 3), (54, .iload 5, 2), (56, .bipush 20, 2), (58, .if_icmp .ge 36, 3)]
def ch_X0_sumLed_2 : List (Nat × Instr × Nat) := [(61, .iload_n 2, 1), (62, .iconst (-1), 1), (63, .if_icmp .eq 9, 3), (66, .iload 5, 2), (68, .iload_n 2, 1), (69, .if_icmp .ne 25, 3), (72, .iload_n 3, 1), (73, .aload_n 0, 1), (74, .getfield 40, 3), (77, .iload 4, 2), (79, .bipush 20, 2), (81, .imul, 1), (82, .iload 5, 2), (84, .iadd, 1), (85, .iaload, 1), (86, .iadd, 1)]
def ch_X0_sumLed_3 : List (Nat × Instr × Nat) := [(87, .istore_n 3, 1), (88, .iinc 5 1, 3), (91, .goto (-42), 3), (94, .iinc 4 1, 3), (97, .goto (-83), 3), (100, .iload_n 3, 1), (101, .ireturn, 1)]
set_option maxRecDepth 100000 in
theorem he_X0_sumLed : cd_X0_sumLed = ch_X0_sumLed_0 ++ (ch_X0_sumLed_1 ++ (ch_X0_sumLed_2 ++ (ch_X0_sumLed_3))) := rfl
noncomputable def gc_X0_sumLed : Nat → Option (Nat × Instr × Nat) := rv_ap 16 (rv_at ch_X0_sumLed_0) (rv_ap 16 (rv_at ch_X0_sumLed_1) (rv_ap 16 (rv_at ch_X0_sumLed_2) (rv_at ch_X0_sumLed_3)))
theorem hc_X0_sumLed : ∀ i : Nat, cd_X0_sumLed[i]? = gc_X0_sumLed i := by
  rw [he_X0_sumLed]
  exact rv_ap_eq (l := ch_X0_sumLed_0) (c := 16) (rv_ap_eq (l := ch_X0_sumLed_1) (c := 16) (rv_ap_eq (l := ch_X0_sumLed_2) (c := 16) (rv_at_eq ch_X0_sumLed_3) rfl) rfl) rfl
def K_X0_sumLed_0 : rv_K := ([rv_r 56, rv_full, rv_full], [], [], [(0, (-2147483648), 2147483647)], [], [])
def ct_X0_sumLed_0 : List (Nat × rv_K) := []
def n_X0_sumLed_0_0 : List rv_N := [
  (0, ([rv_r 56, rv_full, rv_full, rv_u, rv_u, rv_u], [], []), [1], 355655221774954913898065324653033, [], []),
  (1, ([rv_r 56, rv_full, rv_full, rv_u, rv_u, rv_u], [rv_i 0 0], []), [2], 355655221774954913898065324653032, [], []),
  (2, ([rv_r 56, rv_full, rv_full, rv_i 0 0, rv_u, rv_u], [], []), [3], 355655221774954913898065324653031, [], []),
  (3, ([rv_r 56, rv_full, rv_full, rv_i 0 0, rv_u, rv_u], [(1, 0, (-2147483648), 2147483647, [(.inl 1, 0)], [])], []), [4], 355655221774954913898065324653030, [], []),
  (4, ([rv_r 56, rv_full, rv_full, rv_i 0 0, rv_u, rv_u], [rv_i (-1) (-1), (1, 0, (-2147483648), 2147483647, [(.inl 1, 0)], [])], []), [5, 7], 355655221774954913898065324653029, [], []),
  (5, ([rv_r 56, rv_i (-1) (-1), rv_full, rv_i 0 0, rv_u, rv_u], [], []), [6], 177827610846073739837031357331941, [], []),
  (6, ([rv_r 56, rv_i (-1) (-1), rv_full, rv_i 0 0, rv_u, rv_u], [rv_i 0 0], []), [8], 177827610846073739837031357331940, [], []),
  (7, ([rv_r 56, rv_full, rv_full, rv_i 0 0, rv_u, rv_u], [], []), [9], 355655221774954913898065324653028, [], []),
  (8, ([rv_r 56, rv_i (-1) (-1), rv_full, rv_i 0 0, rv_u, rv_u], [rv_i 0 0], []), [10], 177827610846073739837031357331939, [], []),
  (8, ([rv_r 56, rv_full, rv_full, rv_i 0 0, rv_u, rv_u], [(1, 0, (-2147483648), 2147483647, [(.inl 1, 0)], [])], []), [10], 355655221774954913898065324653027, [], []),
  (9, ([rv_r 56, rv_full, rv_full, rv_full, rv_full, rv_u], [], []), [11], 177827610846073739837031357331938, [(4, (-82807434224002609989156))], []),
  (10, ([rv_r 56, rv_full, rv_full, rv_full, rv_full, rv_u], [(1, 0, (-2147483648), 2147483647, [(.inl 4, 0)], [])], []), [12, 55], 177827610846073739837031357331937, [(4, (-82807434224002609989156))], []),
  (11, ([rv_r 56, rv_full, rv_full, rv_full, rv_i 0 2147483647, rv_u], [], []), [13], 177827610846073739837031357331936, [(4, (-82807434224002609989156))], []),
  (12, ([rv_r 56, rv_full, rv_full, rv_full, rv_i 0 2147483647, rv_u], [(1, 0, 0, 2147483647, [(.inl 4, 0)], [])], []), [14], 177827610846073739837031357331935, [(4, (-82807434224002609989156))], []),
  (13, ([rv_r 56, rv_full, rv_full, rv_full, rv_i 0 2147483647, rv_u], [rv_i 9 9, (1, 0, 0, 2147483647, [(.inl 4, 0)], [])], []), [15, 55], 177827610846073739837031357331934, [(4, (-82807434224002609989156))], []),
  (14, ([rv_r 56, rv_full, rv_full, rv_full, rv_i 0 8, rv_u], [], []), [16], 177827610764502237466255050109770, [(4, (-82807434224002609989156))], [])]
def n_X0_sumLed_0_1 : List rv_N := [
  (15, ([rv_r 56, rv_full, rv_full, rv_full, rv_i 0 8, rv_u], [(1, 0, (-2147483648), 2147483647, [(.inl 1, 0)], [])], []), [17], 177827610764502237466255050109769, [(4, (-82807434224002609989156))], []),
  (16, ([rv_r 56, rv_full, rv_full, rv_full, rv_i 0 8, rv_u], [rv_i (-1) (-1), (1, 0, (-2147483648), 2147483647, [(.inl 1, 0)], [])], []), [18, 21], 177827610764502237466255050109768, [(4, (-82807434224002609989156))], []),
  (17, ([rv_r 56, rv_full, rv_full, rv_full, rv_i 0 8, rv_u], [], []), [19], 177827610764502237466255050109767, [(4, (-82807434224002609989156))], []),
  (18, ([rv_r 56, rv_full, rv_full, rv_full, rv_i 0 8, rv_u], [(1, 0, 0, 8, [(.inl 4, 0)], [])], []), [20], 177827610764502237466255050109766, [(4, (-82807434224002609989156))], []),
  (19, ([rv_r 56, rv_full, rv_full, rv_full, rv_i 0 8, rv_u], [(1, 0, (-2147483648), 2147483647, [(.inl 1, 0)], []), (1, 0, 0, 8, [(.inl 4, 0)], [])], []), [21, 55], 177827610764502237466255050109765, [(4, (-82807434224002609989156))], []),
  (20, ([rv_r 56, rv_i (-1) 8, rv_full, rv_full, rv_i 0 8, rv_u], [], []), [22], 177827610764502237466255050109764, [(4, (-82807434224002609989156))], []),
  (21, ([rv_r 56, rv_i (-1) 8, rv_full, rv_full, rv_i 0 8, rv_u], [(1, 0, (-2147483648), 2147483647, [(.inl 2, 0)], [])], []), [23], 177827610764502237466255050109763, [(4, (-82807434224002609989156))], []),
  (22, ([rv_r 56, rv_i (-1) 8, rv_full, rv_full, rv_i 0 8, rv_u], [rv_i (-1) (-1), (1, 0, (-2147483648), 2147483647, [(.inl 2, 0)], [])], []), [24, 26], 177827610764502237466255050109762, [(4, (-82807434224002609989156))], []),
  (23, ([rv_r 56, rv_i (-1) 8, rv_i (-1) (-1), rv_full, rv_i 0 8, rv_u], [], []), [25], 177827610763884271539498017321794, [(4, (-82807434224002609989156))], []),
  (24, ([rv_r 56, rv_i (-1) 8, rv_i (-1) (-1), rv_full, rv_i 0 8, rv_u], [rv_i 0 0], []), [27], 177827610763884271539498017321793, [(4, (-82807434224002609989156))], []),
  (25, ([rv_r 56, rv_i (-1) 8, rv_full, rv_full, rv_i 0 8, rv_u], [], []), [28], 177827610764502237466255050109761, [(4, (-82807434224002609989156))], []),
  (26, ([rv_r 56, rv_i (-1) 8, rv_i (-1) (-1), rv_full, rv_i 0 8, rv_u], [rv_i 0 0], []), [29], 177827610763884271539498017321792, [(4, (-82807434224002609989156))], []),
  (26, ([rv_r 56, rv_i (-1) 8, rv_full, rv_full, rv_i 0 8, rv_u], [(1, 0, (-2147483648), 2147483647, [(.inl 2, 0)], [])], []), [29], 177827610764502237466255050109760, [(4, (-82807434224002609989156))], []),
  (27, ([rv_r 56, rv_i (-1) 8, rv_full, rv_full, rv_i 0 8, rv_full], [], []), [30], 177827610763884271539498017321791, [(4, (-82807434224002609989156)), (5, (-287762808966))], []),
  (28, ([rv_r 56, rv_i (-1) 8, rv_full, rv_full, rv_i 0 8, rv_full], [(1, 0, (-2147483648), 2147483647, [(.inl 5, 0)], [])], []), [31, 53], 177827610763884271539498017321790, [(4, (-82807434224002609989156)), (5, (-287762808966))], []),
  (29, ([rv_r 56, rv_i (-1) 8, rv_full, rv_full, rv_i 0 8, rv_i 0 2147483647], [], []), [32], 177827610763884271539498017321789, [(4, (-82807434224002609989156)), (5, (-287762808966))], [])]
def n_X0_sumLed_0_2 : List rv_N := [
  (30, ([rv_r 56, rv_i (-1) 8, rv_full, rv_full, rv_i 0 8, rv_i 0 2147483647], [(1, 0, 0, 2147483647, [(.inl 5, 0)], [])], []), [33], 177827610763884271539498017321788, [(4, (-82807434224002609989156)), (5, (-287762808966))], []),
  (31, ([rv_r 56, rv_i (-1) 8, rv_full, rv_full, rv_i 0 8, rv_i 0 2147483647], [rv_i 20 20, (1, 0, 0, 2147483647, [(.inl 5, 0)], [])], []), [34, 53], 177827610763884271539498017321787, [(4, (-82807434224002609989156)), (5, (-287762808966))], []),
  (32, ([rv_r 56, rv_i (-1) 8, rv_full, rv_full, rv_i 0 8, rv_i 0 19], [], []), [35], 177827610763884271539210254512844, [(4, (-82807434224002609989156)), (5, (-287762808966))], []),
  (33, ([rv_r 56, rv_i (-1) 8, rv_full, rv_full, rv_i 0 8, rv_i 0 19], [(1, 0, (-2147483648), 2147483647, [(.inl 2, 0)], [])], []), [36], 177827610763884271539210254512843, [(4, (-82807434224002609989156)), (5, (-287762808966))], []),
  (34, ([rv_r 56, rv_i (-1) 8, rv_full, rv_full, rv_i 0 8, rv_i 0 19], [rv_i (-1) (-1), (1, 0, (-2147483648), 2147483647, [(.inl 2, 0)], [])], []), [37, 40], 177827610763884271539210254512842, [(4, (-82807434224002609989156)), (5, (-287762808966))], []),
  (35, ([rv_r 56, rv_i (-1) 8, rv_full, rv_full, rv_i 0 8, rv_i 0 19], [], []), [38], 177827610763884271539210254512841, [(4, (-82807434224002609989156)), (5, (-287762808966))], []),
  (36, ([rv_r 56, rv_i (-1) 8, rv_full, rv_full, rv_i 0 8, rv_i 0 19], [(1, 0, 0, 19, [(.inl 5, 0)], [])], []), [39], 177827610763884271539210254512840, [(4, (-82807434224002609989156)), (5, (-287762808966))], []),
  (37, ([rv_r 56, rv_i (-1) 8, rv_full, rv_full, rv_i 0 8, rv_i 0 19], [(1, 0, (-2147483648), 2147483647, [(.inl 2, 0)], []), (1, 0, 0, 19, [(.inl 5, 0)], [])], []), [40, 53], 177827610763884271539210254512839, [(4, (-82807434224002609989156)), (5, (-287762808966))], []),
  (38, ([rv_r 56, rv_i (-1) 8, rv_i (-1) 19, rv_full, rv_i 0 8, rv_i 0 19], [], []), [41], 177827610763884271539210254512838, [(4, (-82807434224002609989156)), (5, (-287762808966))], []),
  (39, ([rv_r 56, rv_i (-1) 8, rv_i (-1) 19, rv_full, rv_i 0 8, rv_i 0 19], [(1, 0, (-2147483648), 2147483647, [(.inl 3, 0)], [])], []), [42], 177827610763884271539210254512837, [(4, (-82807434224002609989156)), (5, (-287762808966))], []),
  (40, ([rv_r 56, rv_i (-1) 8, rv_i (-1) 19, rv_full, rv_i 0 8, rv_i 0 19], [rv_r 56, (1, 0, (-2147483648), 2147483647, [(.inl 3, 0)], [])], []), [43], 177827610763884271539210254512836, [(4, (-82807434224002609989156)), (5, (-287762808966))], []),
  (41, ([rv_r 56, rv_i (-1) 8, rv_i (-1) 19, rv_full, rv_i 0 8, rv_i 0 19], [rv_r 64, (1, 0, (-2147483648), 2147483647, [(.inl 3, 0)], [])], []), [44], 177827610763884271539210254512835, [(4, (-82807434224002609989156)), (5, (-287762808966))], []),
  (42, ([rv_r 56, rv_i (-1) 8, rv_i (-1) 19, rv_full, rv_i 0 8, rv_i 0 19], [(1, 0, 0, 8, [(.inl 4, 0)], []), rv_r 64, (1, 0, (-2147483648), 2147483647, [(.inl 3, 0)], [])], []), [45], 177827610763884271539210254512834, [(4, (-82807434224002609989156)), (5, (-287762808966))], []),
  (43, ([rv_r 56, rv_i (-1) 8, rv_i (-1) 19, rv_full, rv_i 0 8, rv_i 0 19], [rv_i 20 20, (1, 0, 0, 8, [(.inl 4, 0)], []), rv_r 64, (1, 0, (-2147483648), 2147483647, [(.inl 3, 0)], [])], []), [46], 177827610763884271539210254512833, [(4, (-82807434224002609989156)), (5, (-287762808966))], []),
  (44, ([rv_r 56, rv_i (-1) 8, rv_i (-1) 19, rv_full, rv_i 0 8, rv_i 0 19], [rv_i 0 160, rv_r 64, (1, 0, (-2147483648), 2147483647, [(.inl 3, 0)], [])], []), [47], 177827610763884271539210254512832, [(4, (-82807434224002609989156)), (5, (-287762808966))], []),
  (45, ([rv_r 56, rv_i (-1) 8, rv_i (-1) 19, rv_full, rv_i 0 8, rv_i 0 19], [(1, 0, 0, 19, [(.inl 5, 0)], []), rv_i 0 160, rv_r 64, (1, 0, (-2147483648), 2147483647, [(.inl 3, 0)], [])], []), [48], 177827610763884271539210254512831, [(4, (-82807434224002609989156)), (5, (-287762808966))], [])]
def n_X0_sumLed_0_3 : List rv_N := [
  (46, ([rv_r 56, rv_i (-1) 8, rv_i (-1) 19, rv_full, rv_i 0 8, rv_i 0 19], [rv_i 0 179, rv_r 64, (1, 0, (-2147483648), 2147483647, [(.inl 3, 0)], [])], []), [49], 177827610763884271539210254512830, [(4, (-82807434224002609989156)), (5, (-287762808966))], []),
  (47, ([rv_r 56, rv_i (-1) 8, rv_i (-1) 19, rv_full, rv_i 0 8, rv_i 0 19], [rv_full, (1, 0, (-2147483648), 2147483647, [(.inl 3, 0)], [])], []), [50], 177827610763884271539210254512829, [(4, (-82807434224002609989156)), (5, (-287762808966))], []),
  (48, ([rv_r 56, rv_i (-1) 8, rv_i (-1) 19, rv_full, rv_i 0 8, rv_i 0 19], [rv_full], []), [51], 177827610763884271539210254512828, [(4, (-82807434224002609989156)), (5, (-287762808966))], []),
  (49, ([rv_r 56, rv_i (-1) 8, rv_i (-1) 19, rv_full, rv_i 0 8, rv_i 0 19], [], []), [52], 177827610763884271539210254512827, [(4, (-82807434224002609989156)), (5, (-287762808966))], []),
  (50, ([rv_r 56, rv_i (-1) 8, rv_i (-1) 19, rv_full, rv_i 0 8, rv_i 1 20], [], []), [29], 177827610763884271539498017321792, [(4, (-82807434224002609989156)), (5, (-287762808966))], []),
  (51, ([rv_r 56, rv_i (-1) 8, rv_full, rv_full, rv_i 0 8, rv_full], [], []), [54], 177827610763266305613028747342784, [(4, (-82807434224002609989156))], []),
  (52, ([rv_r 56, rv_i (-1) 8, rv_full, rv_full, rv_i 1 9, rv_full], [], []), [10], 177827610846073739837031357331939, [(4, (-82807434224002609989156))], []),
  (53, ([rv_r 56, rv_full, rv_full, rv_full, rv_full, rv_u], [], []), [56], 1, [], []),
  (54, ([rv_r 56, rv_full, rv_full, rv_full, rv_full, rv_u], [(1, 0, (-2147483648), 2147483647, [(.inl 3, 0)], [])], []), [], 0, [], [])]
def n_X0_sumLed_0 : List rv_N := n_X0_sumLed_0_0 ++ (n_X0_sumLed_0_1 ++ (n_X0_sumLed_0_2 ++ (n_X0_sumLed_0_3)))
noncomputable def gn_X0_sumLed_0 : Nat → Option rv_N := rv_ap 16 (rv_at n_X0_sumLed_0_0) (rv_ap 16 (rv_at n_X0_sumLed_0_1) (rv_ap 16 (rv_at n_X0_sumLed_0_2) (rv_at n_X0_sumLed_0_3)))
theorem hn_X0_sumLed_0 : ∀ i : Nat, n_X0_sumLed_0[i]? = gn_X0_sumLed_0 i := rv_ap_eq (l := n_X0_sumLed_0_0) (c := 16) (rv_ap_eq (l := n_X0_sumLed_0_1) (c := 16) (rv_ap_eq (l := n_X0_sumLed_0_2) (c := 16) (rv_at_eq n_X0_sumLed_0_3) rfl) rfl) rfl
set_option maxRecDepth 100000 in
theorem a_X0_sumLed_0 : rv_all (fm_tm, flX0, fm_wr, kcX0, klX0, K_X0_sumLed_0.2.2.1, [], 6) ct_X0_sumLed_0 cd_X0_sumLed n_X0_sumLed_0 K_X0_sumLed_0 [] 0 n_X0_sumLed_0 = true := rv_fast hn_X0_sumLed_0 hc_X0_sumLed (by decide +kernel)
theorem m_X0_sumLed_0 {l : Launch} {D : va_G} {ad : Nat → Nat} {cy : Nat → ClassId} {Z : State → Heap → Prop} {Gp : fm_V → Prop} (hAd : fm_Ad fm_tm ad) (hZ : fm_Zk (fm_A fm_tm ad) Z) (hGd : fm_Gd Gp) : rv_Met l D fm_cl fm_tm ad cy fm_nt Z Gp yX0_sumLed (.code yX0_sumLed prog_2_method_5_code 6 (some .int) :: fm_Ts) { frames := 0, cells := 0, slots := 0, locals := 0 } K_X0_sumLed_0 := rv_met hAd hZ (Or.inl (by decide +kernel)) evX0 dc_X0_sumLed a_X0_sumLed_0 ⟨rfl, rfl, rfl⟩ (by decide +kernel) (by decide +kernel) (by decide) (fm_gm hGd (by decide +kernel)) (Or.inl rfl) (fun p e s m args below meth c Q X Y => fun _ h => absurd h List.not_mem_nil) (fun _ _ _ _ _ _ _ _ _ _ _ _ _ _ _ _ h => absurd h List.not_mem_nil)
def cd_X6_byteAt : List (Nat × Instr × Nat) := [(0, .iload_n 1, 1), (1, .ifCond .lt 19, 3), (4, .iload_n 1, 1), (5, .sipush 220, 3), (8, .if_icmp .ge 12, 3), (11, .aload_n 0, 1), (12, .getfield 9, 3), (15, .iload_n 1, 1), (16, .iaload, 1), (17, .goto 4, 3), (20, .iconst (-1), 1), (21, .ireturn, 1)]
theorem dc_X6_byteAt : ∀ q ∈ cd_X6_byteAt, decode prog_8_method_4_code q.1 = .ok (q.2.1, q.2.2) := by decide +kernel
def K_X6_byteAt_0 : rv_K := ([rv_r 3, rv_full], [], [], [(0, (-1), 255)], [], [])
def ct_X6_byteAt_0 : List (Nat × rv_K) := []
def n_X6_byteAt_0 : List rv_N := [
  (0, ([rv_r 3, rv_full], [], []), [1], 10, [], []),
  (1, ([rv_r 3, rv_full], [(1, 0, (-2147483648), 2147483647, [(.inl 1, 0)], [])], []), [2, 10], 9, [], []),
  (2, ([rv_r 3, rv_i 0 2147483647], [], []), [3], 8, [], []),
  (3, ([rv_r 3, rv_i 0 2147483647], [(1, 0, 0, 2147483647, [(.inl 1, 0)], [])], []), [4], 7, [], []),
  (4, ([rv_r 3, rv_i 0 2147483647], [rv_i 220 220, (1, 0, 0, 2147483647, [(.inl 1, 0)], [])], []), [5, 10], 6, [], []),
  (5, ([rv_r 3, rv_i 0 219], [], []), [6], 5, [], []),
  (6, ([rv_r 3, rv_i 0 219], [rv_r 3], []), [7], 4, [], []),
  (7, ([rv_r 3, rv_i 0 219], [rv_r 4], []), [8], 3, [], []),
  (8, ([rv_r 3, rv_i 0 219], [(1, 0, 0, 219, [(.inl 1, 0)], []), rv_r 4], []), [9], 2, [], []),
  (9, ([rv_r 3, rv_i 0 219], [(1, 0, 0, 255, [(.inr (4, 5001), 0)], [])], []), [12], 1, [], []),
  (10, ([rv_r 3, rv_full], [], []), [11], 1, [], []),
  (11, ([rv_r 3, rv_full], [rv_i (-1) (-1)], []), [], 0, [], []),
  (11, ([rv_r 3, rv_i 0 219], [(1, 0, 0, 255, [(.inr (4, 5001), 0)], [])], []), [], 0, [], [])]
set_option maxRecDepth 100000 in
theorem a_X6_byteAt_0 : rv_all (fm_tm, flX6, fm_wr, kcX6, klX6, K_X6_byteAt_0.2.2.1, [], 2) ct_X6_byteAt_0 cd_X6_byteAt n_X6_byteAt_0 K_X6_byteAt_0 [] 0 n_X6_byteAt_0 = true := rv_fast (rv_at_eq n_X6_byteAt_0) (rv_at_eq cd_X6_byteAt) (by decide +kernel)
theorem m_X6_byteAt_0 {l : Launch} {D : va_G} {ad : Nat → Nat} {cy : Nat → ClassId} {Z : State → Heap → Prop} {Gp : fm_V → Prop} (hAd : fm_Ad fm_tm ad) (hZ : fm_Zk (fm_A fm_tm ad) Z) (hGd : fm_Gd Gp) : rv_Met l D fm_cl fm_tm ad cy fm_nt Z Gp yX6_byteAt (.code yX6_byteAt prog_8_method_4_code 2 (some .int) :: fm_Ts) { frames := 0, cells := 0, slots := 0, locals := 0 } K_X6_byteAt_0 := rv_met hAd hZ (Or.inl (by decide +kernel)) evX6 dc_X6_byteAt a_X6_byteAt_0 ⟨rfl, rfl, rfl⟩ (by decide +kernel) (by decide +kernel) (by decide) (fm_gm hGd (by decide +kernel)) (Or.inl rfl) (fun p e s m args below meth c Q X Y => fun _ h => absurd h List.not_mem_nil) (fun _ _ _ _ _ _ _ _ _ _ _ _ _ _ _ _ h => absurd h List.not_mem_nil)
def cd_X7_wouldShake : List (Nat × Instr × Nat) := [(0, .iload_n 1, 1), (1, .invokestatic 96, 3), (4, .ifCond .ne 5, 3), (7, .iconst 0, 1), (8, .ireturn, 1), (9, .aload_n 0, 1), (10, .getfield 45, 3), (13, .aload_n 0, 1), (14, .getfield 38, 3), (17, .invokevirtual 221, 3), (20, .aload_n 0, 1), (21, .getfield 45, 3), (24, .getfield 99, 3), (27, .getfield 115, 3), (30, .iload_n 1, 1), (31, .iload_n 3, 1), (32, .iastore, 1), (33, .aload_n 0, 1), (34, .getfield 45, 3), (37, .getfield 99, 3), (40, .getfield 118, 3), (43, .iload_n 1, 1), (44, .iload 4, 2), (46, .iastore, 1), (47, .iconst 0, 1), (48, .istore 5, 2), (50, .iload 5, 2), (52, .iload_n 2, 1), (53, .if_icmp .ge 59, 3), (56, .aload_n 0, 1), (57, .getfield 45, 3), (60, .iload_n 1, 1), (61, .iconst (-1), 1), (62, .invokevirtual 280, 3), (65, .istore 6, 2), (67, .aload_n 0, 1), (68, .getfield 45, 3), (71, .aload_n 0, 1), (72, .getfield 22, 3), (75, .iconst 1, 1), (76, .invokevirtual 151, 3), (79, .pop, 1), (80, .aload_n 0, 1), (81, .getfield 45, 3), (84, .iload_n 1, 1), (85, .iconst (-1), 1), (86, .invokevirtual 280, 3), (89, .iload 6, 2), (91, .isub, 1), (92, .aload_n 0, 1), (93, .getfield 12, 3), (96, .iload 5, 2), (98, .invokevirtual 283, 3), (101, .if_icmp .eq 5, 3), (104, .iconst 0, 1), (105, .ireturn, 1), (106, .iinc 5 1, 3), (109, .goto (-59), 3), (112, .iconst 1, 1), (113, .ireturn, 1)]
theorem dc_X7_wouldShake : ∀ q ∈ cd_X7_wouldShake, decode prog_1_method_25_code q.1 = .ok (q.2.1, q.2.2) := by decide +kernel
def ch_X7_wouldShake_0 : List (Nat × Instr × Nat) := [(0, .iload_n 1, 1), (1, .invokestatic 96, 3), (4, .ifCond .ne 5, 3), (7, .iconst 0, 1), (8, .ireturn, 1), (9, .aload_n 0, 1), (10, .getfield 45, 3), (13, .aload_n 0, 1), (14, .getfield 38, 3), (17, .invokevirtual 221, 3), (20, .aload_n 0, 1), (21, .getfield 45, 3), (24, .getfield 99, 3), (27, .getfield 115, 3), (30, .iload_n 1, 1), (31, .iload_n 3, 1)]
def ch_X7_wouldShake_1 : List (Nat × Instr × Nat) := [(32, .iastore, 1), (33, .aload_n 0, 1), (34, .getfield 45, 3), (37, .getfield 99, 3), (40, .getfield 118, 3), (43, .iload_n 1, 1), (44, .iload 4, 2), (46, .iastore, 1), (47, .iconst 0, 1), (48, .istore 5, 2), (50, .iload 5, 2), (52, .iload_n 2, 1), (53, .if_icmp .ge 59, 3), (56, .aload_n 0, 1), (57, .getfield 45, 3), (60, .iload_n 1, 1)]
def ch_X7_wouldShake_2 : List (Nat × Instr × Nat) := [(61, .iconst (-1), 1), (62, .invokevirtual 280, 3), (65, .istore 6, 2), (67, .aload_n 0, 1), (68, .getfield 45, 3), (71, .aload_n 0, 1), (72, .getfield 22, 3), (75, .iconst 1, 1), (76, .invokevirtual 151, 3), (79, .pop, 1), (80, .aload_n 0, 1), (81, .getfield 45, 3), (84, .iload_n 1, 1), (85, .iconst (-1), 1), (86, .invokevirtual 280, 3), (89, .iload 6, 2)]
def ch_X7_wouldShake_3 : List (Nat × Instr × Nat) := [(91, .isub, 1), (92, .aload_n 0, 1), (93, .getfield 12, 3), (96, .iload 5, 2), (98, .invokevirtual 283, 3), (101, .if_icmp .eq 5, 3), (104, .iconst 0, 1), (105, .ireturn, 1), (106, .iinc 5 1, 3), (109, .goto (-59), 3), (112, .iconst 1, 1), (113, .ireturn, 1)]
set_option maxRecDepth 100000 in
theorem he_X7_wouldShake : cd_X7_wouldShake = ch_X7_wouldShake_0 ++ (ch_X7_wouldShake_1 ++ (ch_X7_wouldShake_2 ++ (ch_X7_wouldShake_3))) := rfl
noncomputable def gc_X7_wouldShake : Nat → Option (Nat × Instr × Nat) := rv_ap 16 (rv_at ch_X7_wouldShake_0) (rv_ap 16 (rv_at ch_X7_wouldShake_1) (rv_ap 16 (rv_at ch_X7_wouldShake_2) (rv_at ch_X7_wouldShake_3)))
theorem hc_X7_wouldShake : ∀ i : Nat, cd_X7_wouldShake[i]? = gc_X7_wouldShake i := by
  rw [he_X7_wouldShake]
  exact rv_ap_eq (l := ch_X7_wouldShake_0) (c := 16) (rv_ap_eq (l := ch_X7_wouldShake_1) (c := 16) (rv_ap_eq (l := ch_X7_wouldShake_2) (c := 16) (rv_at_eq ch_X7_wouldShake_3) rfl) rfl) rfl
def K_X7_wouldShake_0 : rv_K := ([rv_r 0, rv_full, rv_full, rv_full, rv_full], [], [(14, 0), (14, 1), (14, 2), (14, 3), (14, 4), (14, 5), (14, 6), (14, 7), (14, 8), (14, 9), (14, 10), (14, 11), (14, 12), (14, 9999), (15, 9999), (56, 9), (56, 10), (56, 11), (56, 12), (56, 13), (56, 16), (57, 9999), (62, 9999), (64, 9999), (65, 9999), (67, 9999), (68, 9999), (69, 9999), (70, 9999)], [(0, 0, 1)], [(.inl 1, 0, 8)], [])
def ct_X7_wouldShake_0 : List (Nat × rv_K) := [(1, K_X7_isPorter_0), (9, K_X0_takeMoving_0), (33, K_X0_sumLed_0), (40, K_X0_passDrawn_1), (46, K_X0_sumLed_0), (52, K_X6_byteAt_0)]
def n_X7_wouldShake_0_0 : List rv_N := [
  (0, ([rv_r 0, rv_full, rv_full, rv_full, rv_full, rv_u, rv_u], [], []), [1], 322818021440241008528, [], []),
  (1, ([rv_r 0, rv_full, rv_full, rv_full, rv_full, rv_u, rv_u], [(1, 0, (-2147483648), 2147483647, [(.inl 1, 0)], [])], []), [2], 322818021440241008527, [], [0]),
  (2, ([rv_r 0, rv_full, rv_full, rv_full, rv_full, rv_u, rv_u], [(1, 0, 0, 1, [], [(.inl 1, 0, 8)])], []), [3, 5], 322818021440241008526, [], []),
  (3, ([rv_r 0, rv_full, rv_full, rv_full, rv_full, rv_u, rv_u], [], []), [4], 1, [], []),
  (4, ([rv_r 0, rv_full, rv_full, rv_full, rv_full, rv_u, rv_u], [rv_i 0 0], []), [], 0, [], []),
  (5, ([rv_r 0, rv_i 0 8, rv_full, rv_full, rv_full, rv_u, rv_u], [], []), [6], 322818021440241008525, [], []),
  (6, ([rv_r 0, rv_i 0 8, rv_full, rv_full, rv_full, rv_u, rv_u], [rv_r 0], []), [7], 322818021440241008524, [], []),
  (7, ([rv_r 0, rv_i 0 8, rv_full, rv_full, rv_full, rv_u, rv_u], [rv_r 56], []), [8], 322818021440241008523, [], []),
  (8, ([rv_r 0, rv_i 0 8, rv_full, rv_full, rv_full, rv_u, rv_u], [rv_r 0, rv_r 56], []), [9], 322818021440241008522, [], []),
  (9, ([rv_r 0, rv_i 0 8, rv_full, rv_full, rv_full, rv_u, rv_u], [rv_r 26, rv_r 56], []), [10], 322818021440241008521, [], [1]),
  (10, ([rv_r 0, rv_i 0 8, rv_full, rv_full, rv_full, rv_u, rv_u], [], []), [11], 322818021440241008520, [], []),
  (11, ([rv_r 0, rv_i 0 8, rv_full, rv_full, rv_full, rv_u, rv_u], [rv_r 0], []), [12], 322818021440241008519, [], []),
  (12, ([rv_r 0, rv_i 0 8, rv_full, rv_full, rv_full, rv_u, rv_u], [rv_r 56], []), [13], 322818021440241008518, [], []),
  (13, ([rv_r 0, rv_i 0 8, rv_full, rv_full, rv_full, rv_u, rv_u], [rv_r 66], []), [14], 322818021440241008517, [], []),
  (14, ([rv_r 0, rv_i 0 8, rv_full, rv_full, rv_full, rv_u, rv_u], [rv_r 69], []), [15], 322818021440241008516, [], []),
  (15, ([rv_r 0, rv_i 0 8, rv_full, rv_full, rv_full, rv_u, rv_u], [(1, 0, 0, 8, [(.inl 1, 0)], []), rv_r 69], []), [16], 322818021440241008515, [], [])]
def n_X7_wouldShake_0_1 : List rv_N := [
  (16, ([rv_r 0, rv_i 0 8, rv_full, rv_full, rv_full, rv_u, rv_u], [(1, 0, (-2147483648), 2147483647, [(.inl 3, 0)], []), (1, 0, 0, 8, [(.inl 1, 0)], []), rv_r 69], []), [17], 322818021440241008514, [], []),
  (17, ([rv_r 0, rv_i 0 8, rv_full, rv_full, rv_full, rv_u, rv_u], [], []), [18], 322818021440241008513, [], []),
  (18, ([rv_r 0, rv_i 0 8, rv_full, rv_full, rv_full, rv_u, rv_u], [rv_r 0], []), [19], 322818021440241008512, [], []),
  (19, ([rv_r 0, rv_i 0 8, rv_full, rv_full, rv_full, rv_u, rv_u], [rv_r 56], []), [20], 322818021440241008511, [], []),
  (20, ([rv_r 0, rv_i 0 8, rv_full, rv_full, rv_full, rv_u, rv_u], [rv_r 66], []), [21], 322818021440241008510, [], []),
  (21, ([rv_r 0, rv_i 0 8, rv_full, rv_full, rv_full, rv_u, rv_u], [rv_r 70], []), [22], 322818021440241008509, [], []),
  (22, ([rv_r 0, rv_i 0 8, rv_full, rv_full, rv_full, rv_u, rv_u], [(1, 0, 0, 8, [(.inl 1, 0)], []), rv_r 70], []), [23], 322818021440241008508, [], []),
  (23, ([rv_r 0, rv_i 0 8, rv_full, rv_full, rv_full, rv_u, rv_u], [(1, 0, (-2147483648), 2147483647, [(.inl 4, 0)], []), (1, 0, 0, 8, [(.inl 1, 0)], []), rv_r 70], []), [24], 322818021440241008507, [], []),
  (24, ([rv_r 0, rv_i 0 8, rv_full, rv_full, rv_full, rv_u, rv_u], [], []), [25], 322818021440241008506, [], []),
  (25, ([rv_r 0, rv_i 0 8, rv_full, rv_full, rv_full, rv_u, rv_u], [rv_i 0 0], []), [26], 322818021440241008505, [], []),
  (26, ([rv_r 0, rv_i 0 8, rv_full, rv_full, rv_full, rv_i 0 2147483647, rv_u], [], []), [27], 322818021440241008504, [(5, (-150323855500))], []),
  (27, ([rv_r 0, rv_i 0 8, rv_full, rv_full, rv_full, rv_i 0 2147483647, rv_u], [(1, 0, 0, 2147483647, [(.inl 5, 0)], [])], []), [28], 322818021440241008503, [(5, (-150323855500))], []),
  (28, ([rv_r 0, rv_i 0 8, rv_full, rv_full, rv_full, rv_i 0 2147483647, rv_u], [(1, 0, (-2147483648), 2147483647, [(.inl 2, 0)], []), (1, 0, 0, 2147483647, [(.inl 5, 0)], [])], []), [29, 58], 322818021440241008502, [(5, (-150323855500))], []),
  (29, ([rv_r 0, rv_i 0 8, rv_i 1 2147483647, rv_full, rv_full, rv_i 0 2147483646, rv_u], [], []), [30], 322818021289917153031, [(5, (-150323855500))], []),
  (30, ([rv_r 0, rv_i 0 8, rv_i 1 2147483647, rv_full, rv_full, rv_i 0 2147483646, rv_u], [rv_r 0], []), [31], 322818021289917153030, [(5, (-150323855500))], []),
  (31, ([rv_r 0, rv_i 0 8, rv_i 1 2147483647, rv_full, rv_full, rv_i 0 2147483646, rv_u], [rv_r 56], []), [32], 322818021289917153029, [(5, (-150323855500))], [])]
def n_X7_wouldShake_0_2 : List rv_N := [
  (32, ([rv_r 0, rv_i 0 8, rv_i 1 2147483647, rv_full, rv_full, rv_i 0 2147483646, rv_u], [(1, 0, 0, 8, [(.inl 1, 0)], []), rv_r 56], []), [33], 322818021289917153028, [(5, (-150323855500))], []),
  (33, ([rv_r 0, rv_i 0 8, rv_i 1 2147483647, rv_full, rv_full, rv_i 0 2147483646, rv_u], [rv_i (-1) (-1), (1, 0, 0, 8, [(.inl 1, 0)], []), rv_r 56], []), [34], 322818021289917153027, [(5, (-150323855500))], [2]),
  (34, ([rv_r 0, rv_i 0 8, rv_i 1 2147483647, rv_full, rv_full, rv_i 0 2147483646, rv_u], [rv_full], []), [35], 322818021289917153026, [(5, (-150323855500))], []),
  (35, ([rv_r 0, rv_i 0 8, rv_i 1 2147483647, rv_full, rv_full, rv_i 0 2147483646, rv_full], [], []), [36], 322818021289917153025, [(5, (-150323855500))], []),
  (36, ([rv_r 0, rv_i 0 8, rv_i 1 2147483647, rv_full, rv_full, rv_i 0 2147483646, rv_full], [rv_r 0], []), [37], 322818021289917153024, [(5, (-150323855500))], []),
  (37, ([rv_r 0, rv_i 0 8, rv_i 1 2147483647, rv_full, rv_full, rv_i 0 2147483646, rv_full], [rv_r 56], []), [38], 322818021289917153023, [(5, (-150323855500))], []),
  (38, ([rv_r 0, rv_i 0 8, rv_i 1 2147483647, rv_full, rv_full, rv_i 0 2147483646, rv_full], [rv_r 0, rv_r 56], []), [39], 322818021289917153022, [(5, (-150323855500))], []),
  (39, ([rv_r 0, rv_i 0 8, rv_i 1 2147483647, rv_full, rv_full, rv_i 0 2147483646, rv_full], [rv_r 7, rv_r 56], []), [40], 322818021289917153021, [(5, (-150323855500))], []),
  (40, ([rv_r 0, rv_i 0 8, rv_i 1 2147483647, rv_full, rv_full, rv_i 0 2147483646, rv_full], [rv_i 1 1, rv_r 7, rv_r 56], []), [41], 322818021289917153020, [(5, (-150323855500))], [3]),
  (41, ([rv_r 0, rv_i 0 8, rv_i 1 2147483647, rv_full, rv_full, rv_i 0 2147483646, rv_full], [rv_full], []), [42], 322818021289917153019, [(5, (-150323855500))], []),
  (42, ([rv_r 0, rv_i 0 8, rv_i 1 2147483647, rv_full, rv_full, rv_i 0 2147483646, rv_full], [], []), [43], 322818021289917153018, [(5, (-150323855500))], []),
  (43, ([rv_r 0, rv_i 0 8, rv_i 1 2147483647, rv_full, rv_full, rv_i 0 2147483646, rv_full], [rv_r 0], []), [44], 322818021289917153017, [(5, (-150323855500))], []),
  (44, ([rv_r 0, rv_i 0 8, rv_i 1 2147483647, rv_full, rv_full, rv_i 0 2147483646, rv_full], [rv_r 56], []), [45], 322818021289917153016, [(5, (-150323855500))], []),
  (45, ([rv_r 0, rv_i 0 8, rv_i 1 2147483647, rv_full, rv_full, rv_i 0 2147483646, rv_full], [(1, 0, 0, 8, [(.inl 1, 0)], []), rv_r 56], []), [46], 322818021289917153015, [(5, (-150323855500))], []),
  (46, ([rv_r 0, rv_i 0 8, rv_i 1 2147483647, rv_full, rv_full, rv_i 0 2147483646, rv_full], [rv_i (-1) (-1), (1, 0, 0, 8, [(.inl 1, 0)], []), rv_r 56], []), [47], 322818021289917153014, [(5, (-150323855500))], [4]),
  (47, ([rv_r 0, rv_i 0 8, rv_i 1 2147483647, rv_full, rv_full, rv_i 0 2147483646, rv_full], [rv_full], []), [48], 322818021289917153013, [(5, (-150323855500))], [])]
def n_X7_wouldShake_0_3 : List rv_N := [
  (48, ([rv_r 0, rv_i 0 8, rv_i 1 2147483647, rv_full, rv_full, rv_i 0 2147483646, rv_full], [(1, 0, (-2147483648), 2147483647, [(.inl 6, 0)], []), rv_full], []), [49], 322818021289917153012, [(5, (-150323855500))], []),
  (49, ([rv_r 0, rv_i 0 8, rv_i 1 2147483647, rv_full, rv_full, rv_i 0 2147483646, rv_full], [rv_full], []), [50], 322818021289917153011, [(5, (-150323855500))], []),
  (50, ([rv_r 0, rv_i 0 8, rv_i 1 2147483647, rv_full, rv_full, rv_i 0 2147483646, rv_full], [rv_r 0, rv_full], []), [51], 322818021289917153010, [(5, (-150323855500))], []),
  (51, ([rv_r 0, rv_i 0 8, rv_i 1 2147483647, rv_full, rv_full, rv_i 0 2147483646, rv_full], [rv_r 3, rv_full], []), [52], 322818021289917153009, [(5, (-150323855500))], []),
  (52, ([rv_r 0, rv_i 0 8, rv_i 1 2147483647, rv_full, rv_full, rv_i 0 2147483646, rv_full], [(1, 0, 0, 2147483646, [(.inl 5, 0)], []), rv_r 3, rv_full], []), [53], 322818021289917153008, [(5, (-150323855500))], [5]),
  (53, ([rv_r 0, rv_i 0 8, rv_i 1 2147483647, rv_full, rv_full, rv_i 0 2147483646, rv_full], [rv_i (-1) 255, rv_full], []), [54, 56], 322818021289917153007, [(5, (-150323855500))], []),
  (54, ([rv_r 0, rv_i 0 8, rv_i 1 2147483647, rv_full, rv_full, rv_i 0 2147483646, rv_full], [], []), [55], 1, [], []),
  (55, ([rv_r 0, rv_i 0 8, rv_i 1 2147483647, rv_full, rv_full, rv_i 0 2147483646, rv_full], [rv_i 0 0], []), [], 0, [], []),
  (56, ([rv_r 0, rv_i 0 8, rv_i 1 2147483647, rv_full, rv_full, rv_i 0 2147483646, rv_full], [], []), [57], 322818021289917153006, [(5, (-150323855500))], []),
  (57, ([rv_r 0, rv_i 0 8, rv_i 1 2147483647, rv_full, rv_full, rv_i 1 2147483647, rv_full], [], []), [26], 322818021440241008505, [(5, (-150323855500))], []),
  (58, ([rv_r 0, rv_i 0 8, rv_full, rv_full, rv_full, rv_i 0 2147483647, rv_u], [], []), [59], 1, [], []),
  (59, ([rv_r 0, rv_i 0 8, rv_full, rv_full, rv_full, rv_i 0 2147483647, rv_u], [rv_i 1 1], []), [], 0, [], [])]
def n_X7_wouldShake_0 : List rv_N := n_X7_wouldShake_0_0 ++ (n_X7_wouldShake_0_1 ++ (n_X7_wouldShake_0_2 ++ (n_X7_wouldShake_0_3)))
noncomputable def gn_X7_wouldShake_0 : Nat → Option rv_N := rv_ap 16 (rv_at n_X7_wouldShake_0_0) (rv_ap 16 (rv_at n_X7_wouldShake_0_1) (rv_ap 16 (rv_at n_X7_wouldShake_0_2) (rv_at n_X7_wouldShake_0_3)))
theorem hn_X7_wouldShake_0 : ∀ i : Nat, n_X7_wouldShake_0[i]? = gn_X7_wouldShake_0 i := rv_ap_eq (l := n_X7_wouldShake_0_0) (c := 16) (rv_ap_eq (l := n_X7_wouldShake_0_1) (c := 16) (rv_ap_eq (l := n_X7_wouldShake_0_2) (c := 16) (rv_at_eq n_X7_wouldShake_0_3) rfl) rfl) rfl
set_option maxRecDepth 100000 in
theorem a_X7_wouldShake_0 : rv_all (fm_tm, flX7, fm_wr, kcX7, klX7, K_X7_wouldShake_0.2.2.1, [1, 2, 3, 4], 7) ct_X7_wouldShake_0 cd_X7_wouldShake n_X7_wouldShake_0 K_X7_wouldShake_0 [] 0 n_X7_wouldShake_0 = true := rv_fast hn_X7_wouldShake_0 hc_X7_wouldShake (by decide +kernel)
theorem m_X7_wouldShake_0 {l : Launch} {D : va_G} {ad : Nat → Nat} {cy : Nat → ClassId} {Z : State → Heap → Prop} {Gp : fm_V → Prop} (hAd : fm_Ad fm_tm ad) (hZ : fm_Zk (fm_A fm_tm ad) Z) (hGd : fm_Gd Gp) : rv_Met l D fm_cl fm_tm ad cy fm_nt Z Gp yX7_wouldShake (.code yX7_wouldShake prog_1_method_25_code 7 (some .boolean) :: fm_Ts) { frames := 6, cells := 0, slots := 0, locals := 600 } K_X7_wouldShake_0 := rv_met hAd hZ (Or.inl (by decide +kernel)) evX7 dc_X7_wouldShake a_X7_wouldShake_0 ⟨rfl, rfl, rfl⟩ (by decide +kernel) (by decide +kernel) (by decide) (fm_gm hGd (by decide +kernel)) (Or.inr ⟨rfl, by decide, by decide⟩) (fun p e s m args below meth c Q X Y => List.forall_mem_cons.mpr ⟨rv_ctS X Y fm_Ts_good dc_X7_wouldShake (pc := 1) (i := 1) (idx := 96) rfl (m_X7_isPorter_0 hAd hZ hGd) wl_X7_96 wm_X7_isPorter wy_X7_isPorter (by decide) rfl, List.forall_mem_cons.mpr ⟨rv_ctV X Y fm_Ts_good dc_X7_wouldShake (pc := 17) (i := 9) (idx := 221) rfl (m_X0_takeMoving_0 hAd hZ hGd) wl_X7_221 wm_X0_takeMoving wy_X0_takeMoving (by decide) ⟨rfl, rfl, rfl⟩ ⟨rfl, rfl⟩, List.forall_mem_cons.mpr ⟨rv_ctV X Y fm_Ts_good dc_X7_wouldShake (pc := 62) (i := 33) (idx := 280) rfl (m_X0_sumLed_0 hAd hZ hGd) wl_X7_280 wm_X0_sumLed wy_X0_sumLed (by decide) ⟨rfl, rfl, rfl⟩ ⟨rfl, rfl⟩, List.forall_mem_cons.mpr ⟨rv_ctV X Y fm_Ts_good dc_X7_wouldShake (pc := 76) (i := 40) (idx := 151) rfl (m_X0_passDrawn_1 hAd hZ hGd) wl_X7_151 wm_X0_passDrawn wy_X0_passDrawn (by decide) ⟨rfl, rfl, rfl⟩ ⟨rfl, rfl⟩, List.forall_mem_cons.mpr ⟨rv_ctV X Y fm_Ts_good dc_X7_wouldShake (pc := 86) (i := 46) (idx := 280) rfl (m_X0_sumLed_0 hAd hZ hGd) wl_X7_280 wm_X0_sumLed wy_X0_sumLed (by decide) ⟨rfl, rfl, rfl⟩ ⟨rfl, rfl⟩, List.forall_mem_cons.mpr ⟨rv_ctV X Y fm_Ts_good dc_X7_wouldShake (pc := 98) (i := 52) (idx := 283) rfl (m_X6_byteAt_0 hAd hZ hGd) wl_X7_283 wm_X6_byteAt wy_X6_byteAt (by decide) ⟨rfl, rfl, rfl⟩ ⟨rfl, rfl⟩, fun _ h => absurd h List.not_mem_nil⟩⟩⟩⟩⟩⟩) (fun _ _ _ _ _ _ _ _ _ _ _ _ _ _ _ _ h => absurd h List.not_mem_nil)
def cd_X7_shook : List (Nat × Instr × Nat) := [(0, .iload_n 2, 1), (1, .iconst 1, 1), (2, .bipush 8, 2), (4, .invokestatic 80, 3), (7, .ifCond .eq 23, 3), (10, .iload_n 3, 1), (11, .iconst (-1), 1), (12, .iconst 1, 1), (13, .invokestatic 80, 3), (16, .ifCond .eq 14, 3), (19, .aload_n 0, 1), (20, .getfield 12, 3), (23, .getfield 137, 3), (26, .iload_n 2, 1), (27, .if_icmp .ge 5, 3), (30, .iconst (-1), 1), (31, .ireturn, 1), (32, .aload_n 0, 1), (33, .getfield 12, 3), (36, .iconst 0, 1), (37, .putfield 137, 3), (40, .aload_n 0, 1), (41, .getfield 38, 3), (44, .getfield 99, 3), (47, .iload_n 1, 1), (48, .invokevirtual 273, 3), (51, .ifCond .ne 6, 3), (54, .bipush (-3), 2), (56, .ireturn, 1), (57, .iconst 0, 1), (58, .istore 4, 2), (60, .iconst 0, 1), (61, .istore 5, 2), (63, .aload_n 0, 1), (64, .getfield 45, 3), (67, .aload_n 0, 1), (68, .getfield 38, 3), (71, .invokevirtual 168, 3), (74, .aload_n 0, 1), (75, .getfield 45, 3), (78, .aload_n 0, 1), (79, .getfield 22, 3), (82, .getfield 231, 3), (85, .putfield 234, 3), (88, .iconst 0, 1), (89, .istore 6, 2), (91, .iload 6, 2), (93, .bipush 100, 2), (95, .if_icmp .ge 45, 3), (98, .aload_n 0, 1), (99, .iload_n 1, 1), (100, .iload_n 2, 1), (101, .iload 6, 2), (103, .bipush 10, 2), (105, .idiv, 1), (106, .iload 6, 2), (108, .bipush 10, 2), (110, .irem, 1), (111, .invokevirtual 276, 3), (114, .ifCond .eq 20, 3), (117, .iload 4, 2), (119, .ifCond .ne 8, 3), (122, .iload 6, 2), (124, .goto 5, 3), (127, .iload 5, 2), (129, .istore 5, 2), (131, .iinc 4 1, 3), (134, .iinc 6 1, 3), (137, .goto (-46), 3), (140, .iload_n 3, 1), (141, .iconst (-1), 1), (142, .if_icmp .ne 6, 3), (145, .iload 4, 2), (147, .ireturn, 1), (148, .iload 4, 2), (150, .ifCond .ne 6, 3), (153, .bipush (-2), 2), (155, .ireturn, 1), (156, .iload_n 3, 1), (157, .ifCond .ne 11, 3), (160, .iload 5, 2), (162, .bipush 10, 2), (164, .idiv, 1), (165, .goto 8, 3), (168, .iload 5, 2), (170, .bipush 10, 2), (172, .irem, 1), (173, .ireturn, 1)]
theorem dc_X7_shook : ∀ q ∈ cd_X7_shook, decode prog_1_method_24_code q.1 = .ok (q.2.1, q.2.2) := by decide +kernel
def ch_X7_shook_0 : List (Nat × Instr × Nat) := [(0, .iload_n 2, 1), (1, .iconst 1, 1), (2, .bipush 8, 2), (4, .invokestatic 80, 3), (7, .ifCond .eq 23, 3), (10, .iload_n 3, 1), (11, .iconst (-1), 1), (12, .iconst 1, 1), (13, .invokestatic 80, 3), (16, .ifCond .eq 14, 3), (19, .aload_n 0, 1), (20, .getfield 12, 3), (23, .getfield 137, 3), (26, .iload_n 2, 1), (27, .if_icmp .ge 5, 3), (30, .iconst (-1), 1)]
def ch_X7_shook_1 : List (Nat × Instr × Nat) := [(31, .ireturn, 1), (32, .aload_n 0, 1), (33, .getfield 12, 3), (36, .iconst 0, 1), (37, .putfield 137, 3), (40, .aload_n 0, 1), (41, .getfield 38, 3), (44, .getfield 99, 3), (47, .iload_n 1, 1), (48, .invokevirtual 273, 3), (51, .ifCond .ne 6, 3), (54, .bipush (-3), 2), (56, .ireturn, 1), (57, .iconst 0, 1), (58, .istore 4, 2), (60, .iconst 0, 1)]
def ch_X7_shook_2 : List (Nat × Instr × Nat) := [(61, .istore 5, 2), (63, .aload_n 0, 1), (64, .getfield 45, 3), (67, .aload_n 0, 1), (68, .getfield 38, 3), (71, .invokevirtual 168, 3), (74, .aload_n 0, 1), (75, .getfield 45, 3), (78, .aload_n 0, 1), (79, .getfield 22, 3), (82, .getfield 231, 3), (85, .putfield 234, 3), (88, .iconst 0, 1), (89, .istore 6, 2), (91, .iload 6, 2), (93, .bipush 100, 2)]
def ch_X7_shook_3 : List (Nat × Instr × Nat) := [(95, .if_icmp .ge 45, 3), (98, .aload_n 0, 1), (99, .iload_n 1, 1), (100, .iload_n 2, 1), (101, .iload 6, 2), (103, .bipush 10, 2), (105, .idiv, 1), (106, .iload 6, 2), (108, .bipush 10, 2), (110, .irem, 1), (111, .invokevirtual 276, 3), (114, .ifCond .eq 20, 3), (117, .iload 4, 2), (119, .ifCond .ne 8, 3), (122, .iload 6, 2), (124, .goto 5, 3)]
def ch_X7_shook_4 : List (Nat × Instr × Nat) := [(127, .iload 5, 2), (129, .istore 5, 2), (131, .iinc 4 1, 3), (134, .iinc 6 1, 3), (137, .goto (-46), 3), (140, .iload_n 3, 1), (141, .iconst (-1), 1), (142, .if_icmp .ne 6, 3), (145, .iload 4, 2), (147, .ireturn, 1), (148, .iload 4, 2), (150, .ifCond .ne 6, 3), (153, .bipush (-2), 2), (155, .ireturn, 1), (156, .iload_n 3, 1), (157, .ifCond .ne 11, 3)]
def ch_X7_shook_5 : List (Nat × Instr × Nat) := [(160, .iload 5, 2), (162, .bipush 10, 2), (164, .idiv, 1), (165, .goto 8, 3), (168, .iload 5, 2), (170, .bipush 10, 2), (172, .irem, 1), (173, .ireturn, 1)]
set_option maxRecDepth 100000 in
theorem he_X7_shook : cd_X7_shook = ch_X7_shook_0 ++ (ch_X7_shook_1 ++ (ch_X7_shook_2 ++ (ch_X7_shook_3 ++ (ch_X7_shook_4 ++ (ch_X7_shook_5))))) := rfl
noncomputable def gc_X7_shook : Nat → Option (Nat × Instr × Nat) := rv_ap 16 (rv_at ch_X7_shook_0) (rv_ap 16 (rv_at ch_X7_shook_1) (rv_ap 16 (rv_at ch_X7_shook_2) (rv_ap 16 (rv_at ch_X7_shook_3) (rv_ap 16 (rv_at ch_X7_shook_4) (rv_at ch_X7_shook_5)))))
theorem hc_X7_shook : ∀ i : Nat, cd_X7_shook[i]? = gc_X7_shook i := by
  rw [he_X7_shook]
  exact rv_ap_eq (l := ch_X7_shook_0) (c := 16) (rv_ap_eq (l := ch_X7_shook_1) (c := 16) (rv_ap_eq (l := ch_X7_shook_2) (c := 16) (rv_ap_eq (l := ch_X7_shook_3) (c := 16) (rv_ap_eq (l := ch_X7_shook_4) (c := 16) (rv_at_eq ch_X7_shook_5) rfl) rfl) rfl) rfl) rfl
def K_X7_shook_0 : rv_K := ([rv_r 0, rv_full, rv_full, rv_full], [], [(3, 1), (14, 0), (14, 1), (14, 2), (14, 3), (14, 4), (14, 5), (14, 6), (14, 7), (14, 8), (14, 9), (14, 10), (14, 11), (14, 12), (14, 9999), (15, 9999), (56, 9), (56, 10), (56, 11), (56, 12), (56, 13), (56, 14), (56, 15), (56, 16), (57, 9999), (58, 9999), (59, 9999), (60, 9999), (61, 9999), (62, 9999), (63, 9999), (64, 9999), (65, 9999), (66, 0), (67, 9999), (68, 9999), (69, 9999), (70, 9999)], [(0, (-2147483648), 2147483647)], [], [])
def ct_X7_shook_0 : List (Nat × rv_K) := [(3, K_X7_isWithin_17), (8, K_X7_isWithin_18), (25, K_X2_climbs_0), (37, K_X0_takeAll_0), (58, K_X7_wouldShake_0)]
def n_X7_shook_0_0 : List rv_N := [
  (0, ([rv_r 0, rv_full, rv_full, rv_full, rv_u, rv_u, rv_u], [], []), [1], 1009456, [], []),
  (1, ([rv_r 0, rv_full, rv_full, rv_full, rv_u, rv_u, rv_u], [(1, 0, (-2147483648), 2147483647, [(.inl 2, 0)], [])], []), [2], 1009455, [], []),
  (2, ([rv_r 0, rv_full, rv_full, rv_full, rv_u, rv_u, rv_u], [rv_i 1 1, (1, 0, (-2147483648), 2147483647, [(.inl 2, 0)], [])], []), [3], 1009454, [], []),
  (3, ([rv_r 0, rv_full, rv_full, rv_full, rv_u, rv_u, rv_u], [rv_i 8 8, rv_i 1 1, (1, 0, (-2147483648), 2147483647, [(.inl 2, 0)], [])], []), [4], 1009453, [], [0]),
  (4, ([rv_r 0, rv_full, rv_full, rv_full, rv_u, rv_u, rv_u], [(1, 0, 0, 1, [], [(.inl 2, 1, 8)])], []), [5, 15], 1009452, [], []),
  (5, ([rv_r 0, rv_full, rv_i 1 8, rv_full, rv_u, rv_u, rv_u], [], []), [6], 1009451, [], []),
  (6, ([rv_r 0, rv_full, rv_i 1 8, rv_full, rv_u, rv_u, rv_u], [(1, 0, (-2147483648), 2147483647, [(.inl 3, 0)], [])], []), [7], 1009450, [], []),
  (7, ([rv_r 0, rv_full, rv_i 1 8, rv_full, rv_u, rv_u, rv_u], [rv_i (-1) (-1), (1, 0, (-2147483648), 2147483647, [(.inl 3, 0)], [])], []), [8], 1009449, [], []),
  (8, ([rv_r 0, rv_full, rv_i 1 8, rv_full, rv_u, rv_u, rv_u], [rv_i 1 1, rv_i (-1) (-1), (1, 0, (-2147483648), 2147483647, [(.inl 3, 0)], [])], []), [9], 1009448, [], [1]),
  (9, ([rv_r 0, rv_full, rv_i 1 8, rv_full, rv_u, rv_u, rv_u], [(1, 0, 0, 1, [], [(.inl 3, (-1), 1)])], []), [10, 15], 1009447, [], []),
  (10, ([rv_r 0, rv_full, rv_i 1 8, rv_i (-1) 1, rv_u, rv_u, rv_u], [], []), [11], 1009446, [], []),
  (11, ([rv_r 0, rv_full, rv_i 1 8, rv_i (-1) 1, rv_u, rv_u, rv_u], [rv_r 0], []), [12], 1009445, [], []),
  (12, ([rv_r 0, rv_full, rv_i 1 8, rv_i (-1) 1, rv_u, rv_u, rv_u], [rv_r 3], []), [13], 1009444, [], []),
  (13, ([rv_r 0, rv_full, rv_i 1 8, rv_i (-1) 1, rv_u, rv_u, rv_u], [(1, 0, (-2147483648), 2147483647, [(.inr (3, 1), 0)], [])], []), [14], 1009443, [], []),
  (14, ([rv_r 0, rv_full, rv_i 1 8, rv_i (-1) 1, rv_u, rv_u, rv_u], [(1, 0, 1, 8, [(.inl 2, 0)], []), (1, 0, (-2147483648), 2147483647, [(.inr (3, 1), 0)], [])], []), [15, 17], 1009442, [], []),
  (15, ([rv_r 0, rv_full, rv_full, rv_full, rv_u, rv_u, rv_u], [], []), [16], 1, [], [])]
def n_X7_shook_0_1 : List rv_N := [
  (16, ([rv_r 0, rv_full, rv_full, rv_full, rv_u, rv_u, rv_u], [rv_i (-1) (-1)], []), [], 0, [], []),
  (17, ([rv_r 0, rv_full, rv_i 1 8, rv_i (-1) 1, rv_u, rv_u, rv_u], [], [((3, 1), 1, 2147483647, [])]), [18], 1009441, [], []),
  (18, ([rv_r 0, rv_full, rv_i 1 8, rv_i (-1) 1, rv_u, rv_u, rv_u], [rv_r 0], [((3, 1), 1, 2147483647, [])]), [19], 1009440, [], []),
  (19, ([rv_r 0, rv_full, rv_i 1 8, rv_i (-1) 1, rv_u, rv_u, rv_u], [rv_r 3], [((3, 1), 1, 2147483647, [])]), [20], 1009439, [], []),
  (20, ([rv_r 0, rv_full, rv_i 1 8, rv_i (-1) 1, rv_u, rv_u, rv_u], [rv_i 0 0, rv_r 3], [((3, 1), 1, 2147483647, [])]), [21], 1009438, [], []),
  (21, ([rv_r 0, rv_full, rv_i 1 8, rv_i (-1) 1, rv_u, rv_u, rv_u], [], [((3, 1), 0, 0, [])]), [22], 1009437, [], []),
  (22, ([rv_r 0, rv_full, rv_i 1 8, rv_i (-1) 1, rv_u, rv_u, rv_u], [rv_r 0], [((3, 1), 0, 0, [])]), [23], 1009436, [], []),
  (23, ([rv_r 0, rv_full, rv_i 1 8, rv_i (-1) 1, rv_u, rv_u, rv_u], [rv_r 26], [((3, 1), 0, 0, [])]), [24], 1009435, [], []),
  (24, ([rv_r 0, rv_full, rv_i 1 8, rv_i (-1) 1, rv_u, rv_u, rv_u], [rv_r 36], [((3, 1), 0, 0, [])]), [25], 1009434, [], []),
  (25, ([rv_r 0, rv_full, rv_i 1 8, rv_i (-1) 1, rv_u, rv_u, rv_u], [(1, 0, (-2147483648), 2147483647, [(.inl 1, 0)], []), rv_r 36], [((3, 1), 0, 0, [])]), [26], 1009433, [], [2]),
  (26, ([rv_r 0, rv_full, rv_i 1 8, rv_i (-1) 1, rv_u, rv_u, rv_u], [(1, 0, 0, 1, [], [(.inl 1, 0, 8), (.inr (37, 5001), (-2147483648), 19)])], [((3, 1), 0, 0, [])]), [27, 29], 1009432, [], []),
  (27, ([rv_r 0, rv_full, rv_i 1 8, rv_i (-1) 1, rv_u, rv_u, rv_u], [], [((3, 1), 0, 0, [])]), [28], 1, [], []),
  (28, ([rv_r 0, rv_full, rv_i 1 8, rv_i (-1) 1, rv_u, rv_u, rv_u], [rv_i (-3) (-3)], [((3, 1), 0, 0, [])]), [], 0, [], []),
  (29, ([rv_r 0, rv_i 0 8, rv_i 1 8, rv_i (-1) 1, rv_u, rv_u, rv_u], [], [((3, 1), 0, 0, []), ((37, 5001), (-2147483648), 19, [])]), [30], 1009431, [], []),
  (30, ([rv_r 0, rv_i 0 8, rv_i 1 8, rv_i (-1) 1, rv_u, rv_u, rv_u], [rv_i 0 0], [((3, 1), 0, 0, []), ((37, 5001), (-2147483648), 19, [])]), [31], 1009430, [], []),
  (31, ([rv_r 0, rv_i 0 8, rv_i 1 8, rv_i (-1) 1, rv_i 0 0, rv_u, rv_u], [], [((3, 1), 0, 0, []), ((37, 5001), (-2147483648), 19, [])]), [32], 1009429, [], [])]
def n_X7_shook_0_2 : List rv_N := [
  (32, ([rv_r 0, rv_i 0 8, rv_i 1 8, rv_i (-1) 1, rv_i 0 0, rv_u, rv_u], [rv_i 0 0], [((3, 1), 0, 0, []), ((37, 5001), (-2147483648), 19, [])]), [33], 1009428, [], []),
  (33, ([rv_r 0, rv_i 0 8, rv_i 1 8, rv_i (-1) 1, rv_i 0 0, rv_i 0 0, rv_u], [], [((3, 1), 0, 0, []), ((37, 5001), (-2147483648), 19, [])]), [34], 1009427, [], []),
  (34, ([rv_r 0, rv_i 0 8, rv_i 1 8, rv_i (-1) 1, rv_i 0 0, rv_i 0 0, rv_u], [rv_r 0], [((3, 1), 0, 0, []), ((37, 5001), (-2147483648), 19, [])]), [35], 1009426, [], []),
  (35, ([rv_r 0, rv_i 0 8, rv_i 1 8, rv_i (-1) 1, rv_i 0 0, rv_i 0 0, rv_u], [rv_r 56], [((3, 1), 0, 0, []), ((37, 5001), (-2147483648), 19, [])]), [36], 1009425, [], []),
  (36, ([rv_r 0, rv_i 0 8, rv_i 1 8, rv_i (-1) 1, rv_i 0 0, rv_i 0 0, rv_u], [rv_r 0, rv_r 56], [((3, 1), 0, 0, []), ((37, 5001), (-2147483648), 19, [])]), [37], 1009424, [], []),
  (37, ([rv_r 0, rv_i 0 8, rv_i 1 8, rv_i (-1) 1, rv_i 0 0, rv_i 0 0, rv_u], [rv_r 26, rv_r 56], [((3, 1), 0, 0, []), ((37, 5001), (-2147483648), 19, [])]), [38], 1009423, [], [3]),
  (38, ([rv_r 0, rv_i 0 8, rv_i 1 8, rv_i (-1) 1, rv_i 0 0, rv_i 0 0, rv_u], [], [((3, 1), 0, 0, []), ((37, 5001), (-2147483648), 19, [])]), [39], 1009422, [], []),
  (39, ([rv_r 0, rv_i 0 8, rv_i 1 8, rv_i (-1) 1, rv_i 0 0, rv_i 0 0, rv_u], [rv_r 0], [((3, 1), 0, 0, []), ((37, 5001), (-2147483648), 19, [])]), [40], 1009421, [], []),
  (40, ([rv_r 0, rv_i 0 8, rv_i 1 8, rv_i (-1) 1, rv_i 0 0, rv_i 0 0, rv_u], [rv_r 56], [((3, 1), 0, 0, []), ((37, 5001), (-2147483648), 19, [])]), [41], 1009420, [], []),
  (41, ([rv_r 0, rv_i 0 8, rv_i 1 8, rv_i (-1) 1, rv_i 0 0, rv_i 0 0, rv_u], [rv_r 0, rv_r 56], [((3, 1), 0, 0, []), ((37, 5001), (-2147483648), 19, [])]), [42], 1009419, [], []),
  (42, ([rv_r 0, rv_i 0 8, rv_i 1 8, rv_i (-1) 1, rv_i 0 0, rv_i 0 0, rv_u], [rv_r 7, rv_r 56], [((3, 1), 0, 0, []), ((37, 5001), (-2147483648), 19, [])]), [43], 1009418, [], []),
  (43, ([rv_r 0, rv_i 0 8, rv_i 1 8, rv_i (-1) 1, rv_i 0 0, rv_i 0 0, rv_u], [(1, 0, 0, 1, [(.inr (7, 8), 0)], []), rv_r 56], [((3, 1), 0, 0, []), ((37, 5001), (-2147483648), 19, [])]), [44], 1009417, [], []),
  (44, ([rv_r 0, rv_i 0 8, rv_i 1 8, rv_i (-1) 1, rv_i 0 0, rv_i 0 0, rv_u], [], [((3, 1), 0, 0, []), ((37, 5001), (-2147483648), 19, [])]), [45], 1009416, [], []),
  (45, ([rv_r 0, rv_i 0 8, rv_i 1 8, rv_i (-1) 1, rv_i 0 0, rv_i 0 0, rv_u], [rv_i 0 0], [((3, 1), 0, 0, []), ((37, 5001), (-2147483648), 19, [])]), [46], 1009415, [], []),
  (46, ([rv_r 0, rv_i 0 8, rv_i 1 8, rv_i (-1) 1, rv_full, rv_i 0 99, rv_i 0 100], [], [((3, 1), 0, 0, []), ((37, 5001), (-2147483648), 19, [])]), [47], 1009414, [(6, (-10094))], []),
  (47, ([rv_r 0, rv_i 0 8, rv_i 1 8, rv_i (-1) 1, rv_full, rv_i 0 99, rv_i 0 100], [(1, 0, 0, 100, [(.inl 6, 0)], [])], [((3, 1), 0, 0, []), ((37, 5001), (-2147483648), 19, [])]), [48], 1009413, [(6, (-10094))], [])]
def n_X7_shook_0_3 : List rv_N := [
  (48, ([rv_r 0, rv_i 0 8, rv_i 1 8, rv_i (-1) 1, rv_full, rv_i 0 99, rv_i 0 100], [rv_i 100 100, (1, 0, 0, 100, [(.inl 6, 0)], [])], [((3, 1), 0, 0, []), ((37, 5001), (-2147483648), 19, [])]), [49, 69], 1009412, [(6, (-10094))], []),
  (49, ([rv_r 0, rv_i 0 8, rv_i 1 8, rv_i (-1) 1, rv_full, rv_i 0 99, rv_i 0 99], [], [((3, 1), 0, 0, []), ((37, 5001), (-2147483648), 19, [])]), [50], 999339, [(6, (-10094))], []),
  (50, ([rv_r 0, rv_i 0 8, rv_i 1 8, rv_i (-1) 1, rv_full, rv_i 0 99, rv_i 0 99], [rv_r 0], [((3, 1), 0, 0, []), ((37, 5001), (-2147483648), 19, [])]), [51], 999338, [(6, (-10094))], []),
  (51, ([rv_r 0, rv_i 0 8, rv_i 1 8, rv_i (-1) 1, rv_full, rv_i 0 99, rv_i 0 99], [(1, 0, 0, 8, [(.inl 1, 0)], []), rv_r 0], [((3, 1), 0, 0, []), ((37, 5001), (-2147483648), 19, [])]), [52], 999337, [(6, (-10094))], []),
  (52, ([rv_r 0, rv_i 0 8, rv_i 1 8, rv_i (-1) 1, rv_full, rv_i 0 99, rv_i 0 99], [(1, 0, 1, 8, [(.inl 2, 0)], []), (1, 0, 0, 8, [(.inl 1, 0)], []), rv_r 0], [((3, 1), 0, 0, []), ((37, 5001), (-2147483648), 19, [])]), [53], 999336, [(6, (-10094))], []),
  (53, ([rv_r 0, rv_i 0 8, rv_i 1 8, rv_i (-1) 1, rv_full, rv_i 0 99, rv_i 0 99], [(1, 0, 0, 99, [(.inl 6, 0)], []), (1, 0, 1, 8, [(.inl 2, 0)], []), (1, 0, 0, 8, [(.inl 1, 0)], []), rv_r 0], [((3, 1), 0, 0, []), ((37, 5001), (-2147483648), 19, [])]), [54], 999335, [(6, (-10094))], []),
  (54, ([rv_r 0, rv_i 0 8, rv_i 1 8, rv_i (-1) 1, rv_full, rv_i 0 99, rv_i 0 99], [rv_i 10 10, (1, 0, 0, 99, [(.inl 6, 0)], []), (1, 0, 1, 8, [(.inl 2, 0)], []), (1, 0, 0, 8, [(.inl 1, 0)], []), rv_r 0], [((3, 1), 0, 0, []), ((37, 5001), (-2147483648), 19, [])]), [55], 999334, [(6, (-10094))], []),
  (55, ([rv_r 0, rv_i 0 8, rv_i 1 8, rv_i (-1) 1, rv_full, rv_i 0 99, rv_i 0 99], [rv_full, (1, 0, 1, 8, [(.inl 2, 0)], []), (1, 0, 0, 8, [(.inl 1, 0)], []), rv_r 0], [((3, 1), 0, 0, []), ((37, 5001), (-2147483648), 19, [])]), [56], 999333, [(6, (-10094))], []),
  (56, ([rv_r 0, rv_i 0 8, rv_i 1 8, rv_i (-1) 1, rv_full, rv_i 0 99, rv_i 0 99], [(1, 0, 0, 99, [(.inl 6, 0)], []), rv_full, (1, 0, 1, 8, [(.inl 2, 0)], []), (1, 0, 0, 8, [(.inl 1, 0)], []), rv_r 0], [((3, 1), 0, 0, []), ((37, 5001), (-2147483648), 19, [])]), [57], 999332, [(6, (-10094))], []),
  (57, ([rv_r 0, rv_i 0 8, rv_i 1 8, rv_i (-1) 1, rv_full, rv_i 0 99, rv_i 0 99], [rv_i 10 10, (1, 0, 0, 99, [(.inl 6, 0)], []), rv_full, (1, 0, 1, 8, [(.inl 2, 0)], []), (1, 0, 0, 8, [(.inl 1, 0)], []), rv_r 0], [((3, 1), 0, 0, []), ((37, 5001), (-2147483648), 19, [])]), [58], 999331, [(6, (-10094))], []),
  (58, ([rv_r 0, rv_i 0 8, rv_i 1 8, rv_i (-1) 1, rv_full, rv_i 0 99, rv_i 0 99], [rv_full, rv_full, (1, 0, 1, 8, [(.inl 2, 0)], []), (1, 0, 0, 8, [(.inl 1, 0)], []), rv_r 0], [((3, 1), 0, 0, []), ((37, 5001), (-2147483648), 19, [])]), [59], 999330, [(6, (-10094))], [4]),
  (59, ([rv_r 0, rv_i 0 8, rv_i 1 8, rv_i (-1) 1, rv_full, rv_i 0 99, rv_i 0 99], [(1, 0, 0, 1, [], [(.inl 1, 0, 8)])], [((3, 1), 0, 0, []), ((37, 5001), (-2147483648), 19, [])]), [60, 67], 999329, [(6, (-10094))], []),
  (60, ([rv_r 0, rv_i 0 8, rv_i 1 8, rv_i (-1) 1, rv_full, rv_i 0 99, rv_i 0 99], [], [((3, 1), 0, 0, []), ((37, 5001), (-2147483648), 19, [])]), [61], 999328, [(6, (-10094))], []),
  (61, ([rv_r 0, rv_i 0 8, rv_i 1 8, rv_i (-1) 1, rv_full, rv_i 0 99, rv_i 0 99], [(1, 0, (-2147483648), 2147483647, [(.inl 4, 0)], [])], [((3, 1), 0, 0, []), ((37, 5001), (-2147483648), 19, [])]), [62, 64], 999327, [(6, (-10094))], []),
  (62, ([rv_r 0, rv_i 0 8, rv_i 1 8, rv_i (-1) 1, rv_i 0 0, rv_i 0 99, rv_i 0 99], [], [((3, 1), 0, 0, []), ((37, 5001), (-2147483648), 19, [])]), [63], 999326, [(6, (-10094))], []),
  (63, ([rv_r 0, rv_i 0 8, rv_i 1 8, rv_i (-1) 1, rv_i 0 0, rv_i 0 99, rv_i 0 99], [(1, 0, 0, 99, [(.inl 6, 0)], [])], [((3, 1), 0, 0, []), ((37, 5001), (-2147483648), 19, [])]), [65], 999325, [(6, (-10094))], [])]
def n_X7_shook_0_4 : List rv_N := [
  (64, ([rv_r 0, rv_i 0 8, rv_i 1 8, rv_i (-1) 1, (1, 1, (-2147483648), 2147483647, [], []), rv_i 0 99, rv_i 0 99], [], [((3, 1), 0, 0, []), ((37, 5001), (-2147483648), 19, [])]), [65], 999325, [(6, (-10094))], []),
  (65, ([rv_r 0, rv_i 0 8, rv_i 1 8, rv_i (-1) 1, rv_full, rv_i 0 99, rv_i 0 99], [rv_i 0 99], [((3, 1), 0, 0, []), ((37, 5001), (-2147483648), 19, [])]), [66], 999324, [(6, (-10094))], []),
  (66, ([rv_r 0, rv_i 0 8, rv_i 1 8, rv_i (-1) 1, rv_full, rv_i 0 99, rv_i 0 99], [], [((3, 1), 0, 0, []), ((37, 5001), (-2147483648), 19, [])]), [67], 999323, [(6, (-10094))], []),
  (67, ([rv_r 0, rv_i 0 8, rv_i 1 8, rv_i (-1) 1, rv_full, rv_i 0 99, rv_i 0 99], [], [((3, 1), 0, 0, []), ((37, 5001), (-2147483648), 19, [])]), [68], 999322, [(6, (-10094))], []),
  (68, ([rv_r 0, rv_i 0 8, rv_i 1 8, rv_i (-1) 1, rv_full, rv_i 0 99, rv_i 1 100], [], [((3, 1), 0, 0, []), ((37, 5001), (-2147483648), 19, [])]), [46], 1009415, [(6, (-10094))], []),
  (69, ([rv_r 0, rv_i 0 8, rv_i 1 8, rv_i (-1) 1, rv_full, rv_i 0 99, rv_i 100 100], [], [((3, 1), 0, 0, []), ((37, 5001), (-2147483648), 19, [])]), [70], 11, [], []),
  (70, ([rv_r 0, rv_i 0 8, rv_i 1 8, rv_i (-1) 1, rv_full, rv_i 0 99, rv_i 100 100], [(1, 0, (-1), 1, [(.inl 3, 0)], [])], [((3, 1), 0, 0, []), ((37, 5001), (-2147483648), 19, [])]), [71], 10, [], []),
  (71, ([rv_r 0, rv_i 0 8, rv_i 1 8, rv_i (-1) 1, rv_full, rv_i 0 99, rv_i 100 100], [rv_i (-1) (-1), (1, 0, (-1), 1, [(.inl 3, 0)], [])], [((3, 1), 0, 0, []), ((37, 5001), (-2147483648), 19, [])]), [72, 74], 9, [], []),
  (72, ([rv_r 0, rv_i 0 8, rv_i 1 8, rv_i (-1) (-1), rv_full, rv_i 0 99, rv_i 100 100], [], [((3, 1), 0, 0, []), ((37, 5001), (-2147483648), 19, [])]), [73], 1, [], []),
  (73, ([rv_r 0, rv_i 0 8, rv_i 1 8, rv_i (-1) (-1), rv_full, rv_i 0 99, rv_i 100 100], [(1, 0, (-2147483648), 2147483647, [(.inl 4, 0)], [])], [((3, 1), 0, 0, []), ((37, 5001), (-2147483648), 19, [])]), [], 0, [], []),
  (74, ([rv_r 0, rv_i 0 8, rv_i 1 8, rv_i 0 1, rv_full, rv_i 0 99, rv_i 100 100], [], [((3, 1), 0, 0, []), ((37, 5001), (-2147483648), 19, [])]), [75], 8, [], []),
  (75, ([rv_r 0, rv_i 0 8, rv_i 1 8, rv_i 0 1, rv_full, rv_i 0 99, rv_i 100 100], [(1, 0, (-2147483648), 2147483647, [(.inl 4, 0)], [])], [((3, 1), 0, 0, []), ((37, 5001), (-2147483648), 19, [])]), [76, 78], 7, [], []),
  (76, ([rv_r 0, rv_i 0 8, rv_i 1 8, rv_i 0 1, rv_i 0 0, rv_i 0 99, rv_i 100 100], [], [((3, 1), 0, 0, []), ((37, 5001), (-2147483648), 19, [])]), [77], 1, [], []),
  (77, ([rv_r 0, rv_i 0 8, rv_i 1 8, rv_i 0 1, rv_i 0 0, rv_i 0 99, rv_i 100 100], [rv_i (-2) (-2)], [((3, 1), 0, 0, []), ((37, 5001), (-2147483648), 19, [])]), [], 0, [], []),
  (78, ([rv_r 0, rv_i 0 8, rv_i 1 8, rv_i 0 1, (1, 1, (-2147483648), 2147483647, [], []), rv_i 0 99, rv_i 100 100], [], [((3, 1), 0, 0, []), ((37, 5001), (-2147483648), 19, [])]), [79], 6, [], []),
  (79, ([rv_r 0, rv_i 0 8, rv_i 1 8, rv_i 0 1, (1, 1, (-2147483648), 2147483647, [], []), rv_i 0 99, rv_i 100 100], [(1, 0, 0, 1, [(.inl 3, 0)], [])], [((3, 1), 0, 0, []), ((37, 5001), (-2147483648), 19, [])]), [80, 84], 5, [], [])]
def n_X7_shook_0_5 : List rv_N := [
  (80, ([rv_r 0, rv_i 0 8, rv_i 1 8, rv_i 0 0, (1, 1, (-2147483648), 2147483647, [], []), rv_i 0 99, rv_i 100 100], [], [((3, 1), 0, 0, []), ((37, 5001), (-2147483648), 19, [])]), [81], 4, [], []),
  (81, ([rv_r 0, rv_i 0 8, rv_i 1 8, rv_i 0 0, (1, 1, (-2147483648), 2147483647, [], []), rv_i 0 99, rv_i 100 100], [(1, 0, 0, 99, [(.inl 5, 0)], [])], [((3, 1), 0, 0, []), ((37, 5001), (-2147483648), 19, [])]), [82], 3, [], []),
  (82, ([rv_r 0, rv_i 0 8, rv_i 1 8, rv_i 0 0, (1, 1, (-2147483648), 2147483647, [], []), rv_i 0 99, rv_i 100 100], [rv_i 10 10, (1, 0, 0, 99, [(.inl 5, 0)], [])], [((3, 1), 0, 0, []), ((37, 5001), (-2147483648), 19, [])]), [83], 2, [], []),
  (83, ([rv_r 0, rv_i 0 8, rv_i 1 8, rv_i 0 0, (1, 1, (-2147483648), 2147483647, [], []), rv_i 0 99, rv_i 100 100], [rv_full], [((3, 1), 0, 0, []), ((37, 5001), (-2147483648), 19, [])]), [87], 1, [], []),
  (84, ([rv_r 0, rv_i 0 8, rv_i 1 8, (1, 1, 1, 1, [], []), (1, 1, (-2147483648), 2147483647, [], []), rv_i 0 99, rv_i 100 100], [], [((3, 1), 0, 0, []), ((37, 5001), (-2147483648), 19, [])]), [85], 3, [], []),
  (85, ([rv_r 0, rv_i 0 8, rv_i 1 8, (1, 1, 1, 1, [], []), (1, 1, (-2147483648), 2147483647, [], []), rv_i 0 99, rv_i 100 100], [(1, 0, 0, 99, [(.inl 5, 0)], [])], [((3, 1), 0, 0, []), ((37, 5001), (-2147483648), 19, [])]), [86], 2, [], []),
  (86, ([rv_r 0, rv_i 0 8, rv_i 1 8, (1, 1, 1, 1, [], []), (1, 1, (-2147483648), 2147483647, [], []), rv_i 0 99, rv_i 100 100], [rv_i 10 10, (1, 0, 0, 99, [(.inl 5, 0)], [])], [((3, 1), 0, 0, []), ((37, 5001), (-2147483648), 19, [])]), [87], 1, [], []),
  (87, ([rv_r 0, rv_i 0 8, rv_i 1 8, rv_i 0 1, (1, 1, (-2147483648), 2147483647, [], []), rv_i 0 99, rv_i 100 100], [rv_full], [((3, 1), 0, 0, []), ((37, 5001), (-2147483648), 19, [])]), [], 0, [], [])]
def n_X7_shook_0 : List rv_N := n_X7_shook_0_0 ++ (n_X7_shook_0_1 ++ (n_X7_shook_0_2 ++ (n_X7_shook_0_3 ++ (n_X7_shook_0_4 ++ (n_X7_shook_0_5)))))
noncomputable def gn_X7_shook_0 : Nat → Option rv_N := rv_ap 16 (rv_at n_X7_shook_0_0) (rv_ap 16 (rv_at n_X7_shook_0_1) (rv_ap 16 (rv_at n_X7_shook_0_2) (rv_ap 16 (rv_at n_X7_shook_0_3) (rv_ap 16 (rv_at n_X7_shook_0_4) (rv_at n_X7_shook_0_5)))))
theorem hn_X7_shook_0 : ∀ i : Nat, n_X7_shook_0[i]? = gn_X7_shook_0 i := rv_ap_eq (l := n_X7_shook_0_0) (c := 16) (rv_ap_eq (l := n_X7_shook_0_1) (c := 16) (rv_ap_eq (l := n_X7_shook_0_2) (c := 16) (rv_ap_eq (l := n_X7_shook_0_3) (c := 16) (rv_ap_eq (l := n_X7_shook_0_4) (c := 16) (rv_at_eq n_X7_shook_0_5) rfl) rfl) rfl) rfl) rfl
set_option maxRecDepth 100000 in
theorem a_X7_shook_0 : rv_all (fm_tm, flX7, fm_wr, kcX7, klX7, K_X7_shook_0.2.2.1, [], 7) ct_X7_shook_0 cd_X7_shook n_X7_shook_0 K_X7_shook_0 [] 0 n_X7_shook_0 = true := rv_fast hn_X7_shook_0 hc_X7_shook (by decide +kernel)
theorem m_X7_shook_0 {l : Launch} {D : va_G} {ad : Nat → Nat} {cy : Nat → ClassId} {Z : State → Heap → Prop} {Gp : fm_V → Prop} (hAd : fm_Ad fm_tm ad) (hZ : fm_Zk (fm_A fm_tm ad) Z) (hGd : fm_Gd Gp) : rv_Met l D fm_cl fm_tm ad cy fm_nt Z Gp yX7_shook (.code yX7_shook prog_1_method_24_code 7 (some .int) :: fm_Ts) { frames := 7, cells := 0, slots := 0, locals := 700 } K_X7_shook_0 := rv_met hAd hZ (Or.inl (by decide +kernel)) evX7 dc_X7_shook a_X7_shook_0 ⟨rfl, rfl, rfl⟩ (by decide +kernel) (by decide +kernel) (by decide) (fm_gm hGd (by decide +kernel)) (Or.inl rfl) (fun p e s m args below meth c Q X Y => List.forall_mem_cons.mpr ⟨rv_ctS X Y fm_Ts_good dc_X7_shook (pc := 4) (i := 3) (idx := 80) rfl (m_X7_isWithin_17 hAd hZ hGd) wl_X7_80 wm_X7_isWithin wy_X7_isWithin (by decide) rfl, List.forall_mem_cons.mpr ⟨rv_ctS X Y fm_Ts_good dc_X7_shook (pc := 13) (i := 8) (idx := 80) rfl (m_X7_isWithin_18 hAd hZ hGd) wl_X7_80 wm_X7_isWithin wy_X7_isWithin (by decide) rfl, List.forall_mem_cons.mpr ⟨rv_ctV X Y fm_Ts_good dc_X7_shook (pc := 48) (i := 25) (idx := 273) rfl (m_X2_climbs_0 hAd hZ hGd) wl_X7_273 wm_X2_climbs wy_X2_climbs (by decide) ⟨rfl, rfl, rfl⟩ ⟨rfl, rfl⟩, List.forall_mem_cons.mpr ⟨rv_ctV X Y fm_Ts_good dc_X7_shook (pc := 71) (i := 37) (idx := 168) rfl (m_X0_takeAll_0 hAd hZ hGd) wl_X7_168 wm_X0_takeAll wy_X0_takeAll (by decide) ⟨rfl, rfl, rfl⟩ ⟨rfl, rfl⟩, List.forall_mem_cons.mpr ⟨rv_ctV X Y fm_Ts_good dc_X7_shook (pc := 111) (i := 58) (idx := 276) rfl (m_X7_wouldShake_0 hAd hZ hGd) wl_X7_276 wm_X7_wouldShake wy_X7_wouldShake (by decide) ⟨rfl, rfl, rfl⟩ ⟨rfl, rfl⟩, fun _ h => absurd h List.not_mem_nil⟩⟩⟩⟩⟩) (fun _ _ _ _ _ _ _ _ _ _ _ _ _ _ _ _ h => absurd h List.not_mem_nil)
def K_X0_sumLed_1 : rv_K := ([rv_r 26, rv_full, rv_full], [], [], [(0, (-2147483648), 2147483647)], [], [])
def ct_X0_sumLed_1 : List (Nat × rv_K) := []
def n_X0_sumLed_1_0 : List rv_N := [
  (0, ([rv_r 26, rv_full, rv_full, rv_u, rv_u, rv_u], [], []), [1], 355655221774954913898065324653033, [], []),
  (1, ([rv_r 26, rv_full, rv_full, rv_u, rv_u, rv_u], [rv_i 0 0], []), [2], 355655221774954913898065324653032, [], []),
  (2, ([rv_r 26, rv_full, rv_full, rv_i 0 0, rv_u, rv_u], [], []), [3], 355655221774954913898065324653031, [], []),
  (3, ([rv_r 26, rv_full, rv_full, rv_i 0 0, rv_u, rv_u], [(1, 0, (-2147483648), 2147483647, [(.inl 1, 0)], [])], []), [4], 355655221774954913898065324653030, [], []),
  (4, ([rv_r 26, rv_full, rv_full, rv_i 0 0, rv_u, rv_u], [rv_i (-1) (-1), (1, 0, (-2147483648), 2147483647, [(.inl 1, 0)], [])], []), [5, 7], 355655221774954913898065324653029, [], []),
  (5, ([rv_r 26, rv_i (-1) (-1), rv_full, rv_i 0 0, rv_u, rv_u], [], []), [6], 177827610846073739837031357331941, [], []),
  (6, ([rv_r 26, rv_i (-1) (-1), rv_full, rv_i 0 0, rv_u, rv_u], [rv_i 0 0], []), [8], 177827610846073739837031357331940, [], []),
  (7, ([rv_r 26, rv_full, rv_full, rv_i 0 0, rv_u, rv_u], [], []), [9], 355655221774954913898065324653028, [], []),
  (8, ([rv_r 26, rv_i (-1) (-1), rv_full, rv_i 0 0, rv_u, rv_u], [rv_i 0 0], []), [10], 177827610846073739837031357331939, [], []),
  (8, ([rv_r 26, rv_full, rv_full, rv_i 0 0, rv_u, rv_u], [(1, 0, (-2147483648), 2147483647, [(.inl 1, 0)], [])], []), [10], 355655221774954913898065324653027, [], []),
  (9, ([rv_r 26, rv_full, rv_full, rv_full, rv_full, rv_u], [], []), [11], 177827610846073739837031357331938, [(4, (-82807434224002609989156))], []),
  (10, ([rv_r 26, rv_full, rv_full, rv_full, rv_full, rv_u], [(1, 0, (-2147483648), 2147483647, [(.inl 4, 0)], [])], []), [12, 55], 177827610846073739837031357331937, [(4, (-82807434224002609989156))], []),
  (11, ([rv_r 26, rv_full, rv_full, rv_full, rv_i 0 2147483647, rv_u], [], []), [13], 177827610846073739837031357331936, [(4, (-82807434224002609989156))], []),
  (12, ([rv_r 26, rv_full, rv_full, rv_full, rv_i 0 2147483647, rv_u], [(1, 0, 0, 2147483647, [(.inl 4, 0)], [])], []), [14], 177827610846073739837031357331935, [(4, (-82807434224002609989156))], []),
  (13, ([rv_r 26, rv_full, rv_full, rv_full, rv_i 0 2147483647, rv_u], [rv_i 9 9, (1, 0, 0, 2147483647, [(.inl 4, 0)], [])], []), [15, 55], 177827610846073739837031357331934, [(4, (-82807434224002609989156))], []),
  (14, ([rv_r 26, rv_full, rv_full, rv_full, rv_i 0 8, rv_u], [], []), [16], 177827610764502237466255050109770, [(4, (-82807434224002609989156))], [])]
def n_X0_sumLed_1_1 : List rv_N := [
  (15, ([rv_r 26, rv_full, rv_full, rv_full, rv_i 0 8, rv_u], [(1, 0, (-2147483648), 2147483647, [(.inl 1, 0)], [])], []), [17], 177827610764502237466255050109769, [(4, (-82807434224002609989156))], []),
  (16, ([rv_r 26, rv_full, rv_full, rv_full, rv_i 0 8, rv_u], [rv_i (-1) (-1), (1, 0, (-2147483648), 2147483647, [(.inl 1, 0)], [])], []), [18, 21], 177827610764502237466255050109768, [(4, (-82807434224002609989156))], []),
  (17, ([rv_r 26, rv_full, rv_full, rv_full, rv_i 0 8, rv_u], [], []), [19], 177827610764502237466255050109767, [(4, (-82807434224002609989156))], []),
  (18, ([rv_r 26, rv_full, rv_full, rv_full, rv_i 0 8, rv_u], [(1, 0, 0, 8, [(.inl 4, 0)], [])], []), [20], 177827610764502237466255050109766, [(4, (-82807434224002609989156))], []),
  (19, ([rv_r 26, rv_full, rv_full, rv_full, rv_i 0 8, rv_u], [(1, 0, (-2147483648), 2147483647, [(.inl 1, 0)], []), (1, 0, 0, 8, [(.inl 4, 0)], [])], []), [21, 55], 177827610764502237466255050109765, [(4, (-82807434224002609989156))], []),
  (20, ([rv_r 26, rv_i (-1) 8, rv_full, rv_full, rv_i 0 8, rv_u], [], []), [22], 177827610764502237466255050109764, [(4, (-82807434224002609989156))], []),
  (21, ([rv_r 26, rv_i (-1) 8, rv_full, rv_full, rv_i 0 8, rv_u], [(1, 0, (-2147483648), 2147483647, [(.inl 2, 0)], [])], []), [23], 177827610764502237466255050109763, [(4, (-82807434224002609989156))], []),
  (22, ([rv_r 26, rv_i (-1) 8, rv_full, rv_full, rv_i 0 8, rv_u], [rv_i (-1) (-1), (1, 0, (-2147483648), 2147483647, [(.inl 2, 0)], [])], []), [24, 26], 177827610764502237466255050109762, [(4, (-82807434224002609989156))], []),
  (23, ([rv_r 26, rv_i (-1) 8, rv_i (-1) (-1), rv_full, rv_i 0 8, rv_u], [], []), [25], 177827610763884271539498017321794, [(4, (-82807434224002609989156))], []),
  (24, ([rv_r 26, rv_i (-1) 8, rv_i (-1) (-1), rv_full, rv_i 0 8, rv_u], [rv_i 0 0], []), [27], 177827610763884271539498017321793, [(4, (-82807434224002609989156))], []),
  (25, ([rv_r 26, rv_i (-1) 8, rv_full, rv_full, rv_i 0 8, rv_u], [], []), [28], 177827610764502237466255050109761, [(4, (-82807434224002609989156))], []),
  (26, ([rv_r 26, rv_i (-1) 8, rv_i (-1) (-1), rv_full, rv_i 0 8, rv_u], [rv_i 0 0], []), [29], 177827610763884271539498017321792, [(4, (-82807434224002609989156))], []),
  (26, ([rv_r 26, rv_i (-1) 8, rv_full, rv_full, rv_i 0 8, rv_u], [(1, 0, (-2147483648), 2147483647, [(.inl 2, 0)], [])], []), [29], 177827610764502237466255050109760, [(4, (-82807434224002609989156))], []),
  (27, ([rv_r 26, rv_i (-1) 8, rv_full, rv_full, rv_i 0 8, rv_full], [], []), [30], 177827610763884271539498017321791, [(4, (-82807434224002609989156)), (5, (-287762808966))], []),
  (28, ([rv_r 26, rv_i (-1) 8, rv_full, rv_full, rv_i 0 8, rv_full], [(1, 0, (-2147483648), 2147483647, [(.inl 5, 0)], [])], []), [31, 53], 177827610763884271539498017321790, [(4, (-82807434224002609989156)), (5, (-287762808966))], []),
  (29, ([rv_r 26, rv_i (-1) 8, rv_full, rv_full, rv_i 0 8, rv_i 0 2147483647], [], []), [32], 177827610763884271539498017321789, [(4, (-82807434224002609989156)), (5, (-287762808966))], [])]
def n_X0_sumLed_1_2 : List rv_N := [
  (30, ([rv_r 26, rv_i (-1) 8, rv_full, rv_full, rv_i 0 8, rv_i 0 2147483647], [(1, 0, 0, 2147483647, [(.inl 5, 0)], [])], []), [33], 177827610763884271539498017321788, [(4, (-82807434224002609989156)), (5, (-287762808966))], []),
  (31, ([rv_r 26, rv_i (-1) 8, rv_full, rv_full, rv_i 0 8, rv_i 0 2147483647], [rv_i 20 20, (1, 0, 0, 2147483647, [(.inl 5, 0)], [])], []), [34, 53], 177827610763884271539498017321787, [(4, (-82807434224002609989156)), (5, (-287762808966))], []),
  (32, ([rv_r 26, rv_i (-1) 8, rv_full, rv_full, rv_i 0 8, rv_i 0 19], [], []), [35], 177827610763884271539210254512844, [(4, (-82807434224002609989156)), (5, (-287762808966))], []),
  (33, ([rv_r 26, rv_i (-1) 8, rv_full, rv_full, rv_i 0 8, rv_i 0 19], [(1, 0, (-2147483648), 2147483647, [(.inl 2, 0)], [])], []), [36], 177827610763884271539210254512843, [(4, (-82807434224002609989156)), (5, (-287762808966))], []),
  (34, ([rv_r 26, rv_i (-1) 8, rv_full, rv_full, rv_i 0 8, rv_i 0 19], [rv_i (-1) (-1), (1, 0, (-2147483648), 2147483647, [(.inl 2, 0)], [])], []), [37, 40], 177827610763884271539210254512842, [(4, (-82807434224002609989156)), (5, (-287762808966))], []),
  (35, ([rv_r 26, rv_i (-1) 8, rv_full, rv_full, rv_i 0 8, rv_i 0 19], [], []), [38], 177827610763884271539210254512841, [(4, (-82807434224002609989156)), (5, (-287762808966))], []),
  (36, ([rv_r 26, rv_i (-1) 8, rv_full, rv_full, rv_i 0 8, rv_i 0 19], [(1, 0, 0, 19, [(.inl 5, 0)], [])], []), [39], 177827610763884271539210254512840, [(4, (-82807434224002609989156)), (5, (-287762808966))], []),
  (37, ([rv_r 26, rv_i (-1) 8, rv_full, rv_full, rv_i 0 8, rv_i 0 19], [(1, 0, (-2147483648), 2147483647, [(.inl 2, 0)], []), (1, 0, 0, 19, [(.inl 5, 0)], [])], []), [40, 53], 177827610763884271539210254512839, [(4, (-82807434224002609989156)), (5, (-287762808966))], []),
  (38, ([rv_r 26, rv_i (-1) 8, rv_i (-1) 19, rv_full, rv_i 0 8, rv_i 0 19], [], []), [41], 177827610763884271539210254512838, [(4, (-82807434224002609989156)), (5, (-287762808966))], []),
  (39, ([rv_r 26, rv_i (-1) 8, rv_i (-1) 19, rv_full, rv_i 0 8, rv_i 0 19], [(1, 0, (-2147483648), 2147483647, [(.inl 3, 0)], [])], []), [42], 177827610763884271539210254512837, [(4, (-82807434224002609989156)), (5, (-287762808966))], []),
  (40, ([rv_r 26, rv_i (-1) 8, rv_i (-1) 19, rv_full, rv_i 0 8, rv_i 0 19], [rv_r 26, (1, 0, (-2147483648), 2147483647, [(.inl 3, 0)], [])], []), [43], 177827610763884271539210254512836, [(4, (-82807434224002609989156)), (5, (-287762808966))], []),
  (41, ([rv_r 26, rv_i (-1) 8, rv_i (-1) 19, rv_full, rv_i 0 8, rv_i 0 19], [rv_r 34, (1, 0, (-2147483648), 2147483647, [(.inl 3, 0)], [])], []), [44], 177827610763884271539210254512835, [(4, (-82807434224002609989156)), (5, (-287762808966))], []),
  (42, ([rv_r 26, rv_i (-1) 8, rv_i (-1) 19, rv_full, rv_i 0 8, rv_i 0 19], [(1, 0, 0, 8, [(.inl 4, 0)], []), rv_r 34, (1, 0, (-2147483648), 2147483647, [(.inl 3, 0)], [])], []), [45], 177827610763884271539210254512834, [(4, (-82807434224002609989156)), (5, (-287762808966))], []),
  (43, ([rv_r 26, rv_i (-1) 8, rv_i (-1) 19, rv_full, rv_i 0 8, rv_i 0 19], [rv_i 20 20, (1, 0, 0, 8, [(.inl 4, 0)], []), rv_r 34, (1, 0, (-2147483648), 2147483647, [(.inl 3, 0)], [])], []), [46], 177827610763884271539210254512833, [(4, (-82807434224002609989156)), (5, (-287762808966))], []),
  (44, ([rv_r 26, rv_i (-1) 8, rv_i (-1) 19, rv_full, rv_i 0 8, rv_i 0 19], [rv_i 0 160, rv_r 34, (1, 0, (-2147483648), 2147483647, [(.inl 3, 0)], [])], []), [47], 177827610763884271539210254512832, [(4, (-82807434224002609989156)), (5, (-287762808966))], []),
  (45, ([rv_r 26, rv_i (-1) 8, rv_i (-1) 19, rv_full, rv_i 0 8, rv_i 0 19], [(1, 0, 0, 19, [(.inl 5, 0)], []), rv_i 0 160, rv_r 34, (1, 0, (-2147483648), 2147483647, [(.inl 3, 0)], [])], []), [48], 177827610763884271539210254512831, [(4, (-82807434224002609989156)), (5, (-287762808966))], [])]
def n_X0_sumLed_1_3 : List rv_N := [
  (46, ([rv_r 26, rv_i (-1) 8, rv_i (-1) 19, rv_full, rv_i 0 8, rv_i 0 19], [rv_i 0 179, rv_r 34, (1, 0, (-2147483648), 2147483647, [(.inl 3, 0)], [])], []), [49], 177827610763884271539210254512830, [(4, (-82807434224002609989156)), (5, (-287762808966))], []),
  (47, ([rv_r 26, rv_i (-1) 8, rv_i (-1) 19, rv_full, rv_i 0 8, rv_i 0 19], [rv_full, (1, 0, (-2147483648), 2147483647, [(.inl 3, 0)], [])], []), [50], 177827610763884271539210254512829, [(4, (-82807434224002609989156)), (5, (-287762808966))], []),
  (48, ([rv_r 26, rv_i (-1) 8, rv_i (-1) 19, rv_full, rv_i 0 8, rv_i 0 19], [rv_full], []), [51], 177827610763884271539210254512828, [(4, (-82807434224002609989156)), (5, (-287762808966))], []),
  (49, ([rv_r 26, rv_i (-1) 8, rv_i (-1) 19, rv_full, rv_i 0 8, rv_i 0 19], [], []), [52], 177827610763884271539210254512827, [(4, (-82807434224002609989156)), (5, (-287762808966))], []),
  (50, ([rv_r 26, rv_i (-1) 8, rv_i (-1) 19, rv_full, rv_i 0 8, rv_i 1 20], [], []), [29], 177827610763884271539498017321792, [(4, (-82807434224002609989156)), (5, (-287762808966))], []),
  (51, ([rv_r 26, rv_i (-1) 8, rv_full, rv_full, rv_i 0 8, rv_full], [], []), [54], 177827610763266305613028747342784, [(4, (-82807434224002609989156))], []),
  (52, ([rv_r 26, rv_i (-1) 8, rv_full, rv_full, rv_i 1 9, rv_full], [], []), [10], 177827610846073739837031357331939, [(4, (-82807434224002609989156))], []),
  (53, ([rv_r 26, rv_full, rv_full, rv_full, rv_full, rv_u], [], []), [56], 1, [], []),
  (54, ([rv_r 26, rv_full, rv_full, rv_full, rv_full, rv_u], [(1, 0, (-2147483648), 2147483647, [(.inl 3, 0)], [])], []), [], 0, [], [])]
def n_X0_sumLed_1 : List rv_N := n_X0_sumLed_1_0 ++ (n_X0_sumLed_1_1 ++ (n_X0_sumLed_1_2 ++ (n_X0_sumLed_1_3)))
noncomputable def gn_X0_sumLed_1 : Nat → Option rv_N := rv_ap 16 (rv_at n_X0_sumLed_1_0) (rv_ap 16 (rv_at n_X0_sumLed_1_1) (rv_ap 16 (rv_at n_X0_sumLed_1_2) (rv_at n_X0_sumLed_1_3)))
theorem hn_X0_sumLed_1 : ∀ i : Nat, n_X0_sumLed_1[i]? = gn_X0_sumLed_1 i := rv_ap_eq (l := n_X0_sumLed_1_0) (c := 16) (rv_ap_eq (l := n_X0_sumLed_1_1) (c := 16) (rv_ap_eq (l := n_X0_sumLed_1_2) (c := 16) (rv_at_eq n_X0_sumLed_1_3) rfl) rfl) rfl
set_option maxRecDepth 100000 in
theorem a_X0_sumLed_1 : rv_all (fm_tm, flX0, fm_wr, kcX0, klX0, K_X0_sumLed_1.2.2.1, [], 6) ct_X0_sumLed_1 cd_X0_sumLed n_X0_sumLed_1 K_X0_sumLed_1 [] 0 n_X0_sumLed_1 = true := rv_fast hn_X0_sumLed_1 hc_X0_sumLed (by decide +kernel)
theorem m_X0_sumLed_1 {l : Launch} {D : va_G} {ad : Nat → Nat} {cy : Nat → ClassId} {Z : State → Heap → Prop} {Gp : fm_V → Prop} (hAd : fm_Ad fm_tm ad) (hZ : fm_Zk (fm_A fm_tm ad) Z) (hGd : fm_Gd Gp) : rv_Met l D fm_cl fm_tm ad cy fm_nt Z Gp yX0_sumLed (.code yX0_sumLed prog_2_method_5_code 6 (some .int) :: fm_Ts) { frames := 0, cells := 0, slots := 0, locals := 0 } K_X0_sumLed_1 := rv_met hAd hZ (Or.inl (by decide +kernel)) evX0 dc_X0_sumLed a_X0_sumLed_1 ⟨rfl, rfl, rfl⟩ (by decide +kernel) (by decide +kernel) (by decide) (fm_gm hGd (by decide +kernel)) (Or.inl rfl) (fun p e s m args below meth c Q X Y => fun _ h => absurd h List.not_mem_nil) (fun _ _ _ _ _ _ _ _ _ _ _ _ _ _ _ _ h => absurd h List.not_mem_nil)
def cd_X7_led : List (Nat × Instr × Nat) := [(0, .iload_n 1, 1), (1, .iconst (-1), 1), (2, .if_icmp .eq 10, 3), (5, .iload_n 1, 1), (6, .invokestatic 96, 3), (9, .ifCond .eq 15, 3), (12, .iload_n 2, 1), (13, .iconst (-1), 1), (14, .if_icmp .eq 13, 3), (17, .iload_n 2, 1), (18, .invokestatic 75, 3), (21, .ifCond .ne 6, 3), (24, .bipush (-2), 2), (26, .ireturn, 1), (27, .aload_n 0, 1), (28, .getfield 38, 3), (31, .iload_n 1, 1), (32, .iload_n 2, 1), (33, .invokevirtual 280, 3), (36, .ireturn, 1)]
theorem dc_X7_led : ∀ q ∈ cd_X7_led, decode prog_1_method_26_code q.1 = .ok (q.2.1, q.2.2) := by decide +kernel
def K_X7_led_0 : rv_K := ([rv_r 0, rv_full, rv_full], [], [], [(0, (-2147483648), 2147483647)], [], [])
def ct_X7_led_0 : List (Nat × rv_K) := [(4, K_X7_isPorter_0), (10, K_X7_isYard_0), (18, K_X0_sumLed_1)]
def n_X7_led_0_0 : List rv_N := [
  (0, ([rv_r 0, rv_full, rv_full], [], []), [1], 17, [], []),
  (1, ([rv_r 0, rv_full, rv_full], [(1, 0, (-2147483648), 2147483647, [(.inl 1, 0)], [])], []), [2], 16, [], []),
  (2, ([rv_r 0, rv_full, rv_full], [rv_i (-1) (-1), (1, 0, (-2147483648), 2147483647, [(.inl 1, 0)], [])], []), [3, 6], 15, [], []),
  (3, ([rv_r 0, rv_full, rv_full], [], []), [4], 14, [], []),
  (4, ([rv_r 0, rv_full, rv_full], [(1, 0, (-2147483648), 2147483647, [(.inl 1, 0)], [])], []), [5], 13, [], [0]),
  (5, ([rv_r 0, rv_full, rv_full], [(1, 0, 0, 1, [], [(.inl 1, 0, 8)])], []), [6, 12], 12, [], []),
  (6, ([rv_r 0, rv_i (-1) 8, rv_full], [], []), [7], 11, [], []),
  (7, ([rv_r 0, rv_i (-1) 8, rv_full], [(1, 0, (-2147483648), 2147483647, [(.inl 2, 0)], [])], []), [8], 10, [], []),
  (8, ([rv_r 0, rv_i (-1) 8, rv_full], [rv_i (-1) (-1), (1, 0, (-2147483648), 2147483647, [(.inl 2, 0)], [])], []), [9, 14], 9, [], []),
  (9, ([rv_r 0, rv_i (-1) 8, rv_full], [], []), [10], 8, [], []),
  (10, ([rv_r 0, rv_i (-1) 8, rv_full], [(1, 0, (-2147483648), 2147483647, [(.inl 2, 0)], [])], []), [11], 7, [], [1]),
  (11, ([rv_r 0, rv_i (-1) 8, rv_full], [(1, 0, 0, 1, [], [(.inl 2, 0, 19)])], []), [12, 14], 6, [], []),
  (12, ([rv_r 0, rv_full, rv_full], [], []), [13], 1, [], []),
  (13, ([rv_r 0, rv_full, rv_full], [rv_i (-2) (-2)], []), [], 0, [], []),
  (14, ([rv_r 0, rv_i (-1) 8, rv_i (-1) 19], [], []), [15], 5, [], []),
  (15, ([rv_r 0, rv_i (-1) 8, rv_i (-1) 19], [rv_r 0], []), [16], 4, [], [])]
def n_X7_led_0_1 : List rv_N := [
  (16, ([rv_r 0, rv_i (-1) 8, rv_i (-1) 19], [rv_r 26], []), [17], 3, [], []),
  (17, ([rv_r 0, rv_i (-1) 8, rv_i (-1) 19], [(1, 0, (-1), 8, [(.inl 1, 0)], []), rv_r 26], []), [18], 2, [], []),
  (18, ([rv_r 0, rv_i (-1) 8, rv_i (-1) 19], [(1, 0, (-1), 19, [(.inl 2, 0)], []), (1, 0, (-1), 8, [(.inl 1, 0)], []), rv_r 26], []), [19], 1, [], [2]),
  (19, ([rv_r 0, rv_i (-1) 8, rv_i (-1) 19], [rv_full], []), [], 0, [], [])]
def n_X7_led_0 : List rv_N := n_X7_led_0_0 ++ (n_X7_led_0_1)
noncomputable def gn_X7_led_0 : Nat → Option rv_N := rv_ap 16 (rv_at n_X7_led_0_0) (rv_at n_X7_led_0_1)
theorem hn_X7_led_0 : ∀ i : Nat, n_X7_led_0[i]? = gn_X7_led_0 i := rv_ap_eq (l := n_X7_led_0_0) (c := 16) (rv_at_eq n_X7_led_0_1) rfl
set_option maxRecDepth 100000 in
theorem a_X7_led_0 : rv_all (fm_tm, flX7, fm_wr, kcX7, klX7, K_X7_led_0.2.2.1, [], 3) ct_X7_led_0 cd_X7_led n_X7_led_0 K_X7_led_0 [] 0 n_X7_led_0 = true := rv_fast hn_X7_led_0 (rv_at_eq cd_X7_led) (by decide +kernel)
theorem m_X7_led_0 {l : Launch} {D : va_G} {ad : Nat → Nat} {cy : Nat → ClassId} {Z : State → Heap → Prop} {Gp : fm_V → Prop} (hAd : fm_Ad fm_tm ad) (hZ : fm_Zk (fm_A fm_tm ad) Z) (hGd : fm_Gd Gp) : rv_Met l D fm_cl fm_tm ad cy fm_nt Z Gp yX7_led (.code yX7_led prog_1_method_26_code 3 (some .int) :: fm_Ts) { frames := 1, cells := 0, slots := 0, locals := 100 } K_X7_led_0 := rv_met hAd hZ (Or.inl (by decide +kernel)) evX7 dc_X7_led a_X7_led_0 ⟨rfl, rfl, rfl⟩ (by decide +kernel) (by decide +kernel) (by decide) (fm_gm hGd (by decide +kernel)) (Or.inl rfl) (fun p e s m args below meth c Q X Y => List.forall_mem_cons.mpr ⟨rv_ctS X Y fm_Ts_good dc_X7_led (pc := 6) (i := 4) (idx := 96) rfl (m_X7_isPorter_0 hAd hZ hGd) wl_X7_96 wm_X7_isPorter wy_X7_isPorter (by decide) rfl, List.forall_mem_cons.mpr ⟨rv_ctS X Y fm_Ts_good dc_X7_led (pc := 18) (i := 10) (idx := 75) rfl (m_X7_isYard_0 hAd hZ hGd) wl_X7_75 wm_X7_isYard wy_X7_isYard (by decide) rfl, List.forall_mem_cons.mpr ⟨rv_ctV X Y fm_Ts_good dc_X7_led (pc := 33) (i := 18) (idx := 280) rfl (m_X0_sumLed_1 hAd hZ hGd) wl_X7_280 wm_X0_sumLed wy_X0_sumLed (by decide) ⟨rfl, rfl, rfl⟩ ⟨rfl, rfl⟩, fun _ h => absurd h List.not_mem_nil⟩⟩⟩) (fun _ _ _ _ _ _ _ _ _ _ _ _ _ _ _ _ h => absurd h List.not_mem_nil)
def cd_X7_reduced : List (Nat × Instr × Nat) := [(0, .iload_n 1, 1), (1, .istore_n 3, 1), (2, .iload_n 0, 1), (3, .istore 4, 2), (5, .iconst 0, 1), (6, .istore 5, 2), (8, .iload 5, 2), (10, .bipush 100, 2), (12, .if_icmp .ge 27, 3), (15, .iload 4, 2), (17, .ifCond .eq 22, 3), (20, .iload_n 3, 1), (21, .iload 4, 2), (23, .irem, 1), (24, .istore 6, 2), (26, .iload 4, 2), (28, .istore_n 3, 1), (29, .iload 6, 2), (31, .istore 4, 2), (33, .iinc 5 1, 3), (36, .goto (-28), 3), (39, .iload_n 3, 1), (40, .ifCond .ne 5, 3), (43, .iconst 0, 1), (44, .ireturn, 1), (45, .iload_n 2, 1), (46, .ifCond .ne 9, 3), (49, .iload_n 0, 1), (50, .iload_n 3, 1), (51, .idiv, 1), (52, .goto 6, 3), (55, .iload_n 1, 1), (56, .iload_n 3, 1), (57, .idiv, 1), (58, .ireturn, 1)]
theorem dc_X7_reduced : ∀ q ∈ cd_X7_reduced, decode prog_1_method_38_code q.1 = .ok (q.2.1, q.2.2) := by decide +kernel
def ch_X7_reduced_0 : List (Nat × Instr × Nat) := [(0, .iload_n 1, 1), (1, .istore_n 3, 1), (2, .iload_n 0, 1), (3, .istore 4, 2), (5, .iconst 0, 1), (6, .istore 5, 2), (8, .iload 5, 2), (10, .bipush 100, 2), (12, .if_icmp .ge 27, 3), (15, .iload 4, 2), (17, .ifCond .eq 22, 3), (20, .iload_n 3, 1), (21, .iload 4, 2), (23, .irem, 1), (24, .istore 6, 2), (26, .iload 4, 2)]
def ch_X7_reduced_1 : List (Nat × Instr × Nat) := [(28, .istore_n 3, 1), (29, .iload 6, 2), (31, .istore 4, 2), (33, .iinc 5 1, 3), (36, .goto (-28), 3), (39, .iload_n 3, 1), (40, .ifCond .ne 5, 3), (43, .iconst 0, 1), (44, .ireturn, 1), (45, .iload_n 2, 1), (46, .ifCond .ne 9, 3), (49, .iload_n 0, 1), (50, .iload_n 3, 1), (51, .idiv, 1), (52, .goto 6, 3), (55, .iload_n 1, 1)]
def ch_X7_reduced_2 : List (Nat × Instr × Nat) := [(56, .iload_n 3, 1), (57, .idiv, 1), (58, .ireturn, 1)]
set_option maxRecDepth 100000 in
theorem he_X7_reduced : cd_X7_reduced = ch_X7_reduced_0 ++ (ch_X7_reduced_1 ++ (ch_X7_reduced_2)) := rfl
noncomputable def gc_X7_reduced : Nat → Option (Nat × Instr × Nat) := rv_ap 16 (rv_at ch_X7_reduced_0) (rv_ap 16 (rv_at ch_X7_reduced_1) (rv_at ch_X7_reduced_2))
theorem hc_X7_reduced : ∀ i : Nat, cd_X7_reduced[i]? = gc_X7_reduced i := by
  rw [he_X7_reduced]
  exact rv_ap_eq (l := ch_X7_reduced_0) (c := 16) (rv_ap_eq (l := ch_X7_reduced_1) (c := 16) (rv_at_eq ch_X7_reduced_2) rfl) rfl
def K_X7_reduced_0 : rv_K := ([rv_full, rv_full, rv_full], [], [], [(0, (-2147483648), 2147483647)], [], [])
def ct_X7_reduced_0 : List (Nat × rv_K) := []
def n_X7_reduced_0_0 : List rv_N := [
  (0, ([rv_full, rv_full, rv_full, rv_u, rv_u, rv_u, rv_u], [], []), [1], 463517, [], []),
  (1, ([rv_full, rv_full, rv_full, rv_u, rv_u, rv_u, rv_u], [(1, 0, (-2147483648), 2147483647, [(.inl 1, 0)], [])], []), [2], 463516, [], []),
  (2, ([rv_full, rv_full, rv_full, rv_full, rv_u, rv_u, rv_u], [], []), [3], 463515, [], []),
  (3, ([rv_full, rv_full, rv_full, rv_full, rv_u, rv_u, rv_u], [(1, 0, (-2147483648), 2147483647, [(.inl 0, 0)], [])], []), [4], 463514, [], []),
  (4, ([rv_full, rv_full, rv_full, rv_full, rv_full, rv_u, rv_u], [], []), [5], 463513, [], []),
  (5, ([rv_full, rv_full, rv_full, rv_full, rv_full, rv_u, rv_u], [rv_i 0 0], []), [6], 463512, [], []),
  (6, ([rv_full, rv_full, rv_full, rv_full, rv_full, rv_i 0 100, rv_u], [], []), [7], 463511, [(5, (-4635))], []),
  (7, ([rv_full, rv_full, rv_full, rv_full, rv_full, rv_i 0 100, rv_u], [(1, 0, 0, 100, [(.inl 5, 0)], [])], []), [8], 463510, [(5, (-4635))], []),
  (8, ([rv_full, rv_full, rv_full, rv_full, rv_full, rv_i 0 100, rv_u], [rv_i 100 100, (1, 0, 0, 100, [(.inl 5, 0)], [])], []), [9, 21], 463509, [(5, (-4635))], []),
  (9, ([rv_full, rv_full, rv_full, rv_full, rv_full, rv_i 0 99, rv_u], [], []), [10], 458888, [(5, (-4635))], []),
  (10, ([rv_full, rv_full, rv_full, rv_full, rv_full, rv_i 0 99, rv_u], [(1, 0, (-2147483648), 2147483647, [(.inl 4, 0)], [])], []), [11, 21], 458887, [(5, (-4635))], []),
  (11, ([rv_full, rv_full, rv_full, rv_full, (1, 1, (-2147483648), 2147483647, [], []), rv_i 0 99, rv_u], [], []), [12], 458886, [(5, (-4635))], []),
  (12, ([rv_full, rv_full, rv_full, rv_full, (1, 1, (-2147483648), 2147483647, [], []), rv_i 0 99, rv_u], [(1, 0, (-2147483648), 2147483647, [(.inl 3, 0)], [])], []), [13], 458885, [(5, (-4635))], []),
  (13, ([rv_full, rv_full, rv_full, rv_full, (1, 1, (-2147483648), 2147483647, [], []), rv_i 0 99, rv_u], [(1, 1, (-2147483648), 2147483647, [(.inl 4, 0)], []), (1, 0, (-2147483648), 2147483647, [(.inl 3, 0)], [])], []), [14], 458884, [(5, (-4635))], []),
  (14, ([rv_full, rv_full, rv_full, rv_full, (1, 1, (-2147483648), 2147483647, [], []), rv_i 0 99, rv_u], [rv_full], []), [15], 458883, [(5, (-4635))], []),
  (15, ([rv_full, rv_full, rv_full, rv_full, (1, 1, (-2147483648), 2147483647, [], []), rv_i 0 99, rv_full], [], []), [16], 458882, [(5, (-4635))], [])]
def n_X7_reduced_0_1 : List rv_N := [
  (16, ([rv_full, rv_full, rv_full, rv_full, (1, 1, (-2147483648), 2147483647, [], []), rv_i 0 99, rv_full], [(1, 1, (-2147483648), 2147483647, [(.inl 4, 0)], [])], []), [17], 458881, [(5, (-4635))], []),
  (17, ([rv_full, rv_full, rv_full, (1, 1, (-2147483648), 2147483647, [], []), (1, 1, (-2147483648), 2147483647, [], []), rv_i 0 99, rv_full], [], []), [18], 458880, [(5, (-4635))], []),
  (18, ([rv_full, rv_full, rv_full, (1, 1, (-2147483648), 2147483647, [], []), (1, 1, (-2147483648), 2147483647, [], []), rv_i 0 99, rv_full], [(1, 0, (-2147483648), 2147483647, [(.inl 6, 0)], [])], []), [19], 458879, [(5, (-4635))], []),
  (19, ([rv_full, rv_full, rv_full, (1, 1, (-2147483648), 2147483647, [], []), rv_full, rv_i 0 99, rv_full], [], []), [20], 458878, [(5, (-4635))], []),
  (20, ([rv_full, rv_full, rv_full, (1, 1, (-2147483648), 2147483647, [], []), rv_full, rv_i 1 100, rv_full], [], []), [6], 463512, [(5, (-4635))], []),
  (21, ([rv_full, rv_full, rv_full, rv_full, rv_full, rv_i 0 100, rv_u], [], []), [22], 8, [], []),
  (22, ([rv_full, rv_full, rv_full, rv_full, rv_full, rv_i 0 100, rv_u], [(1, 0, (-2147483648), 2147483647, [(.inl 3, 0)], [])], []), [23, 25], 7, [], []),
  (23, ([rv_full, rv_full, rv_full, rv_i 0 0, rv_full, rv_i 0 100, rv_u], [], []), [24], 1, [], []),
  (24, ([rv_full, rv_full, rv_full, rv_i 0 0, rv_full, rv_i 0 100, rv_u], [rv_i 0 0], []), [], 0, [], []),
  (25, ([rv_full, rv_full, rv_full, (1, 1, (-2147483648), 2147483647, [], []), rv_full, rv_i 0 100, rv_u], [], []), [26], 6, [], []),
  (26, ([rv_full, rv_full, rv_full, (1, 1, (-2147483648), 2147483647, [], []), rv_full, rv_i 0 100, rv_u], [(1, 0, (-2147483648), 2147483647, [(.inl 2, 0)], [])], []), [27, 31], 5, [], []),
  (27, ([rv_full, rv_full, rv_i 0 0, (1, 1, (-2147483648), 2147483647, [], []), rv_full, rv_i 0 100, rv_u], [], []), [28], 4, [], []),
  (28, ([rv_full, rv_full, rv_i 0 0, (1, 1, (-2147483648), 2147483647, [], []), rv_full, rv_i 0 100, rv_u], [(1, 0, (-2147483648), 2147483647, [(.inl 0, 0)], [])], []), [29], 3, [], []),
  (29, ([rv_full, rv_full, rv_i 0 0, (1, 1, (-2147483648), 2147483647, [], []), rv_full, rv_i 0 100, rv_u], [(1, 1, (-2147483648), 2147483647, [(.inl 3, 0)], []), (1, 0, (-2147483648), 2147483647, [(.inl 0, 0)], [])], []), [30], 2, [], []),
  (30, ([rv_full, rv_full, rv_i 0 0, (1, 1, (-2147483648), 2147483647, [], []), rv_full, rv_i 0 100, rv_u], [rv_full], []), [34], 1, [], []),
  (31, ([rv_full, rv_full, (1, 1, (-2147483648), 2147483647, [], []), (1, 1, (-2147483648), 2147483647, [], []), rv_full, rv_i 0 100, rv_u], [], []), [32], 3, [], [])]
def n_X7_reduced_0_2 : List rv_N := [
  (32, ([rv_full, rv_full, (1, 1, (-2147483648), 2147483647, [], []), (1, 1, (-2147483648), 2147483647, [], []), rv_full, rv_i 0 100, rv_u], [(1, 0, (-2147483648), 2147483647, [(.inl 1, 0)], [])], []), [33], 2, [], []),
  (33, ([rv_full, rv_full, (1, 1, (-2147483648), 2147483647, [], []), (1, 1, (-2147483648), 2147483647, [], []), rv_full, rv_i 0 100, rv_u], [(1, 1, (-2147483648), 2147483647, [(.inl 3, 0)], []), (1, 0, (-2147483648), 2147483647, [(.inl 1, 0)], [])], []), [34], 1, [], []),
  (34, ([rv_full, rv_full, rv_full, (1, 1, (-2147483648), 2147483647, [], []), rv_full, rv_i 0 100, rv_u], [rv_full], []), [], 0, [], [])]
def n_X7_reduced_0 : List rv_N := n_X7_reduced_0_0 ++ (n_X7_reduced_0_1 ++ (n_X7_reduced_0_2))
noncomputable def gn_X7_reduced_0 : Nat → Option rv_N := rv_ap 16 (rv_at n_X7_reduced_0_0) (rv_ap 16 (rv_at n_X7_reduced_0_1) (rv_at n_X7_reduced_0_2))
theorem hn_X7_reduced_0 : ∀ i : Nat, n_X7_reduced_0[i]? = gn_X7_reduced_0 i := rv_ap_eq (l := n_X7_reduced_0_0) (c := 16) (rv_ap_eq (l := n_X7_reduced_0_1) (c := 16) (rv_at_eq n_X7_reduced_0_2) rfl) rfl
set_option maxRecDepth 100000 in
theorem a_X7_reduced_0 : rv_all (fm_tm, flX7, fm_wr, kcX7, klX7, K_X7_reduced_0.2.2.1, [], 7) ct_X7_reduced_0 cd_X7_reduced n_X7_reduced_0 K_X7_reduced_0 [] 0 n_X7_reduced_0 = true := rv_fast hn_X7_reduced_0 hc_X7_reduced (by decide +kernel)
theorem m_X7_reduced_0 {l : Launch} {D : va_G} {ad : Nat → Nat} {cy : Nat → ClassId} {Z : State → Heap → Prop} {Gp : fm_V → Prop} (hAd : fm_Ad fm_tm ad) (hZ : fm_Zk (fm_A fm_tm ad) Z) (hGd : fm_Gd Gp) : rv_Met l D fm_cl fm_tm ad cy fm_nt Z Gp yX7_reduced (.code yX7_reduced prog_1_method_38_code 7 (some .int) :: fm_Ts) { frames := 0, cells := 0, slots := 0, locals := 0 } K_X7_reduced_0 := rv_met hAd hZ (Or.inl (by decide +kernel)) evX7 dc_X7_reduced a_X7_reduced_0 ⟨rfl, rfl, rfl⟩ (by decide +kernel) (by decide +kernel) (by decide) (fm_gm hGd (by decide +kernel)) (Or.inl rfl) (fun p e s m args below meth c Q X Y => fun _ h => absurd h List.not_mem_nil) (fun _ _ _ _ _ _ _ _ _ _ _ _ _ _ _ _ h => absurd h List.not_mem_nil)
def cd_X7_share : List (Nat × Instr × Nat) := [(0, .iload_n 1, 1), (1, .invokestatic 96, 3), (4, .ifCond .eq 19, 3), (7, .iload_n 2, 1), (8, .invokestatic 75, 3), (11, .ifCond .eq 12, 3), (14, .iload_n 3, 1), (15, .iconst 0, 1), (16, .iconst 1, 1), (17, .invokestatic 80, 3), (20, .ifCond .ne 5, 3), (23, .iconst (-1), 1), (24, .ireturn, 1), (25, .aload_n 0, 1), (26, .getfield 38, 3), (29, .iconst (-1), 1), (30, .iload_n 2, 1), (31, .invokevirtual 280, 3), (34, .istore 4, 2), (36, .iload 4, 2), (38, .ifCond .ne 8, 3), (41, .bipush (-2), 2), (43, .goto 18, 3), (46, .aload_n 0, 1), (47, .getfield 38, 3), (50, .iload_n 1, 1), (51, .iload_n 2, 1), (52, .invokevirtual 280, 3), (55, .iload 4, 2), (57, .iload_n 3, 1), (58, .invokestatic 286, 3), (61, .ireturn, 1)]
theorem dc_X7_share : ∀ q ∈ cd_X7_share, decode prog_1_method_27_code q.1 = .ok (q.2.1, q.2.2) := by decide +kernel
def K_X7_share_0 : rv_K := ([rv_r 0, rv_full, rv_full, rv_full], [], [], [(0, (-2147483648), 2147483647)], [], [])
def ct_X7_share_0 : List (Nat × rv_K) := [(1, K_X7_isPorter_0), (4, K_X7_isYard_0), (9, K_X7_isWithin_15), (17, K_X0_sumLed_1), (27, K_X0_sumLed_1), (30, K_X7_reduced_0)]
def n_X7_share_0_0 : List rv_N := [
  (0, ([rv_r 0, rv_full, rv_full, rv_full, rv_u], [], []), [1], 27, [], []),
  (1, ([rv_r 0, rv_full, rv_full, rv_full, rv_u], [(1, 0, (-2147483648), 2147483647, [(.inl 1, 0)], [])], []), [2], 26, [], [0]),
  (2, ([rv_r 0, rv_full, rv_full, rv_full, rv_u], [(1, 0, 0, 1, [], [(.inl 1, 0, 8)])], []), [3, 11], 25, [], []),
  (3, ([rv_r 0, rv_i 0 8, rv_full, rv_full, rv_u], [], []), [4], 24, [], []),
  (4, ([rv_r 0, rv_i 0 8, rv_full, rv_full, rv_u], [(1, 0, (-2147483648), 2147483647, [(.inl 2, 0)], [])], []), [5], 23, [], [1]),
  (5, ([rv_r 0, rv_i 0 8, rv_full, rv_full, rv_u], [(1, 0, 0, 1, [], [(.inl 2, 0, 19)])], []), [6, 11], 22, [], []),
  (6, ([rv_r 0, rv_i 0 8, rv_i 0 19, rv_full, rv_u], [], []), [7], 21, [], []),
  (7, ([rv_r 0, rv_i 0 8, rv_i 0 19, rv_full, rv_u], [(1, 0, (-2147483648), 2147483647, [(.inl 3, 0)], [])], []), [8], 20, [], []),
  (8, ([rv_r 0, rv_i 0 8, rv_i 0 19, rv_full, rv_u], [rv_i 0 0, (1, 0, (-2147483648), 2147483647, [(.inl 3, 0)], [])], []), [9], 19, [], []),
  (9, ([rv_r 0, rv_i 0 8, rv_i 0 19, rv_full, rv_u], [rv_i 1 1, rv_i 0 0, (1, 0, (-2147483648), 2147483647, [(.inl 3, 0)], [])], []), [10], 18, [], [2]),
  (10, ([rv_r 0, rv_i 0 8, rv_i 0 19, rv_full, rv_u], [(1, 0, 0, 1, [], [(.inl 3, 0, 1)])], []), [11, 13], 17, [], []),
  (11, ([rv_r 0, rv_full, rv_full, rv_full, rv_u], [], []), [12], 1, [], []),
  (12, ([rv_r 0, rv_full, rv_full, rv_full, rv_u], [rv_i (-1) (-1)], []), [], 0, [], []),
  (13, ([rv_r 0, rv_i 0 8, rv_i 0 19, rv_i 0 1, rv_u], [], []), [14], 16, [], []),
  (14, ([rv_r 0, rv_i 0 8, rv_i 0 19, rv_i 0 1, rv_u], [rv_r 0], []), [15], 15, [], []),
  (15, ([rv_r 0, rv_i 0 8, rv_i 0 19, rv_i 0 1, rv_u], [rv_r 26], []), [16], 14, [], [])]
def n_X7_share_0_1 : List rv_N := [
  (16, ([rv_r 0, rv_i 0 8, rv_i 0 19, rv_i 0 1, rv_u], [rv_i (-1) (-1), rv_r 26], []), [17], 13, [], []),
  (17, ([rv_r 0, rv_i 0 8, rv_i 0 19, rv_i 0 1, rv_u], [(1, 0, 0, 19, [(.inl 2, 0)], []), rv_i (-1) (-1), rv_r 26], []), [18], 12, [], [3]),
  (18, ([rv_r 0, rv_i 0 8, rv_i 0 19, rv_i 0 1, rv_u], [rv_full], []), [19], 11, [], []),
  (19, ([rv_r 0, rv_i 0 8, rv_i 0 19, rv_i 0 1, rv_full], [], []), [20], 10, [], []),
  (20, ([rv_r 0, rv_i 0 8, rv_i 0 19, rv_i 0 1, rv_full], [(1, 0, (-2147483648), 2147483647, [(.inl 4, 0)], [])], []), [21, 23], 9, [], []),
  (21, ([rv_r 0, rv_i 0 8, rv_i 0 19, rv_i 0 1, rv_i 0 0], [], []), [22], 2, [], []),
  (22, ([rv_r 0, rv_i 0 8, rv_i 0 19, rv_i 0 1, rv_i 0 0], [rv_i (-2) (-2)], []), [31], 1, [], []),
  (23, ([rv_r 0, rv_i 0 8, rv_i 0 19, rv_i 0 1, (1, 1, (-2147483648), 2147483647, [], [])], [], []), [24], 8, [], []),
  (24, ([rv_r 0, rv_i 0 8, rv_i 0 19, rv_i 0 1, (1, 1, (-2147483648), 2147483647, [], [])], [rv_r 0], []), [25], 7, [], []),
  (25, ([rv_r 0, rv_i 0 8, rv_i 0 19, rv_i 0 1, (1, 1, (-2147483648), 2147483647, [], [])], [rv_r 26], []), [26], 6, [], []),
  (26, ([rv_r 0, rv_i 0 8, rv_i 0 19, rv_i 0 1, (1, 1, (-2147483648), 2147483647, [], [])], [(1, 0, 0, 8, [(.inl 1, 0)], []), rv_r 26], []), [27], 5, [], []),
  (27, ([rv_r 0, rv_i 0 8, rv_i 0 19, rv_i 0 1, (1, 1, (-2147483648), 2147483647, [], [])], [(1, 0, 0, 19, [(.inl 2, 0)], []), (1, 0, 0, 8, [(.inl 1, 0)], []), rv_r 26], []), [28], 4, [], [4]),
  (28, ([rv_r 0, rv_i 0 8, rv_i 0 19, rv_i 0 1, (1, 1, (-2147483648), 2147483647, [], [])], [rv_full], []), [29], 3, [], []),
  (29, ([rv_r 0, rv_i 0 8, rv_i 0 19, rv_i 0 1, (1, 1, (-2147483648), 2147483647, [], [])], [(1, 1, (-2147483648), 2147483647, [(.inl 4, 0)], []), rv_full], []), [30], 2, [], []),
  (30, ([rv_r 0, rv_i 0 8, rv_i 0 19, rv_i 0 1, (1, 1, (-2147483648), 2147483647, [], [])], [(1, 0, 0, 1, [(.inl 3, 0)], []), (1, 1, (-2147483648), 2147483647, [(.inl 4, 0)], []), rv_full], []), [32], 1, [], [5]),
  (31, ([rv_r 0, rv_i 0 8, rv_i 0 19, rv_i 0 1, rv_i 0 0], [rv_i (-2) (-2)], []), [], 0, [], [])]
def n_X7_share_0_2 : List rv_N := [
  (31, ([rv_r 0, rv_i 0 8, rv_i 0 19, rv_i 0 1, (1, 1, (-2147483648), 2147483647, [], [])], [rv_full], []), [], 0, [], [])]
def n_X7_share_0 : List rv_N := n_X7_share_0_0 ++ (n_X7_share_0_1 ++ (n_X7_share_0_2))
noncomputable def gn_X7_share_0 : Nat → Option rv_N := rv_ap 16 (rv_at n_X7_share_0_0) (rv_ap 16 (rv_at n_X7_share_0_1) (rv_at n_X7_share_0_2))
theorem hn_X7_share_0 : ∀ i : Nat, n_X7_share_0[i]? = gn_X7_share_0 i := rv_ap_eq (l := n_X7_share_0_0) (c := 16) (rv_ap_eq (l := n_X7_share_0_1) (c := 16) (rv_at_eq n_X7_share_0_2) rfl) rfl
set_option maxRecDepth 100000 in
theorem a_X7_share_0 : rv_all (fm_tm, flX7, fm_wr, kcX7, klX7, K_X7_share_0.2.2.1, [], 5) ct_X7_share_0 cd_X7_share n_X7_share_0 K_X7_share_0 [] 0 n_X7_share_0 = true := rv_fast hn_X7_share_0 (rv_at_eq cd_X7_share) (by decide +kernel)
theorem m_X7_share_0 {l : Launch} {D : va_G} {ad : Nat → Nat} {cy : Nat → ClassId} {Z : State → Heap → Prop} {Gp : fm_V → Prop} (hAd : fm_Ad fm_tm ad) (hZ : fm_Zk (fm_A fm_tm ad) Z) (hGd : fm_Gd Gp) : rv_Met l D fm_cl fm_tm ad cy fm_nt Z Gp yX7_share (.code yX7_share prog_1_method_27_code 5 (some .int) :: fm_Ts) { frames := 1, cells := 0, slots := 0, locals := 100 } K_X7_share_0 := rv_met hAd hZ (Or.inl (by decide +kernel)) evX7 dc_X7_share a_X7_share_0 ⟨rfl, rfl, rfl⟩ (by decide +kernel) (by decide +kernel) (by decide) (fm_gm hGd (by decide +kernel)) (Or.inl rfl) (fun p e s m args below meth c Q X Y => List.forall_mem_cons.mpr ⟨rv_ctS X Y fm_Ts_good dc_X7_share (pc := 1) (i := 1) (idx := 96) rfl (m_X7_isPorter_0 hAd hZ hGd) wl_X7_96 wm_X7_isPorter wy_X7_isPorter (by decide) rfl, List.forall_mem_cons.mpr ⟨rv_ctS X Y fm_Ts_good dc_X7_share (pc := 8) (i := 4) (idx := 75) rfl (m_X7_isYard_0 hAd hZ hGd) wl_X7_75 wm_X7_isYard wy_X7_isYard (by decide) rfl, List.forall_mem_cons.mpr ⟨rv_ctS X Y fm_Ts_good dc_X7_share (pc := 17) (i := 9) (idx := 80) rfl (m_X7_isWithin_15 hAd hZ hGd) wl_X7_80 wm_X7_isWithin wy_X7_isWithin (by decide) rfl, List.forall_mem_cons.mpr ⟨rv_ctV X Y fm_Ts_good dc_X7_share (pc := 31) (i := 17) (idx := 280) rfl (m_X0_sumLed_1 hAd hZ hGd) wl_X7_280 wm_X0_sumLed wy_X0_sumLed (by decide) ⟨rfl, rfl, rfl⟩ ⟨rfl, rfl⟩, List.forall_mem_cons.mpr ⟨rv_ctV X Y fm_Ts_good dc_X7_share (pc := 52) (i := 27) (idx := 280) rfl (m_X0_sumLed_1 hAd hZ hGd) wl_X7_280 wm_X0_sumLed wy_X0_sumLed (by decide) ⟨rfl, rfl, rfl⟩ ⟨rfl, rfl⟩, List.forall_mem_cons.mpr ⟨rv_ctS X Y fm_Ts_good dc_X7_share (pc := 58) (i := 30) (idx := 286) rfl (m_X7_reduced_0 hAd hZ hGd) wl_X7_286 wm_X7_reduced wy_X7_reduced (by decide) rfl, fun _ h => absurd h List.not_mem_nil⟩⟩⟩⟩⟩⟩) (fun _ _ _ _ _ _ _ _ _ _ _ _ _ _ _ _ h => absurd h List.not_mem_nil)
def cd_X7_odds : List (Nat × Instr × Nat) := [(0, .iload_n 1, 1), (1, .iconst 1, 1), (2, .iconst 3, 1), (3, .invokestatic 80, 3), (6, .ifCond .eq 22, 3), (9, .iload_n 2, 1), (10, .iconst 0, 1), (11, .ldc 79, 2), (13, .invokestatic 80, 3), (16, .ifCond .eq 12, 3), (19, .iload_n 3, 1), (20, .iconst 0, 1), (21, .iconst 1, 1), (22, .invokestatic 80, 3), (25, .ifCond .ne 5, 3), (28, .iconst (-1), 1), (29, .ireturn, 1), (30, .iload_n 1, 1), (31, .iconst 1, 1), (32, .if_icmp .ne 8, 3), (35, .bipush 10, 2), (37, .goto 16, 3), (40, .iload_n 1, 1), (41, .iconst 2, 1), (42, .if_icmp .ne 8, 3), (45, .bipush 100, 2), (47, .goto 6, 3), (50, .sipush 1000, 3), (53, .istore 4, 2), (55, .iconst 0, 1), (56, .istore 5, 2), (58, .aload_n 0, 1), (59, .getfield 45, 3), (62, .aload_n 0, 1), (63, .getfield 38, 3), (66, .invokevirtual 168, 3), (69, .aload_n 0, 1), (70, .getfield 45, 3), (73, .aload_n 0, 1), (74, .getfield 22, 3), (77, .getfield 231, 3), (80, .putfield 234, 3), (83, .iconst 0, 1), (84, .istore 6, 2), (86, .iload 6, 2), (88, .iload 4, 2), (90, .if_icmp .ge 77, 3), (93, .aload_n 0, 1), (94, .getfield 45, 3), (97, .aload_n 0, 1), (98, .getfield 38, 3), (101, .invokevirtual 221, 3), (104, .iload 6, 2), (106, .istore 7, 2), (108, .iconst 0, 1), (109, .istore 8, 2), (111, .iload 8, 2), (113, .iload_n 1, 1), (114, .if_icmp .ge 33, 3), (117, .aload_n 0, 1), (118, .getfield 45, 3), (121, .aload_n 0, 1), (122, .getfield 22, 3), (125, .iload 7, 2), (127, .bipush 10, 2), (129, .irem, 1), (130, .invokevirtual 155, 3), (133, .pop, 1), (134, .iload 7, 2), (136, .bipush 10, 2), (138, .idiv, 1), (139, .istore 7, 2), (141, .iinc 8 1, 3), (144, .goto (-33), 3), (147, .aload_n 0, 1), (148, .getfield 45, 3), (151, .getfield 175, 3), (154, .iload_n 2, 1), (155, .if_icmp .lt 6, 3), (158, .iinc 5 1, 3), (161, .iinc 6 1, 3), (164, .goto (-78), 3), (167, .iload 5, 2), (169, .iload 4, 2), (171, .iload_n 3, 1), (172, .invokestatic 286, 3), (175, .ireturn, 1)]
theorem dc_X7_odds : ∀ q ∈ cd_X7_odds, decode prog_1_method_28_code q.1 = .ok (q.2.1, q.2.2) := by decide +kernel
def ch_X7_odds_0 : List (Nat × Instr × Nat) := [(0, .iload_n 1, 1), (1, .iconst 1, 1), (2, .iconst 3, 1), (3, .invokestatic 80, 3), (6, .ifCond .eq 22, 3), (9, .iload_n 2, 1), (10, .iconst 0, 1), (11, .ldc 79, 2), (13, .invokestatic 80, 3), (16, .ifCond .eq 12, 3), (19, .iload_n 3, 1), (20, .iconst 0, 1), (21, .iconst 1, 1), (22, .invokestatic 80, 3), (25, .ifCond .ne 5, 3), (28, .iconst (-1), 1)]
def ch_X7_odds_1 : List (Nat × Instr × Nat) := [(29, .ireturn, 1), (30, .iload_n 1, 1), (31, .iconst 1, 1), (32, .if_icmp .ne 8, 3), (35, .bipush 10, 2), (37, .goto 16, 3), (40, .iload_n 1, 1), (41, .iconst 2, 1), (42, .if_icmp .ne 8, 3), (45, .bipush 100, 2), (47, .goto 6, 3), (50, .sipush 1000, 3), (53, .istore 4, 2), (55, .iconst 0, 1), (56, .istore 5, 2), (58, .aload_n 0, 1)]
def ch_X7_odds_2 : List (Nat × Instr × Nat) := [(59, .getfield 45, 3), (62, .aload_n 0, 1), (63, .getfield 38, 3), (66, .invokevirtual 168, 3), (69, .aload_n 0, 1), (70, .getfield 45, 3), (73, .aload_n 0, 1), (74, .getfield 22, 3), (77, .getfield 231, 3), (80, .putfield 234, 3), (83, .iconst 0, 1), (84, .istore 6, 2), (86, .iload 6, 2), (88, .iload 4, 2), (90, .if_icmp .ge 77, 3), (93, .aload_n 0, 1)]
def ch_X7_odds_3 : List (Nat × Instr × Nat) := [(94, .getfield 45, 3), (97, .aload_n 0, 1), (98, .getfield 38, 3), (101, .invokevirtual 221, 3), (104, .iload 6, 2), (106, .istore 7, 2), (108, .iconst 0, 1), (109, .istore 8, 2), (111, .iload 8, 2), (113, .iload_n 1, 1), (114, .if_icmp .ge 33, 3), (117, .aload_n 0, 1), (118, .getfield 45, 3), (121, .aload_n 0, 1), (122, .getfield 22, 3), (125, .iload 7, 2)]
def ch_X7_odds_4 : List (Nat × Instr × Nat) := [(127, .bipush 10, 2), (129, .irem, 1), (130, .invokevirtual 155, 3), (133, .pop, 1), (134, .iload 7, 2), (136, .bipush 10, 2), (138, .idiv, 1), (139, .istore 7, 2), (141, .iinc 8 1, 3), (144, .goto (-33), 3), (147, .aload_n 0, 1), (148, .getfield 45, 3), (151, .getfield 175, 3), (154, .iload_n 2, 1), (155, .if_icmp .lt 6, 3), (158, .iinc 5 1, 3)]
def ch_X7_odds_5 : List (Nat × Instr × Nat) := [(161, .iinc 6 1, 3), (164, .goto (-78), 3), (167, .iload 5, 2), (169, .iload 4, 2), (171, .iload_n 3, 1), (172, .invokestatic 286, 3), (175, .ireturn, 1)]
set_option maxRecDepth 100000 in
theorem he_X7_odds : cd_X7_odds = ch_X7_odds_0 ++ (ch_X7_odds_1 ++ (ch_X7_odds_2 ++ (ch_X7_odds_3 ++ (ch_X7_odds_4 ++ (ch_X7_odds_5))))) := rfl
noncomputable def gc_X7_odds : Nat → Option (Nat × Instr × Nat) := rv_ap 16 (rv_at ch_X7_odds_0) (rv_ap 16 (rv_at ch_X7_odds_1) (rv_ap 16 (rv_at ch_X7_odds_2) (rv_ap 16 (rv_at ch_X7_odds_3) (rv_ap 16 (rv_at ch_X7_odds_4) (rv_at ch_X7_odds_5)))))
theorem hc_X7_odds : ∀ i : Nat, cd_X7_odds[i]? = gc_X7_odds i := by
  rw [he_X7_odds]
  exact rv_ap_eq (l := ch_X7_odds_0) (c := 16) (rv_ap_eq (l := ch_X7_odds_1) (c := 16) (rv_ap_eq (l := ch_X7_odds_2) (c := 16) (rv_ap_eq (l := ch_X7_odds_3) (c := 16) (rv_ap_eq (l := ch_X7_odds_4) (c := 16) (rv_at_eq ch_X7_odds_5) rfl) rfl) rfl) rfl) rfl
def K_X7_odds_0 : rv_K := ([rv_r 0, rv_full, rv_full, rv_full], [], [(14, 0), (14, 1), (14, 2), (14, 3), (14, 4), (14, 5), (14, 6), (14, 7), (14, 8), (14, 9), (14, 10), (14, 11), (14, 12), (14, 9999), (15, 9999), (56, 9), (56, 10), (56, 11), (56, 12), (56, 13), (56, 14), (56, 15), (56, 16), (57, 9999), (58, 9999), (59, 9999), (60, 9999), (61, 9999), (62, 9999), (63, 9999), (64, 9999), (65, 9999), (66, 0), (67, 9999), (68, 9999), (69, 9999), (70, 9999)], [(0, (-2147483648), 2147483647)], [], [])
def ct_X7_odds_0 : List (Nat × rv_K) := [(3, K_X7_isWithin_10), (8, K_X7_isWithin_0), (13, K_X7_isWithin_15), (35, K_X0_takeAll_0), (51, K_X0_takeMoving_0), (66, K_X0_pass_1), (85, K_X7_reduced_0)]
def n_X7_odds_0_0 : List rv_N := [
  (0, ([rv_r 0, rv_full, rv_full, rv_full, rv_u, rv_u, rv_u, rv_u, rv_u], [], []), [1], 9859894209046, [], []),
  (1, ([rv_r 0, rv_full, rv_full, rv_full, rv_u, rv_u, rv_u, rv_u, rv_u], [(1, 0, (-2147483648), 2147483647, [(.inl 1, 0)], [])], []), [2], 9859894209045, [], []),
  (2, ([rv_r 0, rv_full, rv_full, rv_full, rv_u, rv_u, rv_u, rv_u, rv_u], [rv_i 1 1, (1, 0, (-2147483648), 2147483647, [(.inl 1, 0)], [])], []), [3], 9859894209044, [], []),
  (3, ([rv_r 0, rv_full, rv_full, rv_full, rv_u, rv_u, rv_u, rv_u, rv_u], [rv_i 3 3, rv_i 1 1, (1, 0, (-2147483648), 2147483647, [(.inl 1, 0)], [])], []), [4], 9859894209043, [], [0]),
  (4, ([rv_r 0, rv_full, rv_full, rv_full, rv_u, rv_u, rv_u, rv_u, rv_u], [(1, 0, 0, 1, [], [(.inl 1, 1, 3)])], []), [5, 15], 9859894209042, [], []),
  (5, ([rv_r 0, rv_i 1 3, rv_full, rv_full, rv_u, rv_u, rv_u, rv_u, rv_u], [], []), [6], 9859894209041, [], []),
  (6, ([rv_r 0, rv_i 1 3, rv_full, rv_full, rv_u, rv_u, rv_u, rv_u, rv_u], [(1, 0, (-2147483648), 2147483647, [(.inl 2, 0)], [])], []), [7], 9859894209040, [], []),
  (7, ([rv_r 0, rv_i 1 3, rv_full, rv_full, rv_u, rv_u, rv_u, rv_u, rv_u], [rv_i 0 0, (1, 0, (-2147483648), 2147483647, [(.inl 2, 0)], [])], []), [8], 9859894209039, [], []),
  (8, ([rv_r 0, rv_i 1 3, rv_full, rv_full, rv_u, rv_u, rv_u, rv_u, rv_u], [rv_i 99999 99999, rv_i 0 0, (1, 0, (-2147483648), 2147483647, [(.inl 2, 0)], [])], []), [9], 9859894209038, [], [1]),
  (9, ([rv_r 0, rv_i 1 3, rv_full, rv_full, rv_u, rv_u, rv_u, rv_u, rv_u], [(1, 0, 0, 1, [], [(.inl 2, 0, 99999)])], []), [10, 15], 9859894209037, [], []),
  (10, ([rv_r 0, rv_i 1 3, rv_i 0 99999, rv_full, rv_u, rv_u, rv_u, rv_u, rv_u], [], []), [11], 9859894209036, [], []),
  (11, ([rv_r 0, rv_i 1 3, rv_i 0 99999, rv_full, rv_u, rv_u, rv_u, rv_u, rv_u], [(1, 0, (-2147483648), 2147483647, [(.inl 3, 0)], [])], []), [12], 9859894209035, [], []),
  (12, ([rv_r 0, rv_i 1 3, rv_i 0 99999, rv_full, rv_u, rv_u, rv_u, rv_u, rv_u], [rv_i 0 0, (1, 0, (-2147483648), 2147483647, [(.inl 3, 0)], [])], []), [13], 9859894209034, [], []),
  (13, ([rv_r 0, rv_i 1 3, rv_i 0 99999, rv_full, rv_u, rv_u, rv_u, rv_u, rv_u], [rv_i 1 1, rv_i 0 0, (1, 0, (-2147483648), 2147483647, [(.inl 3, 0)], [])], []), [14], 9859894209033, [], [2]),
  (14, ([rv_r 0, rv_i 1 3, rv_i 0 99999, rv_full, rv_u, rv_u, rv_u, rv_u, rv_u], [(1, 0, 0, 1, [], [(.inl 3, 0, 1)])], []), [15, 17], 9859894209032, [], []),
  (15, ([rv_r 0, rv_full, rv_full, rv_full, rv_u, rv_u, rv_u, rv_u, rv_u], [], []), [16], 1, [], [])]
def n_X7_odds_0_1 : List rv_N := [
  (16, ([rv_r 0, rv_full, rv_full, rv_full, rv_u, rv_u, rv_u, rv_u, rv_u], [rv_i (-1) (-1)], []), [], 0, [], []),
  (17, ([rv_r 0, rv_i 1 3, rv_i 0 99999, rv_i 0 1, rv_u, rv_u, rv_u, rv_u, rv_u], [], []), [18], 9859894209031, [], []),
  (18, ([rv_r 0, rv_i 1 3, rv_i 0 99999, rv_i 0 1, rv_u, rv_u, rv_u, rv_u, rv_u], [(1, 0, 1, 3, [(.inl 1, 0)], [])], []), [19], 9859894209030, [], []),
  (19, ([rv_r 0, rv_i 1 3, rv_i 0 99999, rv_i 0 1, rv_u, rv_u, rv_u, rv_u, rv_u], [rv_i 1 1, (1, 0, 1, 3, [(.inl 1, 0)], [])], []), [20, 22], 9859894209029, [], []),
  (20, ([rv_r 0, rv_i 1 1, rv_i 0 99999, rv_i 0 1, rv_u, rv_u, rv_u, rv_u, rv_u], [], []), [21], 9859894209025, [], []),
  (21, ([rv_r 0, rv_i 1 1, rv_i 0 99999, rv_i 0 1, rv_u, rv_u, rv_u, rv_u, rv_u], [rv_i 10 10], []), [28], 9859894209024, [], []),
  (22, ([rv_r 0, rv_i 2 3, rv_i 0 99999, rv_i 0 1, rv_u, rv_u, rv_u, rv_u, rv_u], [], []), [23], 9859894209028, [], []),
  (23, ([rv_r 0, rv_i 2 3, rv_i 0 99999, rv_i 0 1, rv_u, rv_u, rv_u, rv_u, rv_u], [(1, 0, 2, 3, [(.inl 1, 0)], [])], []), [24], 9859894209027, [], []),
  (24, ([rv_r 0, rv_i 2 3, rv_i 0 99999, rv_i 0 1, rv_u, rv_u, rv_u, rv_u, rv_u], [rv_i 2 2, (1, 0, 2, 3, [(.inl 1, 0)], [])], []), [25, 27], 9859894209026, [], []),
  (25, ([rv_r 0, rv_i 2 2, rv_i 0 99999, rv_i 0 1, rv_u, rv_u, rv_u, rv_u, rv_u], [], []), [26], 9859894209025, [], []),
  (26, ([rv_r 0, rv_i 2 2, rv_i 0 99999, rv_i 0 1, rv_u, rv_u, rv_u, rv_u, rv_u], [rv_i 100 100], []), [29], 9859894209024, [], []),
  (27, ([rv_r 0, rv_i 3 3, rv_i 0 99999, rv_i 0 1, rv_u, rv_u, rv_u, rv_u, rv_u], [], []), [30], 9859894209024, [], []),
  (28, ([rv_r 0, rv_i 1 1, rv_i 0 99999, rv_i 0 1, rv_u, rv_u, rv_u, rv_u, rv_u], [rv_i 10 10], []), [31], 9859894209023, [], []),
  (28, ([rv_r 0, rv_i 2 2, rv_i 0 99999, rv_i 0 1, rv_u, rv_u, rv_u, rv_u, rv_u], [rv_i 100 100], []), [31], 9859894209023, [], []),
  (28, ([rv_r 0, rv_i 3 3, rv_i 0 99999, rv_i 0 1, rv_u, rv_u, rv_u, rv_u, rv_u], [rv_i 1000 1000], []), [31], 9859894209023, [], []),
  (29, ([rv_r 0, rv_i 1 3, rv_i 0 99999, rv_i 0 1, rv_i 10 1000, rv_u, rv_u, rv_u, rv_u], [], []), [32], 9859894209022, [], [])]
def n_X7_odds_0_2 : List rv_N := [
  (30, ([rv_r 0, rv_i 1 3, rv_i 0 99999, rv_i 0 1, rv_i 10 1000, rv_u, rv_u, rv_u, rv_u], [rv_i 0 0], []), [33], 9859894209021, [], []),
  (31, ([rv_r 0, rv_i 1 3, rv_i 0 99999, rv_i 0 1, rv_i 10 1000, rv_i 0 0, rv_u, rv_u, rv_u], [], []), [34], 9859894209020, [], []),
  (32, ([rv_r 0, rv_i 1 3, rv_i 0 99999, rv_i 0 1, rv_i 10 1000, rv_i 0 0, rv_u, rv_u, rv_u], [rv_r 0], []), [35], 9859894209019, [], []),
  (33, ([rv_r 0, rv_i 1 3, rv_i 0 99999, rv_i 0 1, rv_i 10 1000, rv_i 0 0, rv_u, rv_u, rv_u], [rv_r 56], []), [36], 9859894209018, [], []),
  (34, ([rv_r 0, rv_i 1 3, rv_i 0 99999, rv_i 0 1, rv_i 10 1000, rv_i 0 0, rv_u, rv_u, rv_u], [rv_r 0, rv_r 56], []), [37], 9859894209017, [], []),
  (35, ([rv_r 0, rv_i 1 3, rv_i 0 99999, rv_i 0 1, rv_i 10 1000, rv_i 0 0, rv_u, rv_u, rv_u], [rv_r 26, rv_r 56], []), [38], 9859894209016, [], [3]),
  (36, ([rv_r 0, rv_i 1 3, rv_i 0 99999, rv_i 0 1, rv_i 10 1000, rv_i 0 0, rv_u, rv_u, rv_u], [], []), [39], 9859894209015, [], []),
  (37, ([rv_r 0, rv_i 1 3, rv_i 0 99999, rv_i 0 1, rv_i 10 1000, rv_i 0 0, rv_u, rv_u, rv_u], [rv_r 0], []), [40], 9859894209014, [], []),
  (38, ([rv_r 0, rv_i 1 3, rv_i 0 99999, rv_i 0 1, rv_i 10 1000, rv_i 0 0, rv_u, rv_u, rv_u], [rv_r 56], []), [41], 9859894209013, [], []),
  (39, ([rv_r 0, rv_i 1 3, rv_i 0 99999, rv_i 0 1, rv_i 10 1000, rv_i 0 0, rv_u, rv_u, rv_u], [rv_r 0, rv_r 56], []), [42], 9859894209012, [], []),
  (40, ([rv_r 0, rv_i 1 3, rv_i 0 99999, rv_i 0 1, rv_i 10 1000, rv_i 0 0, rv_u, rv_u, rv_u], [rv_r 7, rv_r 56], []), [43], 9859894209011, [], []),
  (41, ([rv_r 0, rv_i 1 3, rv_i 0 99999, rv_i 0 1, rv_i 10 1000, rv_i 0 0, rv_u, rv_u, rv_u], [(1, 0, 0, 1, [(.inr (7, 8), 0)], []), rv_r 56], []), [44], 9859894209010, [], []),
  (42, ([rv_r 0, rv_i 1 3, rv_i 0 99999, rv_i 0 1, rv_i 10 1000, rv_i 0 0, rv_u, rv_u, rv_u], [], []), [45], 9859894209009, [], []),
  (43, ([rv_r 0, rv_i 1 3, rv_i 0 99999, rv_i 0 1, rv_i 10 1000, rv_i 0 0, rv_u, rv_u, rv_u], [rv_i 0 0], []), [46], 9859894209008, [], []),
  (44, ([rv_r 0, rv_i 1 3, rv_i 0 99999, rv_i 0 1, rv_i 10 1000, rv_full, rv_i 0 1000, rv_u, rv_u], [], []), [47], 9859894209007, [(6, (-9859894209))], []),
  (45, ([rv_r 0, rv_i 1 3, rv_i 0 99999, rv_i 0 1, rv_i 10 1000, rv_full, rv_i 0 1000, rv_u, rv_u], [(1, 0, 0, 1000, [(.inl 6, 0)], [])], []), [48], 9859894209006, [(6, (-9859894209))], [])]
def n_X7_odds_0_3 : List rv_N := [
  (46, ([rv_r 0, rv_i 1 3, rv_i 0 99999, rv_i 0 1, rv_i 10 1000, rv_full, rv_i 0 1000, rv_u, rv_u], [(1, 0, 10, 1000, [(.inl 4, 0)], []), (1, 0, 0, 1000, [(.inl 6, 0)], [])], []), [49, 84], 9859894209005, [(6, (-9859894209))], []),
  (47, ([rv_r 0, rv_i 1 3, rv_i 0 99999, rv_i 0 1, rv_i 10 1000, rv_full, rv_i 0 999, rv_u, rv_u], [], []), [50], 9850034612709, [(6, (-9859894209))], []),
  (48, ([rv_r 0, rv_i 1 3, rv_i 0 99999, rv_i 0 1, rv_i 10 1000, rv_full, rv_i 0 999, rv_u, rv_u], [rv_r 0], []), [51], 9850034612708, [(6, (-9859894209))], []),
  (49, ([rv_r 0, rv_i 1 3, rv_i 0 99999, rv_i 0 1, rv_i 10 1000, rv_full, rv_i 0 999, rv_u, rv_u], [rv_r 56], []), [52], 9850034612707, [(6, (-9859894209))], []),
  (50, ([rv_r 0, rv_i 1 3, rv_i 0 99999, rv_i 0 1, rv_i 10 1000, rv_full, rv_i 0 999, rv_u, rv_u], [rv_r 0, rv_r 56], []), [53], 9850034612706, [(6, (-9859894209))], []),
  (51, ([rv_r 0, rv_i 1 3, rv_i 0 99999, rv_i 0 1, rv_i 10 1000, rv_full, rv_i 0 999, rv_u, rv_u], [rv_r 26, rv_r 56], []), [54], 9850034612705, [(6, (-9859894209))], [4]),
  (52, ([rv_r 0, rv_i 1 3, rv_i 0 99999, rv_i 0 1, rv_i 10 1000, rv_full, rv_i 0 999, rv_u, rv_u], [], []), [55], 9850034612704, [(6, (-9859894209))], []),
  (53, ([rv_r 0, rv_i 1 3, rv_i 0 99999, rv_i 0 1, rv_i 10 1000, rv_full, rv_i 0 999, rv_u, rv_u], [(1, 0, 0, 999, [(.inl 6, 0)], [])], []), [56], 9850034612703, [(6, (-9859894209))], []),
  (54, ([rv_r 0, rv_i 1 3, rv_i 0 99999, rv_i 0 1, rv_i 10 1000, rv_full, rv_i 0 999, rv_i 0 999, rv_u], [], []), [57], 9850034612702, [(6, (-9859894209))], []),
  (55, ([rv_r 0, rv_i 1 3, rv_i 0 99999, rv_i 0 1, rv_i 10 1000, rv_full, rv_i 0 999, rv_i 0 999, rv_u], [rv_i 0 0], []), [58], 9850034612701, [(6, (-9859894209))], []),
  (56, ([rv_r 0, rv_i 1 3, rv_i 0 99999, rv_i 0 1, rv_i 10 1000, rv_full, rv_i 0 999, rv_full, rv_i 0 3], [], []), [59], 9850034612700, [(6, (-9859894209)), (8, (-99297))], []),
  (57, ([rv_r 0, rv_i 1 3, rv_i 0 99999, rv_i 0 1, rv_i 10 1000, rv_full, rv_i 0 999, rv_full, rv_i 0 3], [(1, 0, 0, 3, [(.inl 8, 0)], [])], []), [60], 9850034612699, [(6, (-9859894209)), (8, (-99297))], []),
  (58, ([rv_r 0, rv_i 1 3, rv_i 0 99999, rv_i 0 1, rv_i 10 1000, rv_full, rv_i 0 999, rv_full, rv_i 0 3], [(1, 0, 1, 3, [(.inl 1, 0)], []), (1, 0, 0, 3, [(.inl 8, 0)], [])], []), [61, 76], 9850034612698, [(6, (-9859894209)), (8, (-99297))], []),
  (59, ([rv_r 0, rv_i 1 3, rv_i 0 99999, rv_i 0 1, rv_i 10 1000, rv_full, rv_i 0 999, rv_full, rv_i 0 2], [], []), [62], 9850034513418, [(6, (-9859894209)), (8, (-99297))], []),
  (60, ([rv_r 0, rv_i 1 3, rv_i 0 99999, rv_i 0 1, rv_i 10 1000, rv_full, rv_i 0 999, rv_full, rv_i 0 2], [rv_r 0], []), [63], 9850034513417, [(6, (-9859894209)), (8, (-99297))], []),
  (61, ([rv_r 0, rv_i 1 3, rv_i 0 99999, rv_i 0 1, rv_i 10 1000, rv_full, rv_i 0 999, rv_full, rv_i 0 2], [rv_r 56], []), [64], 9850034513416, [(6, (-9859894209)), (8, (-99297))], [])]
def n_X7_odds_0_4 : List rv_N := [
  (62, ([rv_r 0, rv_i 1 3, rv_i 0 99999, rv_i 0 1, rv_i 10 1000, rv_full, rv_i 0 999, rv_full, rv_i 0 2], [rv_r 0, rv_r 56], []), [65], 9850034513415, [(6, (-9859894209)), (8, (-99297))], []),
  (63, ([rv_r 0, rv_i 1 3, rv_i 0 99999, rv_i 0 1, rv_i 10 1000, rv_full, rv_i 0 999, rv_full, rv_i 0 2], [rv_r 7, rv_r 56], []), [66], 9850034513414, [(6, (-9859894209)), (8, (-99297))], []),
  (64, ([rv_r 0, rv_i 1 3, rv_i 0 99999, rv_i 0 1, rv_i 10 1000, rv_full, rv_i 0 999, rv_full, rv_i 0 2], [(1, 0, (-2147483648), 2147483647, [(.inl 7, 0)], []), rv_r 7, rv_r 56], []), [67], 9850034513413, [(6, (-9859894209)), (8, (-99297))], []),
  (65, ([rv_r 0, rv_i 1 3, rv_i 0 99999, rv_i 0 1, rv_i 10 1000, rv_full, rv_i 0 999, rv_full, rv_i 0 2], [rv_i 10 10, (1, 0, (-2147483648), 2147483647, [(.inl 7, 0)], []), rv_r 7, rv_r 56], []), [68], 9850034513412, [(6, (-9859894209)), (8, (-99297))], []),
  (66, ([rv_r 0, rv_i 1 3, rv_i 0 99999, rv_i 0 1, rv_i 10 1000, rv_full, rv_i 0 999, rv_full, rv_i 0 2], [rv_full, rv_r 7, rv_r 56], []), [69], 9850034513411, [(6, (-9859894209)), (8, (-99297))], [5]),
  (67, ([rv_r 0, rv_i 1 3, rv_i 0 99999, rv_i 0 1, rv_i 10 1000, rv_full, rv_i 0 999, rv_full, rv_i 0 2], [rv_full], []), [70], 9850034513410, [(6, (-9859894209)), (8, (-99297))], []),
  (68, ([rv_r 0, rv_i 1 3, rv_i 0 99999, rv_i 0 1, rv_i 10 1000, rv_full, rv_i 0 999, rv_full, rv_i 0 2], [], []), [71], 9850034513409, [(6, (-9859894209)), (8, (-99297))], []),
  (69, ([rv_r 0, rv_i 1 3, rv_i 0 99999, rv_i 0 1, rv_i 10 1000, rv_full, rv_i 0 999, rv_full, rv_i 0 2], [(1, 0, (-2147483648), 2147483647, [(.inl 7, 0)], [])], []), [72], 9850034513408, [(6, (-9859894209)), (8, (-99297))], []),
  (70, ([rv_r 0, rv_i 1 3, rv_i 0 99999, rv_i 0 1, rv_i 10 1000, rv_full, rv_i 0 999, rv_full, rv_i 0 2], [rv_i 10 10, (1, 0, (-2147483648), 2147483647, [(.inl 7, 0)], [])], []), [73], 9850034513407, [(6, (-9859894209)), (8, (-99297))], []),
  (71, ([rv_r 0, rv_i 1 3, rv_i 0 99999, rv_i 0 1, rv_i 10 1000, rv_full, rv_i 0 999, rv_full, rv_i 0 2], [rv_full], []), [74], 9850034513406, [(6, (-9859894209)), (8, (-99297))], []),
  (72, ([rv_r 0, rv_i 1 3, rv_i 0 99999, rv_i 0 1, rv_i 10 1000, rv_full, rv_i 0 999, rv_full, rv_i 0 2], [], []), [75], 9850034513405, [(6, (-9859894209)), (8, (-99297))], []),
  (73, ([rv_r 0, rv_i 1 3, rv_i 0 99999, rv_i 0 1, rv_i 10 1000, rv_full, rv_i 0 999, rv_full, rv_i 1 3], [], []), [58], 9850034612701, [(6, (-9859894209)), (8, (-99297))], []),
  (74, ([rv_r 0, rv_i 1 3, rv_i 0 99999, rv_i 0 1, rv_i 10 1000, rv_full, rv_i 0 999, rv_full, rv_i 1 3], [], []), [77], 9850034314806, [(6, (-9859894209))], []),
  (75, ([rv_r 0, rv_i 1 3, rv_i 0 99999, rv_i 0 1, rv_i 10 1000, rv_full, rv_i 0 999, rv_full, rv_i 1 3], [rv_r 0], []), [78], 9850034314805, [(6, (-9859894209))], []),
  (76, ([rv_r 0, rv_i 1 3, rv_i 0 99999, rv_i 0 1, rv_i 10 1000, rv_full, rv_i 0 999, rv_full, rv_i 1 3], [rv_r 56], []), [79], 9850034314804, [(6, (-9859894209))], []),
  (77, ([rv_r 0, rv_i 1 3, rv_i 0 99999, rv_i 0 1, rv_i 10 1000, rv_full, rv_i 0 999, rv_full, rv_i 1 3], [(1, 0, (-2147483648), 2147483647, [(.inr (56, 11), 0)], [])], []), [80], 9850034314803, [(6, (-9859894209))], [])]
def n_X7_odds_0_5 : List rv_N := [
  (78, ([rv_r 0, rv_i 1 3, rv_i 0 99999, rv_i 0 1, rv_i 10 1000, rv_full, rv_i 0 999, rv_full, rv_i 1 3], [(1, 0, 0, 99999, [(.inl 2, 0)], []), (1, 0, (-2147483648), 2147483647, [(.inr (56, 11), 0)], [])], []), [81, 82], 9850034314802, [(6, (-9859894209))], []),
  (79, ([rv_r 0, rv_i 1 3, rv_i 0 99999, rv_i 0 1, rv_i 10 1000, rv_full, rv_i 0 999, rv_full, rv_i 1 3], [], [((56, 11), 0, 2147483647, [])]), [82], 9850034314801, [(6, (-9859894209))], []),
  (80, ([rv_r 0, rv_i 1 3, rv_i 0 99999, rv_i 0 1, rv_i 10 1000, rv_full, rv_i 0 999, rv_full, rv_i 1 3], [], []), [83], 9850034314800, [(6, (-9859894209))], []),
  (81, ([rv_r 0, rv_i 1 3, rv_i 0 99999, rv_i 0 1, rv_i 10 1000, rv_full, rv_i 1 1000, rv_full, rv_i 1 3], [], []), [46], 9859894209008, [(6, (-9859894209))], []),
  (82, ([rv_r 0, rv_i 1 3, rv_i 0 99999, rv_i 0 1, rv_i 10 1000, rv_full, rv_i 10 1000, rv_u, rv_u], [], []), [85], 4, [], []),
  (83, ([rv_r 0, rv_i 1 3, rv_i 0 99999, rv_i 0 1, rv_i 10 1000, rv_full, rv_i 10 1000, rv_u, rv_u], [(1, 0, (-2147483648), 2147483647, [(.inl 5, 0)], [])], []), [86], 3, [], []),
  (84, ([rv_r 0, rv_i 1 3, rv_i 0 99999, rv_i 0 1, rv_i 10 1000, rv_full, rv_i 10 1000, rv_u, rv_u], [(1, 0, 10, 1000, [(.inl 4, 0)], []), (1, 0, (-2147483648), 2147483647, [(.inl 5, 0)], [])], []), [87], 2, [], []),
  (85, ([rv_r 0, rv_i 1 3, rv_i 0 99999, rv_i 0 1, rv_i 10 1000, rv_full, rv_i 10 1000, rv_u, rv_u], [(1, 0, 0, 1, [(.inl 3, 0)], []), (1, 0, 10, 1000, [(.inl 4, 0)], []), (1, 0, (-2147483648), 2147483647, [(.inl 5, 0)], [])], []), [88], 1, [], [6]),
  (86, ([rv_r 0, rv_i 1 3, rv_i 0 99999, rv_i 0 1, rv_i 10 1000, rv_full, rv_i 10 1000, rv_u, rv_u], [rv_full], []), [], 0, [], [])]
def n_X7_odds_0 : List rv_N := n_X7_odds_0_0 ++ (n_X7_odds_0_1 ++ (n_X7_odds_0_2 ++ (n_X7_odds_0_3 ++ (n_X7_odds_0_4 ++ (n_X7_odds_0_5)))))
noncomputable def gn_X7_odds_0 : Nat → Option rv_N := rv_ap 16 (rv_at n_X7_odds_0_0) (rv_ap 16 (rv_at n_X7_odds_0_1) (rv_ap 16 (rv_at n_X7_odds_0_2) (rv_ap 16 (rv_at n_X7_odds_0_3) (rv_ap 16 (rv_at n_X7_odds_0_4) (rv_at n_X7_odds_0_5)))))
theorem hn_X7_odds_0 : ∀ i : Nat, n_X7_odds_0[i]? = gn_X7_odds_0 i := rv_ap_eq (l := n_X7_odds_0_0) (c := 16) (rv_ap_eq (l := n_X7_odds_0_1) (c := 16) (rv_ap_eq (l := n_X7_odds_0_2) (c := 16) (rv_ap_eq (l := n_X7_odds_0_3) (c := 16) (rv_ap_eq (l := n_X7_odds_0_4) (c := 16) (rv_at_eq n_X7_odds_0_5) rfl) rfl) rfl) rfl) rfl
set_option maxRecDepth 100000 in
theorem a_X7_odds_0 : rv_all (fm_tm, flX7, fm_wr, kcX7, klX7, K_X7_odds_0.2.2.1, [], 9) ct_X7_odds_0 cd_X7_odds n_X7_odds_0 K_X7_odds_0 [] 0 n_X7_odds_0 = true := rv_fast hn_X7_odds_0 hc_X7_odds (by decide +kernel)
theorem m_X7_odds_0 {l : Launch} {D : va_G} {ad : Nat → Nat} {cy : Nat → ClassId} {Z : State → Heap → Prop} {Gp : fm_V → Prop} (hAd : fm_Ad fm_tm ad) (hZ : fm_Zk (fm_A fm_tm ad) Z) (hGd : fm_Gd Gp) : rv_Met l D fm_cl fm_tm ad cy fm_nt Z Gp yX7_odds (.code yX7_odds prog_1_method_28_code 9 (some .int) :: fm_Ts) { frames := 5, cells := 0, slots := 0, locals := 500 } K_X7_odds_0 := rv_met hAd hZ (Or.inl (by decide +kernel)) evX7 dc_X7_odds a_X7_odds_0 ⟨rfl, rfl, rfl⟩ (by decide +kernel) (by decide +kernel) (by decide) (fm_gm hGd (by decide +kernel)) (Or.inl rfl) (fun p e s m args below meth c Q X Y => List.forall_mem_cons.mpr ⟨rv_ctS X Y fm_Ts_good dc_X7_odds (pc := 3) (i := 3) (idx := 80) rfl (m_X7_isWithin_10 hAd hZ hGd) wl_X7_80 wm_X7_isWithin wy_X7_isWithin (by decide) rfl, List.forall_mem_cons.mpr ⟨rv_ctS X Y fm_Ts_good dc_X7_odds (pc := 13) (i := 8) (idx := 80) rfl (m_X7_isWithin_0 hAd hZ hGd) wl_X7_80 wm_X7_isWithin wy_X7_isWithin (by decide) rfl, List.forall_mem_cons.mpr ⟨rv_ctS X Y fm_Ts_good dc_X7_odds (pc := 22) (i := 13) (idx := 80) rfl (m_X7_isWithin_15 hAd hZ hGd) wl_X7_80 wm_X7_isWithin wy_X7_isWithin (by decide) rfl, List.forall_mem_cons.mpr ⟨rv_ctV X Y fm_Ts_good dc_X7_odds (pc := 66) (i := 35) (idx := 168) rfl (m_X0_takeAll_0 hAd hZ hGd) wl_X7_168 wm_X0_takeAll wy_X0_takeAll (by decide) ⟨rfl, rfl, rfl⟩ ⟨rfl, rfl⟩, List.forall_mem_cons.mpr ⟨rv_ctV X Y fm_Ts_good dc_X7_odds (pc := 101) (i := 51) (idx := 221) rfl (m_X0_takeMoving_0 hAd hZ hGd) wl_X7_221 wm_X0_takeMoving wy_X0_takeMoving (by decide) ⟨rfl, rfl, rfl⟩ ⟨rfl, rfl⟩, List.forall_mem_cons.mpr ⟨rv_ctV X Y fm_Ts_good dc_X7_odds (pc := 130) (i := 66) (idx := 155) rfl (m_X0_pass_1 hAd hZ hGd) wl_X7_155 wm_X0_pass wy_X0_pass (by decide) ⟨rfl, rfl, rfl⟩ ⟨rfl, rfl⟩, List.forall_mem_cons.mpr ⟨rv_ctS X Y fm_Ts_good dc_X7_odds (pc := 172) (i := 85) (idx := 286) rfl (m_X7_reduced_0 hAd hZ hGd) wl_X7_286 wm_X7_reduced wy_X7_reduced (by decide) rfl, fun _ h => absurd h List.not_mem_nil⟩⟩⟩⟩⟩⟩⟩) (fun _ _ _ _ _ _ _ _ _ _ _ _ _ _ _ _ h => absurd h List.not_mem_nil)
def K_X7_isWithin_19 : rv_K := ([rv_full, rv_i 0 0, rv_i 65535 65535], [], [], [(0, 0, 1)], [(.inl 0, 0, 65535)], [])
def ct_X7_isWithin_19 : List (Nat × rv_K) := []
def n_X7_isWithin_19 : List rv_N := [
  (0, ([rv_full, rv_i 0 0, rv_i 65535 65535], [], []), [1], 8, [], []),
  (1, ([rv_full, rv_i 0 0, rv_i 65535 65535], [(1, 0, (-2147483648), 2147483647, [(.inl 0, 0)], [])], []), [2], 7, [], []),
  (2, ([rv_full, rv_i 0 0, rv_i 65535 65535], [(1, 0, 0, 0, [(.inl 1, 0)], []), (1, 0, (-2147483648), 2147483647, [(.inl 0, 0)], [])], []), [3, 8], 6, [], []),
  (3, ([rv_i 0 2147483647, rv_i 0 0, rv_i 65535 65535], [], []), [4], 5, [], []),
  (4, ([rv_i 0 2147483647, rv_i 0 0, rv_i 65535 65535], [(1, 0, 0, 2147483647, [(.inl 0, 0)], [])], []), [5], 4, [], []),
  (5, ([rv_i 0 2147483647, rv_i 0 0, rv_i 65535 65535], [(1, 0, 65535, 65535, [(.inl 2, 0)], []), (1, 0, 0, 2147483647, [(.inl 0, 0)], [])], []), [6, 8], 3, [], []),
  (6, ([rv_i 0 65535, rv_i 0 0, rv_i 65535 65535], [], []), [7], 2, [], []),
  (7, ([rv_i 0 65535, rv_i 0 0, rv_i 65535 65535], [rv_i 1 1], []), [10], 1, [], []),
  (8, ([rv_full, rv_i 0 0, rv_i 65535 65535], [], []), [9], 1, [], []),
  (9, ([rv_full, rv_i 0 0, rv_i 65535 65535], [rv_i 0 0], []), [], 0, [], []),
  (9, ([rv_i 0 65535, rv_i 0 0, rv_i 65535 65535], [rv_i 1 1], []), [], 0, [], [])]
set_option maxRecDepth 100000 in
theorem a_X7_isWithin_19 : rv_all (fm_tm, flX7, fm_wr, kcX7, klX7, K_X7_isWithin_19.2.2.1, [0, 1, 2], 3) ct_X7_isWithin_19 cd_X7_isWithin n_X7_isWithin_19 K_X7_isWithin_19 [] 0 n_X7_isWithin_19 = true := rv_fast (rv_at_eq n_X7_isWithin_19) (rv_at_eq cd_X7_isWithin) (by decide +kernel)
theorem m_X7_isWithin_19 {l : Launch} {D : va_G} {ad : Nat → Nat} {cy : Nat → ClassId} {Z : State → Heap → Prop} {Gp : fm_V → Prop} (hAd : fm_Ad fm_tm ad) (hZ : fm_Zk (fm_A fm_tm ad) Z) (hGd : fm_Gd Gp) : rv_Met l D fm_cl fm_tm ad cy fm_nt Z Gp yX7_isWithin (.code yX7_isWithin prog_1_method_34_code 3 (some .boolean) :: fm_Ts) { frames := 0, cells := 0, slots := 0, locals := 0 } K_X7_isWithin_19 := rv_met hAd hZ (Or.inl (by decide +kernel)) evX7 dc_X7_isWithin a_X7_isWithin_19 ⟨rfl, rfl, rfl⟩ (by decide +kernel) (by decide +kernel) (by decide) (fm_gm hGd (by decide +kernel)) (Or.inr ⟨rfl, by decide, by decide⟩) (fun p e s m args below meth c Q X Y => fun _ h => absurd h List.not_mem_nil) (fun _ _ _ _ _ _ _ _ _ _ _ _ _ _ _ _ h => absurd h List.not_mem_nil)
def cd_X7_seed : List (Nat × Instr × Nat) := [(0, .iload_n 1, 1), (1, .iconst 0, 1), (2, .ldc_w 289, 3), (5, .invokestatic 80, 3), (8, .ifCond .ne 5, 3), (11, .iconst 0, 1), (12, .ireturn, 1), (13, .aload_n 0, 1), (14, .getfield 38, 3), (17, .iload_n 1, 1), (18, .putfield 290, 3), (21, .iconst 1, 1), (22, .ireturn, 1)]
theorem dc_X7_seed : ∀ q ∈ cd_X7_seed, decode prog_1_method_29_code q.1 = .ok (q.2.1, q.2.2) := by decide +kernel
def K_X7_seed_0 : rv_K := ([rv_r 0, rv_full], [], [(26, 10)], [(0, 0, 1)], [(.inl 1, 0, 65535)], [])
def ct_X7_seed_0 : List (Nat × rv_K) := [(3, K_X7_isWithin_19)]
def n_X7_seed_0 : List rv_N := [
  (0, ([rv_r 0, rv_full], [], []), [1], 10, [], []),
  (1, ([rv_r 0, rv_full], [(1, 0, (-2147483648), 2147483647, [(.inl 1, 0)], [])], []), [2], 9, [], []),
  (2, ([rv_r 0, rv_full], [rv_i 0 0, (1, 0, (-2147483648), 2147483647, [(.inl 1, 0)], [])], []), [3], 8, [], []),
  (3, ([rv_r 0, rv_full], [rv_i 65535 65535, rv_i 0 0, (1, 0, (-2147483648), 2147483647, [(.inl 1, 0)], [])], []), [4], 7, [], [0]),
  (4, ([rv_r 0, rv_full], [(1, 0, 0, 1, [], [(.inl 1, 0, 65535)])], []), [5, 7], 6, [], []),
  (5, ([rv_r 0, rv_full], [], []), [6], 1, [], []),
  (6, ([rv_r 0, rv_full], [rv_i 0 0], []), [], 0, [], []),
  (7, ([rv_r 0, rv_i 0 65535], [], []), [8], 5, [], []),
  (8, ([rv_r 0, rv_i 0 65535], [rv_r 0], []), [9], 4, [], []),
  (9, ([rv_r 0, rv_i 0 65535], [rv_r 26], []), [10], 3, [], []),
  (10, ([rv_r 0, rv_i 0 65535], [(1, 0, 0, 65535, [(.inl 1, 0)], []), rv_r 26], []), [11], 2, [], []),
  (11, ([rv_r 0, rv_i 0 65535], [], [((26, 10), 0, 65535, [])]), [12], 1, [], []),
  (12, ([rv_r 0, rv_i 0 65535], [rv_i 1 1], [((26, 10), 0, 65535, [])]), [], 0, [], [])]
set_option maxRecDepth 100000 in
theorem a_X7_seed_0 : rv_all (fm_tm, flX7, fm_wr, kcX7, klX7, K_X7_seed_0.2.2.1, [1], 2) ct_X7_seed_0 cd_X7_seed n_X7_seed_0 K_X7_seed_0 [] 0 n_X7_seed_0 = true := rv_fast (rv_at_eq n_X7_seed_0) (rv_at_eq cd_X7_seed) (by decide +kernel)
theorem m_X7_seed_0 {l : Launch} {D : va_G} {ad : Nat → Nat} {cy : Nat → ClassId} {Z : State → Heap → Prop} {Gp : fm_V → Prop} (hAd : fm_Ad fm_tm ad) (hZ : fm_Zk (fm_A fm_tm ad) Z) (hGd : fm_Gd Gp) : rv_Met l D fm_cl fm_tm ad cy fm_nt Z Gp yX7_seed (.code yX7_seed prog_1_method_29_code 2 (some .boolean) :: fm_Ts) { frames := 1, cells := 0, slots := 0, locals := 100 } K_X7_seed_0 := rv_met hAd hZ (Or.inl (by decide +kernel)) evX7 dc_X7_seed a_X7_seed_0 ⟨rfl, rfl, rfl⟩ (by decide +kernel) (by decide +kernel) (by decide) (fm_gm hGd (by decide +kernel)) (Or.inr ⟨rfl, by decide, by decide⟩) (fun p e s m args below meth c Q X Y => List.forall_mem_cons.mpr ⟨rv_ctS X Y fm_Ts_good dc_X7_seed (pc := 5) (i := 3) (idx := 80) rfl (m_X7_isWithin_19 hAd hZ hGd) wl_X7_80 wm_X7_isWithin wy_X7_isWithin (by decide) rfl, fun _ h => absurd h List.not_mem_nil⟩) (fun _ _ _ _ _ _ _ _ _ _ _ _ _ _ _ _ h => absurd h List.not_mem_nil)
def K_X2_takeMoving_1 : rv_K := ([rv_r 51, rv_r 36], [], [(52, 9999), (53, 9999)], [], [], [])
def ct_X2_takeMoving_1 : List (Nat × rv_K) := [(7, ([rv_r 37, rv_i 0 0, rv_r 52, rv_i 0 0, rv_i 9 9], [], [(52, 9999)], [], [], [])), (15, ([rv_r 38, rv_i 0 0, rv_r 53, rv_i 0 0, rv_i 9 9], [], [(53, 9999)], [], [], []))]
def n_X2_takeMoving_1_0 : List rv_N := [
  (0, ([rv_r 51, rv_r 36], [], []), [1], 16, [], []),
  (1, ([rv_r 51, rv_r 36], [rv_r 36], []), [2], 15, [], []),
  (2, ([rv_r 51, rv_r 36], [rv_r 37], []), [3], 14, [], []),
  (3, ([rv_r 51, rv_r 36], [rv_i 0 0, rv_r 37], []), [4], 13, [], []),
  (4, ([rv_r 51, rv_r 36], [rv_r 51, rv_i 0 0, rv_r 37], []), [5], 12, [], []),
  (5, ([rv_r 51, rv_r 36], [rv_r 52, rv_i 0 0, rv_r 37], []), [6], 11, [], []),
  (6, ([rv_r 51, rv_r 36], [rv_i 0 0, rv_r 52, rv_i 0 0, rv_r 37], []), [7], 10, [], []),
  (7, ([rv_r 51, rv_r 36], [rv_i 9 9, rv_i 0 0, rv_r 52, rv_i 0 0, rv_r 37], []), [8], 9, [], [0]),
  (8, ([rv_r 51, rv_r 36], [], []), [9], 8, [], []),
  (9, ([rv_r 51, rv_r 36], [rv_r 36], []), [10], 7, [], []),
  (10, ([rv_r 51, rv_r 36], [rv_r 38], []), [11], 6, [], []),
  (11, ([rv_r 51, rv_r 36], [rv_i 0 0, rv_r 38], []), [12], 5, [], []),
  (12, ([rv_r 51, rv_r 36], [rv_r 51, rv_i 0 0, rv_r 38], []), [13], 4, [], []),
  (13, ([rv_r 51, rv_r 36], [rv_r 53, rv_i 0 0, rv_r 38], []), [14], 3, [], []),
  (14, ([rv_r 51, rv_r 36], [rv_i 0 0, rv_r 53, rv_i 0 0, rv_r 38], []), [15], 2, [], []),
  (15, ([rv_r 51, rv_r 36], [rv_i 9 9, rv_i 0 0, rv_r 53, rv_i 0 0, rv_r 38], []), [16], 1, [], [1])]
def n_X2_takeMoving_1_1 : List rv_N := [
  (16, ([rv_r 51, rv_r 36], [], []), [], 0, [], [])]
def n_X2_takeMoving_1 : List rv_N := n_X2_takeMoving_1_0 ++ (n_X2_takeMoving_1_1)
noncomputable def gn_X2_takeMoving_1 : Nat → Option rv_N := rv_ap 16 (rv_at n_X2_takeMoving_1_0) (rv_at n_X2_takeMoving_1_1)
theorem hn_X2_takeMoving_1 : ∀ i : Nat, n_X2_takeMoving_1[i]? = gn_X2_takeMoving_1 i := rv_ap_eq (l := n_X2_takeMoving_1_0) (c := 16) (rv_at_eq n_X2_takeMoving_1_1) rfl
set_option maxRecDepth 100000 in
theorem a_X2_takeMoving_1 : rv_all (fm_tm, flX2, fm_wr, kcX2, klX2, K_X2_takeMoving_1.2.2.1, [], 2) ct_X2_takeMoving_1 cd_X2_takeMoving n_X2_takeMoving_1 K_X2_takeMoving_1 [] 0 n_X2_takeMoving_1 = true := rv_fast hn_X2_takeMoving_1 (rv_at_eq cd_X2_takeMoving) (by decide +kernel)
theorem m_X2_takeMoving_1 {l : Launch} {D : va_G} {ad : Nat → Nat} {cy : Nat → ClassId} {Z : State → Heap → Prop} {Gp : fm_V → Prop} (hAd : fm_Ad fm_tm ad) (hZ : fm_Zk (fm_A fm_tm ad) Z) (hGd : fm_Gd Gp) : rv_Met l D fm_cl fm_tm ad cy fm_nt Z Gp yX2_takeMoving (.code yX2_takeMoving prog_4_method_3_code 2 none :: fm_Ts) { frames := 1, cells := 0, slots := 0, locals := 100 } K_X2_takeMoving_1 := rv_met hAd hZ (Or.inl (by decide +kernel)) evX2 dc_X2_takeMoving a_X2_takeMoving_1 ⟨rfl, rfl, rfl⟩ (by decide +kernel) (by decide +kernel) (by decide) (fm_gm hGd (by decide +kernel)) (rfl) (fun p e s m args below meth c Q X Y => List.forall_mem_cons.mpr ⟨rv_ctC X dc_X2_takeMoving (pc := 12) (i := 7) (idx := 28) rfl wl_X2_28 fm_acw (by decide +kernel) (a := 37) (b := 52) (n := 9) ⟨rfl, rfl⟩ (by decide) rfl, List.forall_mem_cons.mpr ⟨rv_ctC X dc_X2_takeMoving (pc := 27) (i := 15) (idx := 28) rfl wl_X2_28 fm_acw (by decide +kernel) (a := 38) (b := 53) (n := 9) ⟨rfl, rfl⟩ (by decide) rfl, fun _ h => absurd h List.not_mem_nil⟩⟩) (fun _ _ _ _ _ _ _ _ _ _ _ _ _ _ _ _ h => absurd h List.not_mem_nil)
def K_X0_takeMoving_1 : rv_K := ([rv_r 41, rv_r 26], [], [(41, 9), (41, 10), (41, 11), (41, 12), (41, 13), (42, 9999), (47, 9999), (52, 9999), (53, 9999)], [], [], [])
def ct_X0_takeMoving_1 : List (Nat × rv_K) := [(4, K_X2_takeMoving_1), (12, ([rv_r 27, rv_i 0 0, rv_r 42, rv_i 0 0, rv_i 20 20], [], [(42, 9999)], [], [], [])), (20, ([rv_r 32, rv_i 0 0, rv_r 47, rv_i 0 0, rv_i 6 6], [], [(47, 9999)], [], [], []))]
def n_X0_takeMoving_1_0 : List rv_N := [
  (0, ([rv_r 41, rv_r 26], [], []), [1], 41, [], []),
  (1, ([rv_r 41, rv_r 26], [rv_r 41], []), [2], 40, [], []),
  (2, ([rv_r 41, rv_r 26], [rv_r 51], []), [3], 39, [], []),
  (3, ([rv_r 41, rv_r 26], [rv_r 26, rv_r 51], []), [4], 38, [], []),
  (4, ([rv_r 41, rv_r 26], [rv_r 36, rv_r 51], []), [5], 37, [], [0]),
  (5, ([rv_r 41, rv_r 26], [], []), [6], 36, [], []),
  (6, ([rv_r 41, rv_r 26], [rv_r 26], []), [7], 35, [], []),
  (7, ([rv_r 41, rv_r 26], [rv_r 27], []), [8], 34, [], []),
  (8, ([rv_r 41, rv_r 26], [rv_i 0 0, rv_r 27], []), [9], 33, [], []),
  (9, ([rv_r 41, rv_r 26], [rv_r 41, rv_i 0 0, rv_r 27], []), [10], 32, [], []),
  (10, ([rv_r 41, rv_r 26], [rv_r 42, rv_i 0 0, rv_r 27], []), [11], 31, [], []),
  (11, ([rv_r 41, rv_r 26], [rv_i 0 0, rv_r 42, rv_i 0 0, rv_r 27], []), [12], 30, [], []),
  (12, ([rv_r 41, rv_r 26], [rv_i 20 20, rv_i 0 0, rv_r 42, rv_i 0 0, rv_r 27], []), [13], 29, [], [1]),
  (13, ([rv_r 41, rv_r 26], [], []), [14], 28, [], []),
  (14, ([rv_r 41, rv_r 26], [rv_r 26], []), [15], 27, [], []),
  (15, ([rv_r 41, rv_r 26], [rv_r 32], []), [16], 26, [], [])]
def n_X0_takeMoving_1_1 : List rv_N := [
  (16, ([rv_r 41, rv_r 26], [rv_i 0 0, rv_r 32], []), [17], 25, [], []),
  (17, ([rv_r 41, rv_r 26], [rv_r 41, rv_i 0 0, rv_r 32], []), [18], 24, [], []),
  (18, ([rv_r 41, rv_r 26], [rv_r 47, rv_i 0 0, rv_r 32], []), [19], 23, [], []),
  (19, ([rv_r 41, rv_r 26], [rv_i 0 0, rv_r 47, rv_i 0 0, rv_r 32], []), [20], 22, [], []),
  (20, ([rv_r 41, rv_r 26], [rv_i 6 6, rv_i 0 0, rv_r 47, rv_i 0 0, rv_r 32], []), [21], 21, [], [2]),
  (21, ([rv_r 41, rv_r 26], [], []), [22], 20, [], []),
  (22, ([rv_r 41, rv_r 26], [rv_r 41], []), [23], 19, [], []),
  (23, ([rv_r 41, rv_r 26], [rv_r 26, rv_r 41], []), [24], 18, [], []),
  (24, ([rv_r 41, rv_r 26], [(1, 0, (-2147483648), 2147483647, [(.inr (26, 9), 0)], []), rv_r 41], []), [25], 17, [], []),
  (25, ([rv_r 41, rv_r 26], [], []), [26], 16, [], []),
  (26, ([rv_r 41, rv_r 26], [rv_r 41], []), [27], 15, [], []),
  (27, ([rv_r 41, rv_r 26], [rv_r 26, rv_r 41], []), [28], 14, [], []),
  (28, ([rv_r 41, rv_r 26], [(1, 0, (-2147483648), 2147483647, [(.inr (26, 10), 0)], []), rv_r 41], []), [29], 13, [], []),
  (29, ([rv_r 41, rv_r 26], [], []), [30], 12, [], []),
  (30, ([rv_r 41, rv_r 26], [rv_r 41], []), [31], 11, [], []),
  (31, ([rv_r 41, rv_r 26], [rv_r 26, rv_r 41], []), [32], 10, [], [])]
def n_X0_takeMoving_1_2 : List rv_N := [
  (32, ([rv_r 41, rv_r 26], [(1, 0, (-2147483648), 2147483647, [(.inr (26, 11), 0)], []), rv_r 41], []), [33], 9, [], []),
  (33, ([rv_r 41, rv_r 26], [], []), [34], 8, [], []),
  (34, ([rv_r 41, rv_r 26], [rv_r 41], []), [35], 7, [], []),
  (35, ([rv_r 41, rv_r 26], [rv_r 26, rv_r 41], []), [36], 6, [], []),
  (36, ([rv_r 41, rv_r 26], [(1, 0, (-2147483648), 2147483647, [(.inr (26, 12), 0)], []), rv_r 41], []), [37], 5, [], []),
  (37, ([rv_r 41, rv_r 26], [], []), [38], 4, [], []),
  (38, ([rv_r 41, rv_r 26], [rv_r 41], []), [39], 3, [], []),
  (39, ([rv_r 41, rv_r 26], [rv_r 26, rv_r 41], []), [40], 2, [], []),
  (40, ([rv_r 41, rv_r 26], [(1, 0, (-2147483648), 2147483647, [(.inr (26, 13), 0)], []), rv_r 41], []), [41], 1, [], []),
  (41, ([rv_r 41, rv_r 26], [], []), [], 0, [], [])]
def n_X0_takeMoving_1 : List rv_N := n_X0_takeMoving_1_0 ++ (n_X0_takeMoving_1_1 ++ (n_X0_takeMoving_1_2))
noncomputable def gn_X0_takeMoving_1 : Nat → Option rv_N := rv_ap 16 (rv_at n_X0_takeMoving_1_0) (rv_ap 16 (rv_at n_X0_takeMoving_1_1) (rv_at n_X0_takeMoving_1_2))
theorem hn_X0_takeMoving_1 : ∀ i : Nat, n_X0_takeMoving_1[i]? = gn_X0_takeMoving_1 i := rv_ap_eq (l := n_X0_takeMoving_1_0) (c := 16) (rv_ap_eq (l := n_X0_takeMoving_1_1) (c := 16) (rv_at_eq n_X0_takeMoving_1_2) rfl) rfl
set_option maxRecDepth 100000 in
theorem a_X0_takeMoving_1 : rv_all (fm_tm, flX0, fm_wr, kcX0, klX0, K_X0_takeMoving_1.2.2.1, [], 2) ct_X0_takeMoving_1 cd_X0_takeMoving n_X0_takeMoving_1 K_X0_takeMoving_1 [] 0 n_X0_takeMoving_1 = true := rv_fast hn_X0_takeMoving_1 hc_X0_takeMoving (by decide +kernel)
theorem m_X0_takeMoving_1 {l : Launch} {D : va_G} {ad : Nat → Nat} {cy : Nat → ClassId} {Z : State → Heap → Prop} {Gp : fm_V → Prop} (hAd : fm_Ad fm_tm ad) (hZ : fm_Zk (fm_A fm_tm ad) Z) (hGd : fm_Gd Gp) : rv_Met l D fm_cl fm_tm ad cy fm_nt Z Gp yX0_takeMoving (.code yX0_takeMoving prog_2_method_3_code 2 none :: fm_Ts) { frames := 2, cells := 0, slots := 0, locals := 200 } K_X0_takeMoving_1 := rv_met hAd hZ (Or.inl (by decide +kernel)) evX0 dc_X0_takeMoving a_X0_takeMoving_1 ⟨rfl, rfl, rfl⟩ (by decide +kernel) (by decide +kernel) (by decide) (fm_gm hGd (by decide +kernel)) (rfl) (fun p e s m args below meth c Q X Y => List.forall_mem_cons.mpr ⟨rv_ctV X Y fm_Ts_good dc_X0_takeMoving (pc := 8) (i := 4) (idx := 92) rfl (m_X2_takeMoving_1 hAd hZ hGd) wl_X0_92 wm_X2_takeMoving wy_X2_takeMoving (by decide) ⟨rfl, rfl, rfl⟩ ⟨rfl, rfl⟩, List.forall_mem_cons.mpr ⟨rv_ctC X dc_X0_takeMoving (pc := 23) (i := 12) (idx := 86) rfl wl_X0_86 fm_acw (by decide +kernel) (a := 27) (b := 42) (n := 20) ⟨rfl, rfl⟩ (by decide) rfl, List.forall_mem_cons.mpr ⟨rv_ctC X dc_X0_takeMoving (pc := 38) (i := 20) (idx := 86) rfl wl_X0_86 fm_acw (by decide +kernel) (a := 32) (b := 47) (n := 6) ⟨rfl, rfl⟩ (by decide) rfl, fun _ h => absurd h List.not_mem_nil⟩⟩⟩) (fun _ _ _ _ _ _ _ _ _ _ _ _ _ _ _ _ h => absurd h List.not_mem_nil)
def K_X2_takeAll_1 : rv_K := ([rv_r 51, rv_r 36], [], [(51, 0), (54, 9999), (55, 9999)], [], [], [])
def ct_X2_takeAll_1 : List (Nat × rv_K) := [(11, ([rv_r 39, rv_i 0 0, rv_r 54, rv_i 0 0, rv_i 9 9], [], [(54, 9999)], [], [], [])), (19, ([rv_r 40, rv_i 0 0, rv_r 55, rv_i 0 0, rv_i 9 9], [], [(55, 9999)], [], [], []))]
def n_X2_takeAll_1_0 : List rv_N := [
  (0, ([rv_r 51, rv_r 36], [], []), [1], 20, [], []),
  (1, ([rv_r 51, rv_r 36], [rv_r 51], []), [2], 19, [], []),
  (2, ([rv_r 51, rv_r 36], [rv_r 36, rv_r 51], []), [3], 18, [], []),
  (3, ([rv_r 51, rv_r 36], [(1, 0, (-2147483648), 2147483647, [(.inr (36, 0), 0)], []), rv_r 51], []), [4], 17, [], []),
  (4, ([rv_r 51, rv_r 36], [], []), [5], 16, [], []),
  (5, ([rv_r 51, rv_r 36], [rv_r 36], []), [6], 15, [], []),
  (6, ([rv_r 51, rv_r 36], [rv_r 39], []), [7], 14, [], []),
  (7, ([rv_r 51, rv_r 36], [rv_i 0 0, rv_r 39], []), [8], 13, [], []),
  (8, ([rv_r 51, rv_r 36], [rv_r 51, rv_i 0 0, rv_r 39], []), [9], 12, [], []),
  (9, ([rv_r 51, rv_r 36], [rv_r 54, rv_i 0 0, rv_r 39], []), [10], 11, [], []),
  (10, ([rv_r 51, rv_r 36], [rv_i 0 0, rv_r 54, rv_i 0 0, rv_r 39], []), [11], 10, [], []),
  (11, ([rv_r 51, rv_r 36], [rv_i 9 9, rv_i 0 0, rv_r 54, rv_i 0 0, rv_r 39], []), [12], 9, [], [0]),
  (12, ([rv_r 51, rv_r 36], [], []), [13], 8, [], []),
  (13, ([rv_r 51, rv_r 36], [rv_r 36], []), [14], 7, [], []),
  (14, ([rv_r 51, rv_r 36], [rv_r 40], []), [15], 6, [], []),
  (15, ([rv_r 51, rv_r 36], [rv_i 0 0, rv_r 40], []), [16], 5, [], [])]
def n_X2_takeAll_1_1 : List rv_N := [
  (16, ([rv_r 51, rv_r 36], [rv_r 51, rv_i 0 0, rv_r 40], []), [17], 4, [], []),
  (17, ([rv_r 51, rv_r 36], [rv_r 55, rv_i 0 0, rv_r 40], []), [18], 3, [], []),
  (18, ([rv_r 51, rv_r 36], [rv_i 0 0, rv_r 55, rv_i 0 0, rv_r 40], []), [19], 2, [], []),
  (19, ([rv_r 51, rv_r 36], [rv_i 9 9, rv_i 0 0, rv_r 55, rv_i 0 0, rv_r 40], []), [20], 1, [], [1]),
  (20, ([rv_r 51, rv_r 36], [], []), [], 0, [], [])]
def n_X2_takeAll_1 : List rv_N := n_X2_takeAll_1_0 ++ (n_X2_takeAll_1_1)
noncomputable def gn_X2_takeAll_1 : Nat → Option rv_N := rv_ap 16 (rv_at n_X2_takeAll_1_0) (rv_at n_X2_takeAll_1_1)
theorem hn_X2_takeAll_1 : ∀ i : Nat, n_X2_takeAll_1[i]? = gn_X2_takeAll_1 i := rv_ap_eq (l := n_X2_takeAll_1_0) (c := 16) (rv_at_eq n_X2_takeAll_1_1) rfl
set_option maxRecDepth 100000 in
theorem a_X2_takeAll_1 : rv_all (fm_tm, flX2, fm_wr, kcX2, klX2, K_X2_takeAll_1.2.2.1, [], 2) ct_X2_takeAll_1 cd_X2_takeAll n_X2_takeAll_1 K_X2_takeAll_1 [] 0 n_X2_takeAll_1 = true := rv_fast hn_X2_takeAll_1 (rv_at_eq cd_X2_takeAll) (by decide +kernel)
theorem m_X2_takeAll_1 {l : Launch} {D : va_G} {ad : Nat → Nat} {cy : Nat → ClassId} {Z : State → Heap → Prop} {Gp : fm_V → Prop} (hAd : fm_Ad fm_tm ad) (hZ : fm_Zk (fm_A fm_tm ad) Z) (hGd : fm_Gd Gp) : rv_Met l D fm_cl fm_tm ad cy fm_nt Z Gp yX2_takeAll (.code yX2_takeAll prog_4_method_2_code 2 none :: fm_Ts) { frames := 1, cells := 0, slots := 0, locals := 100 } K_X2_takeAll_1 := rv_met hAd hZ (Or.inl (by decide +kernel)) evX2 dc_X2_takeAll a_X2_takeAll_1 ⟨rfl, rfl, rfl⟩ (by decide +kernel) (by decide +kernel) (by decide) (fm_gm hGd (by decide +kernel)) (rfl) (fun p e s m args below meth c Q X Y => List.forall_mem_cons.mpr ⟨rv_ctC X dc_X2_takeAll (pc := 20) (i := 11) (idx := 28) rfl wl_X2_28 fm_acw (by decide +kernel) (a := 39) (b := 54) (n := 9) ⟨rfl, rfl⟩ (by decide) rfl, List.forall_mem_cons.mpr ⟨rv_ctC X dc_X2_takeAll (pc := 35) (i := 19) (idx := 28) rfl wl_X2_28 fm_acw (by decide +kernel) (a := 40) (b := 55) (n := 9) ⟨rfl, rfl⟩ (by decide) rfl, fun _ h => absurd h List.not_mem_nil⟩⟩) (fun _ _ _ _ _ _ _ _ _ _ _ _ _ _ _ _ h => absurd h List.not_mem_nil)
def K_X0_takeAll_1 : rv_K := ([rv_r 41, rv_r 26], [], [(41, 9), (41, 10), (41, 11), (41, 12), (41, 13), (41, 14), (41, 15), (42, 9999), (43, 9999), (44, 9999), (45, 9999), (46, 9999), (47, 9999), (48, 9999), (49, 9999), (51, 0), (52, 9999), (53, 9999), (54, 9999), (55, 9999)], [], [], [])
def ct_X0_takeAll_1 : List (Nat × rv_K) := [(2, K_X0_takeMoving_1), (7, K_X2_takeAll_1), (15, ([rv_r 28, rv_i 0 0, rv_r 43, rv_i 0 0, rv_i 20 20], [], [(43, 9999)], [], [], [])), (23, ([rv_r 29, rv_i 0 0, rv_r 44, rv_i 0 0, rv_i 20 20], [], [(44, 9999)], [], [], [])), (31, ([rv_r 30, rv_i 0 0, rv_r 45, rv_i 0 0, rv_i 20 20], [], [(45, 9999)], [], [], [])), (39, ([rv_r 31, rv_i 0 0, rv_r 46, rv_i 0 0, rv_i 6 6], [], [(46, 9999)], [], [], [])), (47, ([rv_r 33, rv_i 0 0, rv_r 48, rv_i 0 0, rv_i 100 100], [], [(48, 9999)], [], [], [])), (55, ([rv_r 34, rv_i 0 0, rv_r 49, rv_i 0 0, rv_i 180 180], [], [(49, 9999)], [], [], []))]
def n_X0_takeAll_1_0 : List rv_N := [
  (0, ([rv_r 41, rv_r 26], [], []), [1], 62, [], []),
  (1, ([rv_r 41, rv_r 26], [rv_r 41], []), [2], 61, [], []),
  (2, ([rv_r 41, rv_r 26], [rv_r 26, rv_r 41], []), [3], 60, [], [0]),
  (3, ([rv_r 41, rv_r 26], [], []), [4], 59, [], []),
  (4, ([rv_r 41, rv_r 26], [rv_r 41], []), [5], 58, [], []),
  (5, ([rv_r 41, rv_r 26], [rv_r 51], []), [6], 57, [], []),
  (6, ([rv_r 41, rv_r 26], [rv_r 26, rv_r 51], []), [7], 56, [], []),
  (7, ([rv_r 41, rv_r 26], [rv_r 36, rv_r 51], []), [8], 55, [], [1]),
  (8, ([rv_r 41, rv_r 26], [], []), [9], 54, [], []),
  (9, ([rv_r 41, rv_r 26], [rv_r 26], []), [10], 53, [], []),
  (10, ([rv_r 41, rv_r 26], [rv_r 28], []), [11], 52, [], []),
  (11, ([rv_r 41, rv_r 26], [rv_i 0 0, rv_r 28], []), [12], 51, [], []),
  (12, ([rv_r 41, rv_r 26], [rv_r 41, rv_i 0 0, rv_r 28], []), [13], 50, [], []),
  (13, ([rv_r 41, rv_r 26], [rv_r 43, rv_i 0 0, rv_r 28], []), [14], 49, [], []),
  (14, ([rv_r 41, rv_r 26], [rv_i 0 0, rv_r 43, rv_i 0 0, rv_r 28], []), [15], 48, [], []),
  (15, ([rv_r 41, rv_r 26], [rv_i 20 20, rv_i 0 0, rv_r 43, rv_i 0 0, rv_r 28], []), [16], 47, [], [2])]
def n_X0_takeAll_1_1 : List rv_N := [
  (16, ([rv_r 41, rv_r 26], [], []), [17], 46, [], []),
  (17, ([rv_r 41, rv_r 26], [rv_r 26], []), [18], 45, [], []),
  (18, ([rv_r 41, rv_r 26], [rv_r 29], []), [19], 44, [], []),
  (19, ([rv_r 41, rv_r 26], [rv_i 0 0, rv_r 29], []), [20], 43, [], []),
  (20, ([rv_r 41, rv_r 26], [rv_r 41, rv_i 0 0, rv_r 29], []), [21], 42, [], []),
  (21, ([rv_r 41, rv_r 26], [rv_r 44, rv_i 0 0, rv_r 29], []), [22], 41, [], []),
  (22, ([rv_r 41, rv_r 26], [rv_i 0 0, rv_r 44, rv_i 0 0, rv_r 29], []), [23], 40, [], []),
  (23, ([rv_r 41, rv_r 26], [rv_i 20 20, rv_i 0 0, rv_r 44, rv_i 0 0, rv_r 29], []), [24], 39, [], [3]),
  (24, ([rv_r 41, rv_r 26], [], []), [25], 38, [], []),
  (25, ([rv_r 41, rv_r 26], [rv_r 26], []), [26], 37, [], []),
  (26, ([rv_r 41, rv_r 26], [rv_r 30], []), [27], 36, [], []),
  (27, ([rv_r 41, rv_r 26], [rv_i 0 0, rv_r 30], []), [28], 35, [], []),
  (28, ([rv_r 41, rv_r 26], [rv_r 41, rv_i 0 0, rv_r 30], []), [29], 34, [], []),
  (29, ([rv_r 41, rv_r 26], [rv_r 45, rv_i 0 0, rv_r 30], []), [30], 33, [], []),
  (30, ([rv_r 41, rv_r 26], [rv_i 0 0, rv_r 45, rv_i 0 0, rv_r 30], []), [31], 32, [], []),
  (31, ([rv_r 41, rv_r 26], [rv_i 20 20, rv_i 0 0, rv_r 45, rv_i 0 0, rv_r 30], []), [32], 31, [], [4])]
def n_X0_takeAll_1_2 : List rv_N := [
  (32, ([rv_r 41, rv_r 26], [], []), [33], 30, [], []),
  (33, ([rv_r 41, rv_r 26], [rv_r 26], []), [34], 29, [], []),
  (34, ([rv_r 41, rv_r 26], [rv_r 31], []), [35], 28, [], []),
  (35, ([rv_r 41, rv_r 26], [rv_i 0 0, rv_r 31], []), [36], 27, [], []),
  (36, ([rv_r 41, rv_r 26], [rv_r 41, rv_i 0 0, rv_r 31], []), [37], 26, [], []),
  (37, ([rv_r 41, rv_r 26], [rv_r 46, rv_i 0 0, rv_r 31], []), [38], 25, [], []),
  (38, ([rv_r 41, rv_r 26], [rv_i 0 0, rv_r 46, rv_i 0 0, rv_r 31], []), [39], 24, [], []),
  (39, ([rv_r 41, rv_r 26], [rv_i 6 6, rv_i 0 0, rv_r 46, rv_i 0 0, rv_r 31], []), [40], 23, [], [5]),
  (40, ([rv_r 41, rv_r 26], [], []), [41], 22, [], []),
  (41, ([rv_r 41, rv_r 26], [rv_r 26], []), [42], 21, [], []),
  (42, ([rv_r 41, rv_r 26], [rv_r 33], []), [43], 20, [], []),
  (43, ([rv_r 41, rv_r 26], [rv_i 0 0, rv_r 33], []), [44], 19, [], []),
  (44, ([rv_r 41, rv_r 26], [rv_r 41, rv_i 0 0, rv_r 33], []), [45], 18, [], []),
  (45, ([rv_r 41, rv_r 26], [rv_r 48, rv_i 0 0, rv_r 33], []), [46], 17, [], []),
  (46, ([rv_r 41, rv_r 26], [rv_i 0 0, rv_r 48, rv_i 0 0, rv_r 33], []), [47], 16, [], []),
  (47, ([rv_r 41, rv_r 26], [rv_i 100 100, rv_i 0 0, rv_r 48, rv_i 0 0, rv_r 33], []), [48], 15, [], [6])]
def n_X0_takeAll_1_3 : List rv_N := [
  (48, ([rv_r 41, rv_r 26], [], []), [49], 14, [], []),
  (49, ([rv_r 41, rv_r 26], [rv_r 26], []), [50], 13, [], []),
  (50, ([rv_r 41, rv_r 26], [rv_r 34], []), [51], 12, [], []),
  (51, ([rv_r 41, rv_r 26], [rv_i 0 0, rv_r 34], []), [52], 11, [], []),
  (52, ([rv_r 41, rv_r 26], [rv_r 41, rv_i 0 0, rv_r 34], []), [53], 10, [], []),
  (53, ([rv_r 41, rv_r 26], [rv_r 49, rv_i 0 0, rv_r 34], []), [54], 9, [], []),
  (54, ([rv_r 41, rv_r 26], [rv_i 0 0, rv_r 49, rv_i 0 0, rv_r 34], []), [55], 8, [], []),
  (55, ([rv_r 41, rv_r 26], [rv_i 180 180, rv_i 0 0, rv_r 49, rv_i 0 0, rv_r 34], []), [56], 7, [], [7]),
  (56, ([rv_r 41, rv_r 26], [], []), [57], 6, [], []),
  (57, ([rv_r 41, rv_r 26], [rv_r 41], []), [58], 5, [], []),
  (58, ([rv_r 41, rv_r 26], [rv_i 1 1, rv_r 41], []), [59], 4, [], []),
  (59, ([rv_r 41, rv_r 26], [], [((41, 14), 1, 1, [])]), [60], 3, [], []),
  (60, ([rv_r 41, rv_r 26], [rv_r 41], [((41, 14), 1, 1, [])]), [61], 2, [], []),
  (61, ([rv_r 41, rv_r 26], [rv_i 6 6, rv_r 41], [((41, 14), 1, 1, [])]), [62], 1, [], []),
  (62, ([rv_r 41, rv_r 26], [], [((41, 14), 1, 1, []), ((41, 15), 6, 6, [])]), [], 0, [], [])]
def n_X0_takeAll_1 : List rv_N := n_X0_takeAll_1_0 ++ (n_X0_takeAll_1_1 ++ (n_X0_takeAll_1_2 ++ (n_X0_takeAll_1_3)))
noncomputable def gn_X0_takeAll_1 : Nat → Option rv_N := rv_ap 16 (rv_at n_X0_takeAll_1_0) (rv_ap 16 (rv_at n_X0_takeAll_1_1) (rv_ap 16 (rv_at n_X0_takeAll_1_2) (rv_at n_X0_takeAll_1_3)))
theorem hn_X0_takeAll_1 : ∀ i : Nat, n_X0_takeAll_1[i]? = gn_X0_takeAll_1 i := rv_ap_eq (l := n_X0_takeAll_1_0) (c := 16) (rv_ap_eq (l := n_X0_takeAll_1_1) (c := 16) (rv_ap_eq (l := n_X0_takeAll_1_2) (c := 16) (rv_at_eq n_X0_takeAll_1_3) rfl) rfl) rfl
set_option maxRecDepth 100000 in
theorem a_X0_takeAll_1 : rv_all (fm_tm, flX0, fm_wr, kcX0, klX0, K_X0_takeAll_1.2.2.1, [], 2) ct_X0_takeAll_1 cd_X0_takeAll n_X0_takeAll_1 K_X0_takeAll_1 [] 0 n_X0_takeAll_1 = true := rv_fast hn_X0_takeAll_1 hc_X0_takeAll (by decide +kernel)
theorem m_X0_takeAll_1 {l : Launch} {D : va_G} {ad : Nat → Nat} {cy : Nat → ClassId} {Z : State → Heap → Prop} {Gp : fm_V → Prop} (hAd : fm_Ad fm_tm ad) (hZ : fm_Zk (fm_A fm_tm ad) Z) (hGd : fm_Gd Gp) : rv_Met l D fm_cl fm_tm ad cy fm_nt Z Gp yX0_takeAll (.code yX0_takeAll prog_2_method_2_code 2 none :: fm_Ts) { frames := 3, cells := 0, slots := 0, locals := 300 } K_X0_takeAll_1 := rv_met hAd hZ (Or.inl (by decide +kernel)) evX0 dc_X0_takeAll a_X0_takeAll_1 ⟨rfl, rfl, rfl⟩ (by decide +kernel) (by decide +kernel) (by decide) (fm_gm hGd (by decide +kernel)) (rfl) (fun p e s m args below meth c Q X Y => List.forall_mem_cons.mpr ⟨rv_ctV X Y fm_Ts_good dc_X0_takeAll (pc := 2) (i := 2) (idx := 78) rfl (m_X0_takeMoving_1 hAd hZ hGd) wl_X0_78 wm_X0_takeMoving wy_X0_takeMoving (by decide) ⟨rfl, rfl, rfl⟩ ⟨rfl, rfl⟩, List.forall_mem_cons.mpr ⟨rv_ctV X Y fm_Ts_good dc_X0_takeAll (pc := 13) (i := 7) (idx := 82) rfl (m_X2_takeAll_1 hAd hZ hGd) wl_X0_82 wm_X2_takeAll wy_X2_takeAll (by decide) ⟨rfl, rfl, rfl⟩ ⟨rfl, rfl⟩, List.forall_mem_cons.mpr ⟨rv_ctC X dc_X0_takeAll (pc := 28) (i := 15) (idx := 86) rfl wl_X0_86 fm_acw (by decide +kernel) (a := 28) (b := 43) (n := 20) ⟨rfl, rfl⟩ (by decide) rfl, List.forall_mem_cons.mpr ⟨rv_ctC X dc_X0_takeAll (pc := 43) (i := 23) (idx := 86) rfl wl_X0_86 fm_acw (by decide +kernel) (a := 29) (b := 44) (n := 20) ⟨rfl, rfl⟩ (by decide) rfl, List.forall_mem_cons.mpr ⟨rv_ctC X dc_X0_takeAll (pc := 58) (i := 31) (idx := 86) rfl wl_X0_86 fm_acw (by decide +kernel) (a := 30) (b := 45) (n := 20) ⟨rfl, rfl⟩ (by decide) rfl, List.forall_mem_cons.mpr ⟨rv_ctC X dc_X0_takeAll (pc := 73) (i := 39) (idx := 86) rfl wl_X0_86 fm_acw (by decide +kernel) (a := 31) (b := 46) (n := 6) ⟨rfl, rfl⟩ (by decide) rfl, List.forall_mem_cons.mpr ⟨rv_ctC X dc_X0_takeAll (pc := 88) (i := 47) (idx := 86) rfl wl_X0_86 fm_acw (by decide +kernel) (a := 33) (b := 48) (n := 100) ⟨rfl, rfl⟩ (by decide) rfl, List.forall_mem_cons.mpr ⟨rv_ctC X dc_X0_takeAll (pc := 104) (i := 55) (idx := 86) rfl wl_X0_86 fm_acw (by decide +kernel) (a := 34) (b := 49) (n := 180) ⟨rfl, rfl⟩ (by decide) rfl, fun _ h => absurd h List.not_mem_nil⟩⟩⟩⟩⟩⟩⟩⟩) (fun _ _ _ _ _ _ _ _ _ _ _ _ _ _ _ _ h => absurd h List.not_mem_nil)
def cd_X6_take : List (Nat × Instr × Nat) := [(0, .aload_n 1, 1), (1, .getfield 9, 3), (4, .iconst 0, 1), (5, .aload_n 0, 1), (6, .getfield 9, 3), (9, .iconst 0, 1), (10, .sipush 220, 3), (13, .invokestatic 23, 3), (16, .aload_n 0, 1), (17, .aload_n 1, 1), (18, .getfield 15, 3), (21, .putfield 15, 3), (24, .return_, 1)]
theorem dc_X6_take : ∀ q ∈ cd_X6_take, decode prog_8_method_6_code q.1 = .ok (q.2.1, q.2.2) := by decide +kernel
def K_X6_take_0 : rv_K := ([rv_r 5, rv_r 3], [], [(5, 1), (6, 9999)], [], [], [])
def ct_X6_take_0 : List (Nat × rv_K) := [(7, ([rv_r 4, rv_i 0 0, rv_r 6, rv_i 0 0, rv_i 220 220], [], [(6, 9999)], [], [], []))]
def n_X6_take_0 : List rv_N := [
  (0, ([rv_r 5, rv_r 3], [], []), [1], 12, [], []),
  (1, ([rv_r 5, rv_r 3], [rv_r 3], []), [2], 11, [], []),
  (2, ([rv_r 5, rv_r 3], [rv_r 4], []), [3], 10, [], []),
  (3, ([rv_r 5, rv_r 3], [rv_i 0 0, rv_r 4], []), [4], 9, [], []),
  (4, ([rv_r 5, rv_r 3], [rv_r 5, rv_i 0 0, rv_r 4], []), [5], 8, [], []),
  (5, ([rv_r 5, rv_r 3], [rv_r 6, rv_i 0 0, rv_r 4], []), [6], 7, [], []),
  (6, ([rv_r 5, rv_r 3], [rv_i 0 0, rv_r 6, rv_i 0 0, rv_r 4], []), [7], 6, [], []),
  (7, ([rv_r 5, rv_r 3], [rv_i 220 220, rv_i 0 0, rv_r 6, rv_i 0 0, rv_r 4], []), [8], 5, [], [0]),
  (8, ([rv_r 5, rv_r 3], [], []), [9], 4, [], []),
  (9, ([rv_r 5, rv_r 3], [rv_r 5], []), [10], 3, [], []),
  (10, ([rv_r 5, rv_r 3], [rv_r 3, rv_r 5], []), [11], 2, [], []),
  (11, ([rv_r 5, rv_r 3], [(1, 0, (-2147483648), 2147483647, [(.inr (3, 1), 0)], []), rv_r 5], []), [12], 1, [], []),
  (12, ([rv_r 5, rv_r 3], [], []), [], 0, [], [])]
set_option maxRecDepth 100000 in
theorem a_X6_take_0 : rv_all (fm_tm, flX6, fm_wr, kcX6, klX6, K_X6_take_0.2.2.1, [], 2) ct_X6_take_0 cd_X6_take n_X6_take_0 K_X6_take_0 [] 0 n_X6_take_0 = true := rv_fast (rv_at_eq n_X6_take_0) (rv_at_eq cd_X6_take) (by decide +kernel)
theorem m_X6_take_0 {l : Launch} {D : va_G} {ad : Nat → Nat} {cy : Nat → ClassId} {Z : State → Heap → Prop} {Gp : fm_V → Prop} (hAd : fm_Ad fm_tm ad) (hZ : fm_Zk (fm_A fm_tm ad) Z) (hGd : fm_Gd Gp) : rv_Met l D fm_cl fm_tm ad cy fm_nt Z Gp yX6_take (.code yX6_take prog_8_method_6_code 2 none :: fm_Ts) { frames := 1, cells := 0, slots := 0, locals := 100 } K_X6_take_0 := rv_met hAd hZ (Or.inl (by decide +kernel)) evX6 dc_X6_take a_X6_take_0 ⟨rfl, rfl, rfl⟩ (by decide +kernel) (by decide +kernel) (by decide) (fm_gm hGd (by decide +kernel)) (rfl) (fun p e s m args below meth c Q X Y => List.forall_mem_cons.mpr ⟨rv_ctC X dc_X6_take (pc := 13) (i := 7) (idx := 23) rfl wl_X6_23 fm_acw (by decide +kernel) (a := 4) (b := 6) (n := 220) ⟨rfl, rfl⟩ (by decide) rfl, fun _ h => absurd h List.not_mem_nil⟩) (fun _ _ _ _ _ _ _ _ _ _ _ _ _ _ _ _ h => absurd h List.not_mem_nil)
def cd_X7_keep : List (Nat × Instr × Nat) := [(0, .aload_n 0, 1), (1, .getfield 42, 3), (4, .aload_n 0, 1), (5, .getfield 38, 3), (8, .invokevirtual 168, 3), (11, .aload_n 0, 1), (12, .getfield 16, 3), (15, .aload_n 0, 1), (16, .getfield 12, 3), (19, .invokevirtual 293, 3), (22, .aload_n 0, 1), (23, .iconst 1, 1), (24, .putfield 71, 3), (27, .aload_n 0, 1), (28, .getfield 38, 3), (31, .getfield 295, 3), (34, .ireturn, 1)]
theorem dc_X7_keep : ∀ q ∈ cd_X7_keep, decode prog_1_method_30_code q.1 = .ok (q.2.1, q.2.2) := by decide +kernel
def K_X7_keep_0 : rv_K := ([rv_r 0], [], [(0, 11), (5, 1), (6, 9999), (41, 9), (41, 10), (41, 11), (41, 12), (41, 13), (41, 14), (41, 15), (42, 9999), (43, 9999), (44, 9999), (45, 9999), (46, 9999), (47, 9999), (48, 9999), (49, 9999), (51, 0), (52, 9999), (53, 9999), (54, 9999), (55, 9999)], [(0, (-2147483648), 2147483647)], [], [])
def ct_X7_keep_0 : List (Nat × rv_K) := [(4, K_X0_takeAll_1), (9, K_X6_take_0)]
def n_X7_keep_0_0 : List rv_N := [
  (0, ([rv_r 0], [], []), [1], 16, [], []),
  (1, ([rv_r 0], [rv_r 0], []), [2], 15, [], []),
  (2, ([rv_r 0], [rv_r 41], []), [3], 14, [], []),
  (3, ([rv_r 0], [rv_r 0, rv_r 41], []), [4], 13, [], []),
  (4, ([rv_r 0], [rv_r 26, rv_r 41], []), [5], 12, [], [0]),
  (5, ([rv_r 0], [], []), [6], 11, [], []),
  (6, ([rv_r 0], [rv_r 0], []), [7], 10, [], []),
  (7, ([rv_r 0], [rv_r 5], []), [8], 9, [], []),
  (8, ([rv_r 0], [rv_r 0, rv_r 5], []), [9], 8, [], []),
  (9, ([rv_r 0], [rv_r 3, rv_r 5], []), [10], 7, [], [1]),
  (10, ([rv_r 0], [], []), [11], 6, [], []),
  (11, ([rv_r 0], [rv_r 0], []), [12], 5, [], []),
  (12, ([rv_r 0], [rv_i 1 1, rv_r 0], []), [13], 4, [], []),
  (13, ([rv_r 0], [], [((0, 11), 1, 1, [])]), [14], 3, [], []),
  (14, ([rv_r 0], [rv_r 0], [((0, 11), 1, 1, [])]), [15], 2, [], []),
  (15, ([rv_r 0], [rv_r 26], [((0, 11), 1, 1, [])]), [16], 1, [], [])]
def n_X7_keep_0_1 : List rv_N := [
  (16, ([rv_r 0], [(1, 0, (-2147483648), 2147483647, [(.inr (26, 9), 0)], [])], [((0, 11), 1, 1, [])]), [], 0, [], [])]
def n_X7_keep_0 : List rv_N := n_X7_keep_0_0 ++ (n_X7_keep_0_1)
noncomputable def gn_X7_keep_0 : Nat → Option rv_N := rv_ap 16 (rv_at n_X7_keep_0_0) (rv_at n_X7_keep_0_1)
theorem hn_X7_keep_0 : ∀ i : Nat, n_X7_keep_0[i]? = gn_X7_keep_0 i := rv_ap_eq (l := n_X7_keep_0_0) (c := 16) (rv_at_eq n_X7_keep_0_1) rfl
set_option maxRecDepth 100000 in
theorem a_X7_keep_0 : rv_all (fm_tm, flX7, fm_wr, kcX7, klX7, K_X7_keep_0.2.2.1, [], 1) ct_X7_keep_0 cd_X7_keep n_X7_keep_0 K_X7_keep_0 [] 0 n_X7_keep_0 = true := rv_fast hn_X7_keep_0 (rv_at_eq cd_X7_keep) (by decide +kernel)
theorem m_X7_keep_0 {l : Launch} {D : va_G} {ad : Nat → Nat} {cy : Nat → ClassId} {Z : State → Heap → Prop} {Gp : fm_V → Prop} (hAd : fm_Ad fm_tm ad) (hZ : fm_Zk (fm_A fm_tm ad) Z) (hGd : fm_Gd Gp) : rv_Met l D fm_cl fm_tm ad cy fm_nt Z Gp yX7_keep (.code yX7_keep prog_1_method_30_code 1 (some .int) :: fm_Ts) { frames := 4, cells := 0, slots := 0, locals := 400 } K_X7_keep_0 := rv_met hAd hZ (Or.inl (by decide +kernel)) evX7 dc_X7_keep a_X7_keep_0 ⟨rfl, rfl, rfl⟩ (by decide +kernel) (by decide +kernel) (by decide) (fm_gm hGd (by decide +kernel)) (Or.inl rfl) (fun p e s m args below meth c Q X Y => List.forall_mem_cons.mpr ⟨rv_ctV X Y fm_Ts_good dc_X7_keep (pc := 8) (i := 4) (idx := 168) rfl (m_X0_takeAll_1 hAd hZ hGd) wl_X7_168 wm_X0_takeAll wy_X0_takeAll (by decide) ⟨rfl, rfl, rfl⟩ ⟨rfl, rfl⟩, List.forall_mem_cons.mpr ⟨rv_ctV X Y fm_Ts_good dc_X7_keep (pc := 19) (i := 9) (idx := 293) rfl (m_X6_take_0 hAd hZ hGd) wl_X7_293 wm_X6_take wy_X6_take (by decide) ⟨rfl, rfl, rfl⟩ ⟨rfl, rfl⟩, fun _ h => absurd h List.not_mem_nil⟩⟩) (fun _ _ _ _ _ _ _ _ _ _ _ _ _ _ _ _ h => absurd h List.not_mem_nil)
def K_X2_takeMoving_2 : rv_K := ([rv_r 36, rv_r 51], [], [(37, 9999), (38, 9999)], [], [], [])
def ct_X2_takeMoving_2 : List (Nat × rv_K) := [(7, ([rv_r 52, rv_i 0 0, rv_r 37, rv_i 0 0, rv_i 9 9], [], [(37, 9999)], [], [], [])), (15, ([rv_r 53, rv_i 0 0, rv_r 38, rv_i 0 0, rv_i 9 9], [], [(38, 9999)], [], [], []))]
def n_X2_takeMoving_2_0 : List rv_N := [
  (0, ([rv_r 36, rv_r 51], [], []), [1], 16, [], []),
  (1, ([rv_r 36, rv_r 51], [rv_r 51], []), [2], 15, [], []),
  (2, ([rv_r 36, rv_r 51], [rv_r 52], []), [3], 14, [], []),
  (3, ([rv_r 36, rv_r 51], [rv_i 0 0, rv_r 52], []), [4], 13, [], []),
  (4, ([rv_r 36, rv_r 51], [rv_r 36, rv_i 0 0, rv_r 52], []), [5], 12, [], []),
  (5, ([rv_r 36, rv_r 51], [rv_r 37, rv_i 0 0, rv_r 52], []), [6], 11, [], []),
  (6, ([rv_r 36, rv_r 51], [rv_i 0 0, rv_r 37, rv_i 0 0, rv_r 52], []), [7], 10, [], []),
  (7, ([rv_r 36, rv_r 51], [rv_i 9 9, rv_i 0 0, rv_r 37, rv_i 0 0, rv_r 52], []), [8], 9, [], [0]),
  (8, ([rv_r 36, rv_r 51], [], []), [9], 8, [], []),
  (9, ([rv_r 36, rv_r 51], [rv_r 51], []), [10], 7, [], []),
  (10, ([rv_r 36, rv_r 51], [rv_r 53], []), [11], 6, [], []),
  (11, ([rv_r 36, rv_r 51], [rv_i 0 0, rv_r 53], []), [12], 5, [], []),
  (12, ([rv_r 36, rv_r 51], [rv_r 36, rv_i 0 0, rv_r 53], []), [13], 4, [], []),
  (13, ([rv_r 36, rv_r 51], [rv_r 38, rv_i 0 0, rv_r 53], []), [14], 3, [], []),
  (14, ([rv_r 36, rv_r 51], [rv_i 0 0, rv_r 38, rv_i 0 0, rv_r 53], []), [15], 2, [], []),
  (15, ([rv_r 36, rv_r 51], [rv_i 9 9, rv_i 0 0, rv_r 38, rv_i 0 0, rv_r 53], []), [16], 1, [], [1])]
def n_X2_takeMoving_2_1 : List rv_N := [
  (16, ([rv_r 36, rv_r 51], [], []), [], 0, [], [])]
def n_X2_takeMoving_2 : List rv_N := n_X2_takeMoving_2_0 ++ (n_X2_takeMoving_2_1)
noncomputable def gn_X2_takeMoving_2 : Nat → Option rv_N := rv_ap 16 (rv_at n_X2_takeMoving_2_0) (rv_at n_X2_takeMoving_2_1)
theorem hn_X2_takeMoving_2 : ∀ i : Nat, n_X2_takeMoving_2[i]? = gn_X2_takeMoving_2 i := rv_ap_eq (l := n_X2_takeMoving_2_0) (c := 16) (rv_at_eq n_X2_takeMoving_2_1) rfl
set_option maxRecDepth 100000 in
theorem a_X2_takeMoving_2 : rv_all (fm_tm, flX2, fm_wr, kcX2, klX2, K_X2_takeMoving_2.2.2.1, [], 2) ct_X2_takeMoving_2 cd_X2_takeMoving n_X2_takeMoving_2 K_X2_takeMoving_2 [] 0 n_X2_takeMoving_2 = true := rv_fast hn_X2_takeMoving_2 (rv_at_eq cd_X2_takeMoving) (by decide +kernel)
theorem m_X2_takeMoving_2 {l : Launch} {D : va_G} {ad : Nat → Nat} {cy : Nat → ClassId} {Z : State → Heap → Prop} {Gp : fm_V → Prop} (hAd : fm_Ad fm_tm ad) (hZ : fm_Zk (fm_A fm_tm ad) Z) (hGd : fm_Gd Gp) : rv_Met l D fm_cl fm_tm ad cy fm_nt Z Gp yX2_takeMoving (.code yX2_takeMoving prog_4_method_3_code 2 none :: fm_Ts) { frames := 1, cells := 0, slots := 0, locals := 100 } K_X2_takeMoving_2 := rv_met hAd hZ (Or.inl (by decide +kernel)) evX2 dc_X2_takeMoving a_X2_takeMoving_2 ⟨rfl, rfl, rfl⟩ (by decide +kernel) (by decide +kernel) (by decide) (fm_gm hGd (by decide +kernel)) (rfl) (fun p e s m args below meth c Q X Y => List.forall_mem_cons.mpr ⟨rv_ctC X dc_X2_takeMoving (pc := 12) (i := 7) (idx := 28) rfl wl_X2_28 fm_acw (by decide +kernel) (a := 52) (b := 37) (n := 9) ⟨rfl, rfl⟩ (by decide) rfl, List.forall_mem_cons.mpr ⟨rv_ctC X dc_X2_takeMoving (pc := 27) (i := 15) (idx := 28) rfl wl_X2_28 fm_acw (by decide +kernel) (a := 53) (b := 38) (n := 9) ⟨rfl, rfl⟩ (by decide) rfl, fun _ h => absurd h List.not_mem_nil⟩⟩) (fun _ _ _ _ _ _ _ _ _ _ _ _ _ _ _ _ h => absurd h List.not_mem_nil)
