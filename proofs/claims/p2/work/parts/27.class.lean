def K_X0_sumLed_1 : rv_K := ([rv_r 26, rv_full, rv_full], [], [], [(0, (-2147483648), 2147483647)], [], [])
def ct_X0_sumLed_1 : List (Nat × rv_K) := []
def n_X0_sumLed_1 : List rv_N := [
  (0, ([rv_r 26, rv_full, rv_full, rv_u, rv_u, rv_u], [], []), [1], 355655221774954913898065324653033, [], []),
  (1, ([rv_r 26, rv_full, rv_full, rv_u, rv_u, rv_u], [rv_i 0 0], []), [2], 355655221774954913898065324653032, [], []),
  (2, ([rv_r 26, rv_full, rv_full, rv_i 0 0, rv_u, rv_u], [], []), [3], 355655221774954913898065324653031, [], []),
  (3, ([rv_r 26, rv_full, rv_full, rv_i 0 0, rv_u, rv_u], [(1, 0, (-2147483648), 2147483647, [(.inl 1, 0)], [])], []), [4], 355655221774954913898065324653030, [], []),
  (4, ([rv_r 26, rv_full, rv_full, rv_i 0 0, rv_u, rv_u], [rv_i (-1) (-1), (1, 0, (-2147483648), 2147483647, [(.inl 1, 0)], [])], []), [5, 7], 355655221774954913898065324653029, [], []),
  (5, ([rv_r 26, rv_i (-1) (-1), rv_full, rv_i 0 0, rv_u, rv_u], [], []), [6], 177827610846073739837031357331941, [], []),
  (6, ([rv_r 26, rv_i (-1) (-1), rv_full, rv_i 0 0, rv_u, rv_u], [rv_i 0 0], []), [8], 177827610846073739837031357331940, [], []),
  (7, ([rv_r 26, rv_full, rv_full, rv_i 0 0, rv_u, rv_u], [], []), [9], 355655221774954913898065324653028, [], []),
  (8, ([rv_r 26, rv_i (-1) (-1), rv_full, rv_i 0 0, rv_u, rv_u], [rv_i 0 0], []), [10], 177827610846073739837031357331939, [], []),
  (8, ([rv_r 26, rv_full, rv_full, rv_i 0 0, rv_u, rv_u], [(1, 0, (-2147483648), 2147483647, [(.inl 1, 0)], [])], []), [10], 355655221774954913898065324653027, [], []),
  (9, ([rv_r 26, rv_full, rv_full, rv_full, rv_full, rv_u], [], []), [11], 177827610846073739837031357331938, [(4, (-82807434224002609989156))], []),
  (10, ([rv_r 26, rv_full, rv_full, rv_full, rv_full, rv_u], [(1, 0, (-2147483648), 2147483647, [(.inl 4, 0)], [])], []), [12, 55], 177827610846073739837031357331937, [(4, (-82807434224002609989156))], []),
  (11, ([rv_r 26, rv_full, rv_full, rv_full, rv_i 0 2147483647, rv_u], [], []), [13], 177827610846073739837031357331936, [(4, (-82807434224002609989156))], []),
  (12, ([rv_r 26, rv_full, rv_full, rv_full, rv_i 0 2147483647, rv_u], [(1, 0, 0, 2147483647, [(.inl 4, 0)], [])], []), [14], 177827610846073739837031357331935, [(4, (-82807434224002609989156))], []),
  (13, ([rv_r 26, rv_full, rv_full, rv_full, rv_i 0 2147483647, rv_u], [rv_i 9 9, (1, 0, 0, 2147483647, [(.inl 4, 0)], [])], []), [15, 55], 177827610846073739837031357331934, [(4, (-82807434224002609989156))], []),
  (14, ([rv_r 26, rv_full, rv_full, rv_full, rv_i 0 8, rv_u], [], []), [16], 177827610764502237466255050109770, [(4, (-82807434224002609989156))], []),
  (15, ([rv_r 26, rv_full, rv_full, rv_full, rv_i 0 8, rv_u], [(1, 0, (-2147483648), 2147483647, [(.inl 1, 0)], [])], []), [17], 177827610764502237466255050109769, [(4, (-82807434224002609989156))], []),
  (16, ([rv_r 26, rv_full, rv_full, rv_full, rv_i 0 8, rv_u], [rv_i (-1) (-1), (1, 0, (-2147483648), 2147483647, [(.inl 1, 0)], [])], []), [18, 21], 177827610764502237466255050109768, [(4, (-82807434224002609989156))], []),
  (17, ([rv_r 26, rv_full, rv_full, rv_full, rv_i 0 8, rv_u], [], []), [19], 177827610764502237466255050109767, [(4, (-82807434224002609989156))], []),
  (18, ([rv_r 26, rv_full, rv_full, rv_full, rv_i 0 8, rv_u], [(1, 0, 0, 8, [(.inl 4, 0)], [])], []), [20], 177827610764502237466255050109766, [(4, (-82807434224002609989156))], []),
  (19, ([rv_r 26, rv_full, rv_full, rv_full, rv_i 0 8, rv_u], [(1, 0, (-2147483648), 2147483647, [(.inl 1, 0)], []), (1, 0, 0, 8, [(.inl 4, 0)], [])], []), [21, 55], 177827610764502237466255050109765, [(4, (-82807434224002609989156))], []),
  (20, ([rv_r 26, rv_i (-1) 8, rv_full, rv_full, rv_i 0 8, rv_u], [], []), [22], 177827610764502237466255050109764, [(4, (-82807434224002609989156))], []),
  (21, ([rv_r 26, rv_i (-1) 8, rv_full, rv_full, rv_i 0 8, rv_u], [(1, 0, (-2147483648), 2147483647, [(.inl 2, 0)], [])], []), [23], 177827610764502237466255050109763, [(4, (-82807434224002609989156))], []),
  (22, ([rv_r 26, rv_i (-1) 8, rv_full, rv_full, rv_i 0 8, rv_u], [rv_i (-1) (-1), (1, 0, (-2147483648), 2147483647, [(.inl 2, 0)], [])], []), [24, 26], 177827610764502237466255050109762, [(4, (-82807434224002609989156))], []),
  (23, ([rv_r 26, rv_i (-1) 8, rv_i (-1) (-1), rv_full, rv_i 0 8, rv_u], [], []), [25], 177827610763884271539498017321794, [(4, (-82807434224002609989156))], []),
  (24, ([rv_r 26, rv_i (-1) 8, rv_i (-1) (-1), rv_full, rv_i 0 8, rv_u], [rv_i 0 0], []), [27], 177827610763884271539498017321793, [(4, (-82807434224002609989156))], []),
  (25, ([rv_r 26, rv_i (-1) 8, rv_full, rv_full, rv_i 0 8, rv_u], [], []), [28], 177827610764502237466255050109761, [(4, (-82807434224002609989156))], []),
  (26, ([rv_r 26, rv_i (-1) 8, rv_i (-1) (-1), rv_full, rv_i 0 8, rv_u], [rv_i 0 0], []), [29], 177827610763884271539498017321792, [(4, (-82807434224002609989156))], []),
  (26, ([rv_r 26, rv_i (-1) 8, rv_full, rv_full, rv_i 0 8, rv_u], [(1, 0, (-2147483648), 2147483647, [(.inl 2, 0)], [])], []), [29], 177827610764502237466255050109760, [(4, (-82807434224002609989156))], []),
  (27, ([rv_r 26, rv_i (-1) 8, rv_full, rv_full, rv_i 0 8, rv_full], [], []), [30], 177827610763884271539498017321791, [(4, (-82807434224002609989156)), (5, (-287762808966))], []),
  (28, ([rv_r 26, rv_i (-1) 8, rv_full, rv_full, rv_i 0 8, rv_full], [(1, 0, (-2147483648), 2147483647, [(.inl 5, 0)], [])], []), [31, 53], 177827610763884271539498017321790, [(4, (-82807434224002609989156)), (5, (-287762808966))], []),
  (29, ([rv_r 26, rv_i (-1) 8, rv_full, rv_full, rv_i 0 8, rv_i 0 2147483647], [], []), [32], 177827610763884271539498017321789, [(4, (-82807434224002609989156)), (5, (-287762808966))], []),
  (30, ([rv_r 26, rv_i (-1) 8, rv_full, rv_full, rv_i 0 8, rv_i 0 2147483647], [(1, 0, 0, 2147483647, [(.inl 5, 0)], [])], []), [33], 177827610763884271539498017321788, [(4, (-82807434224002609989156)), (5, (-287762808966))], []),
  (31, ([rv_r 26, rv_i (-1) 8, rv_full, rv_full, rv_i 0 8, rv_i 0 2147483647], [rv_i 20 20, (1, 0, 0, 2147483647, [(.inl 5, 0)], [])], []), [34, 53], 177827610763884271539498017321787, [(4, (-82807434224002609989156)), (5, (-287762808966))], []),
  (32, ([rv_r 26, rv_i (-1) 8, rv_full, rv_full, rv_i 0 8, rv_i 0 19], [], []), [35], 177827610763884271539210254512844, [(4, (-82807434224002609989156)), (5, (-287762808966))], []),
  (33, ([rv_r 26, rv_i (-1) 8, rv_full, rv_full, rv_i 0 8, rv_i 0 19], [(1, 0, (-2147483648), 2147483647, [(.inl 2, 0)], [])], []), [36], 177827610763884271539210254512843, [(4, (-82807434224002609989156)), (5, (-287762808966))], []),
  (34, ([rv_r 26, rv_i (-1) 8, rv_full, rv_full, rv_i 0 8, rv_i 0 19], [rv_i (-1) (-1), (1, 0, (-2147483648), 2147483647, [(.inl 2, 0)], [])], []), [37, 40], 177827610763884271539210254512842, [(4, (-82807434224002609989156)), (5, (-287762808966))], []),
  (35, ([rv_r 26, rv_i (-1) 8, rv_full, rv_full, rv_i 0 8, rv_i 0 19], [], []), [38], 177827610763884271539210254512841, [(4, (-82807434224002609989156)), (5, (-287762808966))], []),
  (36, ([rv_r 26, rv_i (-1) 8, rv_full, rv_full, rv_i 0 8, rv_i 0 19], [(1, 0, 0, 19, [(.inl 5, 0)], [])], []), [39], 177827610763884271539210254512840, [(4, (-82807434224002609989156)), (5, (-287762808966))], []),
  (37, ([rv_r 26, rv_i (-1) 8, rv_full, rv_full, rv_i 0 8, rv_i 0 19], [(1, 0, (-2147483648), 2147483647, [(.inl 2, 0)], []), (1, 0, 0, 19, [(.inl 5, 0)], [])], []), [40, 53], 177827610763884271539210254512839, [(4, (-82807434224002609989156)), (5, (-287762808966))], []),
  (38, ([rv_r 26, rv_i (-1) 8, rv_i (-1) 19, rv_full, rv_i 0 8, rv_i 0 19], [], []), [41], 177827610763884271539210254512838, [(4, (-82807434224002609989156)), (5, (-287762808966))], []),
  (39, ([rv_r 26, rv_i (-1) 8, rv_i (-1) 19, rv_full, rv_i 0 8, rv_i 0 19], [(1, 0, (-2147483648), 2147483647, [(.inl 3, 0)], [])], []), [42], 177827610763884271539210254512837, [(4, (-82807434224002609989156)), (5, (-287762808966))], []),
  (40, ([rv_r 26, rv_i (-1) 8, rv_i (-1) 19, rv_full, rv_i 0 8, rv_i 0 19], [rv_r 26, (1, 0, (-2147483648), 2147483647, [(.inl 3, 0)], [])], []), [43], 177827610763884271539210254512836, [(4, (-82807434224002609989156)), (5, (-287762808966))], []),
  (41, ([rv_r 26, rv_i (-1) 8, rv_i (-1) 19, rv_full, rv_i 0 8, rv_i 0 19], [rv_r 34, (1, 0, (-2147483648), 2147483647, [(.inl 3, 0)], [])], []), [44], 177827610763884271539210254512835, [(4, (-82807434224002609989156)), (5, (-287762808966))], []),
  (42, ([rv_r 26, rv_i (-1) 8, rv_i (-1) 19, rv_full, rv_i 0 8, rv_i 0 19], [(1, 0, 0, 8, [(.inl 4, 0)], []), rv_r 34, (1, 0, (-2147483648), 2147483647, [(.inl 3, 0)], [])], []), [45], 177827610763884271539210254512834, [(4, (-82807434224002609989156)), (5, (-287762808966))], []),
  (43, ([rv_r 26, rv_i (-1) 8, rv_i (-1) 19, rv_full, rv_i 0 8, rv_i 0 19], [rv_i 20 20, (1, 0, 0, 8, [(.inl 4, 0)], []), rv_r 34, (1, 0, (-2147483648), 2147483647, [(.inl 3, 0)], [])], []), [46], 177827610763884271539210254512833, [(4, (-82807434224002609989156)), (5, (-287762808966))], []),
  (44, ([rv_r 26, rv_i (-1) 8, rv_i (-1) 19, rv_full, rv_i 0 8, rv_i 0 19], [rv_i 0 160, rv_r 34, (1, 0, (-2147483648), 2147483647, [(.inl 3, 0)], [])], []), [47], 177827610763884271539210254512832, [(4, (-82807434224002609989156)), (5, (-287762808966))], []),
  (45, ([rv_r 26, rv_i (-1) 8, rv_i (-1) 19, rv_full, rv_i 0 8, rv_i 0 19], [(1, 0, 0, 19, [(.inl 5, 0)], []), rv_i 0 160, rv_r 34, (1, 0, (-2147483648), 2147483647, [(.inl 3, 0)], [])], []), [48], 177827610763884271539210254512831, [(4, (-82807434224002609989156)), (5, (-287762808966))], []),
  (46, ([rv_r 26, rv_i (-1) 8, rv_i (-1) 19, rv_full, rv_i 0 8, rv_i 0 19], [rv_i 0 179, rv_r 34, (1, 0, (-2147483648), 2147483647, [(.inl 3, 0)], [])], []), [49], 177827610763884271539210254512830, [(4, (-82807434224002609989156)), (5, (-287762808966))], []),
  (47, ([rv_r 26, rv_i (-1) 8, rv_i (-1) 19, rv_full, rv_i 0 8, rv_i 0 19], [rv_full, (1, 0, (-2147483648), 2147483647, [(.inl 3, 0)], [])], []), [50], 177827610763884271539210254512829, [(4, (-82807434224002609989156)), (5, (-287762808966))], []),
  (48, ([rv_r 26, rv_i (-1) 8, rv_i (-1) 19, rv_full, rv_i 0 8, rv_i 0 19], [rv_full], []), [51], 177827610763884271539210254512828, [(4, (-82807434224002609989156)), (5, (-287762808966))], []),
  (49, ([rv_r 26, rv_i (-1) 8, rv_i (-1) 19, rv_full, rv_i 0 8, rv_i 0 19], [], []), [52], 177827610763884271539210254512827, [(4, (-82807434224002609989156)), (5, (-287762808966))], []),
  (50, ([rv_r 26, rv_i (-1) 8, rv_i (-1) 19, rv_full, rv_i 0 8, rv_i 1 20], [], []), [29], 177827610763884271539498017321792, [(4, (-82807434224002609989156)), (5, (-287762808966))], []),
  (51, ([rv_r 26, rv_i (-1) 8, rv_full, rv_full, rv_i 0 8, rv_full], [], []), [54], 177827610763266305613028747342784, [(4, (-82807434224002609989156))], []),
  (52, ([rv_r 26, rv_i (-1) 8, rv_full, rv_full, rv_i 1 9, rv_full], [], []), [10], 177827610846073739837031357331939, [(4, (-82807434224002609989156))], []),
  (53, ([rv_r 26, rv_full, rv_full, rv_full, rv_full, rv_u], [], []), [56], 1, [], []),
  (54, ([rv_r 26, rv_full, rv_full, rv_full, rv_full, rv_u], [(1, 0, (-2147483648), 2147483647, [(.inl 3, 0)], [])], []), [], 0, [], [])]
set_option maxRecDepth 100000 in
theorem a_X0_sumLed_1 : rv_all (fm_tm, flX0, fm_wr, kcX0, klX0, K_X0_sumLed_1.2.2.1, [], 6) ct_X0_sumLed_1 cd_X0_sumLed n_X0_sumLed_1 K_X0_sumLed_1 [] 0 n_X0_sumLed_1 = true := by decide +kernel
theorem m_X0_sumLed_1 {l : Launch} {D : va_G} {ad : Nat → Nat} {cy : Nat → ClassId} {Z : State → Heap → Prop} {Gp : fm_V → Prop} (hAd : fm_Ad fm_tm ad) (hZ : fm_Zk (fm_A fm_tm ad) Z) (hGd : fm_Gd Gp) : rv_Met l D fm_cl fm_tm ad cy fm_nt Z Gp yX0_sumLed (.code yX0_sumLed prog_2_method_5_code 6 (some .int) :: fm_Ts) { frames := 0, cells := 0, slots := 0, locals := 0 } K_X0_sumLed_1 := rv_met hAd hZ (Or.inl (by decide +kernel)) evX0 dc_X0_sumLed a_X0_sumLed_1 ⟨rfl, rfl, rfl⟩ (by decide +kernel) (by decide +kernel) (by decide) (fm_gm hGd (by decide +kernel)) (Or.inl rfl) (fun p e s m args below meth c Q X Y => fun _ h => absurd h List.not_mem_nil) (fun _ _ _ _ _ _ _ _ _ _ _ _ _ _ _ _ h => absurd h List.not_mem_nil)
def cd_X7_led : List (Nat × Instr × Nat) := [(0, .iload_n 1, 1), (1, .iconst (-1), 1), (2, .if_icmp .eq 10, 3), (5, .iload_n 1, 1), (6, .invokestatic 96, 3), (9, .ifCond .eq 15, 3), (12, .iload_n 2, 1), (13, .iconst (-1), 1), (14, .if_icmp .eq 13, 3), (17, .iload_n 2, 1), (18, .invokestatic 75, 3), (21, .ifCond .ne 6, 3), (24, .bipush (-2), 2), (26, .ireturn, 1), (27, .aload_n 0, 1), (28, .getfield 38, 3), (31, .iload_n 1, 1), (32, .iload_n 2, 1), (33, .invokevirtual 280, 3), (36, .ireturn, 1)]
theorem dc_X7_led : ∀ q ∈ cd_X7_led, decode prog_1_method_26_code q.1 = .ok (q.2.1, q.2.2) := by decide +kernel
def K_X7_led_0 : rv_K := ([rv_r 0, rv_full, rv_full], [], [], [(0, (-2147483648), 2147483647)], [], [])
def ct_X7_led_0 : List (Nat × rv_K) := [(4, K_X7_isPorter_0), (10, K_X7_isYard_0), (18, K_X0_sumLed_1)]
def n_X7_led_0 : List rv_N := [
  (0, ([rv_r 0, rv_full, rv_full], [], []), [1], 17, [], []),
  (1, ([rv_r 0, rv_full, rv_full], [(1, 0, (-2147483648), 2147483647, [(.inl 1, 0)], [])], []), [2], 16, [], []),
  (2, ([rv_r 0, rv_full, rv_full], [rv_i (-1) (-1), (1, 0, (-2147483648), 2147483647, [(.inl 1, 0)], [])], []), [3, 6], 15, [], []),
  (3, ([rv_r 0, rv_full, rv_full], [], []), [4], 14, [], []),
  (4, ([rv_r 0, rv_full, rv_full], [(1, 0, (-2147483648), 2147483647, [(.inl 1, 0)], [])], []), [5], 13, [], [0]),
  (5, ([rv_r 0, rv_full, rv_full], [(1, 0, 0, 1, [], [(.inl 1, 0, 8)])], []), [6, 12], 12, [], []),
  (6, ([rv_r 0, rv_i (-1) 8, rv_full], [], []), [7], 11, [], []),
  (7, ([rv_r 0, rv_i (-1) 8, rv_full], [(1, 0, (-2147483648), 2147483647, [(.inl 2, 0)], [])], []), [8], 10, [], []),
  (8, ([rv_r 0, rv_i (-1) 8, rv_full], [rv_i (-1) (-1), (1, 0, (-2147483648), 2147483647, [(.inl 2, 0)], [])], []), [9, 14], 9, [], []),
  (9, ([rv_r 0, rv_i (-1) 8, rv_full], [], []), [10], 8, [], []),
  (10, ([rv_r 0, rv_i (-1) 8, rv_full], [(1, 0, (-2147483648), 2147483647, [(.inl 2, 0)], [])], []), [11], 7, [], [1]),
  (11, ([rv_r 0, rv_i (-1) 8, rv_full], [(1, 0, 0, 1, [], [(.inl 2, 0, 19)])], []), [12, 14], 6, [], []),
  (12, ([rv_r 0, rv_full, rv_full], [], []), [13], 1, [], []),
  (13, ([rv_r 0, rv_full, rv_full], [rv_i (-2) (-2)], []), [], 0, [], []),
  (14, ([rv_r 0, rv_i (-1) 8, rv_i (-1) 19], [], []), [15], 5, [], []),
  (15, ([rv_r 0, rv_i (-1) 8, rv_i (-1) 19], [rv_r 0], []), [16], 4, [], []),
  (16, ([rv_r 0, rv_i (-1) 8, rv_i (-1) 19], [rv_r 26], []), [17], 3, [], []),
  (17, ([rv_r 0, rv_i (-1) 8, rv_i (-1) 19], [(1, 0, (-1), 8, [(.inl 1, 0)], []), rv_r 26], []), [18], 2, [], []),
  (18, ([rv_r 0, rv_i (-1) 8, rv_i (-1) 19], [(1, 0, (-1), 19, [(.inl 2, 0)], []), (1, 0, (-1), 8, [(.inl 1, 0)], []), rv_r 26], []), [19], 1, [], [2]),
  (19, ([rv_r 0, rv_i (-1) 8, rv_i (-1) 19], [rv_full], []), [], 0, [], [])]
set_option maxRecDepth 100000 in
theorem a_X7_led_0 : rv_all (fm_tm, flX7, fm_wr, kcX7, klX7, K_X7_led_0.2.2.1, [], 3) ct_X7_led_0 cd_X7_led n_X7_led_0 K_X7_led_0 [] 0 n_X7_led_0 = true := by decide +kernel
theorem m_X7_led_0 {l : Launch} {D : va_G} {ad : Nat → Nat} {cy : Nat → ClassId} {Z : State → Heap → Prop} {Gp : fm_V → Prop} (hAd : fm_Ad fm_tm ad) (hZ : fm_Zk (fm_A fm_tm ad) Z) (hGd : fm_Gd Gp) : rv_Met l D fm_cl fm_tm ad cy fm_nt Z Gp yX7_led (.code yX7_led prog_1_method_26_code 3 (some .int) :: fm_Ts) { frames := 1, cells := 0, slots := 0, locals := 100 } K_X7_led_0 := rv_met hAd hZ (Or.inl (by decide +kernel)) evX7 dc_X7_led a_X7_led_0 ⟨rfl, rfl, rfl⟩ (by decide +kernel) (by decide +kernel) (by decide) (fm_gm hGd (by decide +kernel)) (Or.inl rfl) (fun p e s m args below meth c Q X Y => List.forall_mem_cons.mpr ⟨rv_ctS X Y fm_Ts_good dc_X7_led (pc := 6) (i := 4) (idx := 96) rfl (m_X7_isPorter_0 hAd hZ hGd) wl_X7_96 wm_X7_isPorter wy_X7_isPorter (by decide) rfl, List.forall_mem_cons.mpr ⟨rv_ctS X Y fm_Ts_good dc_X7_led (pc := 18) (i := 10) (idx := 75) rfl (m_X7_isYard_0 hAd hZ hGd) wl_X7_75 wm_X7_isYard wy_X7_isYard (by decide) rfl, List.forall_mem_cons.mpr ⟨rv_ctV X Y fm_Ts_good dc_X7_led (pc := 33) (i := 18) (idx := 280) rfl (m_X0_sumLed_1 hAd hZ hGd) wl_X7_280 wm_X0_sumLed wy_X0_sumLed (by decide) ⟨rfl, rfl, rfl⟩ ⟨rfl, rfl⟩, fun _ h => absurd h List.not_mem_nil⟩⟩⟩) (fun _ _ _ _ _ _ _ _ _ _ _ _ _ _ _ _ h => absurd h List.not_mem_nil)
def cd_X7_reduced : List (Nat × Instr × Nat) := [(0, .iload_n 1, 1), (1, .istore_n 3, 1), (2, .iload_n 0, 1), (3, .istore 4, 2), (5, .iconst 0, 1), (6, .istore 5, 2), (8, .iload 5, 2), (10, .bipush 100, 2), (12, .if_icmp .ge 27, 3), (15, .iload 4, 2), (17, .ifCond .eq 22, 3), (20, .iload_n 3, 1), (21, .iload 4, 2), (23, .irem, 1), (24, .istore 6, 2), (26, .iload 4, 2), (28, .istore_n 3, 1), (29, .iload 6, 2), (31, .istore 4, 2), (33, .iinc 5 1, 3), (36, .goto (-28), 3), (39, .iload_n 3, 1), (40, .ifCond .ne 5, 3), (43, .iconst 0, 1), (44, .ireturn, 1), (45, .iload_n 2, 1), (46, .ifCond .ne 9, 3), (49, .iload_n 0, 1), (50, .iload_n 3, 1), (51, .idiv, 1), (52, .goto 6, 3), (55, .iload_n 1, 1), (56, .iload_n 3, 1), (57, .idiv, 1), (58, .ireturn, 1)]
theorem dc_X7_reduced : ∀ q ∈ cd_X7_reduced, decode prog_1_method_38_code q.1 = .ok (q.2.1, q.2.2) := by decide +kernel
def K_X7_reduced_0 : rv_K := ([rv_full, rv_full, rv_full], [], [], [(0, (-2147483648), 2147483647)], [], [])
def ct_X7_reduced_0 : List (Nat × rv_K) := []
def n_X7_reduced_0 : List rv_N := [
  (0, ([rv_full, rv_full, rv_full, rv_u, rv_u, rv_u, rv_u], [], []), [1], 463517, [], []),
  (1, ([rv_full, rv_full, rv_full, rv_u, rv_u, rv_u, rv_u], [(1, 0, (-2147483648), 2147483647, [(.inl 1, 0)], [])], []), [2], 463516, [], []),
  (2, ([rv_full, rv_full, rv_full, rv_full, rv_u, rv_u, rv_u], [], []), [3], 463515, [], []),
  (3, ([rv_full, rv_full, rv_full, rv_full, rv_u, rv_u, rv_u], [(1, 0, (-2147483648), 2147483647, [(.inl 0, 0)], [])], []), [4], 463514, [], []),
  (4, ([rv_full, rv_full, rv_full, rv_full, rv_full, rv_u, rv_u], [], []), [5], 463513, [], []),
  (5, ([rv_full, rv_full, rv_full, rv_full, rv_full, rv_u, rv_u], [rv_i 0 0], []), [6], 463512, [], []),
  (6, ([rv_full, rv_full, rv_full, rv_full, rv_full, rv_i 0 100, rv_u], [], []), [7], 463511, [(5, (-4635))], []),
  (7, ([rv_full, rv_full, rv_full, rv_full, rv_full, rv_i 0 100, rv_u], [(1, 0, 0, 100, [(.inl 5, 0)], [])], []), [8], 463510, [(5, (-4635))], []),
  (8, ([rv_full, rv_full, rv_full, rv_full, rv_full, rv_i 0 100, rv_u], [rv_i 100 100, (1, 0, 0, 100, [(.inl 5, 0)], [])], []), [9, 21], 463509, [(5, (-4635))], []),
  (9, ([rv_full, rv_full, rv_full, rv_full, rv_full, rv_i 0 99, rv_u], [], []), [10], 458888, [(5, (-4635))], []),
  (10, ([rv_full, rv_full, rv_full, rv_full, rv_full, rv_i 0 99, rv_u], [(1, 0, (-2147483648), 2147483647, [(.inl 4, 0)], [])], []), [11, 21], 458887, [(5, (-4635))], []),
  (11, ([rv_full, rv_full, rv_full, rv_full, (1, 1, (-2147483648), 2147483647, [], []), rv_i 0 99, rv_u], [], []), [12], 458886, [(5, (-4635))], []),
  (12, ([rv_full, rv_full, rv_full, rv_full, (1, 1, (-2147483648), 2147483647, [], []), rv_i 0 99, rv_u], [(1, 0, (-2147483648), 2147483647, [(.inl 3, 0)], [])], []), [13], 458885, [(5, (-4635))], []),
  (13, ([rv_full, rv_full, rv_full, rv_full, (1, 1, (-2147483648), 2147483647, [], []), rv_i 0 99, rv_u], [(1, 1, (-2147483648), 2147483647, [(.inl 4, 0)], []), (1, 0, (-2147483648), 2147483647, [(.inl 3, 0)], [])], []), [14], 458884, [(5, (-4635))], []),
  (14, ([rv_full, rv_full, rv_full, rv_full, (1, 1, (-2147483648), 2147483647, [], []), rv_i 0 99, rv_u], [rv_full], []), [15], 458883, [(5, (-4635))], []),
  (15, ([rv_full, rv_full, rv_full, rv_full, (1, 1, (-2147483648), 2147483647, [], []), rv_i 0 99, rv_full], [], []), [16], 458882, [(5, (-4635))], []),
  (16, ([rv_full, rv_full, rv_full, rv_full, (1, 1, (-2147483648), 2147483647, [], []), rv_i 0 99, rv_full], [(1, 1, (-2147483648), 2147483647, [(.inl 4, 0)], [])], []), [17], 458881, [(5, (-4635))], []),
  (17, ([rv_full, rv_full, rv_full, (1, 1, (-2147483648), 2147483647, [], []), (1, 1, (-2147483648), 2147483647, [], []), rv_i 0 99, rv_full], [], []), [18], 458880, [(5, (-4635))], []),
  (18, ([rv_full, rv_full, rv_full, (1, 1, (-2147483648), 2147483647, [], []), (1, 1, (-2147483648), 2147483647, [], []), rv_i 0 99, rv_full], [(1, 0, (-2147483648), 2147483647, [(.inl 6, 0)], [])], []), [19], 458879, [(5, (-4635))], []),
  (19, ([rv_full, rv_full, rv_full, (1, 1, (-2147483648), 2147483647, [], []), rv_full, rv_i 0 99, rv_full], [], []), [20], 458878, [(5, (-4635))], []),
  (20, ([rv_full, rv_full, rv_full, (1, 1, (-2147483648), 2147483647, [], []), rv_full, rv_i 1 100, rv_full], [], []), [6], 463512, [(5, (-4635))], []),
  (21, ([rv_full, rv_full, rv_full, rv_full, rv_full, rv_i 0 100, rv_u], [], []), [22], 8, [], []),
  (22, ([rv_full, rv_full, rv_full, rv_full, rv_full, rv_i 0 100, rv_u], [(1, 0, (-2147483648), 2147483647, [(.inl 3, 0)], [])], []), [23, 25], 7, [], []),
  (23, ([rv_full, rv_full, rv_full, rv_i 0 0, rv_full, rv_i 0 100, rv_u], [], []), [24], 1, [], []),
  (24, ([rv_full, rv_full, rv_full, rv_i 0 0, rv_full, rv_i 0 100, rv_u], [rv_i 0 0], []), [], 0, [], []),
  (25, ([rv_full, rv_full, rv_full, (1, 1, (-2147483648), 2147483647, [], []), rv_full, rv_i 0 100, rv_u], [], []), [26], 6, [], []),
  (26, ([rv_full, rv_full, rv_full, (1, 1, (-2147483648), 2147483647, [], []), rv_full, rv_i 0 100, rv_u], [(1, 0, (-2147483648), 2147483647, [(.inl 2, 0)], [])], []), [27, 31], 5, [], []),
  (27, ([rv_full, rv_full, rv_i 0 0, (1, 1, (-2147483648), 2147483647, [], []), rv_full, rv_i 0 100, rv_u], [], []), [28], 4, [], []),
  (28, ([rv_full, rv_full, rv_i 0 0, (1, 1, (-2147483648), 2147483647, [], []), rv_full, rv_i 0 100, rv_u], [(1, 0, (-2147483648), 2147483647, [(.inl 0, 0)], [])], []), [29], 3, [], []),
  (29, ([rv_full, rv_full, rv_i 0 0, (1, 1, (-2147483648), 2147483647, [], []), rv_full, rv_i 0 100, rv_u], [(1, 1, (-2147483648), 2147483647, [(.inl 3, 0)], []), (1, 0, (-2147483648), 2147483647, [(.inl 0, 0)], [])], []), [30], 2, [], []),
  (30, ([rv_full, rv_full, rv_i 0 0, (1, 1, (-2147483648), 2147483647, [], []), rv_full, rv_i 0 100, rv_u], [rv_full], []), [34], 1, [], []),
  (31, ([rv_full, rv_full, (1, 1, (-2147483648), 2147483647, [], []), (1, 1, (-2147483648), 2147483647, [], []), rv_full, rv_i 0 100, rv_u], [], []), [32], 3, [], []),
  (32, ([rv_full, rv_full, (1, 1, (-2147483648), 2147483647, [], []), (1, 1, (-2147483648), 2147483647, [], []), rv_full, rv_i 0 100, rv_u], [(1, 0, (-2147483648), 2147483647, [(.inl 1, 0)], [])], []), [33], 2, [], []),
  (33, ([rv_full, rv_full, (1, 1, (-2147483648), 2147483647, [], []), (1, 1, (-2147483648), 2147483647, [], []), rv_full, rv_i 0 100, rv_u], [(1, 1, (-2147483648), 2147483647, [(.inl 3, 0)], []), (1, 0, (-2147483648), 2147483647, [(.inl 1, 0)], [])], []), [34], 1, [], []),
  (34, ([rv_full, rv_full, rv_full, (1, 1, (-2147483648), 2147483647, [], []), rv_full, rv_i 0 100, rv_u], [rv_full], []), [], 0, [], [])]
set_option maxRecDepth 100000 in
theorem a_X7_reduced_0 : rv_all (fm_tm, flX7, fm_wr, kcX7, klX7, K_X7_reduced_0.2.2.1, [], 7) ct_X7_reduced_0 cd_X7_reduced n_X7_reduced_0 K_X7_reduced_0 [] 0 n_X7_reduced_0 = true := by decide +kernel
theorem m_X7_reduced_0 {l : Launch} {D : va_G} {ad : Nat → Nat} {cy : Nat → ClassId} {Z : State → Heap → Prop} {Gp : fm_V → Prop} (hAd : fm_Ad fm_tm ad) (hZ : fm_Zk (fm_A fm_tm ad) Z) (hGd : fm_Gd Gp) : rv_Met l D fm_cl fm_tm ad cy fm_nt Z Gp yX7_reduced (.code yX7_reduced prog_1_method_38_code 7 (some .int) :: fm_Ts) { frames := 0, cells := 0, slots := 0, locals := 0 } K_X7_reduced_0 := rv_met hAd hZ (Or.inl (by decide +kernel)) evX7 dc_X7_reduced a_X7_reduced_0 ⟨rfl, rfl, rfl⟩ (by decide +kernel) (by decide +kernel) (by decide) (fm_gm hGd (by decide +kernel)) (Or.inl rfl) (fun p e s m args below meth c Q X Y => fun _ h => absurd h List.not_mem_nil) (fun _ _ _ _ _ _ _ _ _ _ _ _ _ _ _ _ h => absurd h List.not_mem_nil)
def cd_X7_share : List (Nat × Instr × Nat) := [(0, .iload_n 1, 1), (1, .invokestatic 96, 3), (4, .ifCond .eq 19, 3), (7, .iload_n 2, 1), (8, .invokestatic 75, 3), (11, .ifCond .eq 12, 3), (14, .iload_n 3, 1), (15, .iconst 0, 1), (16, .iconst 1, 1), (17, .invokestatic 80, 3), (20, .ifCond .ne 5, 3), (23, .iconst (-1), 1), (24, .ireturn, 1), (25, .aload_n 0, 1), (26, .getfield 38, 3), (29, .iconst (-1), 1), (30, .iload_n 2, 1), (31, .invokevirtual 280, 3), (34, .istore 4, 2), (36, .iload 4, 2), (38, .ifCond .ne 8, 3), (41, .bipush (-2), 2), (43, .goto 18, 3), (46, .aload_n 0, 1), (47, .getfield 38, 3), (50, .iload_n 1, 1), (51, .iload_n 2, 1), (52, .invokevirtual 280, 3), (55, .iload 4, 2), (57, .iload_n 3, 1), (58, .invokestatic 286, 3), (61, .ireturn, 1)]
theorem dc_X7_share : ∀ q ∈ cd_X7_share, decode prog_1_method_27_code q.1 = .ok (q.2.1, q.2.2) := by decide +kernel
def K_X7_share_0 : rv_K := ([rv_r 0, rv_full, rv_full, rv_full], [], [], [(0, (-2147483648), 2147483647)], [], [])
def ct_X7_share_0 : List (Nat × rv_K) := [(1, K_X7_isPorter_0), (4, K_X7_isYard_0), (9, K_X7_isWithin_15), (17, K_X0_sumLed_1), (27, K_X0_sumLed_1), (30, K_X7_reduced_0)]
def n_X7_share_0 : List rv_N := [
  (0, ([rv_r 0, rv_full, rv_full, rv_full, rv_u], [], []), [1], 27, [], []),
  (1, ([rv_r 0, rv_full, rv_full, rv_full, rv_u], [(1, 0, (-2147483648), 2147483647, [(.inl 1, 0)], [])], []), [2], 26, [], [0]),
  (2, ([rv_r 0, rv_full, rv_full, rv_full, rv_u], [(1, 0, 0, 1, [], [(.inl 1, 0, 8)])], []), [3, 11], 25, [], []),
  (3, ([rv_r 0, rv_i 0 8, rv_full, rv_full, rv_u], [], []), [4], 24, [], []),
  (4, ([rv_r 0, rv_i 0 8, rv_full, rv_full, rv_u], [(1, 0, (-2147483648), 2147483647, [(.inl 2, 0)], [])], []), [5], 23, [], [1]),
  (5, ([rv_r 0, rv_i 0 8, rv_full, rv_full, rv_u], [(1, 0, 0, 1, [], [(.inl 2, 0, 19)])], []), [6, 11], 22, [], []),
  (6, ([rv_r 0, rv_i 0 8, rv_i 0 19, rv_full, rv_u], [], []), [7], 21, [], []),
  (7, ([rv_r 0, rv_i 0 8, rv_i 0 19, rv_full, rv_u], [(1, 0, (-2147483648), 2147483647, [(.inl 3, 0)], [])], []), [8], 20, [], []),
  (8, ([rv_r 0, rv_i 0 8, rv_i 0 19, rv_full, rv_u], [rv_i 0 0, (1, 0, (-2147483648), 2147483647, [(.inl 3, 0)], [])], []), [9], 19, [], []),
  (9, ([rv_r 0, rv_i 0 8, rv_i 0 19, rv_full, rv_u], [rv_i 1 1, rv_i 0 0, (1, 0, (-2147483648), 2147483647, [(.inl 3, 0)], [])], []), [10], 18, [], [2]),
  (10, ([rv_r 0, rv_i 0 8, rv_i 0 19, rv_full, rv_u], [(1, 0, 0, 1, [], [(.inl 3, 0, 1)])], []), [11, 13], 17, [], []),
  (11, ([rv_r 0, rv_full, rv_full, rv_full, rv_u], [], []), [12], 1, [], []),
  (12, ([rv_r 0, rv_full, rv_full, rv_full, rv_u], [rv_i (-1) (-1)], []), [], 0, [], []),
  (13, ([rv_r 0, rv_i 0 8, rv_i 0 19, rv_i 0 1, rv_u], [], []), [14], 16, [], []),
  (14, ([rv_r 0, rv_i 0 8, rv_i 0 19, rv_i 0 1, rv_u], [rv_r 0], []), [15], 15, [], []),
  (15, ([rv_r 0, rv_i 0 8, rv_i 0 19, rv_i 0 1, rv_u], [rv_r 26], []), [16], 14, [], []),
  (16, ([rv_r 0, rv_i 0 8, rv_i 0 19, rv_i 0 1, rv_u], [rv_i (-1) (-1), rv_r 26], []), [17], 13, [], []),
  (17, ([rv_r 0, rv_i 0 8, rv_i 0 19, rv_i 0 1, rv_u], [(1, 0, 0, 19, [(.inl 2, 0)], []), rv_i (-1) (-1), rv_r 26], []), [18], 12, [], [3]),
  (18, ([rv_r 0, rv_i 0 8, rv_i 0 19, rv_i 0 1, rv_u], [rv_full], []), [19], 11, [], []),
  (19, ([rv_r 0, rv_i 0 8, rv_i 0 19, rv_i 0 1, rv_full], [], []), [20], 10, [], []),
  (20, ([rv_r 0, rv_i 0 8, rv_i 0 19, rv_i 0 1, rv_full], [(1, 0, (-2147483648), 2147483647, [(.inl 4, 0)], [])], []), [21, 23], 9, [], []),
  (21, ([rv_r 0, rv_i 0 8, rv_i 0 19, rv_i 0 1, rv_i 0 0], [], []), [22], 2, [], []),
  (22, ([rv_r 0, rv_i 0 8, rv_i 0 19, rv_i 0 1, rv_i 0 0], [rv_i (-2) (-2)], []), [31], 1, [], []),
  (23, ([rv_r 0, rv_i 0 8, rv_i 0 19, rv_i 0 1, (1, 1, (-2147483648), 2147483647, [], [])], [], []), [24], 8, [], []),
  (24, ([rv_r 0, rv_i 0 8, rv_i 0 19, rv_i 0 1, (1, 1, (-2147483648), 2147483647, [], [])], [rv_r 0], []), [25], 7, [], []),
  (25, ([rv_r 0, rv_i 0 8, rv_i 0 19, rv_i 0 1, (1, 1, (-2147483648), 2147483647, [], [])], [rv_r 26], []), [26], 6, [], []),
  (26, ([rv_r 0, rv_i 0 8, rv_i 0 19, rv_i 0 1, (1, 1, (-2147483648), 2147483647, [], [])], [(1, 0, 0, 8, [(.inl 1, 0)], []), rv_r 26], []), [27], 5, [], []),
  (27, ([rv_r 0, rv_i 0 8, rv_i 0 19, rv_i 0 1, (1, 1, (-2147483648), 2147483647, [], [])], [(1, 0, 0, 19, [(.inl 2, 0)], []), (1, 0, 0, 8, [(.inl 1, 0)], []), rv_r 26], []), [28], 4, [], [4]),
  (28, ([rv_r 0, rv_i 0 8, rv_i 0 19, rv_i 0 1, (1, 1, (-2147483648), 2147483647, [], [])], [rv_full], []), [29], 3, [], []),
  (29, ([rv_r 0, rv_i 0 8, rv_i 0 19, rv_i 0 1, (1, 1, (-2147483648), 2147483647, [], [])], [(1, 1, (-2147483648), 2147483647, [(.inl 4, 0)], []), rv_full], []), [30], 2, [], []),
  (30, ([rv_r 0, rv_i 0 8, rv_i 0 19, rv_i 0 1, (1, 1, (-2147483648), 2147483647, [], [])], [(1, 0, 0, 1, [(.inl 3, 0)], []), (1, 1, (-2147483648), 2147483647, [(.inl 4, 0)], []), rv_full], []), [32], 1, [], [5]),
  (31, ([rv_r 0, rv_i 0 8, rv_i 0 19, rv_i 0 1, rv_i 0 0], [rv_i (-2) (-2)], []), [], 0, [], []),
  (31, ([rv_r 0, rv_i 0 8, rv_i 0 19, rv_i 0 1, (1, 1, (-2147483648), 2147483647, [], [])], [rv_full], []), [], 0, [], [])]
set_option maxRecDepth 100000 in
theorem a_X7_share_0 : rv_all (fm_tm, flX7, fm_wr, kcX7, klX7, K_X7_share_0.2.2.1, [], 5) ct_X7_share_0 cd_X7_share n_X7_share_0 K_X7_share_0 [] 0 n_X7_share_0 = true := by decide +kernel
theorem m_X7_share_0 {l : Launch} {D : va_G} {ad : Nat → Nat} {cy : Nat → ClassId} {Z : State → Heap → Prop} {Gp : fm_V → Prop} (hAd : fm_Ad fm_tm ad) (hZ : fm_Zk (fm_A fm_tm ad) Z) (hGd : fm_Gd Gp) : rv_Met l D fm_cl fm_tm ad cy fm_nt Z Gp yX7_share (.code yX7_share prog_1_method_27_code 5 (some .int) :: fm_Ts) { frames := 1, cells := 0, slots := 0, locals := 100 } K_X7_share_0 := rv_met hAd hZ (Or.inl (by decide +kernel)) evX7 dc_X7_share a_X7_share_0 ⟨rfl, rfl, rfl⟩ (by decide +kernel) (by decide +kernel) (by decide) (fm_gm hGd (by decide +kernel)) (Or.inl rfl) (fun p e s m args below meth c Q X Y => List.forall_mem_cons.mpr ⟨rv_ctS X Y fm_Ts_good dc_X7_share (pc := 1) (i := 1) (idx := 96) rfl (m_X7_isPorter_0 hAd hZ hGd) wl_X7_96 wm_X7_isPorter wy_X7_isPorter (by decide) rfl, List.forall_mem_cons.mpr ⟨rv_ctS X Y fm_Ts_good dc_X7_share (pc := 8) (i := 4) (idx := 75) rfl (m_X7_isYard_0 hAd hZ hGd) wl_X7_75 wm_X7_isYard wy_X7_isYard (by decide) rfl, List.forall_mem_cons.mpr ⟨rv_ctS X Y fm_Ts_good dc_X7_share (pc := 17) (i := 9) (idx := 80) rfl (m_X7_isWithin_15 hAd hZ hGd) wl_X7_80 wm_X7_isWithin wy_X7_isWithin (by decide) rfl, List.forall_mem_cons.mpr ⟨rv_ctV X Y fm_Ts_good dc_X7_share (pc := 31) (i := 17) (idx := 280) rfl (m_X0_sumLed_1 hAd hZ hGd) wl_X7_280 wm_X0_sumLed wy_X0_sumLed (by decide) ⟨rfl, rfl, rfl⟩ ⟨rfl, rfl⟩, List.forall_mem_cons.mpr ⟨rv_ctV X Y fm_Ts_good dc_X7_share (pc := 52) (i := 27) (idx := 280) rfl (m_X0_sumLed_1 hAd hZ hGd) wl_X7_280 wm_X0_sumLed wy_X0_sumLed (by decide) ⟨rfl, rfl, rfl⟩ ⟨rfl, rfl⟩, List.forall_mem_cons.mpr ⟨rv_ctS X Y fm_Ts_good dc_X7_share (pc := 58) (i := 30) (idx := 286) rfl (m_X7_reduced_0 hAd hZ hGd) wl_X7_286 wm_X7_reduced wy_X7_reduced (by decide) rfl, fun _ h => absurd h List.not_mem_nil⟩⟩⟩⟩⟩⟩) (fun _ _ _ _ _ _ _ _ _ _ _ _ _ _ _ _ h => absurd h List.not_mem_nil)
def cd_X7_odds : List (Nat × Instr × Nat) := [(0, .iload_n 1, 1), (1, .iconst 1, 1), (2, .iconst 3, 1), (3, .invokestatic 80, 3), (6, .ifCond .eq 22, 3), (9, .iload_n 2, 1), (10, .iconst 0, 1), (11, .ldc 79, 2), (13, .invokestatic 80, 3), (16, .ifCond .eq 12, 3), (19, .iload_n 3, 1), (20, .iconst 0, 1), (21, .iconst 1, 1), (22, .invokestatic 80, 3), (25, .ifCond .ne 5, 3), (28, .iconst (-1), 1), (29, .ireturn, 1), (30, .iload_n 1, 1), (31, .iconst 1, 1), (32, .if_icmp .ne 8, 3), (35, .bipush 10, 2), (37, .goto 16, 3), (40, .iload_n 1, 1), (41, .iconst 2, 1), (42, .if_icmp .ne 8, 3), (45, .bipush 100, 2), (47, .goto 6, 3), (50, .sipush 1000, 3), (53, .istore 4, 2), (55, .iconst 0, 1), (56, .istore 5, 2), (58, .aload_n 0, 1), (59, .getfield 45, 3), (62, .aload_n 0, 1), (63, .getfield 38, 3), (66, .invokevirtual 168, 3), (69, .aload_n 0, 1), (70, .getfield 45, 3), (73, .aload_n 0, 1), (74, .getfield 22, 3), (77, .getfield 231, 3), (80, .putfield 234, 3), (83, .iconst 0, 1), (84, .istore 6, 2), (86, .iload 6, 2), (88, .iload 4, 2), (90, .if_icmp .ge 77, 3), (93, .aload_n 0, 1), (94, .getfield 45, 3), (97, .aload_n 0, 1), (98, .getfield 38, 3), (101, .invokevirtual 221, 3), (104, .iload 6, 2), (106, .istore 7, 2), (108, .iconst 0, 1), (109, .istore 8, 2), (111, .iload 8, 2), (113, .iload_n 1, 1), (114, .if_icmp .ge 33, 3), (117, .aload_n 0, 1), (118, .getfield 45, 3), (121, .aload_n 0, 1), (122, .getfield 22, 3), (125, .iload 7, 2), (127, .bipush 10, 2), (129, .irem, 1), (130, .invokevirtual 155, 3), (133, .pop, 1), (134, .iload 7, 2), (136, .bipush 10, 2), (138, .idiv, 1), (139, .istore 7, 2), (141, .iinc 8 1, 3), (144, .goto (-33), 3), (147, .aload_n 0, 1), (148, .getfield 45, 3), (151, .getfield 175, 3), (154, .iload_n 2, 1), (155, .if_icmp .lt 6, 3), (158, .iinc 5 1, 3), (161, .iinc 6 1, 3), (164, .goto (-78), 3), (167, .iload 5, 2), (169, .iload 4, 2), (171, .iload_n 3, 1), (172, .invokestatic 286, 3), (175, .ireturn, 1)]
theorem dc_X7_odds : ∀ q ∈ cd_X7_odds, decode prog_1_method_28_code q.1 = .ok (q.2.1, q.2.2) := by decide +kernel
def K_X7_odds_0 : rv_K := ([rv_r 0, rv_full, rv_full, rv_full], [], [(14, 0), (14, 1), (14, 2), (14, 3), (14, 4), (14, 5), (14, 6), (14, 7), (14, 8), (14, 9), (14, 10), (14, 11), (14, 12), (14, 9999), (15, 9999), (56, 9), (56, 10), (56, 11), (56, 12), (56, 13), (56, 14), (56, 15), (56, 16), (57, 9999), (58, 9999), (59, 9999), (60, 9999), (61, 9999), (62, 9999), (63, 9999), (64, 9999), (65, 9999), (66, 0), (67, 9999), (68, 9999), (69, 9999), (70, 9999)], [(0, (-2147483648), 2147483647)], [], [])
def ct_X7_odds_0 : List (Nat × rv_K) := [(3, K_X7_isWithin_10), (8, K_X7_isWithin_0), (13, K_X7_isWithin_15), (35, K_X0_takeAll_0), (51, K_X0_takeMoving_0), (66, K_X0_pass_1), (85, K_X7_reduced_0)]
def n_X7_odds_0 : List rv_N := [
  (0, ([rv_r 0, rv_full, rv_full, rv_full, rv_u, rv_u, rv_u, rv_u, rv_u], [], []), [1], 9859894209046, [], []),
  (1, ([rv_r 0, rv_full, rv_full, rv_full, rv_u, rv_u, rv_u, rv_u, rv_u], [(1, 0, (-2147483648), 2147483647, [(.inl 1, 0)], [])], []), [2], 9859894209045, [], []),
  (2, ([rv_r 0, rv_full, rv_full, rv_full, rv_u, rv_u, rv_u, rv_u, rv_u], [rv_i 1 1, (1, 0, (-2147483648), 2147483647, [(.inl 1, 0)], [])], []), [3], 9859894209044, [], []),
  (3, ([rv_r 0, rv_full, rv_full, rv_full, rv_u, rv_u, rv_u, rv_u, rv_u], [rv_i 3 3, rv_i 1 1, (1, 0, (-2147483648), 2147483647, [(.inl 1, 0)], [])], []), [4], 9859894209043, [], [0]),
  (4, ([rv_r 0, rv_full, rv_full, rv_full, rv_u, rv_u, rv_u, rv_u, rv_u], [(1, 0, 0, 1, [], [(.inl 1, 1, 3)])], []), [5, 15], 9859894209042, [], []),
  (5, ([rv_r 0, rv_i 1 3, rv_full, rv_full, rv_u, rv_u, rv_u, rv_u, rv_u], [], []), [6], 9859894209041, [], []),
  (6, ([rv_r 0, rv_i 1 3, rv_full, rv_full, rv_u, rv_u, rv_u, rv_u, rv_u], [(1, 0, (-2147483648), 2147483647, [(.inl 2, 0)], [])], []), [7], 9859894209040, [], []),
  (7, ([rv_r 0, rv_i 1 3, rv_full, rv_full, rv_u, rv_u, rv_u, rv_u, rv_u], [rv_i 0 0, (1, 0, (-2147483648), 2147483647, [(.inl 2, 0)], [])], []), [8], 9859894209039, [], []),
  (8, ([rv_r 0, rv_i 1 3, rv_full, rv_full, rv_u, rv_u, rv_u, rv_u, rv_u], [rv_i 99999 99999, rv_i 0 0, (1, 0, (-2147483648), 2147483647, [(.inl 2, 0)], [])], []), [9], 9859894209038, [], [1]),
  (9, ([rv_r 0, rv_i 1 3, rv_full, rv_full, rv_u, rv_u, rv_u, rv_u, rv_u], [(1, 0, 0, 1, [], [(.inl 2, 0, 99999)])], []), [10, 15], 9859894209037, [], []),
  (10, ([rv_r 0, rv_i 1 3, rv_i 0 99999, rv_full, rv_u, rv_u, rv_u, rv_u, rv_u], [], []), [11], 9859894209036, [], []),
  (11, ([rv_r 0, rv_i 1 3, rv_i 0 99999, rv_full, rv_u, rv_u, rv_u, rv_u, rv_u], [(1, 0, (-2147483648), 2147483647, [(.inl 3, 0)], [])], []), [12], 9859894209035, [], []),
  (12, ([rv_r 0, rv_i 1 3, rv_i 0 99999, rv_full, rv_u, rv_u, rv_u, rv_u, rv_u], [rv_i 0 0, (1, 0, (-2147483648), 2147483647, [(.inl 3, 0)], [])], []), [13], 9859894209034, [], []),
  (13, ([rv_r 0, rv_i 1 3, rv_i 0 99999, rv_full, rv_u, rv_u, rv_u, rv_u, rv_u], [rv_i 1 1, rv_i 0 0, (1, 0, (-2147483648), 2147483647, [(.inl 3, 0)], [])], []), [14], 9859894209033, [], [2]),
  (14, ([rv_r 0, rv_i 1 3, rv_i 0 99999, rv_full, rv_u, rv_u, rv_u, rv_u, rv_u], [(1, 0, 0, 1, [], [(.inl 3, 0, 1)])], []), [15, 17], 9859894209032, [], []),
  (15, ([rv_r 0, rv_full, rv_full, rv_full, rv_u, rv_u, rv_u, rv_u, rv_u], [], []), [16], 1, [], []),
  (16, ([rv_r 0, rv_full, rv_full, rv_full, rv_u, rv_u, rv_u, rv_u, rv_u], [rv_i (-1) (-1)], []), [], 0, [], []),
  (17, ([rv_r 0, rv_i 1 3, rv_i 0 99999, rv_i 0 1, rv_u, rv_u, rv_u, rv_u, rv_u], [], []), [18], 9859894209031, [], []),
  (18, ([rv_r 0, rv_i 1 3, rv_i 0 99999, rv_i 0 1, rv_u, rv_u, rv_u, rv_u, rv_u], [(1, 0, 1, 3, [(.inl 1, 0)], [])], []), [19], 9859894209030, [], []),
  (19, ([rv_r 0, rv_i 1 3, rv_i 0 99999, rv_i 0 1, rv_u, rv_u, rv_u, rv_u, rv_u], [rv_i 1 1, (1, 0, 1, 3, [(.inl 1, 0)], [])], []), [20, 22], 9859894209029, [], []),
  (20, ([rv_r 0, rv_i 1 1, rv_i 0 99999, rv_i 0 1, rv_u, rv_u, rv_u, rv_u, rv_u], [], []), [21], 9859894209025, [], []),
  (21, ([rv_r 0, rv_i 1 1, rv_i 0 99999, rv_i 0 1, rv_u, rv_u, rv_u, rv_u, rv_u], [rv_i 10 10], []), [28], 9859894209024, [], []),
  (22, ([rv_r 0, rv_i 2 3, rv_i 0 99999, rv_i 0 1, rv_u, rv_u, rv_u, rv_u, rv_u], [], []), [23], 9859894209028, [], []),
  (23, ([rv_r 0, rv_i 2 3, rv_i 0 99999, rv_i 0 1, rv_u, rv_u, rv_u, rv_u, rv_u], [(1, 0, 2, 3, [(.inl 1, 0)], [])], []), [24], 9859894209027, [], []),
  (24, ([rv_r 0, rv_i 2 3, rv_i 0 99999, rv_i 0 1, rv_u, rv_u, rv_u, rv_u, rv_u], [rv_i 2 2, (1, 0, 2, 3, [(.inl 1, 0)], [])], []), [25, 27], 9859894209026, [], []),
  (25, ([rv_r 0, rv_i 2 2, rv_i 0 99999, rv_i 0 1, rv_u, rv_u, rv_u, rv_u, rv_u], [], []), [26], 9859894209025, [], []),
  (26, ([rv_r 0, rv_i 2 2, rv_i 0 99999, rv_i 0 1, rv_u, rv_u, rv_u, rv_u, rv_u], [rv_i 100 100], []), [29], 9859894209024, [], []),
  (27, ([rv_r 0, rv_i 3 3, rv_i 0 99999, rv_i 0 1, rv_u, rv_u, rv_u, rv_u, rv_u], [], []), [30], 9859894209024, [], []),
  (28, ([rv_r 0, rv_i 1 1, rv_i 0 99999, rv_i 0 1, rv_u, rv_u, rv_u, rv_u, rv_u], [rv_i 10 10], []), [31], 9859894209023, [], []),
  (28, ([rv_r 0, rv_i 2 2, rv_i 0 99999, rv_i 0 1, rv_u, rv_u, rv_u, rv_u, rv_u], [rv_i 100 100], []), [31], 9859894209023, [], []),
  (28, ([rv_r 0, rv_i 3 3, rv_i 0 99999, rv_i 0 1, rv_u, rv_u, rv_u, rv_u, rv_u], [rv_i 1000 1000], []), [31], 9859894209023, [], []),
  (29, ([rv_r 0, rv_i 1 3, rv_i 0 99999, rv_i 0 1, rv_i 10 1000, rv_u, rv_u, rv_u, rv_u], [], []), [32], 9859894209022, [], []),
  (30, ([rv_r 0, rv_i 1 3, rv_i 0 99999, rv_i 0 1, rv_i 10 1000, rv_u, rv_u, rv_u, rv_u], [rv_i 0 0], []), [33], 9859894209021, [], []),
  (31, ([rv_r 0, rv_i 1 3, rv_i 0 99999, rv_i 0 1, rv_i 10 1000, rv_i 0 0, rv_u, rv_u, rv_u], [], []), [34], 9859894209020, [], []),
  (32, ([rv_r 0, rv_i 1 3, rv_i 0 99999, rv_i 0 1, rv_i 10 1000, rv_i 0 0, rv_u, rv_u, rv_u], [rv_r 0], []), [35], 9859894209019, [], []),
  (33, ([rv_r 0, rv_i 1 3, rv_i 0 99999, rv_i 0 1, rv_i 10 1000, rv_i 0 0, rv_u, rv_u, rv_u], [rv_r 56], []), [36], 9859894209018, [], []),
  (34, ([rv_r 0, rv_i 1 3, rv_i 0 99999, rv_i 0 1, rv_i 10 1000, rv_i 0 0, rv_u, rv_u, rv_u], [rv_r 0, rv_r 56], []), [37], 9859894209017, [], []),
  (35, ([rv_r 0, rv_i 1 3, rv_i 0 99999, rv_i 0 1, rv_i 10 1000, rv_i 0 0, rv_u, rv_u, rv_u], [rv_r 26, rv_r 56], []), [38], 9859894209016, [], [3]),
  (36, ([rv_r 0, rv_i 1 3, rv_i 0 99999, rv_i 0 1, rv_i 10 1000, rv_i 0 0, rv_u, rv_u, rv_u], [], []), [39], 9859894209015, [], []),
  (37, ([rv_r 0, rv_i 1 3, rv_i 0 99999, rv_i 0 1, rv_i 10 1000, rv_i 0 0, rv_u, rv_u, rv_u], [rv_r 0], []), [40], 9859894209014, [], []),
  (38, ([rv_r 0, rv_i 1 3, rv_i 0 99999, rv_i 0 1, rv_i 10 1000, rv_i 0 0, rv_u, rv_u, rv_u], [rv_r 56], []), [41], 9859894209013, [], []),
  (39, ([rv_r 0, rv_i 1 3, rv_i 0 99999, rv_i 0 1, rv_i 10 1000, rv_i 0 0, rv_u, rv_u, rv_u], [rv_r 0, rv_r 56], []), [42], 9859894209012, [], []),
  (40, ([rv_r 0, rv_i 1 3, rv_i 0 99999, rv_i 0 1, rv_i 10 1000, rv_i 0 0, rv_u, rv_u, rv_u], [rv_r 7, rv_r 56], []), [43], 9859894209011, [], []),
  (41, ([rv_r 0, rv_i 1 3, rv_i 0 99999, rv_i 0 1, rv_i 10 1000, rv_i 0 0, rv_u, rv_u, rv_u], [(1, 0, 0, 1, [(.inr (7, 8), 0)], []), rv_r 56], []), [44], 9859894209010, [], []),
  (42, ([rv_r 0, rv_i 1 3, rv_i 0 99999, rv_i 0 1, rv_i 10 1000, rv_i 0 0, rv_u, rv_u, rv_u], [], []), [45], 9859894209009, [], []),
  (43, ([rv_r 0, rv_i 1 3, rv_i 0 99999, rv_i 0 1, rv_i 10 1000, rv_i 0 0, rv_u, rv_u, rv_u], [rv_i 0 0], []), [46], 9859894209008, [], []),
  (44, ([rv_r 0, rv_i 1 3, rv_i 0 99999, rv_i 0 1, rv_i 10 1000, rv_full, rv_i 0 1000, rv_u, rv_u], [], []), [47], 9859894209007, [(6, (-9859894209))], []),
  (45, ([rv_r 0, rv_i 1 3, rv_i 0 99999, rv_i 0 1, rv_i 10 1000, rv_full, rv_i 0 1000, rv_u, rv_u], [(1, 0, 0, 1000, [(.inl 6, 0)], [])], []), [48], 9859894209006, [(6, (-9859894209))], []),
  (46, ([rv_r 0, rv_i 1 3, rv_i 0 99999, rv_i 0 1, rv_i 10 1000, rv_full, rv_i 0 1000, rv_u, rv_u], [(1, 0, 10, 1000, [(.inl 4, 0)], []), (1, 0, 0, 1000, [(.inl 6, 0)], [])], []), [49, 84], 9859894209005, [(6, (-9859894209))], []),
  (47, ([rv_r 0, rv_i 1 3, rv_i 0 99999, rv_i 0 1, rv_i 10 1000, rv_full, rv_i 0 999, rv_u, rv_u], [], []), [50], 9850034612709, [(6, (-9859894209))], []),
  (48, ([rv_r 0, rv_i 1 3, rv_i 0 99999, rv_i 0 1, rv_i 10 1000, rv_full, rv_i 0 999, rv_u, rv_u], [rv_r 0], []), [51], 9850034612708, [(6, (-9859894209))], []),
  (49, ([rv_r 0, rv_i 1 3, rv_i 0 99999, rv_i 0 1, rv_i 10 1000, rv_full, rv_i 0 999, rv_u, rv_u], [rv_r 56], []), [52], 9850034612707, [(6, (-9859894209))], []),
  (50, ([rv_r 0, rv_i 1 3, rv_i 0 99999, rv_i 0 1, rv_i 10 1000, rv_full, rv_i 0 999, rv_u, rv_u], [rv_r 0, rv_r 56], []), [53], 9850034612706, [(6, (-9859894209))], []),
  (51, ([rv_r 0, rv_i 1 3, rv_i 0 99999, rv_i 0 1, rv_i 10 1000, rv_full, rv_i 0 999, rv_u, rv_u], [rv_r 26, rv_r 56], []), [54], 9850034612705, [(6, (-9859894209))], [4]),
  (52, ([rv_r 0, rv_i 1 3, rv_i 0 99999, rv_i 0 1, rv_i 10 1000, rv_full, rv_i 0 999, rv_u, rv_u], [], []), [55], 9850034612704, [(6, (-9859894209))], []),
  (53, ([rv_r 0, rv_i 1 3, rv_i 0 99999, rv_i 0 1, rv_i 10 1000, rv_full, rv_i 0 999, rv_u, rv_u], [(1, 0, 0, 999, [(.inl 6, 0)], [])], []), [56], 9850034612703, [(6, (-9859894209))], []),
  (54, ([rv_r 0, rv_i 1 3, rv_i 0 99999, rv_i 0 1, rv_i 10 1000, rv_full, rv_i 0 999, rv_i 0 999, rv_u], [], []), [57], 9850034612702, [(6, (-9859894209))], []),
  (55, ([rv_r 0, rv_i 1 3, rv_i 0 99999, rv_i 0 1, rv_i 10 1000, rv_full, rv_i 0 999, rv_i 0 999, rv_u], [rv_i 0 0], []), [58], 9850034612701, [(6, (-9859894209))], []),
  (56, ([rv_r 0, rv_i 1 3, rv_i 0 99999, rv_i 0 1, rv_i 10 1000, rv_full, rv_i 0 999, rv_full, rv_i 0 3], [], []), [59], 9850034612700, [(6, (-9859894209)), (8, (-99297))], []),
  (57, ([rv_r 0, rv_i 1 3, rv_i 0 99999, rv_i 0 1, rv_i 10 1000, rv_full, rv_i 0 999, rv_full, rv_i 0 3], [(1, 0, 0, 3, [(.inl 8, 0)], [])], []), [60], 9850034612699, [(6, (-9859894209)), (8, (-99297))], []),
  (58, ([rv_r 0, rv_i 1 3, rv_i 0 99999, rv_i 0 1, rv_i 10 1000, rv_full, rv_i 0 999, rv_full, rv_i 0 3], [(1, 0, 1, 3, [(.inl 1, 0)], []), (1, 0, 0, 3, [(.inl 8, 0)], [])], []), [61, 76], 9850034612698, [(6, (-9859894209)), (8, (-99297))], []),
  (59, ([rv_r 0, rv_i 1 3, rv_i 0 99999, rv_i 0 1, rv_i 10 1000, rv_full, rv_i 0 999, rv_full, rv_i 0 2], [], []), [62], 9850034513418, [(6, (-9859894209)), (8, (-99297))], []),
  (60, ([rv_r 0, rv_i 1 3, rv_i 0 99999, rv_i 0 1, rv_i 10 1000, rv_full, rv_i 0 999, rv_full, rv_i 0 2], [rv_r 0], []), [63], 9850034513417, [(6, (-9859894209)), (8, (-99297))], []),
  (61, ([rv_r 0, rv_i 1 3, rv_i 0 99999, rv_i 0 1, rv_i 10 1000, rv_full, rv_i 0 999, rv_full, rv_i 0 2], [rv_r 56], []), [64], 9850034513416, [(6, (-9859894209)), (8, (-99297))], []),
  (62, ([rv_r 0, rv_i 1 3, rv_i 0 99999, rv_i 0 1, rv_i 10 1000, rv_full, rv_i 0 999, rv_full, rv_i 0 2], [rv_r 0, rv_r 56], []), [65], 9850034513415, [(6, (-9859894209)), (8, (-99297))], []),
  (63, ([rv_r 0, rv_i 1 3, rv_i 0 99999, rv_i 0 1, rv_i 10 1000, rv_full, rv_i 0 999, rv_full, rv_i 0 2], [rv_r 7, rv_r 56], []), [66], 9850034513414, [(6, (-9859894209)), (8, (-99297))], []),
  (64, ([rv_r 0, rv_i 1 3, rv_i 0 99999, rv_i 0 1, rv_i 10 1000, rv_full, rv_i 0 999, rv_full, rv_i 0 2], [(1, 0, (-2147483648), 2147483647, [(.inl 7, 0)], []), rv_r 7, rv_r 56], []), [67], 9850034513413, [(6, (-9859894209)), (8, (-99297))], []),
  (65, ([rv_r 0, rv_i 1 3, rv_i 0 99999, rv_i 0 1, rv_i 10 1000, rv_full, rv_i 0 999, rv_full, rv_i 0 2], [rv_i 10 10, (1, 0, (-2147483648), 2147483647, [(.inl 7, 0)], []), rv_r 7, rv_r 56], []), [68], 9850034513412, [(6, (-9859894209)), (8, (-99297))], []),
  (66, ([rv_r 0, rv_i 1 3, rv_i 0 99999, rv_i 0 1, rv_i 10 1000, rv_full, rv_i 0 999, rv_full, rv_i 0 2], [rv_full, rv_r 7, rv_r 56], []), [69], 9850034513411, [(6, (-9859894209)), (8, (-99297))], [5]),
  (67, ([rv_r 0, rv_i 1 3, rv_i 0 99999, rv_i 0 1, rv_i 10 1000, rv_full, rv_i 0 999, rv_full, rv_i 0 2], [rv_full], []), [70], 9850034513410, [(6, (-9859894209)), (8, (-99297))], []),
  (68, ([rv_r 0, rv_i 1 3, rv_i 0 99999, rv_i 0 1, rv_i 10 1000, rv_full, rv_i 0 999, rv_full, rv_i 0 2], [], []), [71], 9850034513409, [(6, (-9859894209)), (8, (-99297))], []),
  (69, ([rv_r 0, rv_i 1 3, rv_i 0 99999, rv_i 0 1, rv_i 10 1000, rv_full, rv_i 0 999, rv_full, rv_i 0 2], [(1, 0, (-2147483648), 2147483647, [(.inl 7, 0)], [])], []), [72], 9850034513408, [(6, (-9859894209)), (8, (-99297))], []),
  (70, ([rv_r 0, rv_i 1 3, rv_i 0 99999, rv_i 0 1, rv_i 10 1000, rv_full, rv_i 0 999, rv_full, rv_i 0 2], [rv_i 10 10, (1, 0, (-2147483648), 2147483647, [(.inl 7, 0)], [])], []), [73], 9850034513407, [(6, (-9859894209)), (8, (-99297))], []),
  (71, ([rv_r 0, rv_i 1 3, rv_i 0 99999, rv_i 0 1, rv_i 10 1000, rv_full, rv_i 0 999, rv_full, rv_i 0 2], [rv_full], []), [74], 9850034513406, [(6, (-9859894209)), (8, (-99297))], []),
  (72, ([rv_r 0, rv_i 1 3, rv_i 0 99999, rv_i 0 1, rv_i 10 1000, rv_full, rv_i 0 999, rv_full, rv_i 0 2], [], []), [75], 9850034513405, [(6, (-9859894209)), (8, (-99297))], []),
  (73, ([rv_r 0, rv_i 1 3, rv_i 0 99999, rv_i 0 1, rv_i 10 1000, rv_full, rv_i 0 999, rv_full, rv_i 1 3], [], []), [58], 9850034612701, [(6, (-9859894209)), (8, (-99297))], []),
  (74, ([rv_r 0, rv_i 1 3, rv_i 0 99999, rv_i 0 1, rv_i 10 1000, rv_full, rv_i 0 999, rv_full, rv_i 1 3], [], []), [77], 9850034314806, [(6, (-9859894209))], []),
  (75, ([rv_r 0, rv_i 1 3, rv_i 0 99999, rv_i 0 1, rv_i 10 1000, rv_full, rv_i 0 999, rv_full, rv_i 1 3], [rv_r 0], []), [78], 9850034314805, [(6, (-9859894209))], []),
  (76, ([rv_r 0, rv_i 1 3, rv_i 0 99999, rv_i 0 1, rv_i 10 1000, rv_full, rv_i 0 999, rv_full, rv_i 1 3], [rv_r 56], []), [79], 9850034314804, [(6, (-9859894209))], []),
  (77, ([rv_r 0, rv_i 1 3, rv_i 0 99999, rv_i 0 1, rv_i 10 1000, rv_full, rv_i 0 999, rv_full, rv_i 1 3], [(1, 0, (-2147483648), 2147483647, [(.inr (56, 11), 0)], [])], []), [80], 9850034314803, [(6, (-9859894209))], []),
  (78, ([rv_r 0, rv_i 1 3, rv_i 0 99999, rv_i 0 1, rv_i 10 1000, rv_full, rv_i 0 999, rv_full, rv_i 1 3], [(1, 0, 0, 99999, [(.inl 2, 0)], []), (1, 0, (-2147483648), 2147483647, [(.inr (56, 11), 0)], [])], []), [81, 82], 9850034314802, [(6, (-9859894209))], []),
  (79, ([rv_r 0, rv_i 1 3, rv_i 0 99999, rv_i 0 1, rv_i 10 1000, rv_full, rv_i 0 999, rv_full, rv_i 1 3], [], [((56, 11), 0, 2147483647, [])]), [82], 9850034314801, [(6, (-9859894209))], []),
  (80, ([rv_r 0, rv_i 1 3, rv_i 0 99999, rv_i 0 1, rv_i 10 1000, rv_full, rv_i 0 999, rv_full, rv_i 1 3], [], []), [83], 9850034314800, [(6, (-9859894209))], []),
  (81, ([rv_r 0, rv_i 1 3, rv_i 0 99999, rv_i 0 1, rv_i 10 1000, rv_full, rv_i 1 1000, rv_full, rv_i 1 3], [], []), [46], 9859894209008, [(6, (-9859894209))], []),
  (82, ([rv_r 0, rv_i 1 3, rv_i 0 99999, rv_i 0 1, rv_i 10 1000, rv_full, rv_i 10 1000, rv_u, rv_u], [], []), [85], 4, [], []),
  (83, ([rv_r 0, rv_i 1 3, rv_i 0 99999, rv_i 0 1, rv_i 10 1000, rv_full, rv_i 10 1000, rv_u, rv_u], [(1, 0, (-2147483648), 2147483647, [(.inl 5, 0)], [])], []), [86], 3, [], []),
  (84, ([rv_r 0, rv_i 1 3, rv_i 0 99999, rv_i 0 1, rv_i 10 1000, rv_full, rv_i 10 1000, rv_u, rv_u], [(1, 0, 10, 1000, [(.inl 4, 0)], []), (1, 0, (-2147483648), 2147483647, [(.inl 5, 0)], [])], []), [87], 2, [], []),
  (85, ([rv_r 0, rv_i 1 3, rv_i 0 99999, rv_i 0 1, rv_i 10 1000, rv_full, rv_i 10 1000, rv_u, rv_u], [(1, 0, 0, 1, [(.inl 3, 0)], []), (1, 0, 10, 1000, [(.inl 4, 0)], []), (1, 0, (-2147483648), 2147483647, [(.inl 5, 0)], [])], []), [88], 1, [], [6]),
  (86, ([rv_r 0, rv_i 1 3, rv_i 0 99999, rv_i 0 1, rv_i 10 1000, rv_full, rv_i 10 1000, rv_u, rv_u], [rv_full], []), [], 0, [], [])]
set_option maxRecDepth 100000 in
theorem a_X7_odds_0 : rv_all (fm_tm, flX7, fm_wr, kcX7, klX7, K_X7_odds_0.2.2.1, [], 9) ct_X7_odds_0 cd_X7_odds n_X7_odds_0 K_X7_odds_0 [] 0 n_X7_odds_0 = true := by decide +kernel
theorem m_X7_odds_0 {l : Launch} {D : va_G} {ad : Nat → Nat} {cy : Nat → ClassId} {Z : State → Heap → Prop} {Gp : fm_V → Prop} (hAd : fm_Ad fm_tm ad) (hZ : fm_Zk (fm_A fm_tm ad) Z) (hGd : fm_Gd Gp) : rv_Met l D fm_cl fm_tm ad cy fm_nt Z Gp yX7_odds (.code yX7_odds prog_1_method_28_code 9 (some .int) :: fm_Ts) { frames := 5, cells := 0, slots := 0, locals := 500 } K_X7_odds_0 := rv_met hAd hZ (Or.inl (by decide +kernel)) evX7 dc_X7_odds a_X7_odds_0 ⟨rfl, rfl, rfl⟩ (by decide +kernel) (by decide +kernel) (by decide) (fm_gm hGd (by decide +kernel)) (Or.inl rfl) (fun p e s m args below meth c Q X Y => List.forall_mem_cons.mpr ⟨rv_ctS X Y fm_Ts_good dc_X7_odds (pc := 3) (i := 3) (idx := 80) rfl (m_X7_isWithin_10 hAd hZ hGd) wl_X7_80 wm_X7_isWithin wy_X7_isWithin (by decide) rfl, List.forall_mem_cons.mpr ⟨rv_ctS X Y fm_Ts_good dc_X7_odds (pc := 13) (i := 8) (idx := 80) rfl (m_X7_isWithin_0 hAd hZ hGd) wl_X7_80 wm_X7_isWithin wy_X7_isWithin (by decide) rfl, List.forall_mem_cons.mpr ⟨rv_ctS X Y fm_Ts_good dc_X7_odds (pc := 22) (i := 13) (idx := 80) rfl (m_X7_isWithin_15 hAd hZ hGd) wl_X7_80 wm_X7_isWithin wy_X7_isWithin (by decide) rfl, List.forall_mem_cons.mpr ⟨rv_ctV X Y fm_Ts_good dc_X7_odds (pc := 66) (i := 35) (idx := 168) rfl (m_X0_takeAll_0 hAd hZ hGd) wl_X7_168 wm_X0_takeAll wy_X0_takeAll (by decide) ⟨rfl, rfl, rfl⟩ ⟨rfl, rfl⟩, List.forall_mem_cons.mpr ⟨rv_ctV X Y fm_Ts_good dc_X7_odds (pc := 101) (i := 51) (idx := 221) rfl (m_X0_takeMoving_0 hAd hZ hGd) wl_X7_221 wm_X0_takeMoving wy_X0_takeMoving (by decide) ⟨rfl, rfl, rfl⟩ ⟨rfl, rfl⟩, List.forall_mem_cons.mpr ⟨rv_ctV X Y fm_Ts_good dc_X7_odds (pc := 130) (i := 66) (idx := 155) rfl (m_X0_pass_1 hAd hZ hGd) wl_X7_155 wm_X0_pass wy_X0_pass (by decide) ⟨rfl, rfl, rfl⟩ ⟨rfl, rfl⟩, List.forall_mem_cons.mpr ⟨rv_ctS X Y fm_Ts_good dc_X7_odds (pc := 172) (i := 85) (idx := 286) rfl (m_X7_reduced_0 hAd hZ hGd) wl_X7_286 wm_X7_reduced wy_X7_reduced (by decide) rfl, fun _ h => absurd h List.not_mem_nil⟩⟩⟩⟩⟩⟩⟩) (fun _ _ _ _ _ _ _ _ _ _ _ _ _ _ _ _ h => absurd h List.not_mem_nil)
def K_X7_isWithin_19 : rv_K := ([rv_full, rv_i 0 0, rv_i 65535 65535], [], [], [(0, 0, 1)], [(.inl 0, 0, 65535)], [])
def ct_X7_isWithin_19 : List (Nat × rv_K) := []
def n_X7_isWithin_19 : List rv_N := [
  (0, ([rv_full, rv_i 0 0, rv_i 65535 65535], [], []), [1], 8, [], []),
  (1, ([rv_full, rv_i 0 0, rv_i 65535 65535], [(1, 0, (-2147483648), 2147483647, [(.inl 0, 0)], [])], []), [2], 7, [], []),
  (2, ([rv_full, rv_i 0 0, rv_i 65535 65535], [(1, 0, 0, 0, [(.inl 1, 0)], []), (1, 0, (-2147483648), 2147483647, [(.inl 0, 0)], [])], []), [3, 8], 6, [], []),
  (3, ([rv_i 0 2147483647, rv_i 0 0, rv_i 65535 65535], [], []), [4], 5, [], []),
  (4, ([rv_i 0 2147483647, rv_i 0 0, rv_i 65535 65535], [(1, 0, 0, 2147483647, [(.inl 0, 0)], [])], []), [5], 4, [], []),
  (5, ([rv_i 0 2147483647, rv_i 0 0, rv_i 65535 65535], [(1, 0, 65535, 65535, [(.inl 2, 0)], []), (1, 0, 0, 2147483647, [(.inl 0, 0)], [])], []), [6, 8], 3, [], []),
  (6, ([rv_i 0 65535, rv_i 0 0, rv_i 65535 65535], [], []), [7], 2, [], []),
  (7, ([rv_i 0 65535, rv_i 0 0, rv_i 65535 65535], [rv_i 1 1], []), [10], 1, [], []),
  (8, ([rv_full, rv_i 0 0, rv_i 65535 65535], [], []), [9], 1, [], []),
  (9, ([rv_full, rv_i 0 0, rv_i 65535 65535], [rv_i 0 0], []), [], 0, [], []),
  (9, ([rv_i 0 65535, rv_i 0 0, rv_i 65535 65535], [rv_i 1 1], []), [], 0, [], [])]
set_option maxRecDepth 100000 in
theorem a_X7_isWithin_19 : rv_all (fm_tm, flX7, fm_wr, kcX7, klX7, K_X7_isWithin_19.2.2.1, [0, 1, 2], 3) ct_X7_isWithin_19 cd_X7_isWithin n_X7_isWithin_19 K_X7_isWithin_19 [] 0 n_X7_isWithin_19 = true := by decide +kernel
theorem m_X7_isWithin_19 {l : Launch} {D : va_G} {ad : Nat → Nat} {cy : Nat → ClassId} {Z : State → Heap → Prop} {Gp : fm_V → Prop} (hAd : fm_Ad fm_tm ad) (hZ : fm_Zk (fm_A fm_tm ad) Z) (hGd : fm_Gd Gp) : rv_Met l D fm_cl fm_tm ad cy fm_nt Z Gp yX7_isWithin (.code yX7_isWithin prog_1_method_34_code 3 (some .boolean) :: fm_Ts) { frames := 0, cells := 0, slots := 0, locals := 0 } K_X7_isWithin_19 := rv_met hAd hZ (Or.inl (by decide +kernel)) evX7 dc_X7_isWithin a_X7_isWithin_19 ⟨rfl, rfl, rfl⟩ (by decide +kernel) (by decide +kernel) (by decide) (fm_gm hGd (by decide +kernel)) (Or.inr ⟨rfl, by decide, by decide⟩) (fun p e s m args below meth c Q X Y => fun _ h => absurd h List.not_mem_nil) (fun _ _ _ _ _ _ _ _ _ _ _ _ _ _ _ _ h => absurd h List.not_mem_nil)
def cd_X7_seed : List (Nat × Instr × Nat) := [(0, .iload_n 1, 1), (1, .iconst 0, 1), (2, .ldc_w 289, 3), (5, .invokestatic 80, 3), (8, .ifCond .ne 5, 3), (11, .iconst 0, 1), (12, .ireturn, 1), (13, .aload_n 0, 1), (14, .getfield 38, 3), (17, .iload_n 1, 1), (18, .putfield 290, 3), (21, .iconst 1, 1), (22, .ireturn, 1)]
theorem dc_X7_seed : ∀ q ∈ cd_X7_seed, decode prog_1_method_29_code q.1 = .ok (q.2.1, q.2.2) := by decide +kernel
def K_X7_seed_0 : rv_K := ([rv_r 0, rv_full], [], [(26, 10)], [(0, 0, 1)], [(.inl 1, 0, 65535)], [])
def ct_X7_seed_0 : List (Nat × rv_K) := [(3, K_X7_isWithin_19)]
def n_X7_seed_0 : List rv_N := [
  (0, ([rv_r 0, rv_full], [], []), [1], 10, [], []),
  (1, ([rv_r 0, rv_full], [(1, 0, (-2147483648), 2147483647, [(.inl 1, 0)], [])], []), [2], 9, [], []),
  (2, ([rv_r 0, rv_full], [rv_i 0 0, (1, 0, (-2147483648), 2147483647, [(.inl 1, 0)], [])], []), [3], 8, [], []),
  (3, ([rv_r 0, rv_full], [rv_i 65535 65535, rv_i 0 0, (1, 0, (-2147483648), 2147483647, [(.inl 1, 0)], [])], []), [4], 7, [], [0]),
  (4, ([rv_r 0, rv_full], [(1, 0, 0, 1, [], [(.inl 1, 0, 65535)])], []), [5, 7], 6, [], []),
  (5, ([rv_r 0, rv_full], [], []), [6], 1, [], []),
  (6, ([rv_r 0, rv_full], [rv_i 0 0], []), [], 0, [], []),
  (7, ([rv_r 0, rv_i 0 65535], [], []), [8], 5, [], []),
  (8, ([rv_r 0, rv_i 0 65535], [rv_r 0], []), [9], 4, [], []),
  (9, ([rv_r 0, rv_i 0 65535], [rv_r 26], []), [10], 3, [], []),
  (10, ([rv_r 0, rv_i 0 65535], [(1, 0, 0, 65535, [(.inl 1, 0)], []), rv_r 26], []), [11], 2, [], []),
  (11, ([rv_r 0, rv_i 0 65535], [], [((26, 10), 0, 65535, [])]), [12], 1, [], []),
  (12, ([rv_r 0, rv_i 0 65535], [rv_i 1 1], [((26, 10), 0, 65535, [])]), [], 0, [], [])]
set_option maxRecDepth 100000 in
theorem a_X7_seed_0 : rv_all (fm_tm, flX7, fm_wr, kcX7, klX7, K_X7_seed_0.2.2.1, [1], 2) ct_X7_seed_0 cd_X7_seed n_X7_seed_0 K_X7_seed_0 [] 0 n_X7_seed_0 = true := by decide +kernel
theorem m_X7_seed_0 {l : Launch} {D : va_G} {ad : Nat → Nat} {cy : Nat → ClassId} {Z : State → Heap → Prop} {Gp : fm_V → Prop} (hAd : fm_Ad fm_tm ad) (hZ : fm_Zk (fm_A fm_tm ad) Z) (hGd : fm_Gd Gp) : rv_Met l D fm_cl fm_tm ad cy fm_nt Z Gp yX7_seed (.code yX7_seed prog_1_method_29_code 2 (some .boolean) :: fm_Ts) { frames := 1, cells := 0, slots := 0, locals := 100 } K_X7_seed_0 := rv_met hAd hZ (Or.inl (by decide +kernel)) evX7 dc_X7_seed a_X7_seed_0 ⟨rfl, rfl, rfl⟩ (by decide +kernel) (by decide +kernel) (by decide) (fm_gm hGd (by decide +kernel)) (Or.inr ⟨rfl, by decide, by decide⟩) (fun p e s m args below meth c Q X Y => List.forall_mem_cons.mpr ⟨rv_ctS X Y fm_Ts_good dc_X7_seed (pc := 5) (i := 3) (idx := 80) rfl (m_X7_isWithin_19 hAd hZ hGd) wl_X7_80 wm_X7_isWithin wy_X7_isWithin (by decide) rfl, fun _ h => absurd h List.not_mem_nil⟩) (fun _ _ _ _ _ _ _ _ _ _ _ _ _ _ _ _ h => absurd h List.not_mem_nil)
def K_X2_takeMoving_1 : rv_K := ([rv_r 51, rv_r 36], [], [(52, 9999), (53, 9999)], [], [], [])
def ct_X2_takeMoving_1 : List (Nat × rv_K) := [(7, ([rv_r 37, rv_i 0 0, rv_r 52, rv_i 0 0, rv_i 9 9], [], [(52, 9999)], [], [], [])), (15, ([rv_r 38, rv_i 0 0, rv_r 53, rv_i 0 0, rv_i 9 9], [], [(53, 9999)], [], [], []))]
def n_X2_takeMoving_1 : List rv_N := [
  (0, ([rv_r 51, rv_r 36], [], []), [1], 16, [], []),
  (1, ([rv_r 51, rv_r 36], [rv_r 36], []), [2], 15, [], []),
  (2, ([rv_r 51, rv_r 36], [rv_r 37], []), [3], 14, [], []),
  (3, ([rv_r 51, rv_r 36], [rv_i 0 0, rv_r 37], []), [4], 13, [], []),
  (4, ([rv_r 51, rv_r 36], [rv_r 51, rv_i 0 0, rv_r 37], []), [5], 12, [], []),
  (5, ([rv_r 51, rv_r 36], [rv_r 52, rv_i 0 0, rv_r 37], []), [6], 11, [], []),
  (6, ([rv_r 51, rv_r 36], [rv_i 0 0, rv_r 52, rv_i 0 0, rv_r 37], []), [7], 10, [], []),
  (7, ([rv_r 51, rv_r 36], [rv_i 9 9, rv_i 0 0, rv_r 52, rv_i 0 0, rv_r 37], []), [8], 9, [], [0]),
  (8, ([rv_r 51, rv_r 36], [], []), [9], 8, [], []),
  (9, ([rv_r 51, rv_r 36], [rv_r 36], []), [10], 7, [], []),
  (10, ([rv_r 51, rv_r 36], [rv_r 38], []), [11], 6, [], []),
  (11, ([rv_r 51, rv_r 36], [rv_i 0 0, rv_r 38], []), [12], 5, [], []),
  (12, ([rv_r 51, rv_r 36], [rv_r 51, rv_i 0 0, rv_r 38], []), [13], 4, [], []),
  (13, ([rv_r 51, rv_r 36], [rv_r 53, rv_i 0 0, rv_r 38], []), [14], 3, [], []),
  (14, ([rv_r 51, rv_r 36], [rv_i 0 0, rv_r 53, rv_i 0 0, rv_r 38], []), [15], 2, [], []),
  (15, ([rv_r 51, rv_r 36], [rv_i 9 9, rv_i 0 0, rv_r 53, rv_i 0 0, rv_r 38], []), [16], 1, [], [1]),
  (16, ([rv_r 51, rv_r 36], [], []), [], 0, [], [])]
set_option maxRecDepth 100000 in
theorem a_X2_takeMoving_1 : rv_all (fm_tm, flX2, fm_wr, kcX2, klX2, K_X2_takeMoving_1.2.2.1, [], 2) ct_X2_takeMoving_1 cd_X2_takeMoving n_X2_takeMoving_1 K_X2_takeMoving_1 [] 0 n_X2_takeMoving_1 = true := by decide +kernel
theorem m_X2_takeMoving_1 {l : Launch} {D : va_G} {ad : Nat → Nat} {cy : Nat → ClassId} {Z : State → Heap → Prop} {Gp : fm_V → Prop} (hAd : fm_Ad fm_tm ad) (hZ : fm_Zk (fm_A fm_tm ad) Z) (hGd : fm_Gd Gp) : rv_Met l D fm_cl fm_tm ad cy fm_nt Z Gp yX2_takeMoving (.code yX2_takeMoving prog_4_method_3_code 2 none :: fm_Ts) { frames := 1, cells := 0, slots := 0, locals := 100 } K_X2_takeMoving_1 := rv_met hAd hZ (Or.inl (by decide +kernel)) evX2 dc_X2_takeMoving a_X2_takeMoving_1 ⟨rfl, rfl, rfl⟩ (by decide +kernel) (by decide +kernel) (by decide) (fm_gm hGd (by decide +kernel)) (rfl) (fun p e s m args below meth c Q X Y => List.forall_mem_cons.mpr ⟨rv_ctC X dc_X2_takeMoving (pc := 12) (i := 7) (idx := 28) rfl wl_X2_28 fm_acw (by decide +kernel) (a := 37) (b := 52) (n := 9) ⟨rfl, rfl⟩ (by decide) rfl, List.forall_mem_cons.mpr ⟨rv_ctC X dc_X2_takeMoving (pc := 27) (i := 15) (idx := 28) rfl wl_X2_28 fm_acw (by decide +kernel) (a := 38) (b := 53) (n := 9) ⟨rfl, rfl⟩ (by decide) rfl, fun _ h => absurd h List.not_mem_nil⟩⟩) (fun _ _ _ _ _ _ _ _ _ _ _ _ _ _ _ _ h => absurd h List.not_mem_nil)
def K_X0_takeMoving_1 : rv_K := ([rv_r 41, rv_r 26], [], [(41, 9), (41, 10), (41, 11), (41, 12), (41, 13), (42, 9999), (47, 9999), (52, 9999), (53, 9999)], [], [], [])
def ct_X0_takeMoving_1 : List (Nat × rv_K) := [(4, K_X2_takeMoving_1), (12, ([rv_r 27, rv_i 0 0, rv_r 42, rv_i 0 0, rv_i 20 20], [], [(42, 9999)], [], [], [])), (20, ([rv_r 32, rv_i 0 0, rv_r 47, rv_i 0 0, rv_i 6 6], [], [(47, 9999)], [], [], []))]
def n_X0_takeMoving_1 : List rv_N := [
  (0, ([rv_r 41, rv_r 26], [], []), [1], 41, [], []),
  (1, ([rv_r 41, rv_r 26], [rv_r 41], []), [2], 40, [], []),
  (2, ([rv_r 41, rv_r 26], [rv_r 51], []), [3], 39, [], []),
  (3, ([rv_r 41, rv_r 26], [rv_r 26, rv_r 51], []), [4], 38, [], []),
  (4, ([rv_r 41, rv_r 26], [rv_r 36, rv_r 51], []), [5], 37, [], [0]),
  (5, ([rv_r 41, rv_r 26], [], []), [6], 36, [], []),
  (6, ([rv_r 41, rv_r 26], [rv_r 26], []), [7], 35, [], []),
  (7, ([rv_r 41, rv_r 26], [rv_r 27], []), [8], 34, [], []),
  (8, ([rv_r 41, rv_r 26], [rv_i 0 0, rv_r 27], []), [9], 33, [], []),
  (9, ([rv_r 41, rv_r 26], [rv_r 41, rv_i 0 0, rv_r 27], []), [10], 32, [], []),
  (10, ([rv_r 41, rv_r 26], [rv_r 42, rv_i 0 0, rv_r 27], []), [11], 31, [], []),
  (11, ([rv_r 41, rv_r 26], [rv_i 0 0, rv_r 42, rv_i 0 0, rv_r 27], []), [12], 30, [], []),
  (12, ([rv_r 41, rv_r 26], [rv_i 20 20, rv_i 0 0, rv_r 42, rv_i 0 0, rv_r 27], []), [13], 29, [], [1]),
  (13, ([rv_r 41, rv_r 26], [], []), [14], 28, [], []),
  (14, ([rv_r 41, rv_r 26], [rv_r 26], []), [15], 27, [], []),
  (15, ([rv_r 41, rv_r 26], [rv_r 32], []), [16], 26, [], []),
  (16, ([rv_r 41, rv_r 26], [rv_i 0 0, rv_r 32], []), [17], 25, [], []),
  (17, ([rv_r 41, rv_r 26], [rv_r 41, rv_i 0 0, rv_r 32], []), [18], 24, [], []),
  (18, ([rv_r 41, rv_r 26], [rv_r 47, rv_i 0 0, rv_r 32], []), [19], 23, [], []),
  (19, ([rv_r 41, rv_r 26], [rv_i 0 0, rv_r 47, rv_i 0 0, rv_r 32], []), [20], 22, [], []),
  (20, ([rv_r 41, rv_r 26], [rv_i 6 6, rv_i 0 0, rv_r 47, rv_i 0 0, rv_r 32], []), [21], 21, [], [2]),
  (21, ([rv_r 41, rv_r 26], [], []), [22], 20, [], []),
  (22, ([rv_r 41, rv_r 26], [rv_r 41], []), [23], 19, [], []),
  (23, ([rv_r 41, rv_r 26], [rv_r 26, rv_r 41], []), [24], 18, [], []),
  (24, ([rv_r 41, rv_r 26], [(1, 0, (-2147483648), 2147483647, [(.inr (26, 9), 0)], []), rv_r 41], []), [25], 17, [], []),
  (25, ([rv_r 41, rv_r 26], [], []), [26], 16, [], []),
  (26, ([rv_r 41, rv_r 26], [rv_r 41], []), [27], 15, [], []),
  (27, ([rv_r 41, rv_r 26], [rv_r 26, rv_r 41], []), [28], 14, [], []),
  (28, ([rv_r 41, rv_r 26], [(1, 0, (-2147483648), 2147483647, [(.inr (26, 10), 0)], []), rv_r 41], []), [29], 13, [], []),
  (29, ([rv_r 41, rv_r 26], [], []), [30], 12, [], []),
  (30, ([rv_r 41, rv_r 26], [rv_r 41], []), [31], 11, [], []),
  (31, ([rv_r 41, rv_r 26], [rv_r 26, rv_r 41], []), [32], 10, [], []),
  (32, ([rv_r 41, rv_r 26], [(1, 0, (-2147483648), 2147483647, [(.inr (26, 11), 0)], []), rv_r 41], []), [33], 9, [], []),
  (33, ([rv_r 41, rv_r 26], [], []), [34], 8, [], []),
  (34, ([rv_r 41, rv_r 26], [rv_r 41], []), [35], 7, [], []),
  (35, ([rv_r 41, rv_r 26], [rv_r 26, rv_r 41], []), [36], 6, [], []),
  (36, ([rv_r 41, rv_r 26], [(1, 0, (-2147483648), 2147483647, [(.inr (26, 12), 0)], []), rv_r 41], []), [37], 5, [], []),
  (37, ([rv_r 41, rv_r 26], [], []), [38], 4, [], []),
  (38, ([rv_r 41, rv_r 26], [rv_r 41], []), [39], 3, [], []),
  (39, ([rv_r 41, rv_r 26], [rv_r 26, rv_r 41], []), [40], 2, [], []),
  (40, ([rv_r 41, rv_r 26], [(1, 0, (-2147483648), 2147483647, [(.inr (26, 13), 0)], []), rv_r 41], []), [41], 1, [], []),
  (41, ([rv_r 41, rv_r 26], [], []), [], 0, [], [])]
set_option maxRecDepth 100000 in
theorem a_X0_takeMoving_1 : rv_all (fm_tm, flX0, fm_wr, kcX0, klX0, K_X0_takeMoving_1.2.2.1, [], 2) ct_X0_takeMoving_1 cd_X0_takeMoving n_X0_takeMoving_1 K_X0_takeMoving_1 [] 0 n_X0_takeMoving_1 = true := by decide +kernel
theorem m_X0_takeMoving_1 {l : Launch} {D : va_G} {ad : Nat → Nat} {cy : Nat → ClassId} {Z : State → Heap → Prop} {Gp : fm_V → Prop} (hAd : fm_Ad fm_tm ad) (hZ : fm_Zk (fm_A fm_tm ad) Z) (hGd : fm_Gd Gp) : rv_Met l D fm_cl fm_tm ad cy fm_nt Z Gp yX0_takeMoving (.code yX0_takeMoving prog_2_method_3_code 2 none :: fm_Ts) { frames := 2, cells := 0, slots := 0, locals := 200 } K_X0_takeMoving_1 := rv_met hAd hZ (Or.inl (by decide +kernel)) evX0 dc_X0_takeMoving a_X0_takeMoving_1 ⟨rfl, rfl, rfl⟩ (by decide +kernel) (by decide +kernel) (by decide) (fm_gm hGd (by decide +kernel)) (rfl) (fun p e s m args below meth c Q X Y => List.forall_mem_cons.mpr ⟨rv_ctV X Y fm_Ts_good dc_X0_takeMoving (pc := 8) (i := 4) (idx := 92) rfl (m_X2_takeMoving_1 hAd hZ hGd) wl_X0_92 wm_X2_takeMoving wy_X2_takeMoving (by decide) ⟨rfl, rfl, rfl⟩ ⟨rfl, rfl⟩, List.forall_mem_cons.mpr ⟨rv_ctC X dc_X0_takeMoving (pc := 23) (i := 12) (idx := 86) rfl wl_X0_86 fm_acw (by decide +kernel) (a := 27) (b := 42) (n := 20) ⟨rfl, rfl⟩ (by decide) rfl, List.forall_mem_cons.mpr ⟨rv_ctC X dc_X0_takeMoving (pc := 38) (i := 20) (idx := 86) rfl wl_X0_86 fm_acw (by decide +kernel) (a := 32) (b := 47) (n := 6) ⟨rfl, rfl⟩ (by decide) rfl, fun _ h => absurd h List.not_mem_nil⟩⟩⟩) (fun _ _ _ _ _ _ _ _ _ _ _ _ _ _ _ _ h => absurd h List.not_mem_nil)
def K_X2_takeAll_1 : rv_K := ([rv_r 51, rv_r 36], [], [(51, 0), (54, 9999), (55, 9999)], [], [], [])
def ct_X2_takeAll_1 : List (Nat × rv_K) := [(11, ([rv_r 39, rv_i 0 0, rv_r 54, rv_i 0 0, rv_i 9 9], [], [(54, 9999)], [], [], [])), (19, ([rv_r 40, rv_i 0 0, rv_r 55, rv_i 0 0, rv_i 9 9], [], [(55, 9999)], [], [], []))]
def n_X2_takeAll_1 : List rv_N := [
  (0, ([rv_r 51, rv_r 36], [], []), [1], 20, [], []),
  (1, ([rv_r 51, rv_r 36], [rv_r 51], []), [2], 19, [], []),
  (2, ([rv_r 51, rv_r 36], [rv_r 36, rv_r 51], []), [3], 18, [], []),
  (3, ([rv_r 51, rv_r 36], [(1, 0, (-2147483648), 2147483647, [(.inr (36, 0), 0)], []), rv_r 51], []), [4], 17, [], []),
  (4, ([rv_r 51, rv_r 36], [], []), [5], 16, [], []),
  (5, ([rv_r 51, rv_r 36], [rv_r 36], []), [6], 15, [], []),
  (6, ([rv_r 51, rv_r 36], [rv_r 39], []), [7], 14, [], []),
  (7, ([rv_r 51, rv_r 36], [rv_i 0 0, rv_r 39], []), [8], 13, [], []),
  (8, ([rv_r 51, rv_r 36], [rv_r 51, rv_i 0 0, rv_r 39], []), [9], 12, [], []),
  (9, ([rv_r 51, rv_r 36], [rv_r 54, rv_i 0 0, rv_r 39], []), [10], 11, [], []),
  (10, ([rv_r 51, rv_r 36], [rv_i 0 0, rv_r 54, rv_i 0 0, rv_r 39], []), [11], 10, [], []),
  (11, ([rv_r 51, rv_r 36], [rv_i 9 9, rv_i 0 0, rv_r 54, rv_i 0 0, rv_r 39], []), [12], 9, [], [0]),
  (12, ([rv_r 51, rv_r 36], [], []), [13], 8, [], []),
  (13, ([rv_r 51, rv_r 36], [rv_r 36], []), [14], 7, [], []),
  (14, ([rv_r 51, rv_r 36], [rv_r 40], []), [15], 6, [], []),
  (15, ([rv_r 51, rv_r 36], [rv_i 0 0, rv_r 40], []), [16], 5, [], []),
  (16, ([rv_r 51, rv_r 36], [rv_r 51, rv_i 0 0, rv_r 40], []), [17], 4, [], []),
  (17, ([rv_r 51, rv_r 36], [rv_r 55, rv_i 0 0, rv_r 40], []), [18], 3, [], []),
  (18, ([rv_r 51, rv_r 36], [rv_i 0 0, rv_r 55, rv_i 0 0, rv_r 40], []), [19], 2, [], []),
  (19, ([rv_r 51, rv_r 36], [rv_i 9 9, rv_i 0 0, rv_r 55, rv_i 0 0, rv_r 40], []), [20], 1, [], [1]),
  (20, ([rv_r 51, rv_r 36], [], []), [], 0, [], [])]
set_option maxRecDepth 100000 in
theorem a_X2_takeAll_1 : rv_all (fm_tm, flX2, fm_wr, kcX2, klX2, K_X2_takeAll_1.2.2.1, [], 2) ct_X2_takeAll_1 cd_X2_takeAll n_X2_takeAll_1 K_X2_takeAll_1 [] 0 n_X2_takeAll_1 = true := by decide +kernel
theorem m_X2_takeAll_1 {l : Launch} {D : va_G} {ad : Nat → Nat} {cy : Nat → ClassId} {Z : State → Heap → Prop} {Gp : fm_V → Prop} (hAd : fm_Ad fm_tm ad) (hZ : fm_Zk (fm_A fm_tm ad) Z) (hGd : fm_Gd Gp) : rv_Met l D fm_cl fm_tm ad cy fm_nt Z Gp yX2_takeAll (.code yX2_takeAll prog_4_method_2_code 2 none :: fm_Ts) { frames := 1, cells := 0, slots := 0, locals := 100 } K_X2_takeAll_1 := rv_met hAd hZ (Or.inl (by decide +kernel)) evX2 dc_X2_takeAll a_X2_takeAll_1 ⟨rfl, rfl, rfl⟩ (by decide +kernel) (by decide +kernel) (by decide) (fm_gm hGd (by decide +kernel)) (rfl) (fun p e s m args below meth c Q X Y => List.forall_mem_cons.mpr ⟨rv_ctC X dc_X2_takeAll (pc := 20) (i := 11) (idx := 28) rfl wl_X2_28 fm_acw (by decide +kernel) (a := 39) (b := 54) (n := 9) ⟨rfl, rfl⟩ (by decide) rfl, List.forall_mem_cons.mpr ⟨rv_ctC X dc_X2_takeAll (pc := 35) (i := 19) (idx := 28) rfl wl_X2_28 fm_acw (by decide +kernel) (a := 40) (b := 55) (n := 9) ⟨rfl, rfl⟩ (by decide) rfl, fun _ h => absurd h List.not_mem_nil⟩⟩) (fun _ _ _ _ _ _ _ _ _ _ _ _ _ _ _ _ h => absurd h List.not_mem_nil)
def K_X0_takeAll_1 : rv_K := ([rv_r 41, rv_r 26], [], [(41, 9), (41, 10), (41, 11), (41, 12), (41, 13), (41, 14), (41, 15), (42, 9999), (43, 9999), (44, 9999), (45, 9999), (46, 9999), (47, 9999), (48, 9999), (49, 9999), (51, 0), (52, 9999), (53, 9999), (54, 9999), (55, 9999)], [], [], [])
def ct_X0_takeAll_1 : List (Nat × rv_K) := [(2, K_X0_takeMoving_1), (7, K_X2_takeAll_1), (15, ([rv_r 28, rv_i 0 0, rv_r 43, rv_i 0 0, rv_i 20 20], [], [(43, 9999)], [], [], [])), (23, ([rv_r 29, rv_i 0 0, rv_r 44, rv_i 0 0, rv_i 20 20], [], [(44, 9999)], [], [], [])), (31, ([rv_r 30, rv_i 0 0, rv_r 45, rv_i 0 0, rv_i 20 20], [], [(45, 9999)], [], [], [])), (39, ([rv_r 31, rv_i 0 0, rv_r 46, rv_i 0 0, rv_i 6 6], [], [(46, 9999)], [], [], [])), (47, ([rv_r 33, rv_i 0 0, rv_r 48, rv_i 0 0, rv_i 100 100], [], [(48, 9999)], [], [], [])), (55, ([rv_r 34, rv_i 0 0, rv_r 49, rv_i 0 0, rv_i 180 180], [], [(49, 9999)], [], [], []))]
def n_X0_takeAll_1 : List rv_N := [
  (0, ([rv_r 41, rv_r 26], [], []), [1], 62, [], []),
  (1, ([rv_r 41, rv_r 26], [rv_r 41], []), [2], 61, [], []),
  (2, ([rv_r 41, rv_r 26], [rv_r 26, rv_r 41], []), [3], 60, [], [0]),
  (3, ([rv_r 41, rv_r 26], [], []), [4], 59, [], []),
  (4, ([rv_r 41, rv_r 26], [rv_r 41], []), [5], 58, [], []),
  (5, ([rv_r 41, rv_r 26], [rv_r 51], []), [6], 57, [], []),
  (6, ([rv_r 41, rv_r 26], [rv_r 26, rv_r 51], []), [7], 56, [], []),
  (7, ([rv_r 41, rv_r 26], [rv_r 36, rv_r 51], []), [8], 55, [], [1]),
  (8, ([rv_r 41, rv_r 26], [], []), [9], 54, [], []),
  (9, ([rv_r 41, rv_r 26], [rv_r 26], []), [10], 53, [], []),
  (10, ([rv_r 41, rv_r 26], [rv_r 28], []), [11], 52, [], []),
  (11, ([rv_r 41, rv_r 26], [rv_i 0 0, rv_r 28], []), [12], 51, [], []),
  (12, ([rv_r 41, rv_r 26], [rv_r 41, rv_i 0 0, rv_r 28], []), [13], 50, [], []),
  (13, ([rv_r 41, rv_r 26], [rv_r 43, rv_i 0 0, rv_r 28], []), [14], 49, [], []),
  (14, ([rv_r 41, rv_r 26], [rv_i 0 0, rv_r 43, rv_i 0 0, rv_r 28], []), [15], 48, [], []),
  (15, ([rv_r 41, rv_r 26], [rv_i 20 20, rv_i 0 0, rv_r 43, rv_i 0 0, rv_r 28], []), [16], 47, [], [2]),
  (16, ([rv_r 41, rv_r 26], [], []), [17], 46, [], []),
  (17, ([rv_r 41, rv_r 26], [rv_r 26], []), [18], 45, [], []),
  (18, ([rv_r 41, rv_r 26], [rv_r 29], []), [19], 44, [], []),
  (19, ([rv_r 41, rv_r 26], [rv_i 0 0, rv_r 29], []), [20], 43, [], []),
  (20, ([rv_r 41, rv_r 26], [rv_r 41, rv_i 0 0, rv_r 29], []), [21], 42, [], []),
  (21, ([rv_r 41, rv_r 26], [rv_r 44, rv_i 0 0, rv_r 29], []), [22], 41, [], []),
  (22, ([rv_r 41, rv_r 26], [rv_i 0 0, rv_r 44, rv_i 0 0, rv_r 29], []), [23], 40, [], []),
  (23, ([rv_r 41, rv_r 26], [rv_i 20 20, rv_i 0 0, rv_r 44, rv_i 0 0, rv_r 29], []), [24], 39, [], [3]),
  (24, ([rv_r 41, rv_r 26], [], []), [25], 38, [], []),
  (25, ([rv_r 41, rv_r 26], [rv_r 26], []), [26], 37, [], []),
  (26, ([rv_r 41, rv_r 26], [rv_r 30], []), [27], 36, [], []),
  (27, ([rv_r 41, rv_r 26], [rv_i 0 0, rv_r 30], []), [28], 35, [], []),
  (28, ([rv_r 41, rv_r 26], [rv_r 41, rv_i 0 0, rv_r 30], []), [29], 34, [], []),
  (29, ([rv_r 41, rv_r 26], [rv_r 45, rv_i 0 0, rv_r 30], []), [30], 33, [], []),
  (30, ([rv_r 41, rv_r 26], [rv_i 0 0, rv_r 45, rv_i 0 0, rv_r 30], []), [31], 32, [], []),
  (31, ([rv_r 41, rv_r 26], [rv_i 20 20, rv_i 0 0, rv_r 45, rv_i 0 0, rv_r 30], []), [32], 31, [], [4]),
  (32, ([rv_r 41, rv_r 26], [], []), [33], 30, [], []),
  (33, ([rv_r 41, rv_r 26], [rv_r 26], []), [34], 29, [], []),
  (34, ([rv_r 41, rv_r 26], [rv_r 31], []), [35], 28, [], []),
  (35, ([rv_r 41, rv_r 26], [rv_i 0 0, rv_r 31], []), [36], 27, [], []),
  (36, ([rv_r 41, rv_r 26], [rv_r 41, rv_i 0 0, rv_r 31], []), [37], 26, [], []),
  (37, ([rv_r 41, rv_r 26], [rv_r 46, rv_i 0 0, rv_r 31], []), [38], 25, [], []),
  (38, ([rv_r 41, rv_r 26], [rv_i 0 0, rv_r 46, rv_i 0 0, rv_r 31], []), [39], 24, [], []),
  (39, ([rv_r 41, rv_r 26], [rv_i 6 6, rv_i 0 0, rv_r 46, rv_i 0 0, rv_r 31], []), [40], 23, [], [5]),
  (40, ([rv_r 41, rv_r 26], [], []), [41], 22, [], []),
  (41, ([rv_r 41, rv_r 26], [rv_r 26], []), [42], 21, [], []),
  (42, ([rv_r 41, rv_r 26], [rv_r 33], []), [43], 20, [], []),
  (43, ([rv_r 41, rv_r 26], [rv_i 0 0, rv_r 33], []), [44], 19, [], []),
  (44, ([rv_r 41, rv_r 26], [rv_r 41, rv_i 0 0, rv_r 33], []), [45], 18, [], []),
  (45, ([rv_r 41, rv_r 26], [rv_r 48, rv_i 0 0, rv_r 33], []), [46], 17, [], []),
  (46, ([rv_r 41, rv_r 26], [rv_i 0 0, rv_r 48, rv_i 0 0, rv_r 33], []), [47], 16, [], []),
  (47, ([rv_r 41, rv_r 26], [rv_i 100 100, rv_i 0 0, rv_r 48, rv_i 0 0, rv_r 33], []), [48], 15, [], [6]),
  (48, ([rv_r 41, rv_r 26], [], []), [49], 14, [], []),
  (49, ([rv_r 41, rv_r 26], [rv_r 26], []), [50], 13, [], []),
  (50, ([rv_r 41, rv_r 26], [rv_r 34], []), [51], 12, [], []),
  (51, ([rv_r 41, rv_r 26], [rv_i 0 0, rv_r 34], []), [52], 11, [], []),
  (52, ([rv_r 41, rv_r 26], [rv_r 41, rv_i 0 0, rv_r 34], []), [53], 10, [], []),
  (53, ([rv_r 41, rv_r 26], [rv_r 49, rv_i 0 0, rv_r 34], []), [54], 9, [], []),
  (54, ([rv_r 41, rv_r 26], [rv_i 0 0, rv_r 49, rv_i 0 0, rv_r 34], []), [55], 8, [], []),
  (55, ([rv_r 41, rv_r 26], [rv_i 180 180, rv_i 0 0, rv_r 49, rv_i 0 0, rv_r 34], []), [56], 7, [], [7]),
  (56, ([rv_r 41, rv_r 26], [], []), [57], 6, [], []),
  (57, ([rv_r 41, rv_r 26], [rv_r 41], []), [58], 5, [], []),
  (58, ([rv_r 41, rv_r 26], [rv_i 1 1, rv_r 41], []), [59], 4, [], []),
  (59, ([rv_r 41, rv_r 26], [], [((41, 14), 1, 1, [])]), [60], 3, [], []),
  (60, ([rv_r 41, rv_r 26], [rv_r 41], [((41, 14), 1, 1, [])]), [61], 2, [], []),
  (61, ([rv_r 41, rv_r 26], [rv_i 6 6, rv_r 41], [((41, 14), 1, 1, [])]), [62], 1, [], []),
  (62, ([rv_r 41, rv_r 26], [], [((41, 14), 1, 1, []), ((41, 15), 6, 6, [])]), [], 0, [], [])]
set_option maxRecDepth 100000 in
theorem a_X0_takeAll_1 : rv_all (fm_tm, flX0, fm_wr, kcX0, klX0, K_X0_takeAll_1.2.2.1, [], 2) ct_X0_takeAll_1 cd_X0_takeAll n_X0_takeAll_1 K_X0_takeAll_1 [] 0 n_X0_takeAll_1 = true := by decide +kernel
theorem m_X0_takeAll_1 {l : Launch} {D : va_G} {ad : Nat → Nat} {cy : Nat → ClassId} {Z : State → Heap → Prop} {Gp : fm_V → Prop} (hAd : fm_Ad fm_tm ad) (hZ : fm_Zk (fm_A fm_tm ad) Z) (hGd : fm_Gd Gp) : rv_Met l D fm_cl fm_tm ad cy fm_nt Z Gp yX0_takeAll (.code yX0_takeAll prog_2_method_2_code 2 none :: fm_Ts) { frames := 3, cells := 0, slots := 0, locals := 300 } K_X0_takeAll_1 := rv_met hAd hZ (Or.inl (by decide +kernel)) evX0 dc_X0_takeAll a_X0_takeAll_1 ⟨rfl, rfl, rfl⟩ (by decide +kernel) (by decide +kernel) (by decide) (fm_gm hGd (by decide +kernel)) (rfl) (fun p e s m args below meth c Q X Y => List.forall_mem_cons.mpr ⟨rv_ctV X Y fm_Ts_good dc_X0_takeAll (pc := 2) (i := 2) (idx := 78) rfl (m_X0_takeMoving_1 hAd hZ hGd) wl_X0_78 wm_X0_takeMoving wy_X0_takeMoving (by decide) ⟨rfl, rfl, rfl⟩ ⟨rfl, rfl⟩, List.forall_mem_cons.mpr ⟨rv_ctV X Y fm_Ts_good dc_X0_takeAll (pc := 13) (i := 7) (idx := 82) rfl (m_X2_takeAll_1 hAd hZ hGd) wl_X0_82 wm_X2_takeAll wy_X2_takeAll (by decide) ⟨rfl, rfl, rfl⟩ ⟨rfl, rfl⟩, List.forall_mem_cons.mpr ⟨rv_ctC X dc_X0_takeAll (pc := 28) (i := 15) (idx := 86) rfl wl_X0_86 fm_acw (by decide +kernel) (a := 28) (b := 43) (n := 20) ⟨rfl, rfl⟩ (by decide) rfl, List.forall_mem_cons.mpr ⟨rv_ctC X dc_X0_takeAll (pc := 43) (i := 23) (idx := 86) rfl wl_X0_86 fm_acw (by decide +kernel) (a := 29) (b := 44) (n := 20) ⟨rfl, rfl⟩ (by decide) rfl, List.forall_mem_cons.mpr ⟨rv_ctC X dc_X0_takeAll (pc := 58) (i := 31) (idx := 86) rfl wl_X0_86 fm_acw (by decide +kernel) (a := 30) (b := 45) (n := 20) ⟨rfl, rfl⟩ (by decide) rfl, List.forall_mem_cons.mpr ⟨rv_ctC X dc_X0_takeAll (pc := 73) (i := 39) (idx := 86) rfl wl_X0_86 fm_acw (by decide +kernel) (a := 31) (b := 46) (n := 6) ⟨rfl, rfl⟩ (by decide) rfl, List.forall_mem_cons.mpr ⟨rv_ctC X dc_X0_takeAll (pc := 88) (i := 47) (idx := 86) rfl wl_X0_86 fm_acw (by decide +kernel) (a := 33) (b := 48) (n := 100) ⟨rfl, rfl⟩ (by decide) rfl, List.forall_mem_cons.mpr ⟨rv_ctC X dc_X0_takeAll (pc := 104) (i := 55) (idx := 86) rfl wl_X0_86 fm_acw (by decide +kernel) (a := 34) (b := 49) (n := 180) ⟨rfl, rfl⟩ (by decide) rfl, fun _ h => absurd h List.not_mem_nil⟩⟩⟩⟩⟩⟩⟩⟩) (fun _ _ _ _ _ _ _ _ _ _ _ _ _ _ _ _ h => absurd h List.not_mem_nil)
def cd_X6_take : List (Nat × Instr × Nat) := [(0, .aload_n 1, 1), (1, .getfield 9, 3), (4, .iconst 0, 1), (5, .aload_n 0, 1), (6, .getfield 9, 3), (9, .iconst 0, 1), (10, .sipush 220, 3), (13, .invokestatic 23, 3), (16, .aload_n 0, 1), (17, .aload_n 1, 1), (18, .getfield 15, 3), (21, .putfield 15, 3), (24, .return_, 1)]
theorem dc_X6_take : ∀ q ∈ cd_X6_take, decode prog_8_method_6_code q.1 = .ok (q.2.1, q.2.2) := by decide +kernel
def K_X6_take_0 : rv_K := ([rv_r 5, rv_r 3], [], [(5, 1), (6, 9999)], [], [], [])
def ct_X6_take_0 : List (Nat × rv_K) := [(7, ([rv_r 4, rv_i 0 0, rv_r 6, rv_i 0 0, rv_i 220 220], [], [(6, 9999)], [], [], []))]
def n_X6_take_0 : List rv_N := [
  (0, ([rv_r 5, rv_r 3], [], []), [1], 12, [], []),
  (1, ([rv_r 5, rv_r 3], [rv_r 3], []), [2], 11, [], []),
  (2, ([rv_r 5, rv_r 3], [rv_r 4], []), [3], 10, [], []),
  (3, ([rv_r 5, rv_r 3], [rv_i 0 0, rv_r 4], []), [4], 9, [], []),
  (4, ([rv_r 5, rv_r 3], [rv_r 5, rv_i 0 0, rv_r 4], []), [5], 8, [], []),
  (5, ([rv_r 5, rv_r 3], [rv_r 6, rv_i 0 0, rv_r 4], []), [6], 7, [], []),
  (6, ([rv_r 5, rv_r 3], [rv_i 0 0, rv_r 6, rv_i 0 0, rv_r 4], []), [7], 6, [], []),
  (7, ([rv_r 5, rv_r 3], [rv_i 220 220, rv_i 0 0, rv_r 6, rv_i 0 0, rv_r 4], []), [8], 5, [], [0]),
  (8, ([rv_r 5, rv_r 3], [], []), [9], 4, [], []),
  (9, ([rv_r 5, rv_r 3], [rv_r 5], []), [10], 3, [], []),
  (10, ([rv_r 5, rv_r 3], [rv_r 3, rv_r 5], []), [11], 2, [], []),
  (11, ([rv_r 5, rv_r 3], [(1, 0, (-2147483648), 2147483647, [(.inr (3, 1), 0)], []), rv_r 5], []), [12], 1, [], []),
  (12, ([rv_r 5, rv_r 3], [], []), [], 0, [], [])]
set_option maxRecDepth 100000 in
theorem a_X6_take_0 : rv_all (fm_tm, flX6, fm_wr, kcX6, klX6, K_X6_take_0.2.2.1, [], 2) ct_X6_take_0 cd_X6_take n_X6_take_0 K_X6_take_0 [] 0 n_X6_take_0 = true := by decide +kernel
theorem m_X6_take_0 {l : Launch} {D : va_G} {ad : Nat → Nat} {cy : Nat → ClassId} {Z : State → Heap → Prop} {Gp : fm_V → Prop} (hAd : fm_Ad fm_tm ad) (hZ : fm_Zk (fm_A fm_tm ad) Z) (hGd : fm_Gd Gp) : rv_Met l D fm_cl fm_tm ad cy fm_nt Z Gp yX6_take (.code yX6_take prog_8_method_6_code 2 none :: fm_Ts) { frames := 1, cells := 0, slots := 0, locals := 100 } K_X6_take_0 := rv_met hAd hZ (Or.inl (by decide +kernel)) evX6 dc_X6_take a_X6_take_0 ⟨rfl, rfl, rfl⟩ (by decide +kernel) (by decide +kernel) (by decide) (fm_gm hGd (by decide +kernel)) (rfl) (fun p e s m args below meth c Q X Y => List.forall_mem_cons.mpr ⟨rv_ctC X dc_X6_take (pc := 13) (i := 7) (idx := 23) rfl wl_X6_23 fm_acw (by decide +kernel) (a := 4) (b := 6) (n := 220) ⟨rfl, rfl⟩ (by decide) rfl, fun _ h => absurd h List.not_mem_nil⟩) (fun _ _ _ _ _ _ _ _ _ _ _ _ _ _ _ _ h => absurd h List.not_mem_nil)
def cd_X7_keep : List (Nat × Instr × Nat) := [(0, .aload_n 0, 1), (1, .getfield 42, 3), (4, .aload_n 0, 1), (5, .getfield 38, 3), (8, .invokevirtual 168, 3), (11, .aload_n 0, 1), (12, .getfield 16, 3), (15, .aload_n 0, 1), (16, .getfield 12, 3), (19, .invokevirtual 293, 3), (22, .aload_n 0, 1), (23, .iconst 1, 1), (24, .putfield 71, 3), (27, .aload_n 0, 1), (28, .getfield 38, 3), (31, .getfield 295, 3), (34, .ireturn, 1)]
theorem dc_X7_keep : ∀ q ∈ cd_X7_keep, decode prog_1_method_30_code q.1 = .ok (q.2.1, q.2.2) := by decide +kernel
def K_X7_keep_0 : rv_K := ([rv_r 0], [], [(0, 11), (5, 1), (6, 9999), (41, 9), (41, 10), (41, 11), (41, 12), (41, 13), (41, 14), (41, 15), (42, 9999), (43, 9999), (44, 9999), (45, 9999), (46, 9999), (47, 9999), (48, 9999), (49, 9999), (51, 0), (52, 9999), (53, 9999), (54, 9999), (55, 9999)], [(0, (-2147483648), 2147483647)], [], [])
def ct_X7_keep_0 : List (Nat × rv_K) := [(4, K_X0_takeAll_1), (9, K_X6_take_0)]
def n_X7_keep_0 : List rv_N := [
  (0, ([rv_r 0], [], []), [1], 16, [], []),
  (1, ([rv_r 0], [rv_r 0], []), [2], 15, [], []),
  (2, ([rv_r 0], [rv_r 41], []), [3], 14, [], []),
  (3, ([rv_r 0], [rv_r 0, rv_r 41], []), [4], 13, [], []),
  (4, ([rv_r 0], [rv_r 26, rv_r 41], []), [5], 12, [], [0]),
  (5, ([rv_r 0], [], []), [6], 11, [], []),
  (6, ([rv_r 0], [rv_r 0], []), [7], 10, [], []),
  (7, ([rv_r 0], [rv_r 5], []), [8], 9, [], []),
  (8, ([rv_r 0], [rv_r 0, rv_r 5], []), [9], 8, [], []),
  (9, ([rv_r 0], [rv_r 3, rv_r 5], []), [10], 7, [], [1]),
  (10, ([rv_r 0], [], []), [11], 6, [], []),
  (11, ([rv_r 0], [rv_r 0], []), [12], 5, [], []),
  (12, ([rv_r 0], [rv_i 1 1, rv_r 0], []), [13], 4, [], []),
  (13, ([rv_r 0], [], [((0, 11), 1, 1, [])]), [14], 3, [], []),
  (14, ([rv_r 0], [rv_r 0], [((0, 11), 1, 1, [])]), [15], 2, [], []),
  (15, ([rv_r 0], [rv_r 26], [((0, 11), 1, 1, [])]), [16], 1, [], []),
  (16, ([rv_r 0], [(1, 0, (-2147483648), 2147483647, [(.inr (26, 9), 0)], [])], [((0, 11), 1, 1, [])]), [], 0, [], [])]
set_option maxRecDepth 100000 in
theorem a_X7_keep_0 : rv_all (fm_tm, flX7, fm_wr, kcX7, klX7, K_X7_keep_0.2.2.1, [], 1) ct_X7_keep_0 cd_X7_keep n_X7_keep_0 K_X7_keep_0 [] 0 n_X7_keep_0 = true := by decide +kernel
theorem m_X7_keep_0 {l : Launch} {D : va_G} {ad : Nat → Nat} {cy : Nat → ClassId} {Z : State → Heap → Prop} {Gp : fm_V → Prop} (hAd : fm_Ad fm_tm ad) (hZ : fm_Zk (fm_A fm_tm ad) Z) (hGd : fm_Gd Gp) : rv_Met l D fm_cl fm_tm ad cy fm_nt Z Gp yX7_keep (.code yX7_keep prog_1_method_30_code 1 (some .int) :: fm_Ts) { frames := 4, cells := 0, slots := 0, locals := 400 } K_X7_keep_0 := rv_met hAd hZ (Or.inl (by decide +kernel)) evX7 dc_X7_keep a_X7_keep_0 ⟨rfl, rfl, rfl⟩ (by decide +kernel) (by decide +kernel) (by decide) (fm_gm hGd (by decide +kernel)) (Or.inl rfl) (fun p e s m args below meth c Q X Y => List.forall_mem_cons.mpr ⟨rv_ctV X Y fm_Ts_good dc_X7_keep (pc := 8) (i := 4) (idx := 168) rfl (m_X0_takeAll_1 hAd hZ hGd) wl_X7_168 wm_X0_takeAll wy_X0_takeAll (by decide) ⟨rfl, rfl, rfl⟩ ⟨rfl, rfl⟩, List.forall_mem_cons.mpr ⟨rv_ctV X Y fm_Ts_good dc_X7_keep (pc := 19) (i := 9) (idx := 293) rfl (m_X6_take_0 hAd hZ hGd) wl_X7_293 wm_X6_take wy_X6_take (by decide) ⟨rfl, rfl, rfl⟩ ⟨rfl, rfl⟩, fun _ h => absurd h List.not_mem_nil⟩⟩) (fun _ _ _ _ _ _ _ _ _ _ _ _ _ _ _ _ h => absurd h List.not_mem_nil)
def K_X2_takeMoving_2 : rv_K := ([rv_r 36, rv_r 51], [], [(37, 9999), (38, 9999)], [], [], [])
def ct_X2_takeMoving_2 : List (Nat × rv_K) := [(7, ([rv_r 52, rv_i 0 0, rv_r 37, rv_i 0 0, rv_i 9 9], [], [(37, 9999)], [], [], [])), (15, ([rv_r 53, rv_i 0 0, rv_r 38, rv_i 0 0, rv_i 9 9], [], [(38, 9999)], [], [], []))]
def n_X2_takeMoving_2 : List rv_N := [
  (0, ([rv_r 36, rv_r 51], [], []), [1], 16, [], []),
  (1, ([rv_r 36, rv_r 51], [rv_r 51], []), [2], 15, [], []),
  (2, ([rv_r 36, rv_r 51], [rv_r 52], []), [3], 14, [], []),
  (3, ([rv_r 36, rv_r 51], [rv_i 0 0, rv_r 52], []), [4], 13, [], []),
  (4, ([rv_r 36, rv_r 51], [rv_r 36, rv_i 0 0, rv_r 52], []), [5], 12, [], []),
  (5, ([rv_r 36, rv_r 51], [rv_r 37, rv_i 0 0, rv_r 52], []), [6], 11, [], []),
  (6, ([rv_r 36, rv_r 51], [rv_i 0 0, rv_r 37, rv_i 0 0, rv_r 52], []), [7], 10, [], []),
  (7, ([rv_r 36, rv_r 51], [rv_i 9 9, rv_i 0 0, rv_r 37, rv_i 0 0, rv_r 52], []), [8], 9, [], [0]),
  (8, ([rv_r 36, rv_r 51], [], []), [9], 8, [], []),
  (9, ([rv_r 36, rv_r 51], [rv_r 51], []), [10], 7, [], []),
  (10, ([rv_r 36, rv_r 51], [rv_r 53], []), [11], 6, [], []),
  (11, ([rv_r 36, rv_r 51], [rv_i 0 0, rv_r 53], []), [12], 5, [], []),
  (12, ([rv_r 36, rv_r 51], [rv_r 36, rv_i 0 0, rv_r 53], []), [13], 4, [], []),
  (13, ([rv_r 36, rv_r 51], [rv_r 38, rv_i 0 0, rv_r 53], []), [14], 3, [], []),
  (14, ([rv_r 36, rv_r 51], [rv_i 0 0, rv_r 38, rv_i 0 0, rv_r 53], []), [15], 2, [], []),
  (15, ([rv_r 36, rv_r 51], [rv_i 9 9, rv_i 0 0, rv_r 38, rv_i 0 0, rv_r 53], []), [16], 1, [], [1]),
  (16, ([rv_r 36, rv_r 51], [], []), [], 0, [], [])]
set_option maxRecDepth 100000 in
theorem a_X2_takeMoving_2 : rv_all (fm_tm, flX2, fm_wr, kcX2, klX2, K_X2_takeMoving_2.2.2.1, [], 2) ct_X2_takeMoving_2 cd_X2_takeMoving n_X2_takeMoving_2 K_X2_takeMoving_2 [] 0 n_X2_takeMoving_2 = true := by decide +kernel
theorem m_X2_takeMoving_2 {l : Launch} {D : va_G} {ad : Nat → Nat} {cy : Nat → ClassId} {Z : State → Heap → Prop} {Gp : fm_V → Prop} (hAd : fm_Ad fm_tm ad) (hZ : fm_Zk (fm_A fm_tm ad) Z) (hGd : fm_Gd Gp) : rv_Met l D fm_cl fm_tm ad cy fm_nt Z Gp yX2_takeMoving (.code yX2_takeMoving prog_4_method_3_code 2 none :: fm_Ts) { frames := 1, cells := 0, slots := 0, locals := 100 } K_X2_takeMoving_2 := rv_met hAd hZ (Or.inl (by decide +kernel)) evX2 dc_X2_takeMoving a_X2_takeMoving_2 ⟨rfl, rfl, rfl⟩ (by decide +kernel) (by decide +kernel) (by decide) (fm_gm hGd (by decide +kernel)) (rfl) (fun p e s m args below meth c Q X Y => List.forall_mem_cons.mpr ⟨rv_ctC X dc_X2_takeMoving (pc := 12) (i := 7) (idx := 28) rfl wl_X2_28 fm_acw (by decide +kernel) (a := 52) (b := 37) (n := 9) ⟨rfl, rfl⟩ (by decide) rfl, List.forall_mem_cons.mpr ⟨rv_ctC X dc_X2_takeMoving (pc := 27) (i := 15) (idx := 28) rfl wl_X2_28 fm_acw (by decide +kernel) (a := 53) (b := 38) (n := 9) ⟨rfl, rfl⟩ (by decide) rfl, fun _ h => absurd h List.not_mem_nil⟩⟩) (fun _ _ _ _ _ _ _ _ _ _ _ _ _ _ _ _ h => absurd h List.not_mem_nil)
def K_X0_takeMoving_2 : rv_K := ([rv_r 26, rv_r 41], [], [(26, 9), (26, 10), (26, 11), (26, 12), (26, 13), (27, 9999), (32, 9999), (37, 9999), (38, 9999)], [], [], [])
def ct_X0_takeMoving_2 : List (Nat × rv_K) := [(4, K_X2_takeMoving_2), (12, ([rv_r 42, rv_i 0 0, rv_r 27, rv_i 0 0, rv_i 20 20], [], [(27, 9999)], [], [], [])), (20, ([rv_r 47, rv_i 0 0, rv_r 32, rv_i 0 0, rv_i 6 6], [], [(32, 9999)], [], [], []))]
def n_X0_takeMoving_2 : List rv_N := [
  (0, ([rv_r 26, rv_r 41], [], []), [1], 41, [], []),
  (1, ([rv_r 26, rv_r 41], [rv_r 26], []), [2], 40, [], []),
  (2, ([rv_r 26, rv_r 41], [rv_r 36], []), [3], 39, [], []),
  (3, ([rv_r 26, rv_r 41], [rv_r 41, rv_r 36], []), [4], 38, [], []),
  (4, ([rv_r 26, rv_r 41], [rv_r 51, rv_r 36], []), [5], 37, [], [0]),
  (5, ([rv_r 26, rv_r 41], [], []), [6], 36, [], []),
  (6, ([rv_r 26, rv_r 41], [rv_r 41], []), [7], 35, [], []),
  (7, ([rv_r 26, rv_r 41], [rv_r 42], []), [8], 34, [], []),
  (8, ([rv_r 26, rv_r 41], [rv_i 0 0, rv_r 42], []), [9], 33, [], []),
  (9, ([rv_r 26, rv_r 41], [rv_r 26, rv_i 0 0, rv_r 42], []), [10], 32, [], []),
  (10, ([rv_r 26, rv_r 41], [rv_r 27, rv_i 0 0, rv_r 42], []), [11], 31, [], []),
  (11, ([rv_r 26, rv_r 41], [rv_i 0 0, rv_r 27, rv_i 0 0, rv_r 42], []), [12], 30, [], []),
  (12, ([rv_r 26, rv_r 41], [rv_i 20 20, rv_i 0 0, rv_r 27, rv_i 0 0, rv_r 42], []), [13], 29, [], [1]),
  (13, ([rv_r 26, rv_r 41], [], []), [14], 28, [], []),
  (14, ([rv_r 26, rv_r 41], [rv_r 41], []), [15], 27, [], []),
  (15, ([rv_r 26, rv_r 41], [rv_r 47], []), [16], 26, [], []),
  (16, ([rv_r 26, rv_r 41], [rv_i 0 0, rv_r 47], []), [17], 25, [], []),
  (17, ([rv_r 26, rv_r 41], [rv_r 26, rv_i 0 0, rv_r 47], []), [18], 24, [], []),
  (18, ([rv_r 26, rv_r 41], [rv_r 32, rv_i 0 0, rv_r 47], []), [19], 23, [], []),
  (19, ([rv_r 26, rv_r 41], [rv_i 0 0, rv_r 32, rv_i 0 0, rv_r 47], []), [20], 22, [], []),
  (20, ([rv_r 26, rv_r 41], [rv_i 6 6, rv_i 0 0, rv_r 32, rv_i 0 0, rv_r 47], []), [21], 21, [], [2]),
  (21, ([rv_r 26, rv_r 41], [], []), [22], 20, [], []),
  (22, ([rv_r 26, rv_r 41], [rv_r 26], []), [23], 19, [], []),
  (23, ([rv_r 26, rv_r 41], [rv_r 41, rv_r 26], []), [24], 18, [], []),
  (24, ([rv_r 26, rv_r 41], [(1, 0, (-2147483648), 2147483647, [(.inr (41, 9), 0)], []), rv_r 26], []), [25], 17, [], []),
  (25, ([rv_r 26, rv_r 41], [], []), [26], 16, [], []),
  (26, ([rv_r 26, rv_r 41], [rv_r 26], []), [27], 15, [], []),
  (27, ([rv_r 26, rv_r 41], [rv_r 41, rv_r 26], []), [28], 14, [], []),
  (28, ([rv_r 26, rv_r 41], [(1, 0, (-2147483648), 2147483647, [(.inr (41, 10), 0)], []), rv_r 26], []), [29], 13, [], []),
  (29, ([rv_r 26, rv_r 41], [], []), [30], 12, [], []),
  (30, ([rv_r 26, rv_r 41], [rv_r 26], []), [31], 11, [], []),
  (31, ([rv_r 26, rv_r 41], [rv_r 41, rv_r 26], []), [32], 10, [], []),
  (32, ([rv_r 26, rv_r 41], [(1, 0, (-2147483648), 2147483647, [(.inr (41, 11), 0)], []), rv_r 26], []), [33], 9, [], []),
  (33, ([rv_r 26, rv_r 41], [], []), [34], 8, [], []),
  (34, ([rv_r 26, rv_r 41], [rv_r 26], []), [35], 7, [], []),
  (35, ([rv_r 26, rv_r 41], [rv_r 41, rv_r 26], []), [36], 6, [], []),
  (36, ([rv_r 26, rv_r 41], [(1, 0, (-2147483648), 2147483647, [(.inr (41, 12), 0)], []), rv_r 26], []), [37], 5, [], []),
  (37, ([rv_r 26, rv_r 41], [], []), [38], 4, [], []),
  (38, ([rv_r 26, rv_r 41], [rv_r 26], []), [39], 3, [], []),
  (39, ([rv_r 26, rv_r 41], [rv_r 41, rv_r 26], []), [40], 2, [], []),
  (40, ([rv_r 26, rv_r 41], [(1, 0, (-2147483648), 2147483647, [(.inr (41, 13), 0)], []), rv_r 26], []), [41], 1, [], []),
  (41, ([rv_r 26, rv_r 41], [], []), [], 0, [], [])]
set_option maxRecDepth 100000 in
theorem a_X0_takeMoving_2 : rv_all (fm_tm, flX0, fm_wr, kcX0, klX0, K_X0_takeMoving_2.2.2.1, [], 2) ct_X0_takeMoving_2 cd_X0_takeMoving n_X0_takeMoving_2 K_X0_takeMoving_2 [] 0 n_X0_takeMoving_2 = true := by decide +kernel
theorem m_X0_takeMoving_2 {l : Launch} {D : va_G} {ad : Nat → Nat} {cy : Nat → ClassId} {Z : State → Heap → Prop} {Gp : fm_V → Prop} (hAd : fm_Ad fm_tm ad) (hZ : fm_Zk (fm_A fm_tm ad) Z) (hGd : fm_Gd Gp) : rv_Met l D fm_cl fm_tm ad cy fm_nt Z Gp yX0_takeMoving (.code yX0_takeMoving prog_2_method_3_code 2 none :: fm_Ts) { frames := 2, cells := 0, slots := 0, locals := 200 } K_X0_takeMoving_2 := rv_met hAd hZ (Or.inl (by decide +kernel)) evX0 dc_X0_takeMoving a_X0_takeMoving_2 ⟨rfl, rfl, rfl⟩ (by decide +kernel) (by decide +kernel) (by decide) (fm_gm hGd (by decide +kernel)) (rfl) (fun p e s m args below meth c Q X Y => List.forall_mem_cons.mpr ⟨rv_ctV X Y fm_Ts_good dc_X0_takeMoving (pc := 8) (i := 4) (idx := 92) rfl (m_X2_takeMoving_2 hAd hZ hGd) wl_X0_92 wm_X2_takeMoving wy_X2_takeMoving (by decide) ⟨rfl, rfl, rfl⟩ ⟨rfl, rfl⟩, List.forall_mem_cons.mpr ⟨rv_ctC X dc_X0_takeMoving (pc := 23) (i := 12) (idx := 86) rfl wl_X0_86 fm_acw (by decide +kernel) (a := 42) (b := 27) (n := 20) ⟨rfl, rfl⟩ (by decide) rfl, List.forall_mem_cons.mpr ⟨rv_ctC X dc_X0_takeMoving (pc := 38) (i := 20) (idx := 86) rfl wl_X0_86 fm_acw (by decide +kernel) (a := 47) (b := 32) (n := 6) ⟨rfl, rfl⟩ (by decide) rfl, fun _ h => absurd h List.not_mem_nil⟩⟩⟩) (fun _ _ _ _ _ _ _ _ _ _ _ _ _ _ _ _ h => absurd h List.not_mem_nil)
def K_X2_takeAll_2 : rv_K := ([rv_r 36, rv_r 51], [], [(36, 0), (39, 9999), (40, 9999)], [], [], [])
def ct_X2_takeAll_2 : List (Nat × rv_K) := [(11, ([rv_r 54, rv_i 0 0, rv_r 39, rv_i 0 0, rv_i 9 9], [], [(39, 9999)], [], [], [])), (19, ([rv_r 55, rv_i 0 0, rv_r 40, rv_i 0 0, rv_i 9 9], [], [(40, 9999)], [], [], []))]
def n_X2_takeAll_2 : List rv_N := [
  (0, ([rv_r 36, rv_r 51], [], []), [1], 20, [], []),
  (1, ([rv_r 36, rv_r 51], [rv_r 36], []), [2], 19, [], []),
  (2, ([rv_r 36, rv_r 51], [rv_r 51, rv_r 36], []), [3], 18, [], []),
  (3, ([rv_r 36, rv_r 51], [(1, 0, (-2147483648), 2147483647, [(.inr (51, 0), 0)], []), rv_r 36], []), [4], 17, [], []),
  (4, ([rv_r 36, rv_r 51], [], []), [5], 16, [], []),
  (5, ([rv_r 36, rv_r 51], [rv_r 51], []), [6], 15, [], []),
  (6, ([rv_r 36, rv_r 51], [rv_r 54], []), [7], 14, [], []),
  (7, ([rv_r 36, rv_r 51], [rv_i 0 0, rv_r 54], []), [8], 13, [], []),
  (8, ([rv_r 36, rv_r 51], [rv_r 36, rv_i 0 0, rv_r 54], []), [9], 12, [], []),
  (9, ([rv_r 36, rv_r 51], [rv_r 39, rv_i 0 0, rv_r 54], []), [10], 11, [], []),
  (10, ([rv_r 36, rv_r 51], [rv_i 0 0, rv_r 39, rv_i 0 0, rv_r 54], []), [11], 10, [], []),
  (11, ([rv_r 36, rv_r 51], [rv_i 9 9, rv_i 0 0, rv_r 39, rv_i 0 0, rv_r 54], []), [12], 9, [], [0]),
  (12, ([rv_r 36, rv_r 51], [], []), [13], 8, [], []),
  (13, ([rv_r 36, rv_r 51], [rv_r 51], []), [14], 7, [], []),
  (14, ([rv_r 36, rv_r 51], [rv_r 55], []), [15], 6, [], []),
  (15, ([rv_r 36, rv_r 51], [rv_i 0 0, rv_r 55], []), [16], 5, [], []),
  (16, ([rv_r 36, rv_r 51], [rv_r 36, rv_i 0 0, rv_r 55], []), [17], 4, [], []),
  (17, ([rv_r 36, rv_r 51], [rv_r 40, rv_i 0 0, rv_r 55], []), [18], 3, [], []),
  (18, ([rv_r 36, rv_r 51], [rv_i 0 0, rv_r 40, rv_i 0 0, rv_r 55], []), [19], 2, [], []),
  (19, ([rv_r 36, rv_r 51], [rv_i 9 9, rv_i 0 0, rv_r 40, rv_i 0 0, rv_r 55], []), [20], 1, [], [1]),
  (20, ([rv_r 36, rv_r 51], [], []), [], 0, [], [])]
set_option maxRecDepth 100000 in
theorem a_X2_takeAll_2 : rv_all (fm_tm, flX2, fm_wr, kcX2, klX2, K_X2_takeAll_2.2.2.1, [], 2) ct_X2_takeAll_2 cd_X2_takeAll n_X2_takeAll_2 K_X2_takeAll_2 [] 0 n_X2_takeAll_2 = true := by decide +kernel
theorem m_X2_takeAll_2 {l : Launch} {D : va_G} {ad : Nat → Nat} {cy : Nat → ClassId} {Z : State → Heap → Prop} {Gp : fm_V → Prop} (hAd : fm_Ad fm_tm ad) (hZ : fm_Zk (fm_A fm_tm ad) Z) (hGd : fm_Gd Gp) : rv_Met l D fm_cl fm_tm ad cy fm_nt Z Gp yX2_takeAll (.code yX2_takeAll prog_4_method_2_code 2 none :: fm_Ts) { frames := 1, cells := 0, slots := 0, locals := 100 } K_X2_takeAll_2 := rv_met hAd hZ (Or.inl (by decide +kernel)) evX2 dc_X2_takeAll a_X2_takeAll_2 ⟨rfl, rfl, rfl⟩ (by decide +kernel) (by decide +kernel) (by decide) (fm_gm hGd (by decide +kernel)) (rfl) (fun p e s m args below meth c Q X Y => List.forall_mem_cons.mpr ⟨rv_ctC X dc_X2_takeAll (pc := 20) (i := 11) (idx := 28) rfl wl_X2_28 fm_acw (by decide +kernel) (a := 54) (b := 39) (n := 9) ⟨rfl, rfl⟩ (by decide) rfl, List.forall_mem_cons.mpr ⟨rv_ctC X dc_X2_takeAll (pc := 35) (i := 19) (idx := 28) rfl wl_X2_28 fm_acw (by decide +kernel) (a := 55) (b := 40) (n := 9) ⟨rfl, rfl⟩ (by decide) rfl, fun _ h => absurd h List.not_mem_nil⟩⟩) (fun _ _ _ _ _ _ _ _ _ _ _ _ _ _ _ _ h => absurd h List.not_mem_nil)
def K_X0_takeAll_2 : rv_K := ([rv_r 26, rv_r 41], [], [(26, 9), (26, 10), (26, 11), (26, 12), (26, 13), (26, 14), (26, 15), (27, 9999), (28, 9999), (29, 9999), (30, 9999), (31, 9999), (32, 9999), (33, 9999), (34, 9999), (36, 0), (37, 9999), (38, 9999), (39, 9999), (40, 9999)], [], [], [])
def ct_X0_takeAll_2 : List (Nat × rv_K) := [(2, K_X0_takeMoving_2), (7, K_X2_takeAll_2), (15, ([rv_r 43, rv_i 0 0, rv_r 28, rv_i 0 0, rv_i 20 20], [], [(28, 9999)], [], [], [])), (23, ([rv_r 44, rv_i 0 0, rv_r 29, rv_i 0 0, rv_i 20 20], [], [(29, 9999)], [], [], [])), (31, ([rv_r 45, rv_i 0 0, rv_r 30, rv_i 0 0, rv_i 20 20], [], [(30, 9999)], [], [], [])), (39, ([rv_r 46, rv_i 0 0, rv_r 31, rv_i 0 0, rv_i 6 6], [], [(31, 9999)], [], [], [])), (47, ([rv_r 48, rv_i 0 0, rv_r 33, rv_i 0 0, rv_i 100 100], [], [(33, 9999)], [], [], [])), (55, ([rv_r 49, rv_i 0 0, rv_r 34, rv_i 0 0, rv_i 180 180], [], [(34, 9999)], [], [], []))]
def n_X0_takeAll_2 : List rv_N := [
  (0, ([rv_r 26, rv_r 41], [], []), [1], 62, [], []),
  (1, ([rv_r 26, rv_r 41], [rv_r 26], []), [2], 61, [], []),
  (2, ([rv_r 26, rv_r 41], [rv_r 41, rv_r 26], []), [3], 60, [], [0]),
  (3, ([rv_r 26, rv_r 41], [], []), [4], 59, [], []),
  (4, ([rv_r 26, rv_r 41], [rv_r 26], []), [5], 58, [], []),
  (5, ([rv_r 26, rv_r 41], [rv_r 36], []), [6], 57, [], []),
  (6, ([rv_r 26, rv_r 41], [rv_r 41, rv_r 36], []), [7], 56, [], []),
  (7, ([rv_r 26, rv_r 41], [rv_r 51, rv_r 36], []), [8], 55, [], [1]),
  (8, ([rv_r 26, rv_r 41], [], []), [9], 54, [], []),
  (9, ([rv_r 26, rv_r 41], [rv_r 41], []), [10], 53, [], []),
  (10, ([rv_r 26, rv_r 41], [rv_r 43], []), [11], 52, [], []),
  (11, ([rv_r 26, rv_r 41], [rv_i 0 0, rv_r 43], []), [12], 51, [], []),
  (12, ([rv_r 26, rv_r 41], [rv_r 26, rv_i 0 0, rv_r 43], []), [13], 50, [], []),
  (13, ([rv_r 26, rv_r 41], [rv_r 28, rv_i 0 0, rv_r 43], []), [14], 49, [], []),
  (14, ([rv_r 26, rv_r 41], [rv_i 0 0, rv_r 28, rv_i 0 0, rv_r 43], []), [15], 48, [], []),
  (15, ([rv_r 26, rv_r 41], [rv_i 20 20, rv_i 0 0, rv_r 28, rv_i 0 0, rv_r 43], []), [16], 47, [], [2]),
  (16, ([rv_r 26, rv_r 41], [], []), [17], 46, [], []),
  (17, ([rv_r 26, rv_r 41], [rv_r 41], []), [18], 45, [], []),
  (18, ([rv_r 26, rv_r 41], [rv_r 44], []), [19], 44, [], []),
  (19, ([rv_r 26, rv_r 41], [rv_i 0 0, rv_r 44], []), [20], 43, [], []),
  (20, ([rv_r 26, rv_r 41], [rv_r 26, rv_i 0 0, rv_r 44], []), [21], 42, [], []),
  (21, ([rv_r 26, rv_r 41], [rv_r 29, rv_i 0 0, rv_r 44], []), [22], 41, [], []),
  (22, ([rv_r 26, rv_r 41], [rv_i 0 0, rv_r 29, rv_i 0 0, rv_r 44], []), [23], 40, [], []),
  (23, ([rv_r 26, rv_r 41], [rv_i 20 20, rv_i 0 0, rv_r 29, rv_i 0 0, rv_r 44], []), [24], 39, [], [3]),
  (24, ([rv_r 26, rv_r 41], [], []), [25], 38, [], []),
  (25, ([rv_r 26, rv_r 41], [rv_r 41], []), [26], 37, [], []),
  (26, ([rv_r 26, rv_r 41], [rv_r 45], []), [27], 36, [], []),
  (27, ([rv_r 26, rv_r 41], [rv_i 0 0, rv_r 45], []), [28], 35, [], []),
  (28, ([rv_r 26, rv_r 41], [rv_r 26, rv_i 0 0, rv_r 45], []), [29], 34, [], []),
  (29, ([rv_r 26, rv_r 41], [rv_r 30, rv_i 0 0, rv_r 45], []), [30], 33, [], []),
  (30, ([rv_r 26, rv_r 41], [rv_i 0 0, rv_r 30, rv_i 0 0, rv_r 45], []), [31], 32, [], []),
  (31, ([rv_r 26, rv_r 41], [rv_i 20 20, rv_i 0 0, rv_r 30, rv_i 0 0, rv_r 45], []), [32], 31, [], [4]),
  (32, ([rv_r 26, rv_r 41], [], []), [33], 30, [], []),
  (33, ([rv_r 26, rv_r 41], [rv_r 41], []), [34], 29, [], []),
  (34, ([rv_r 26, rv_r 41], [rv_r 46], []), [35], 28, [], []),
  (35, ([rv_r 26, rv_r 41], [rv_i 0 0, rv_r 46], []), [36], 27, [], []),
  (36, ([rv_r 26, rv_r 41], [rv_r 26, rv_i 0 0, rv_r 46], []), [37], 26, [], []),
  (37, ([rv_r 26, rv_r 41], [rv_r 31, rv_i 0 0, rv_r 46], []), [38], 25, [], []),
  (38, ([rv_r 26, rv_r 41], [rv_i 0 0, rv_r 31, rv_i 0 0, rv_r 46], []), [39], 24, [], []),
  (39, ([rv_r 26, rv_r 41], [rv_i 6 6, rv_i 0 0, rv_r 31, rv_i 0 0, rv_r 46], []), [40], 23, [], [5]),
  (40, ([rv_r 26, rv_r 41], [], []), [41], 22, [], []),
  (41, ([rv_r 26, rv_r 41], [rv_r 41], []), [42], 21, [], []),
  (42, ([rv_r 26, rv_r 41], [rv_r 48], []), [43], 20, [], []),
  (43, ([rv_r 26, rv_r 41], [rv_i 0 0, rv_r 48], []), [44], 19, [], []),
  (44, ([rv_r 26, rv_r 41], [rv_r 26, rv_i 0 0, rv_r 48], []), [45], 18, [], []),
  (45, ([rv_r 26, rv_r 41], [rv_r 33, rv_i 0 0, rv_r 48], []), [46], 17, [], []),
  (46, ([rv_r 26, rv_r 41], [rv_i 0 0, rv_r 33, rv_i 0 0, rv_r 48], []), [47], 16, [], []),
  (47, ([rv_r 26, rv_r 41], [rv_i 100 100, rv_i 0 0, rv_r 33, rv_i 0 0, rv_r 48], []), [48], 15, [], [6]),
  (48, ([rv_r 26, rv_r 41], [], []), [49], 14, [], []),
  (49, ([rv_r 26, rv_r 41], [rv_r 41], []), [50], 13, [], []),
  (50, ([rv_r 26, rv_r 41], [rv_r 49], []), [51], 12, [], []),
  (51, ([rv_r 26, rv_r 41], [rv_i 0 0, rv_r 49], []), [52], 11, [], []),
  (52, ([rv_r 26, rv_r 41], [rv_r 26, rv_i 0 0, rv_r 49], []), [53], 10, [], []),
  (53, ([rv_r 26, rv_r 41], [rv_r 34, rv_i 0 0, rv_r 49], []), [54], 9, [], []),
  (54, ([rv_r 26, rv_r 41], [rv_i 0 0, rv_r 34, rv_i 0 0, rv_r 49], []), [55], 8, [], []),
  (55, ([rv_r 26, rv_r 41], [rv_i 180 180, rv_i 0 0, rv_r 34, rv_i 0 0, rv_r 49], []), [56], 7, [], [7]),
  (56, ([rv_r 26, rv_r 41], [], []), [57], 6, [], []),
  (57, ([rv_r 26, rv_r 41], [rv_r 26], []), [58], 5, [], []),
  (58, ([rv_r 26, rv_r 41], [rv_i 1 1, rv_r 26], []), [59], 4, [], []),
  (59, ([rv_r 26, rv_r 41], [], [((26, 14), 1, 1, [])]), [60], 3, [], []),
  (60, ([rv_r 26, rv_r 41], [rv_r 26], [((26, 14), 1, 1, [])]), [61], 2, [], []),
  (61, ([rv_r 26, rv_r 41], [rv_i 6 6, rv_r 26], [((26, 14), 1, 1, [])]), [62], 1, [], []),
  (62, ([rv_r 26, rv_r 41], [], [((26, 14), 1, 1, []), ((26, 15), 6, 6, [])]), [], 0, [], [])]
set_option maxRecDepth 100000 in
theorem a_X0_takeAll_2 : rv_all (fm_tm, flX0, fm_wr, kcX0, klX0, K_X0_takeAll_2.2.2.1, [], 2) ct_X0_takeAll_2 cd_X0_takeAll n_X0_takeAll_2 K_X0_takeAll_2 [] 0 n_X0_takeAll_2 = true := by decide +kernel
theorem m_X0_takeAll_2 {l : Launch} {D : va_G} {ad : Nat → Nat} {cy : Nat → ClassId} {Z : State → Heap → Prop} {Gp : fm_V → Prop} (hAd : fm_Ad fm_tm ad) (hZ : fm_Zk (fm_A fm_tm ad) Z) (hGd : fm_Gd Gp) : rv_Met l D fm_cl fm_tm ad cy fm_nt Z Gp yX0_takeAll (.code yX0_takeAll prog_2_method_2_code 2 none :: fm_Ts) { frames := 3, cells := 0, slots := 0, locals := 300 } K_X0_takeAll_2 := rv_met hAd hZ (Or.inl (by decide +kernel)) evX0 dc_X0_takeAll a_X0_takeAll_2 ⟨rfl, rfl, rfl⟩ (by decide +kernel) (by decide +kernel) (by decide) (fm_gm hGd (by decide +kernel)) (rfl) (fun p e s m args below meth c Q X Y => List.forall_mem_cons.mpr ⟨rv_ctV X Y fm_Ts_good dc_X0_takeAll (pc := 2) (i := 2) (idx := 78) rfl (m_X0_takeMoving_2 hAd hZ hGd) wl_X0_78 wm_X0_takeMoving wy_X0_takeMoving (by decide) ⟨rfl, rfl, rfl⟩ ⟨rfl, rfl⟩, List.forall_mem_cons.mpr ⟨rv_ctV X Y fm_Ts_good dc_X0_takeAll (pc := 13) (i := 7) (idx := 82) rfl (m_X2_takeAll_2 hAd hZ hGd) wl_X0_82 wm_X2_takeAll wy_X2_takeAll (by decide) ⟨rfl, rfl, rfl⟩ ⟨rfl, rfl⟩, List.forall_mem_cons.mpr ⟨rv_ctC X dc_X0_takeAll (pc := 28) (i := 15) (idx := 86) rfl wl_X0_86 fm_acw (by decide +kernel) (a := 43) (b := 28) (n := 20) ⟨rfl, rfl⟩ (by decide) rfl, List.forall_mem_cons.mpr ⟨rv_ctC X dc_X0_takeAll (pc := 43) (i := 23) (idx := 86) rfl wl_X0_86 fm_acw (by decide +kernel) (a := 44) (b := 29) (n := 20) ⟨rfl, rfl⟩ (by decide) rfl, List.forall_mem_cons.mpr ⟨rv_ctC X dc_X0_takeAll (pc := 58) (i := 31) (idx := 86) rfl wl_X0_86 fm_acw (by decide +kernel) (a := 45) (b := 30) (n := 20) ⟨rfl, rfl⟩ (by decide) rfl, List.forall_mem_cons.mpr ⟨rv_ctC X dc_X0_takeAll (pc := 73) (i := 39) (idx := 86) rfl wl_X0_86 fm_acw (by decide +kernel) (a := 46) (b := 31) (n := 6) ⟨rfl, rfl⟩ (by decide) rfl, List.forall_mem_cons.mpr ⟨rv_ctC X dc_X0_takeAll (pc := 88) (i := 47) (idx := 86) rfl wl_X0_86 fm_acw (by decide +kernel) (a := 48) (b := 33) (n := 100) ⟨rfl, rfl⟩ (by decide) rfl, List.forall_mem_cons.mpr ⟨rv_ctC X dc_X0_takeAll (pc := 104) (i := 55) (idx := 86) rfl wl_X0_86 fm_acw (by decide +kernel) (a := 49) (b := 34) (n := 180) ⟨rfl, rfl⟩ (by decide) rfl, fun _ h => absurd h List.not_mem_nil⟩⟩⟩⟩⟩⟩⟩⟩) (fun _ _ _ _ _ _ _ _ _ _ _ _ _ _ _ _ h => absurd h List.not_mem_nil)
def K_X6_take_1 : rv_K := ([rv_r 3, rv_r 5], [], [(3, 1), (4, 9999)], [], [], [])
def ct_X6_take_1 : List (Nat × rv_K) := [(7, ([rv_r 6, rv_i 0 0, rv_r 4, rv_i 0 0, rv_i 220 220], [], [(4, 9999)], [], [], []))]
def n_X6_take_1 : List rv_N := [
  (0, ([rv_r 3, rv_r 5], [], []), [1], 12, [], []),
  (1, ([rv_r 3, rv_r 5], [rv_r 5], []), [2], 11, [], []),
  (2, ([rv_r 3, rv_r 5], [rv_r 6], []), [3], 10, [], []),
  (3, ([rv_r 3, rv_r 5], [rv_i 0 0, rv_r 6], []), [4], 9, [], []),
  (4, ([rv_r 3, rv_r 5], [rv_r 3, rv_i 0 0, rv_r 6], []), [5], 8, [], []),
  (5, ([rv_r 3, rv_r 5], [rv_r 4, rv_i 0 0, rv_r 6], []), [6], 7, [], []),
  (6, ([rv_r 3, rv_r 5], [rv_i 0 0, rv_r 4, rv_i 0 0, rv_r 6], []), [7], 6, [], []),
  (7, ([rv_r 3, rv_r 5], [rv_i 220 220, rv_i 0 0, rv_r 4, rv_i 0 0, rv_r 6], []), [8], 5, [], [0]),
  (8, ([rv_r 3, rv_r 5], [], []), [9], 4, [], []),
  (9, ([rv_r 3, rv_r 5], [rv_r 3], []), [10], 3, [], []),
  (10, ([rv_r 3, rv_r 5], [rv_r 5, rv_r 3], []), [11], 2, [], []),
  (11, ([rv_r 3, rv_r 5], [(1, 0, (-2147483648), 2147483647, [(.inr (5, 1), 0)], []), rv_r 3], []), [12], 1, [], []),
  (12, ([rv_r 3, rv_r 5], [], []), [], 0, [], [])]
set_option maxRecDepth 100000 in
theorem a_X6_take_1 : rv_all (fm_tm, flX6, fm_wr, kcX6, klX6, K_X6_take_1.2.2.1, [], 2) ct_X6_take_1 cd_X6_take n_X6_take_1 K_X6_take_1 [] 0 n_X6_take_1 = true := by decide +kernel
theorem m_X6_take_1 {l : Launch} {D : va_G} {ad : Nat → Nat} {cy : Nat → ClassId} {Z : State → Heap → Prop} {Gp : fm_V → Prop} (hAd : fm_Ad fm_tm ad) (hZ : fm_Zk (fm_A fm_tm ad) Z) (hGd : fm_Gd Gp) : rv_Met l D fm_cl fm_tm ad cy fm_nt Z Gp yX6_take (.code yX6_take prog_8_method_6_code 2 none :: fm_Ts) { frames := 1, cells := 0, slots := 0, locals := 100 } K_X6_take_1 := rv_met hAd hZ (Or.inl (by decide +kernel)) evX6 dc_X6_take a_X6_take_1 ⟨rfl, rfl, rfl⟩ (by decide +kernel) (by decide +kernel) (by decide) (fm_gm hGd (by decide +kernel)) (rfl) (fun p e s m args below meth c Q X Y => List.forall_mem_cons.mpr ⟨rv_ctC X dc_X6_take (pc := 13) (i := 7) (idx := 23) rfl wl_X6_23 fm_acw (by decide +kernel) (a := 6) (b := 4) (n := 220) ⟨rfl, rfl⟩ (by decide) rfl, fun _ h => absurd h List.not_mem_nil⟩) (fun _ _ _ _ _ _ _ _ _ _ _ _ _ _ _ _ h => absurd h List.not_mem_nil)
def cd_X7_undo : List (Nat × Instr × Nat) := [(0, .aload_n 0, 1), (1, .getfield 71, 3), (4, .ifCond .ne 5, 3), (7, .iconst 0, 1), (8, .ireturn, 1), (9, .aload_n 0, 1), (10, .getfield 38, 3), (13, .aload_n 0, 1), (14, .getfield 42, 3), (17, .invokevirtual 168, 3), (20, .aload_n 0, 1), (21, .getfield 12, 3), (24, .aload_n 0, 1), (25, .getfield 16, 3), (28, .invokevirtual 293, 3), (31, .iconst 1, 1), (32, .ireturn, 1)]
theorem dc_X7_undo : ∀ q ∈ cd_X7_undo, decode prog_1_method_31_code q.1 = .ok (q.2.1, q.2.2) := by decide +kernel
def K_X7_undo_0 : rv_K := ([rv_r 0], [], [(3, 1), (4, 9999), (26, 9), (26, 10), (26, 11), (26, 12), (26, 13), (26, 14), (26, 15), (27, 9999), (28, 9999), (29, 9999), (30, 9999), (31, 9999), (32, 9999), (33, 9999), (34, 9999), (36, 0), (37, 9999), (38, 9999), (39, 9999), (40, 9999)], [(0, 0, 1)], [], [])
def ct_X7_undo_0 : List (Nat × rv_K) := [(9, K_X0_takeAll_2), (14, K_X6_take_1)]
def n_X7_undo_0 : List rv_N := [
  (0, ([rv_r 0], [], []), [1], 14, [], []),
  (1, ([rv_r 0], [rv_r 0], []), [2], 13, [], []),
  (2, ([rv_r 0], [(1, 0, 0, 1, [(.inr (0, 11), 0)], [])], []), [3, 5], 12, [], []),
  (3, ([rv_r 0], [], [((0, 11), 0, 0, [])]), [4], 1, [], []),
  (4, ([rv_r 0], [rv_i 0 0], [((0, 11), 0, 0, [])]), [], 0, [], []),
  (5, ([rv_r 0], [], [((0, 11), 1, 1, [])]), [6], 11, [], []),
  (6, ([rv_r 0], [rv_r 0], [((0, 11), 1, 1, [])]), [7], 10, [], []),
  (7, ([rv_r 0], [rv_r 26], [((0, 11), 1, 1, [])]), [8], 9, [], []),
  (8, ([rv_r 0], [rv_r 0, rv_r 26], [((0, 11), 1, 1, [])]), [9], 8, [], []),
  (9, ([rv_r 0], [rv_r 41, rv_r 26], [((0, 11), 1, 1, [])]), [10], 7, [], [0]),
  (10, ([rv_r 0], [], [((0, 11), 1, 1, [])]), [11], 6, [], []),
  (11, ([rv_r 0], [rv_r 0], [((0, 11), 1, 1, [])]), [12], 5, [], []),
  (12, ([rv_r 0], [rv_r 3], [((0, 11), 1, 1, [])]), [13], 4, [], []),
  (13, ([rv_r 0], [rv_r 0, rv_r 3], [((0, 11), 1, 1, [])]), [14], 3, [], []),
  (14, ([rv_r 0], [rv_r 5, rv_r 3], [((0, 11), 1, 1, [])]), [15], 2, [], [1]),
  (15, ([rv_r 0], [], [((0, 11), 1, 1, [])]), [16], 1, [], []),
  (16, ([rv_r 0], [rv_i 1 1], [((0, 11), 1, 1, [])]), [], 0, [], [])]
set_option maxRecDepth 100000 in
theorem a_X7_undo_0 : rv_all (fm_tm, flX7, fm_wr, kcX7, klX7, K_X7_undo_0.2.2.1, [], 1) ct_X7_undo_0 cd_X7_undo n_X7_undo_0 K_X7_undo_0 [] 0 n_X7_undo_0 = true := by decide +kernel
theorem m_X7_undo_0 {l : Launch} {D : va_G} {ad : Nat → Nat} {cy : Nat → ClassId} {Z : State → Heap → Prop} {Gp : fm_V → Prop} (hAd : fm_Ad fm_tm ad) (hZ : fm_Zk (fm_A fm_tm ad) Z) (hGd : fm_Gd Gp) : rv_Met l D fm_cl fm_tm ad cy fm_nt Z Gp yX7_undo (.code yX7_undo prog_1_method_31_code 1 (some .boolean) :: fm_Ts) { frames := 4, cells := 0, slots := 0, locals := 400 } K_X7_undo_0 := rv_met hAd hZ (Or.inl (by decide +kernel)) evX7 dc_X7_undo a_X7_undo_0 ⟨rfl, rfl, rfl⟩ (by decide +kernel) (by decide +kernel) (by decide) (fm_gm hGd (by decide +kernel)) (Or.inr ⟨rfl, by decide, by decide⟩) (fun p e s m args below meth c Q X Y => List.forall_mem_cons.mpr ⟨rv_ctV X Y fm_Ts_good dc_X7_undo (pc := 17) (i := 9) (idx := 168) rfl (m_X0_takeAll_2 hAd hZ hGd) wl_X7_168 wm_X0_takeAll wy_X0_takeAll (by decide) ⟨rfl, rfl, rfl⟩ ⟨rfl, rfl⟩, List.forall_mem_cons.mpr ⟨rv_ctV X Y fm_Ts_good dc_X7_undo (pc := 28) (i := 14) (idx := 293) rfl (m_X6_take_1 hAd hZ hGd) wl_X7_293 wm_X6_take wy_X6_take (by decide) ⟨rfl, rfl, rfl⟩ ⟨rfl, rfl⟩, fun _ h => absurd h List.not_mem_nil⟩⟩) (fun _ _ _ _ _ _ _ _ _ _ _ _ _ _ _ _ h => absurd h List.not_mem_nil)
def K_X7_isWithin_20 : rv_K := ([rv_full, rv_i 0 0, rv_i 20 20], [], [], [(0, 0, 1)], [(.inl 0, 0, 20)], [])
def ct_X7_isWithin_20 : List (Nat × rv_K) := []
def n_X7_isWithin_20 : List rv_N := [
  (0, ([rv_full, rv_i 0 0, rv_i 20 20], [], []), [1], 8, [], []),
  (1, ([rv_full, rv_i 0 0, rv_i 20 20], [(1, 0, (-2147483648), 2147483647, [(.inl 0, 0)], [])], []), [2], 7, [], []),
  (2, ([rv_full, rv_i 0 0, rv_i 20 20], [(1, 0, 0, 0, [(.inl 1, 0)], []), (1, 0, (-2147483648), 2147483647, [(.inl 0, 0)], [])], []), [3, 8], 6, [], []),
  (3, ([rv_i 0 2147483647, rv_i 0 0, rv_i 20 20], [], []), [4], 5, [], []),
  (4, ([rv_i 0 2147483647, rv_i 0 0, rv_i 20 20], [(1, 0, 0, 2147483647, [(.inl 0, 0)], [])], []), [5], 4, [], []),
  (5, ([rv_i 0 2147483647, rv_i 0 0, rv_i 20 20], [(1, 0, 20, 20, [(.inl 2, 0)], []), (1, 0, 0, 2147483647, [(.inl 0, 0)], [])], []), [6, 8], 3, [], []),
  (6, ([rv_i 0 20, rv_i 0 0, rv_i 20 20], [], []), [7], 2, [], []),
  (7, ([rv_i 0 20, rv_i 0 0, rv_i 20 20], [rv_i 1 1], []), [10], 1, [], []),
  (8, ([rv_full, rv_i 0 0, rv_i 20 20], [], []), [9], 1, [], []),
  (9, ([rv_full, rv_i 0 0, rv_i 20 20], [rv_i 0 0], []), [], 0, [], []),
  (9, ([rv_i 0 20, rv_i 0 0, rv_i 20 20], [rv_i 1 1], []), [], 0, [], [])]
set_option maxRecDepth 100000 in
theorem a_X7_isWithin_20 : rv_all (fm_tm, flX7, fm_wr, kcX7, klX7, K_X7_isWithin_20.2.2.1, [0, 1, 2], 3) ct_X7_isWithin_20 cd_X7_isWithin n_X7_isWithin_20 K_X7_isWithin_20 [] 0 n_X7_isWithin_20 = true := by decide +kernel
theorem m_X7_isWithin_20 {l : Launch} {D : va_G} {ad : Nat → Nat} {cy : Nat → ClassId} {Z : State → Heap → Prop} {Gp : fm_V → Prop} (hAd : fm_Ad fm_tm ad) (hZ : fm_Zk (fm_A fm_tm ad) Z) (hGd : fm_Gd Gp) : rv_Met l D fm_cl fm_tm ad cy fm_nt Z Gp yX7_isWithin (.code yX7_isWithin prog_1_method_34_code 3 (some .boolean) :: fm_Ts) { frames := 0, cells := 0, slots := 0, locals := 0 } K_X7_isWithin_20 := rv_met hAd hZ (Or.inl (by decide +kernel)) evX7 dc_X7_isWithin a_X7_isWithin_20 ⟨rfl, rfl, rfl⟩ (by decide +kernel) (by decide +kernel) (by decide) (fm_gm hGd (by decide +kernel)) (Or.inr ⟨rfl, by decide, by decide⟩) (fun p e s m args below meth c Q X Y => fun _ h => absurd h List.not_mem_nil) (fun _ _ _ _ _ _ _ _ _ _ _ _ _ _ _ _ h => absurd h List.not_mem_nil)
def cd_X6_numberAt : List (Nat × Instr × Nat) := [(0, .iconst 0, 1), (1, .istore_n 2, 1), (2, .iconst 0, 1), (3, .istore_n 3, 1), (4, .iload_n 3, 1), (5, .iconst 4, 1), (6, .if_icmp .ge 24, 3), (9, .iload_n 2, 1), (10, .bipush 8, 2), (12, .ishl, 1), (13, .aload_n 0, 1), (14, .iconst 4, 1), (15, .iload_n 1, 1), (16, .imul, 1), (17, .iload_n 3, 1), (18, .iadd, 1), (19, .invokevirtual 19, 3), (22, .ior, 1), (23, .istore_n 2, 1), (24, .iinc 3 1, 3), (27, .goto (-23), 3), (30, .iload_n 2, 1), (31, .ireturn, 1)]
theorem dc_X6_numberAt : ∀ q ∈ cd_X6_numberAt, decode prog_8_method_5_code q.1 = .ok (q.2.1, q.2.2) := by decide +kernel
def K_X6_numberAt_0 : rv_K := ([rv_r 3, rv_full], [], [], [(0, (-2147483648), 2147483647)], [], [])
def ct_X6_numberAt_0 : List (Nat × rv_K) := [(16, K_X6_byteAt_0)]
def n_X6_numberAt_0 : List rv_N := [
  (0, ([rv_r 3, rv_full, rv_u, rv_u], [], []), [1], 932, [], []),
  (1, ([rv_r 3, rv_full, rv_u, rv_u], [rv_i 0 0], []), [2], 931, [], []),
  (2, ([rv_r 3, rv_full, rv_i 0 0, rv_u], [], []), [3], 930, [], []),
  (3, ([rv_r 3, rv_full, rv_i 0 0, rv_u], [rv_i 0 0], []), [4], 929, [], []),
  (4, ([rv_r 3, rv_full, rv_full, rv_i 0 4], [], []), [5], 928, [(3, (-231))], []),
  (5, ([rv_r 3, rv_full, rv_full, rv_i 0 4], [(1, 0, 0, 4, [(.inl 3, 0)], [])], []), [6], 927, [(3, (-231))], []),
  (6, ([rv_r 3, rv_full, rv_full, rv_i 0 4], [rv_i 4 4, (1, 0, 0, 4, [(.inl 3, 0)], [])], []), [7, 21], 926, [(3, (-231))], []),
  (7, ([rv_r 3, rv_full, rv_full, rv_i 0 3], [], []), [8], 711, [(3, (-231))], []),
  (8, ([rv_r 3, rv_full, rv_full, rv_i 0 3], [(1, 0, (-2147483648), 2147483647, [(.inl 2, 0)], [])], []), [9], 710, [(3, (-231))], []),
  (9, ([rv_r 3, rv_full, rv_full, rv_i 0 3], [rv_i 8 8, (1, 0, (-2147483648), 2147483647, [(.inl 2, 0)], [])], []), [10], 709, [(3, (-231))], []),
  (10, ([rv_r 3, rv_full, rv_full, rv_i 0 3], [rv_full], []), [11], 708, [(3, (-231))], []),
  (11, ([rv_r 3, rv_full, rv_full, rv_i 0 3], [rv_r 3, rv_full], []), [12], 707, [(3, (-231))], []),
  (12, ([rv_r 3, rv_full, rv_full, rv_i 0 3], [rv_i 4 4, rv_r 3, rv_full], []), [13], 706, [(3, (-231))], []),
  (13, ([rv_r 3, rv_full, rv_full, rv_i 0 3], [(1, 0, (-2147483648), 2147483647, [(.inl 1, 0)], []), rv_i 4 4, rv_r 3, rv_full], []), [14], 705, [(3, (-231))], []),
  (14, ([rv_r 3, rv_full, rv_full, rv_i 0 3], [rv_full, rv_r 3, rv_full], []), [15], 704, [(3, (-231))], []),
  (15, ([rv_r 3, rv_full, rv_full, rv_i 0 3], [(1, 0, 0, 3, [(.inl 3, 0)], []), rv_full, rv_r 3, rv_full], []), [16], 703, [(3, (-231))], []),
  (16, ([rv_r 3, rv_full, rv_full, rv_i 0 3], [rv_full, rv_r 3, rv_full], []), [17], 702, [(3, (-231))], [0]),
  (17, ([rv_r 3, rv_full, rv_full, rv_i 0 3], [rv_i (-1) 255, rv_full], []), [18], 701, [(3, (-231))], []),
  (18, ([rv_r 3, rv_full, rv_full, rv_i 0 3], [rv_full], []), [19], 700, [(3, (-231))], []),
  (19, ([rv_r 3, rv_full, rv_full, rv_i 0 3], [], []), [20], 699, [(3, (-231))], []),
  (20, ([rv_r 3, rv_full, rv_full, rv_i 1 4], [], []), [4], 929, [(3, (-231))], []),
  (21, ([rv_r 3, rv_full, rv_full, rv_i 4 4], [], []), [22], 1, [], []),
  (22, ([rv_r 3, rv_full, rv_full, rv_i 4 4], [(1, 0, (-2147483648), 2147483647, [(.inl 2, 0)], [])], []), [], 0, [], [])]
set_option maxRecDepth 100000 in
theorem a_X6_numberAt_0 : rv_all (fm_tm, flX6, fm_wr, kcX6, klX6, K_X6_numberAt_0.2.2.1, [], 4) ct_X6_numberAt_0 cd_X6_numberAt n_X6_numberAt_0 K_X6_numberAt_0 [] 0 n_X6_numberAt_0 = true := by decide +kernel
theorem m_X6_numberAt_0 {l : Launch} {D : va_G} {ad : Nat → Nat} {cy : Nat → ClassId} {Z : State → Heap → Prop} {Gp : fm_V → Prop} (hAd : fm_Ad fm_tm ad) (hZ : fm_Zk (fm_A fm_tm ad) Z) (hGd : fm_Gd Gp) : rv_Met l D fm_cl fm_tm ad cy fm_nt Z Gp yX6_numberAt (.code yX6_numberAt prog_8_method_5_code 4 (some .int) :: fm_Ts) { frames := 1, cells := 0, slots := 0, locals := 100 } K_X6_numberAt_0 := rv_met hAd hZ (Or.inl (by decide +kernel)) evX6 dc_X6_numberAt a_X6_numberAt_0 ⟨rfl, rfl, rfl⟩ (by decide +kernel) (by decide +kernel) (by decide) (fm_gm hGd (by decide +kernel)) (Or.inl rfl) (fun p e s m args below meth c Q X Y => List.forall_mem_cons.mpr ⟨rv_ctV X Y fm_Ts_good dc_X6_numberAt (pc := 19) (i := 16) (idx := 19) rfl (m_X6_byteAt_0 hAd hZ hGd) wl_X6_19 wm_X6_byteAt wy_X6_byteAt (by decide) ⟨rfl, rfl, rfl⟩ ⟨rfl, rfl⟩, fun _ h => absurd h List.not_mem_nil⟩) (fun _ _ _ _ _ _ _ _ _ _ _ _ _ _ _ _ h => absurd h List.not_mem_nil)
def cd_X7_check : List (Nat × Instr × Nat) := [(0, .iload_n 1, 1), (1, .iconst 0, 1), (2, .bipush 20, 2), (4, .invokestatic 80, 3), (7, .ifCond .eq 16, 3), (10, .aload_n 0, 1), (11, .getfield 12, 3), (14, .getfield 137, 3), (17, .iconst 4, 1), (18, .iload_n 1, 1), (19, .imul, 1), (20, .if_icmp .ge 6, 3), (23, .bipush (-2), 2), (25, .ireturn, 1), (26, .aload_n 0, 1), (27, .getfield 12, 3), (30, .iconst 0, 1), (31, .putfield 137, 3), (34, .iconst 0, 1), (35, .istore_n 2, 1), (36, .iload_n 2, 1), (37, .iload_n 1, 1), (38, .if_icmp .ge 31, 3), (41, .aload_n 0, 1), (42, .getfield 12, 3), (45, .iload_n 2, 1), (46, .invokevirtual 298, 3), (49, .aload_n 0, 1), (50, .getfield 38, 3), (53, .getfield 84, 3), (56, .iload_n 2, 1), (57, .iaload, 1), (58, .if_icmp .eq 5, 3), (61, .iload_n 2, 1), (62, .ireturn, 1), (63, .iinc 2 1, 3), (66, .goto (-30), 3), (69, .iconst (-1), 1), (70, .ireturn, 1)]
theorem dc_X7_check : ∀ q ∈ cd_X7_check, decode prog_1_method_32_code q.1 = .ok (q.2.1, q.2.2) := by decide +kernel
def K_X7_check_0 : rv_K := ([rv_r 0, rv_full], [], [(3, 1)], [(0, (-2), 19)], [], [])
def ct_X7_check_0 : List (Nat × rv_K) := [(3, K_X7_isWithin_20), (26, K_X6_numberAt_0)]
def n_X7_check_0 : List rv_N := [
  (0, ([rv_r 0, rv_full, rv_u], [], []), [1], 22562, [], []),
  (1, ([rv_r 0, rv_full, rv_u], [(1, 0, (-2147483648), 2147483647, [(.inl 1, 0)], [])], []), [2], 22561, [], []),
  (2, ([rv_r 0, rv_full, rv_u], [rv_i 0 0, (1, 0, (-2147483648), 2147483647, [(.inl 1, 0)], [])], []), [3], 22560, [], []),
  (3, ([rv_r 0, rv_full, rv_u], [rv_i 20 20, rv_i 0 0, (1, 0, (-2147483648), 2147483647, [(.inl 1, 0)], [])], []), [4], 22559, [], [0]),
  (4, ([rv_r 0, rv_full, rv_u], [(1, 0, 0, 1, [], [(.inl 1, 0, 20)])], []), [5, 12], 22558, [], []),
  (5, ([rv_r 0, rv_i 0 20, rv_u], [], []), [6], 22557, [], []),
  (6, ([rv_r 0, rv_i 0 20, rv_u], [rv_r 0], []), [7], 22556, [], []),
  (7, ([rv_r 0, rv_i 0 20, rv_u], [rv_r 3], []), [8], 22555, [], []),
  (8, ([rv_r 0, rv_i 0 20, rv_u], [(1, 0, (-2147483648), 2147483647, [(.inr (3, 1), 0)], [])], []), [9], 22554, [], []),
  (9, ([rv_r 0, rv_i 0 20, rv_u], [rv_i 4 4, (1, 0, (-2147483648), 2147483647, [(.inr (3, 1), 0)], [])], []), [10], 22553, [], []),
  (10, ([rv_r 0, rv_i 0 20, rv_u], [(1, 0, 0, 20, [(.inl 1, 0)], []), rv_i 4 4, (1, 0, (-2147483648), 2147483647, [(.inr (3, 1), 0)], [])], []), [11], 22552, [], []),
  (11, ([rv_r 0, rv_i 0 20, rv_u], [rv_i 0 80, (1, 0, (-2147483648), 2147483647, [(.inr (3, 1), 0)], [])], []), [12, 14], 22551, [], []),
  (12, ([rv_r 0, rv_full, rv_u], [], []), [13], 1, [], []),
  (13, ([rv_r 0, rv_full, rv_u], [rv_i (-2) (-2)], []), [], 0, [], []),
  (14, ([rv_r 0, rv_i 0 20, rv_u], [], [((3, 1), 0, 2147483647, [])]), [15], 22550, [], []),
  (15, ([rv_r 0, rv_i 0 20, rv_u], [rv_r 0], [((3, 1), 0, 2147483647, [])]), [16], 22549, [], []),
  (16, ([rv_r 0, rv_i 0 20, rv_u], [rv_r 3], [((3, 1), 0, 2147483647, [])]), [17], 22548, [], []),
  (17, ([rv_r 0, rv_i 0 20, rv_u], [rv_i 0 0, rv_r 3], [((3, 1), 0, 2147483647, [])]), [18], 22547, [], []),
  (18, ([rv_r 0, rv_i 0 20, rv_u], [], [((3, 1), 0, 0, [])]), [19], 22546, [], []),
  (19, ([rv_r 0, rv_i 0 20, rv_u], [rv_i 0 0], [((3, 1), 0, 0, [])]), [20], 22545, [], []),
  (20, ([rv_r 0, rv_i 0 20, rv_i 0 20], [], [((3, 1), 0, 0, [])]), [21], 22544, [(2, (-1127))], []),
  (21, ([rv_r 0, rv_i 0 20, rv_i 0 20], [(1, 0, 0, 20, [(.inl 2, 0)], [])], [((3, 1), 0, 0, [])]), [22], 22543, [(2, (-1127))], []),
  (22, ([rv_r 0, rv_i 0 20, rv_i 0 20], [(1, 0, 0, 20, [(.inl 1, 0)], []), (1, 0, 0, 20, [(.inl 2, 0)], [])], [((3, 1), 0, 0, [])]), [23, 37], 22542, [(2, (-1127))], []),
  (23, ([rv_r 0, rv_i 1 20, rv_i 0 19], [], [((3, 1), 0, 0, [])]), [24], 21429, [(2, (-1127))], []),
  (24, ([rv_r 0, rv_i 1 20, rv_i 0 19], [rv_r 0], [((3, 1), 0, 0, [])]), [25], 21428, [(2, (-1127))], []),
  (25, ([rv_r 0, rv_i 1 20, rv_i 0 19], [rv_r 3], [((3, 1), 0, 0, [])]), [26], 21427, [(2, (-1127))], []),
  (26, ([rv_r 0, rv_i 1 20, rv_i 0 19], [(1, 0, 0, 19, [(.inl 2, 0)], []), rv_r 3], [((3, 1), 0, 0, [])]), [27], 21426, [(2, (-1127))], [1]),
  (27, ([rv_r 0, rv_i 1 20, rv_i 0 19], [rv_full], [((3, 1), 0, 0, [])]), [28], 21425, [(2, (-1127))], []),
  (28, ([rv_r 0, rv_i 1 20, rv_i 0 19], [rv_r 0, rv_full], [((3, 1), 0, 0, [])]), [29], 21424, [(2, (-1127))], []),
  (29, ([rv_r 0, rv_i 1 20, rv_i 0 19], [rv_r 26, rv_full], [((3, 1), 0, 0, [])]), [30], 21423, [(2, (-1127))], []),
  (30, ([rv_r 0, rv_i 1 20, rv_i 0 19], [rv_r 27, rv_full], [((3, 1), 0, 0, [])]), [31], 21422, [(2, (-1127))], []),
  (31, ([rv_r 0, rv_i 1 20, rv_i 0 19], [(1, 0, 0, 19, [(.inl 2, 0)], []), rv_r 27, rv_full], [((3, 1), 0, 0, [])]), [32], 21421, [(2, (-1127))], []),
  (32, ([rv_r 0, rv_i 1 20, rv_i 0 19], [(1, 0, (-2147483648), 2147483647, [(.inr (27, 5002), 0)], []), rv_full], [((3, 1), 0, 0, [])]), [33, 35], 21420, [(2, (-1127))], []),
  (33, ([rv_r 0, rv_i 1 20, rv_i 0 19], [], [((3, 1), 0, 0, [])]), [34], 1, [], []),
  (34, ([rv_r 0, rv_i 1 20, rv_i 0 19], [(1, 0, 0, 19, [(.inl 2, 0)], [])], [((3, 1), 0, 0, [])]), [], 0, [], []),
  (35, ([rv_r 0, rv_i 1 20, rv_i 0 19], [], [((3, 1), 0, 0, [])]), [36], 21419, [(2, (-1127))], []),
  (36, ([rv_r 0, rv_i 1 20, rv_i 1 20], [], [((3, 1), 0, 0, [])]), [20], 22545, [(2, (-1127))], []),
  (37, ([rv_r 0, rv_i 0 20, rv_i 0 20], [], [((3, 1), 0, 0, [])]), [38], 1, [], []),
  (38, ([rv_r 0, rv_i 0 20, rv_i 0 20], [rv_i (-1) (-1)], [((3, 1), 0, 0, [])]), [], 0, [], [])]
set_option maxRecDepth 100000 in
theorem a_X7_check_0 : rv_all (fm_tm, flX7, fm_wr, kcX7, klX7, K_X7_check_0.2.2.1, [], 3) ct_X7_check_0 cd_X7_check n_X7_check_0 K_X7_check_0 [] 0 n_X7_check_0 = true := by decide +kernel
theorem m_X7_check_0 {l : Launch} {D : va_G} {ad : Nat → Nat} {cy : Nat → ClassId} {Z : State → Heap → Prop} {Gp : fm_V → Prop} (hAd : fm_Ad fm_tm ad) (hZ : fm_Zk (fm_A fm_tm ad) Z) (hGd : fm_Gd Gp) : rv_Met l D fm_cl fm_tm ad cy fm_nt Z Gp yX7_check (.code yX7_check prog_1_method_32_code 3 (some .int) :: fm_Ts) { frames := 2, cells := 0, slots := 0, locals := 200 } K_X7_check_0 := rv_met hAd hZ (Or.inl (by decide +kernel)) evX7 dc_X7_check a_X7_check_0 ⟨rfl, rfl, rfl⟩ (by decide +kernel) (by decide +kernel) (by decide) (fm_gm hGd (by decide +kernel)) (Or.inl rfl) (fun p e s m args below meth c Q X Y => List.forall_mem_cons.mpr ⟨rv_ctS X Y fm_Ts_good dc_X7_check (pc := 4) (i := 3) (idx := 80) rfl (m_X7_isWithin_20 hAd hZ hGd) wl_X7_80 wm_X7_isWithin wy_X7_isWithin (by decide) rfl, List.forall_mem_cons.mpr ⟨rv_ctV X Y fm_Ts_good dc_X7_check (pc := 46) (i := 26) (idx := 298) rfl (m_X6_numberAt_0 hAd hZ hGd) wl_X7_298 wm_X6_numberAt wy_X6_numberAt (by decide) ⟨rfl, rfl, rfl⟩ ⟨rfl, rfl⟩, fun _ h => absurd h List.not_mem_nil⟩⟩) (fun _ _ _ _ _ _ _ _ _ _ _ _ _ _ _ _ h => absurd h List.not_mem_nil)
def K_X7_isWithin_21 : rv_K := ([rv_full, rv_i 100 100, rv_i 199 199], [], [], [(0, 0, 1)], [(.inl 0, 100, 199)], [])
def ct_X7_isWithin_21 : List (Nat × rv_K) := []
def n_X7_isWithin_21 : List rv_N := [
  (0, ([rv_full, rv_i 100 100, rv_i 199 199], [], []), [1], 8, [], []),
  (1, ([rv_full, rv_i 100 100, rv_i 199 199], [(1, 0, (-2147483648), 2147483647, [(.inl 0, 0)], [])], []), [2], 7, [], []),
  (2, ([rv_full, rv_i 100 100, rv_i 199 199], [(1, 0, 100, 100, [(.inl 1, 0)], []), (1, 0, (-2147483648), 2147483647, [(.inl 0, 0)], [])], []), [3, 8], 6, [], []),
  (3, ([rv_i 100 2147483647, rv_i 100 100, rv_i 199 199], [], []), [4], 5, [], []),
  (4, ([rv_i 100 2147483647, rv_i 100 100, rv_i 199 199], [(1, 0, 100, 2147483647, [(.inl 0, 0)], [])], []), [5], 4, [], []),
  (5, ([rv_i 100 2147483647, rv_i 100 100, rv_i 199 199], [(1, 0, 199, 199, [(.inl 2, 0)], []), (1, 0, 100, 2147483647, [(.inl 0, 0)], [])], []), [6, 8], 3, [], []),
  (6, ([rv_i 100 199, rv_i 100 100, rv_i 199 199], [], []), [7], 2, [], []),
  (7, ([rv_i 100 199, rv_i 100 100, rv_i 199 199], [rv_i 1 1], []), [10], 1, [], []),
  (8, ([rv_full, rv_i 100 100, rv_i 199 199], [], []), [9], 1, [], []),
  (9, ([rv_full, rv_i 100 100, rv_i 199 199], [rv_i 0 0], []), [], 0, [], []),
  (9, ([rv_i 100 199, rv_i 100 100, rv_i 199 199], [rv_i 1 1], []), [], 0, [], [])]
set_option maxRecDepth 100000 in
theorem a_X7_isWithin_21 : rv_all (fm_tm, flX7, fm_wr, kcX7, klX7, K_X7_isWithin_21.2.2.1, [0, 1, 2], 3) ct_X7_isWithin_21 cd_X7_isWithin n_X7_isWithin_21 K_X7_isWithin_21 [] 0 n_X7_isWithin_21 = true := by decide +kernel
theorem m_X7_isWithin_21 {l : Launch} {D : va_G} {ad : Nat → Nat} {cy : Nat → ClassId} {Z : State → Heap → Prop} {Gp : fm_V → Prop} (hAd : fm_Ad fm_tm ad) (hZ : fm_Zk (fm_A fm_tm ad) Z) (hGd : fm_Gd Gp) : rv_Met l D fm_cl fm_tm ad cy fm_nt Z Gp yX7_isWithin (.code yX7_isWithin prog_1_method_34_code 3 (some .boolean) :: fm_Ts) { frames := 0, cells := 0, slots := 0, locals := 0 } K_X7_isWithin_21 := rv_met hAd hZ (Or.inl (by decide +kernel)) evX7 dc_X7_isWithin a_X7_isWithin_21 ⟨rfl, rfl, rfl⟩ (by decide +kernel) (by decide +kernel) (by decide) (fm_gm hGd (by decide +kernel)) (Or.inr ⟨rfl, by decide, by decide⟩) (fun p e s m args below meth c Q X Y => fun _ h => absurd h List.not_mem_nil) (fun _ _ _ _ _ _ _ _ _ _ _ _ _ _ _ _ h => absurd h List.not_mem_nil)
def cd_X0_sumDust : List (Nat × Instr × Nat) := [(0, .iconst 0, 1), (1, .istore_n 1, 1), (2, .iconst 0, 1), (3, .istore_n 2, 1), (4, .iload_n 2, 1), (5, .bipush 20, 2), (7, .if_icmp .ge 18, 3), (10, .iload_n 1, 1), (11, .aload_n 0, 1), (12, .getfield 9, 3), (15, .iload_n 2, 1), (16, .iaload, 1), (17, .iadd, 1), (18, .istore_n 1, 1), (19, .iinc 2 1, 3), (22, .goto (-18), 3), (25, .iload_n 1, 1), (26, .ireturn, 1)]
theorem dc_X0_sumDust : ∀ q ∈ cd_X0_sumDust, decode prog_2_method_4_code q.1 = .ok (q.2.1, q.2.2) := by decide +kernel
def K_X0_sumDust_0 : rv_K := ([rv_r 26], [], [], [(0, (-2147483648), 2147483647)], [], [])
def ct_X0_sumDust_0 : List (Nat × rv_K) := []
def n_X0_sumDust_0 : List rv_N := [
  (0, ([rv_r 26, rv_u, rv_u], [], []), [1], 12888, [], []),
  (1, ([rv_r 26, rv_u, rv_u], [rv_i 0 0], []), [2], 12887, [], []),
  (2, ([rv_r 26, rv_i 0 0, rv_u], [], []), [3], 12886, [], []),
  (3, ([rv_r 26, rv_i 0 0, rv_u], [rv_i 0 0], []), [4], 12885, [], []),
  (4, ([rv_r 26, rv_full, rv_i 0 20], [], []), [5], 12884, [(2, (-644))], []),
  (5, ([rv_r 26, rv_full, rv_i 0 20], [(1, 0, 0, 20, [(.inl 2, 0)], [])], []), [6], 12883, [(2, (-644))], []),
  (6, ([rv_r 26, rv_full, rv_i 0 20], [rv_i 20 20, (1, 0, 0, 20, [(.inl 2, 0)], [])], []), [7, 16], 12882, [(2, (-644))], []),
  (7, ([rv_r 26, rv_full, rv_i 0 19], [], []), [8], 12249, [(2, (-644))], []),
  (8, ([rv_r 26, rv_full, rv_i 0 19], [(1, 0, (-2147483648), 2147483647, [(.inl 1, 0)], [])], []), [9], 12248, [(2, (-644))], []),
  (9, ([rv_r 26, rv_full, rv_i 0 19], [rv_r 26, (1, 0, (-2147483648), 2147483647, [(.inl 1, 0)], [])], []), [10], 12247, [(2, (-644))], []),
  (10, ([rv_r 26, rv_full, rv_i 0 19], [rv_r 27, (1, 0, (-2147483648), 2147483647, [(.inl 1, 0)], [])], []), [11], 12246, [(2, (-644))], []),
  (11, ([rv_r 26, rv_full, rv_i 0 19], [(1, 0, 0, 19, [(.inl 2, 0)], []), rv_r 27, (1, 0, (-2147483648), 2147483647, [(.inl 1, 0)], [])], []), [12], 12245, [(2, (-644))], []),
  (12, ([rv_r 26, rv_full, rv_i 0 19], [(1, 0, (-2147483648), 2147483647, [(.inr (27, 5002), 0)], []), (1, 0, (-2147483648), 2147483647, [(.inl 1, 0)], [])], []), [13], 12244, [(2, (-644))], []),
  (13, ([rv_r 26, rv_full, rv_i 0 19], [rv_full], []), [14], 12243, [(2, (-644))], []),
  (14, ([rv_r 26, rv_full, rv_i 0 19], [], []), [15], 12242, [(2, (-644))], []),
  (15, ([rv_r 26, rv_full, rv_i 1 20], [], []), [4], 12885, [(2, (-644))], []),
  (16, ([rv_r 26, rv_full, rv_i 20 20], [], []), [17], 1, [], []),
  (17, ([rv_r 26, rv_full, rv_i 20 20], [(1, 0, (-2147483648), 2147483647, [(.inl 1, 0)], [])], []), [], 0, [], [])]
set_option maxRecDepth 100000 in
theorem a_X0_sumDust_0 : rv_all (fm_tm, flX0, fm_wr, kcX0, klX0, K_X0_sumDust_0.2.2.1, [], 3) ct_X0_sumDust_0 cd_X0_sumDust n_X0_sumDust_0 K_X0_sumDust_0 [] 0 n_X0_sumDust_0 = true := by decide +kernel
theorem m_X0_sumDust_0 {l : Launch} {D : va_G} {ad : Nat → Nat} {cy : Nat → ClassId} {Z : State → Heap → Prop} {Gp : fm_V → Prop} (hAd : fm_Ad fm_tm ad) (hZ : fm_Zk (fm_A fm_tm ad) Z) (hGd : fm_Gd Gp) : rv_Met l D fm_cl fm_tm ad cy fm_nt Z Gp yX0_sumDust (.code yX0_sumDust prog_2_method_4_code 3 (some .int) :: fm_Ts) { frames := 0, cells := 0, slots := 0, locals := 0 } K_X0_sumDust_0 := rv_met hAd hZ (Or.inl (by decide +kernel)) evX0 dc_X0_sumDust a_X0_sumDust_0 ⟨rfl, rfl, rfl⟩ (by decide +kernel) (by decide +kernel) (by decide) (fm_gm hGd (by decide +kernel)) (Or.inl rfl) (fun p e s m args below meth c Q X Y => fun _ h => absurd h List.not_mem_nil) (fun _ _ _ _ _ _ _ _ _ _ _ _ _ _ _ _ h => absurd h List.not_mem_nil)
def cd_X7_count : List (Nat × Instr × Nat) := [(0, .iload_n 1, 1), (1, .bipush 100, 2), (3, .sipush 199, 3), (6, .invokestatic 80, 3), (9, .ifCond .eq 16, 3), (12, .aload_n 0, 1), (13, .getfield 38, 3), (16, .getfield 93, 3), (19, .iload_n 1, 1), (20, .bipush 100, 2), (22, .isub, 1), (23, .iaload, 1), (24, .ireturn, 1), (25, .iload_n 1, 1), (26, .bipush 20, 2), (28, .isub, 1), (29, .invokestatic 124, 3), (32, .ifCond .eq 16, 3), (35, .aload_n 0, 1), (36, .getfield 38, 3), (39, .getfield 127, 3), (42, .iload_n 1, 1), (43, .bipush 20, 2), (45, .isub, 1), (46, .iaload, 1), (47, .ireturn, 1), (48, .iload_n 1, 1), (49, .bipush 10, 2), (51, .isub, 1), (52, .invokestatic 124, 3), (55, .ifCond .eq 16, 3), (58, .aload_n 0, 1), (59, .getfield 38, 3), (62, .getfield 172, 3), (65, .iload_n 1, 1), (66, .bipush 10, 2), (68, .isub, 1), (69, .iaload, 1), (70, .ireturn, 1), (71, .iload_n 1, 1), (72, .tableswitch 127 0 8 #[52, 60, 68, 76, 84, 92, 100, 108, 116], 52), (124, .aload_n 0, 1), (125, .getfield 38, 3), (128, .getfield 295, 3), (131, .ireturn, 1), (132, .aload_n 0, 1), (133, .getfield 22, 3), (136, .getfield 301, 3), (139, .ireturn, 1), (140, .aload_n 0, 1), (141, .getfield 12, 3), (144, .getfield 137, 3), (147, .ireturn, 1), (148, .aload_n 0, 1), (149, .getfield 38, 3), (152, .getfield 290, 3), (155, .ireturn, 1), (156, .aload_n 0, 1), (157, .getfield 38, 3), (160, .getfield 175, 3), (163, .ireturn, 1), (164, .aload_n 0, 1), (165, .getfield 38, 3), (168, .getfield 178, 3), (171, .ireturn, 1), (172, .aload_n 0, 1), (173, .getfield 38, 3), (176, .getfield 181, 3), (179, .ireturn, 1), (180, .aload_n 0, 1), (181, .getfield 38, 3), (184, .invokevirtual 304, 3), (187, .ireturn, 1), (188, .aload_n 0, 1), (189, .getfield 38, 3), (192, .getfield 99, 3), (195, .getfield 103, 3), (198, .ireturn, 1), (199, .iconst (-1), 1), (200, .ireturn, 1)]
theorem dc_X7_count : ∀ q ∈ cd_X7_count, decode prog_1_method_33_code q.1 = .ok (q.2.1, q.2.2) := by decide +kernel
def K_X7_count_0 : rv_K := ([rv_r 0, rv_full], [], [], [(0, (-2147483648), 2147483647)], [], [])
def ct_X7_count_0 : List (Nat × rv_K) := [(3, K_X7_isWithin_21), (16, K_X7_isBeggar_0), (29, K_X7_isBeggar_0), (71, K_X0_sumDust_0)]
def n_X7_count_0 : List rv_N := [
  (0, ([rv_r 0, rv_full], [], []), [1], 22, [], []),
  (1, ([rv_r 0, rv_full], [(1, 0, (-2147483648), 2147483647, [(.inl 1, 0)], [])], []), [2], 21, [], []),
  (2, ([rv_r 0, rv_full], [rv_i 100 100, (1, 0, (-2147483648), 2147483647, [(.inl 1, 0)], [])], []), [3], 20, [], []),
  (3, ([rv_r 0, rv_full], [rv_i 199 199, rv_i 100 100, (1, 0, (-2147483648), 2147483647, [(.inl 1, 0)], [])], []), [4], 19, [], [0]),
  (4, ([rv_r 0, rv_full], [(1, 0, 0, 1, [], [(.inl 1, 100, 199)])], []), [5, 13], 18, [], []),
  (5, ([rv_r 0, rv_i 100 199], [], []), [6], 7, [], []),
  (6, ([rv_r 0, rv_i 100 199], [rv_r 0], []), [7], 6, [], []),
  (7, ([rv_r 0, rv_i 100 199], [rv_r 26], []), [8], 5, [], []),
  (8, ([rv_r 0, rv_i 100 199], [rv_r 33], []), [9], 4, [], []),
  (9, ([rv_r 0, rv_i 100 199], [(1, 0, 100, 199, [(.inl 1, 0)], []), rv_r 33], []), [10], 3, [], []),
  (10, ([rv_r 0, rv_i 100 199], [rv_i 100 100, (1, 0, 100, 199, [(.inl 1, 0)], []), rv_r 33], []), [11], 2, [], []),
  (11, ([rv_r 0, rv_i 100 199], [(1, 0, 0, 99, [(.inl 1, (-100))], []), rv_r 33], []), [12], 1, [], []),
  (12, ([rv_r 0, rv_i 100 199], [rv_full], []), [], 0, [], []),
  (13, ([rv_r 0, rv_full], [], []), [14], 17, [], []),
  (14, ([rv_r 0, rv_full], [(1, 0, (-2147483648), 2147483647, [(.inl 1, 0)], [])], []), [15], 16, [], []),
  (15, ([rv_r 0, rv_full], [rv_i 20 20, (1, 0, (-2147483648), 2147483647, [(.inl 1, 0)], [])], []), [16], 15, [], []),
  (16, ([rv_r 0, rv_full], [(1, 0, (-2147483648), 2147483647, [(.inl 1, (-20))], [])], []), [17], 14, [], [1]),
  (17, ([rv_r 0, rv_full], [(1, 0, 0, 1, [], [(.inl 1, 20, 25)])], []), [18, 26], 13, [], []),
  (18, ([rv_r 0, rv_i 20 25], [], []), [19], 7, [], []),
  (19, ([rv_r 0, rv_i 20 25], [rv_r 0], []), [20], 6, [], []),
  (20, ([rv_r 0, rv_i 20 25], [rv_r 26], []), [21], 5, [], []),
  (21, ([rv_r 0, rv_i 20 25], [rv_r 31], []), [22], 4, [], []),
  (22, ([rv_r 0, rv_i 20 25], [(1, 0, 20, 25, [(.inl 1, 0)], []), rv_r 31], []), [23], 3, [], []),
  (23, ([rv_r 0, rv_i 20 25], [rv_i 20 20, (1, 0, 20, 25, [(.inl 1, 0)], []), rv_r 31], []), [24], 2, [], []),
  (24, ([rv_r 0, rv_i 20 25], [(1, 0, 0, 5, [(.inl 1, (-20))], []), rv_r 31], []), [25], 1, [], []),
  (25, ([rv_r 0, rv_i 20 25], [rv_full], []), [], 0, [], []),
  (26, ([rv_r 0, rv_full], [], []), [27], 12, [], []),
  (27, ([rv_r 0, rv_full], [(1, 0, (-2147483648), 2147483647, [(.inl 1, 0)], [])], []), [28], 11, [], []),
  (28, ([rv_r 0, rv_full], [rv_i 10 10, (1, 0, (-2147483648), 2147483647, [(.inl 1, 0)], [])], []), [29], 10, [], []),
  (29, ([rv_r 0, rv_full], [(1, 0, (-2147483648), 2147483647, [(.inl 1, (-10))], [])], []), [30], 9, [], [2]),
  (30, ([rv_r 0, rv_full], [(1, 0, 0, 1, [], [(.inl 1, 10, 15)])], []), [31, 39], 8, [], []),
  (31, ([rv_r 0, rv_i 10 15], [], []), [32], 7, [], []),
  (32, ([rv_r 0, rv_i 10 15], [rv_r 0], []), [33], 6, [], []),
  (33, ([rv_r 0, rv_i 10 15], [rv_r 26], []), [34], 5, [], []),
  (34, ([rv_r 0, rv_i 10 15], [rv_r 32], []), [35], 4, [], []),
  (35, ([rv_r 0, rv_i 10 15], [(1, 0, 10, 15, [(.inl 1, 0)], []), rv_r 32], []), [36], 3, [], []),
  (36, ([rv_r 0, rv_i 10 15], [rv_i 10 10, (1, 0, 10, 15, [(.inl 1, 0)], []), rv_r 32], []), [37], 2, [], []),
  (37, ([rv_r 0, rv_i 10 15], [(1, 0, 0, 5, [(.inl 1, (-10))], []), rv_r 32], []), [38], 1, [], []),
  (38, ([rv_r 0, rv_i 10 15], [rv_full], []), [], 0, [], []),
  (39, ([rv_r 0, rv_full], [], []), [40], 6, [], []),
  (40, ([rv_r 0, rv_full], [(1, 0, (-2147483648), 2147483647, [(.inl 1, 0)], [])], []), [41, 45, 49, 53, 57, 61, 65, 69, 73, 78], 5, [], []),
  (41, ([rv_r 0, rv_i 0 0], [], []), [42], 3, [], []),
  (42, ([rv_r 0, rv_i 0 0], [rv_r 0], []), [43], 2, [], []),
  (43, ([rv_r 0, rv_i 0 0], [rv_r 26], []), [44], 1, [], []),
  (44, ([rv_r 0, rv_i 0 0], [(1, 0, (-2147483648), 2147483647, [(.inr (26, 9), 0)], [])], []), [], 0, [], []),
  (45, ([rv_r 0, rv_i 1 1], [], []), [46], 3, [], []),
  (46, ([rv_r 0, rv_i 1 1], [rv_r 0], []), [47], 2, [], []),
  (47, ([rv_r 0, rv_i 1 1], [rv_r 7], []), [48], 1, [], []),
  (48, ([rv_r 0, rv_i 1 1], [(1, 0, (-2147483648), 2147483647, [(.inr (7, 7), 0)], [])], []), [], 0, [], []),
  (49, ([rv_r 0, rv_i 2 2], [], []), [50], 3, [], []),
  (50, ([rv_r 0, rv_i 2 2], [rv_r 0], []), [51], 2, [], []),
  (51, ([rv_r 0, rv_i 2 2], [rv_r 3], []), [52], 1, [], []),
  (52, ([rv_r 0, rv_i 2 2], [(1, 0, (-2147483648), 2147483647, [(.inr (3, 1), 0)], [])], []), [], 0, [], []),
  (53, ([rv_r 0, rv_i 3 3], [], []), [54], 3, [], []),
  (54, ([rv_r 0, rv_i 3 3], [rv_r 0], []), [55], 2, [], []),
  (55, ([rv_r 0, rv_i 3 3], [rv_r 26], []), [56], 1, [], []),
  (56, ([rv_r 0, rv_i 3 3], [(1, 0, (-2147483648), 2147483647, [(.inr (26, 10), 0)], [])], []), [], 0, [], []),
  (57, ([rv_r 0, rv_i 4 4], [], []), [58], 3, [], []),
  (58, ([rv_r 0, rv_i 4 4], [rv_r 0], []), [59], 2, [], []),
  (59, ([rv_r 0, rv_i 4 4], [rv_r 26], []), [60], 1, [], []),
  (60, ([rv_r 0, rv_i 4 4], [(1, 0, (-2147483648), 2147483647, [(.inr (26, 11), 0)], [])], []), [], 0, [], []),
  (61, ([rv_r 0, rv_i 5 5], [], []), [62], 3, [], []),
  (62, ([rv_r 0, rv_i 5 5], [rv_r 0], []), [63], 2, [], []),
  (63, ([rv_r 0, rv_i 5 5], [rv_r 26], []), [64], 1, [], []),
  (64, ([rv_r 0, rv_i 5 5], [(1, 0, (-2147483648), 2147483647, [(.inr (26, 12), 0)], [])], []), [], 0, [], []),
  (65, ([rv_r 0, rv_i 6 6], [], []), [66], 3, [], []),
  (66, ([rv_r 0, rv_i 6 6], [rv_r 0], []), [67], 2, [], []),
  (67, ([rv_r 0, rv_i 6 6], [rv_r 26], []), [68], 1, [], []),
  (68, ([rv_r 0, rv_i 6 6], [(1, 0, (-2147483648), 2147483647, [(.inr (26, 13), 0)], [])], []), [], 0, [], []),
  (69, ([rv_r 0, rv_i 7 7], [], []), [70], 3, [], []),
  (70, ([rv_r 0, rv_i 7 7], [rv_r 0], []), [71], 2, [], []),
  (71, ([rv_r 0, rv_i 7 7], [rv_r 26], []), [72], 1, [], [3]),
  (72, ([rv_r 0, rv_i 7 7], [rv_full], []), [], 0, [], []),
  (73, ([rv_r 0, rv_i 8 8], [], []), [74], 4, [], []),
  (74, ([rv_r 0, rv_i 8 8], [rv_r 0], []), [75], 3, [], []),
  (75, ([rv_r 0, rv_i 8 8], [rv_r 26], []), [76], 2, [], []),
  (76, ([rv_r 0, rv_i 8 8], [rv_r 36], []), [77], 1, [], []),
  (77, ([rv_r 0, rv_i 8 8], [(1, 0, (-2147483648), 2147483647, [(.inr (36, 0), 0)], [])], []), [], 0, [], []),
  (78, ([rv_r 0, rv_full], [], []), [79], 1, [], []),
  (79, ([rv_r 0, rv_full], [rv_i (-1) (-1)], []), [], 0, [], [])]
set_option maxRecDepth 100000 in
theorem a_X7_count_0 : rv_all (fm_tm, flX7, fm_wr, kcX7, klX7, K_X7_count_0.2.2.1, [], 2) ct_X7_count_0 cd_X7_count n_X7_count_0 K_X7_count_0 [] 0 n_X7_count_0 = true := by decide +kernel
theorem m_X7_count_0 {l : Launch} {D : va_G} {ad : Nat → Nat} {cy : Nat → ClassId} {Z : State → Heap → Prop} {Gp : fm_V → Prop} (hAd : fm_Ad fm_tm ad) (hZ : fm_Zk (fm_A fm_tm ad) Z) (hGd : fm_Gd Gp) : rv_Met l D fm_cl fm_tm ad cy fm_nt Z Gp yX7_count (.code yX7_count prog_1_method_33_code 2 (some .int) :: fm_Ts) { frames := 1, cells := 0, slots := 0, locals := 100 } K_X7_count_0 := rv_met hAd hZ (Or.inl (by decide +kernel)) evX7 dc_X7_count a_X7_count_0 ⟨rfl, rfl, rfl⟩ (by decide +kernel) (by decide +kernel) (by decide) (fm_gm hGd (by decide +kernel)) (Or.inl rfl) (fun p e s m args below meth c Q X Y => List.forall_mem_cons.mpr ⟨rv_ctS X Y fm_Ts_good dc_X7_count (pc := 6) (i := 3) (idx := 80) rfl (m_X7_isWithin_21 hAd hZ hGd) wl_X7_80 wm_X7_isWithin wy_X7_isWithin (by decide) rfl, List.forall_mem_cons.mpr ⟨rv_ctS X Y fm_Ts_good dc_X7_count (pc := 29) (i := 16) (idx := 124) rfl (m_X7_isBeggar_0 hAd hZ hGd) wl_X7_124 wm_X7_isBeggar wy_X7_isBeggar (by decide) rfl, List.forall_mem_cons.mpr ⟨rv_ctS X Y fm_Ts_good dc_X7_count (pc := 52) (i := 29) (idx := 124) rfl (m_X7_isBeggar_0 hAd hZ hGd) wl_X7_124 wm_X7_isBeggar wy_X7_isBeggar (by decide) rfl, List.forall_mem_cons.mpr ⟨rv_ctV X Y fm_Ts_good dc_X7_count (pc := 184) (i := 71) (idx := 304) rfl (m_X0_sumDust_0 hAd hZ hGd) wl_X7_304 wm_X0_sumDust wy_X0_sumDust (by decide) ⟨rfl, rfl, rfl⟩ ⟨rfl, rfl⟩, fun _ h => absurd h List.not_mem_nil⟩⟩⟩⟩) (fun _ _ _ _ _ _ _ _ _ _ _ _ _ _ _ _ h => absurd h List.not_mem_nil)
