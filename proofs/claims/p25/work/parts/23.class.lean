def cd_J9_min_7cf53 : List (Nat × Instr × Nat) := [(0, .iload_n 0, 1), (1, .iload_n 1, 1), (2, .if_icmp .gt 7, 3), (5, .iload_n 0, 1), (6, .goto 4, 3), (9, .iload_n 1, 1), (10, .ireturn, 1)]
theorem dc_J9_min_7cf53 : ∀ q ∈ cd_J9_min_7cf53, decode prog_13_method_69_code q.1 = .ok (q.2.1, q.2.2) := by decide +kernel
def K_J9_min_7cf53_0 : rv_K := ([rv_full, rv_full], [], [], [(0, (-2147483648), 2147483647)], [], [])
def ct_J9_min_7cf53_0 : List (Nat × rv_K) := []
def n_J9_min_7cf53_0 : List rv_N := [
  (0, ([rv_full, rv_full], [], []), [1], 5, [], []),
  (1, ([rv_full, rv_full], [(1, 0, (-2147483648), 2147483647, [(.inl 0, 0)], [])], []), [2], 4, [], []),
  (2, ([rv_full, rv_full], [(1, 0, (-2147483648), 2147483647, [(.inl 1, 0)], []), (1, 0, (-2147483648), 2147483647, [(.inl 0, 0)], [])], []), [3, 5], 3, [], []),
  (3, ([rv_full, rv_full], [], []), [4], 2, [], []),
  (4, ([rv_full, rv_full], [(1, 0, (-2147483648), 2147483647, [(.inl 0, 0)], [])], []), [6], 1, [], []),
  (5, ([rv_i (-2147483647) 2147483647, rv_i (-2147483648) 2147483646], [], []), [6], 1, [], []),
  (6, ([rv_full, rv_full], [rv_full], []), [], 0, [], [])]
set_option maxRecDepth 100000 in
theorem a_J9_min_7cf53_0 : rv_all (fm_tm, [], fm_wr, kcJ9, klJ9, K_J9_min_7cf53_0.2.2.1, [], 2) ct_J9_min_7cf53_0 cd_J9_min_7cf53 n_J9_min_7cf53_0 K_J9_min_7cf53_0 [] 0 n_J9_min_7cf53_0 = true := rv_fast (rv_at_eq n_J9_min_7cf53_0) (rv_at_eq cd_J9_min_7cf53) (by decide +kernel)
theorem m_J9_min_7cf53_0 {l : Launch} {D : va_G} {ad : Nat → Nat} {cy : Nat → ClassId} {Z : State → Heap → Prop} {Gp : fm_V → Prop} (hAd : fm_Ad fm_tm ad) (hZ : fm_Zk (fm_A fm_tm ad) Z) (hGd : fm_Gd Gp) : rv_Met l D fm_cl fm_tm ad cy fm_nt Z Gp yJ9_min_7cf53 (.code yJ9_min_7cf53 prog_13_method_69_code 2 (some .int) :: fm_Ts) { frames := 0, cells := 0, slots := 0, locals := 0 } K_J9_min_7cf53_0 := rv_met hAd hZ (Or.inr (by decide +kernel)) evJ9 dc_J9_min_7cf53 a_J9_min_7cf53_0 ⟨rfl, rfl, rfl⟩ (by decide +kernel) (by decide +kernel) (by decide) (fm_gm hGd (by decide +kernel)) (Or.inl rfl) (fun p e s m args below meth c Q X Y => fun _ h => absurd h List.not_mem_nil) (fun _ _ _ _ _ _ _ _ _ _ _ _ _ _ _ _ h => absurd h List.not_mem_nil)
def cd_J9_max_7cf53 : List (Nat × Instr × Nat) := [(0, .iload_n 0, 1), (1, .iload_n 1, 1), (2, .if_icmp .lt 7, 3), (5, .iload_n 0, 1), (6, .goto 4, 3), (9, .iload_n 1, 1), (10, .ireturn, 1)]
theorem dc_J9_max_7cf53 : ∀ q ∈ cd_J9_max_7cf53, decode prog_13_method_65_code q.1 = .ok (q.2.1, q.2.2) := by decide +kernel
def K_J9_max_7cf53_0 : rv_K := ([rv_full, rv_full], [], [], [(0, (-2147483648), 2147483647)], [], [])
def ct_J9_max_7cf53_0 : List (Nat × rv_K) := []
def n_J9_max_7cf53_0 : List rv_N := [
  (0, ([rv_full, rv_full], [], []), [1], 5, [], []),
  (1, ([rv_full, rv_full], [(1, 0, (-2147483648), 2147483647, [(.inl 0, 0)], [])], []), [2], 4, [], []),
  (2, ([rv_full, rv_full], [(1, 0, (-2147483648), 2147483647, [(.inl 1, 0)], []), (1, 0, (-2147483648), 2147483647, [(.inl 0, 0)], [])], []), [3, 5], 3, [], []),
  (3, ([rv_full, rv_full], [], []), [4], 2, [], []),
  (4, ([rv_full, rv_full], [(1, 0, (-2147483648), 2147483647, [(.inl 0, 0)], [])], []), [6], 1, [], []),
  (5, ([rv_i (-2147483648) 2147483646, rv_i (-2147483647) 2147483647], [], []), [6], 1, [], []),
  (6, ([rv_full, rv_full], [rv_full], []), [], 0, [], [])]
set_option maxRecDepth 100000 in
theorem a_J9_max_7cf53_0 : rv_all (fm_tm, [], fm_wr, kcJ9, klJ9, K_J9_max_7cf53_0.2.2.1, [], 2) ct_J9_max_7cf53_0 cd_J9_max_7cf53 n_J9_max_7cf53_0 K_J9_max_7cf53_0 [] 0 n_J9_max_7cf53_0 = true := rv_fast (rv_at_eq n_J9_max_7cf53_0) (rv_at_eq cd_J9_max_7cf53) (by decide +kernel)
theorem m_J9_max_7cf53_0 {l : Launch} {D : va_G} {ad : Nat → Nat} {cy : Nat → ClassId} {Z : State → Heap → Prop} {Gp : fm_V → Prop} (hAd : fm_Ad fm_tm ad) (hZ : fm_Zk (fm_A fm_tm ad) Z) (hGd : fm_Gd Gp) : rv_Met l D fm_cl fm_tm ad cy fm_nt Z Gp yJ9_max_7cf53 (.code yJ9_max_7cf53 prog_13_method_65_code 2 (some .int) :: fm_Ts) { frames := 0, cells := 0, slots := 0, locals := 0 } K_J9_max_7cf53_0 := rv_met hAd hZ (Or.inr (by decide +kernel)) evJ9 dc_J9_max_7cf53 a_J9_max_7cf53_0 ⟨rfl, rfl, rfl⟩ (by decide +kernel) (by decide +kernel) (by decide) (fm_gm hGd (by decide +kernel)) (Or.inl rfl) (fun p e s m args below meth c Q X Y => fun _ h => absurd h List.not_mem_nil) (fun _ _ _ _ _ _ _ _ _ _ _ _ _ _ _ _ h => absurd h List.not_mem_nil)
def cd_X1_amount : List (Nat × Instr × Nat) := [(0, .iconst 0, 1), (1, .istore_n 2, 1), (2, .iload_n 2, 1), (3, .aload_n 0, 1), (4, .getfield 34, 3), (7, .if_icmp .ge 70, 3), (10, .iload_n 2, 1), (11, .bipush 14, 2), (13, .if_icmp .ge 64, 3), (16, .aload_n 0, 1), (17, .getfield 22, 3), (20, .iload_n 2, 1), (21, .iaload, 1), (22, .iload_n 1, 1), (23, .if_icmp .ne 48, 3), (26, .aload_n 0, 1), (27, .aload_n 0, 1), (28, .getfield 28, 3), (31, .iload_n 2, 1), (32, .iaload, 1), (33, .aload_n 0, 1), (34, .getfield 31, 3), (37, .iload_n 2, 1), (38, .iaload, 1), (39, .invokevirtual 53, 3), (42, .ifCond .eq 29, 3), (45, .iconst 0, 1), (46, .bipush 99, 2), (48, .aload_n 0, 1), (49, .aload_n 0, 1), (50, .getfield 25, 3), (53, .iload_n 2, 1), (54, .iaload, 1), (55, .aload_n 0, 1), (56, .getfield 28, 3), (59, .iload_n 2, 1), (60, .iaload, 1), (61, .invokevirtual 53, 3), (64, .invokestatic 57, 3), (67, .invokestatic 62, 3), (70, .ireturn, 1), (71, .iinc 2 1, 3), (74, .goto (-72), 3), (77, .iconst 0, 1), (78, .ireturn, 1)]
theorem dc_X1_amount : ∀ q ∈ cd_X1_amount, decode prog_3_method_8_code q.1 = .ok (q.2.1, q.2.2) := by decide +kernel
def ch_X1_amount_0 : List (Nat × Instr × Nat) := [(0, .iconst 0, 1), (1, .istore_n 2, 1), (2, .iload_n 2, 1), (3, .aload_n 0, 1), (4, .getfield 34, 3), (7, .if_icmp .ge 70, 3), (10, .iload_n 2, 1), (11, .bipush 14, 2), (13, .if_icmp .ge 64, 3), (16, .aload_n 0, 1), (17, .getfield 22, 3), (20, .iload_n 2, 1), (21, .iaload, 1), (22, .iload_n 1, 1), (23, .if_icmp .ne 48, 3), (26, .aload_n 0, 1)]
def ch_X1_amount_1 : List (Nat × Instr × Nat) := [(27, .aload_n 0, 1), (28, .getfield 28, 3), (31, .iload_n 2, 1), (32, .iaload, 1), (33, .aload_n 0, 1), (34, .getfield 31, 3), (37, .iload_n 2, 1), (38, .iaload, 1), (39, .invokevirtual 53, 3), (42, .ifCond .eq 29, 3), (45, .iconst 0, 1), (46, .bipush 99, 2), (48, .aload_n 0, 1), (49, .aload_n 0, 1), (50, .getfield 25, 3), (53, .iload_n 2, 1)]
def ch_X1_amount_2 : List (Nat × Instr × Nat) := [(54, .iaload, 1), (55, .aload_n 0, 1), (56, .getfield 28, 3), (59, .iload_n 2, 1), (60, .iaload, 1), (61, .invokevirtual 53, 3), (64, .invokestatic 57, 3), (67, .invokestatic 62, 3), (70, .ireturn, 1), (71, .iinc 2 1, 3), (74, .goto (-72), 3), (77, .iconst 0, 1), (78, .ireturn, 1)]
set_option maxRecDepth 100000 in
theorem he_X1_amount : cd_X1_amount = ch_X1_amount_0 ++ (ch_X1_amount_1 ++ (ch_X1_amount_2)) := rfl
noncomputable def gc_X1_amount : Nat → Option (Nat × Instr × Nat) := rv_ap 16 (rv_at ch_X1_amount_0) (rv_ap 16 (rv_at ch_X1_amount_1) (rv_at ch_X1_amount_2))
theorem hc_X1_amount : ∀ i : Nat, cd_X1_amount[i]? = gc_X1_amount i := by
  rw [he_X1_amount]
  exact rv_ap_eq (l := ch_X1_amount_0) (c := 16) (rv_ap_eq (l := ch_X1_amount_1) (c := 16) (rv_at_eq ch_X1_amount_2) rfl) rfl
def K_X1_amount_0 : rv_K := ([rv_r 7, rv_full], [], [(15, 9999)], [(0, (-2147483648), 2147483647)], [], [])
def ct_X1_amount_0 : List (Nat × rv_K) := [(24, K_X1_reckon_0), (37, K_X1_reckon_0), (38, K_J9_min_7cf53_0), (39, K_J9_max_7cf53_0)]
def n_X1_amount_0_0 : List rv_N := [
  (0, ([rv_r 7, rv_full, rv_u], [], []), [1], 13100, [], []),
  (1, ([rv_r 7, rv_full, rv_u], [rv_i 0 0], []), [2], 13099, [], []),
  (2, ([rv_r 7, rv_full, rv_i 0 14], [], []), [3], 13098, [(2, (-935))], []),
  (3, ([rv_r 7, rv_full, rv_i 0 14], [(1, 0, 0, 14, [(.inl 2, 0)], [])], []), [4], 13097, [(2, (-935))], []),
  (4, ([rv_r 7, rv_full, rv_i 0 14], [rv_r 7, (1, 0, 0, 14, [(.inl 2, 0)], [])], []), [5], 13096, [(2, (-935))], []),
  (5, ([rv_r 7, rv_full, rv_i 0 14], [(1, 0, (-2147483648), 2147483647, [(.inr (7, 7), 0)], []), (1, 0, 0, 14, [(.inl 2, 0)], [])], []), [6, 43], 13095, [(2, (-935))], []),
  (6, ([rv_r 7, rv_full, rv_i 0 14], [], [((7, 7), 1, 2147483647, [])]), [7], 13094, [(2, (-935))], []),
  (7, ([rv_r 7, rv_full, rv_i 0 14], [(1, 0, 0, 14, [(.inl 2, 0)], [])], [((7, 7), 1, 2147483647, [])]), [8], 13093, [(2, (-935))], []),
  (8, ([rv_r 7, rv_full, rv_i 0 14], [rv_i 14 14, (1, 0, 0, 14, [(.inl 2, 0)], [])], [((7, 7), 1, 2147483647, [])]), [9, 43], 13092, [(2, (-935))], []),
  (9, ([rv_r 7, rv_full, rv_i 0 13], [], [((7, 7), 1, 2147483647, [])]), [10], 12186, [(2, (-935))], []),
  (10, ([rv_r 7, rv_full, rv_i 0 13], [rv_r 7], [((7, 7), 1, 2147483647, [])]), [11], 12185, [(2, (-935))], []),
  (11, ([rv_r 7, rv_full, rv_i 0 13], [rv_r 10], [((7, 7), 1, 2147483647, [])]), [12], 12184, [(2, (-935))], []),
  (12, ([rv_r 7, rv_full, rv_i 0 13], [(1, 0, 0, 13, [(.inl 2, 0)], []), rv_r 10], [((7, 7), 1, 2147483647, [])]), [13], 12183, [(2, (-935))], []),
  (13, ([rv_r 7, rv_full, rv_i 0 13], [(1, 0, (-2147483648), 2147483647, [(.inr (10, 5002), 0)], [])], [((7, 7), 1, 2147483647, [])]), [14], 12182, [(2, (-935))], []),
  (14, ([rv_r 7, rv_full, rv_i 0 13], [(1, 0, (-2147483648), 2147483647, [(.inl 1, 0)], []), (1, 0, (-2147483648), 2147483647, [(.inr (10, 5002), 0)], [])], [((7, 7), 1, 2147483647, [])]), [15, 41], 12181, [(2, (-935))], []),
  (15, ([rv_r 7, rv_full, rv_i 0 13], [], [((7, 7), 1, 2147483647, [])]), [16], 12180, [(2, (-935))], [])]
def n_X1_amount_0_1 : List rv_N := [
  (16, ([rv_r 7, rv_full, rv_i 0 13], [rv_r 7], [((7, 7), 1, 2147483647, [])]), [17], 12179, [(2, (-935))], []),
  (17, ([rv_r 7, rv_full, rv_i 0 13], [rv_r 7, rv_r 7], [((7, 7), 1, 2147483647, [])]), [18], 12178, [(2, (-935))], []),
  (18, ([rv_r 7, rv_full, rv_i 0 13], [rv_r 12, rv_r 7], [((7, 7), 1, 2147483647, [])]), [19], 12177, [(2, (-935))], []),
  (19, ([rv_r 7, rv_full, rv_i 0 13], [(1, 0, 0, 13, [(.inl 2, 0)], []), rv_r 12, rv_r 7], [((7, 7), 1, 2147483647, [])]), [20], 12176, [(2, (-935))], []),
  (20, ([rv_r 7, rv_full, rv_i 0 13], [(1, 0, (-2147483648), 2147483647, [(.inr (12, 5002), 0)], []), rv_r 7], [((7, 7), 1, 2147483647, [])]), [21], 12175, [(2, (-935))], []),
  (21, ([rv_r 7, rv_full, rv_i 0 13], [rv_r 7, (1, 0, (-2147483648), 2147483647, [(.inr (12, 5002), 0)], []), rv_r 7], [((7, 7), 1, 2147483647, [])]), [22], 12174, [(2, (-935))], []),
  (22, ([rv_r 7, rv_full, rv_i 0 13], [rv_r 13, (1, 0, (-2147483648), 2147483647, [(.inr (12, 5002), 0)], []), rv_r 7], [((7, 7), 1, 2147483647, [])]), [23], 12173, [(2, (-935))], []),
  (23, ([rv_r 7, rv_full, rv_i 0 13], [(1, 0, 0, 13, [(.inl 2, 0)], []), rv_r 13, (1, 0, (-2147483648), 2147483647, [(.inr (12, 5002), 0)], []), rv_r 7], [((7, 7), 1, 2147483647, [])]), [24], 12172, [(2, (-935))], []),
  (24, ([rv_r 7, rv_full, rv_i 0 13], [(1, 0, (-2147483648), 2147483647, [(.inr (13, 5002), 0)], []), (1, 0, (-2147483648), 2147483647, [(.inr (12, 5002), 0)], []), rv_r 7], [((7, 7), 1, 2147483647, [])]), [25], 12171, [(2, (-935))], [0]),
  (25, ([rv_r 7, rv_full, rv_i 0 13], [rv_full], [((7, 7), 1, 2147483647, [])]), [26, 41], 12170, [(2, (-935))], []),
  (26, ([rv_r 7, rv_full, rv_i 0 13], [], [((7, 7), 1, 2147483647, [])]), [27], 14, [], []),
  (27, ([rv_r 7, rv_full, rv_i 0 13], [rv_i 0 0], [((7, 7), 1, 2147483647, [])]), [28], 13, [], []),
  (28, ([rv_r 7, rv_full, rv_i 0 13], [rv_i 99 99, rv_i 0 0], [((7, 7), 1, 2147483647, [])]), [29], 12, [], []),
  (29, ([rv_r 7, rv_full, rv_i 0 13], [rv_r 7, rv_i 99 99, rv_i 0 0], [((7, 7), 1, 2147483647, [])]), [30], 11, [], []),
  (30, ([rv_r 7, rv_full, rv_i 0 13], [rv_r 7, rv_r 7, rv_i 99 99, rv_i 0 0], [((7, 7), 1, 2147483647, [])]), [31], 10, [], []),
  (31, ([rv_r 7, rv_full, rv_i 0 13], [rv_r 11, rv_r 7, rv_i 99 99, rv_i 0 0], [((7, 7), 1, 2147483647, [])]), [32], 9, [], [])]
def n_X1_amount_0_2 : List rv_N := [
  (32, ([rv_r 7, rv_full, rv_i 0 13], [(1, 0, 0, 13, [(.inl 2, 0)], []), rv_r 11, rv_r 7, rv_i 99 99, rv_i 0 0], [((7, 7), 1, 2147483647, [])]), [33], 8, [], []),
  (33, ([rv_r 7, rv_full, rv_i 0 13], [(1, 0, (-2147483648), 2147483647, [(.inr (11, 5002), 0)], []), rv_r 7, rv_i 99 99, rv_i 0 0], [((7, 7), 1, 2147483647, [])]), [34], 7, [], []),
  (34, ([rv_r 7, rv_full, rv_i 0 13], [rv_r 7, (1, 0, (-2147483648), 2147483647, [(.inr (11, 5002), 0)], []), rv_r 7, rv_i 99 99, rv_i 0 0], [((7, 7), 1, 2147483647, [])]), [35], 6, [], []),
  (35, ([rv_r 7, rv_full, rv_i 0 13], [rv_r 12, (1, 0, (-2147483648), 2147483647, [(.inr (11, 5002), 0)], []), rv_r 7, rv_i 99 99, rv_i 0 0], [((7, 7), 1, 2147483647, [])]), [36], 5, [], []),
  (36, ([rv_r 7, rv_full, rv_i 0 13], [(1, 0, 0, 13, [(.inl 2, 0)], []), rv_r 12, (1, 0, (-2147483648), 2147483647, [(.inr (11, 5002), 0)], []), rv_r 7, rv_i 99 99, rv_i 0 0], [((7, 7), 1, 2147483647, [])]), [37], 4, [], []),
  (37, ([rv_r 7, rv_full, rv_i 0 13], [(1, 0, (-2147483648), 2147483647, [(.inr (12, 5002), 0)], []), (1, 0, (-2147483648), 2147483647, [(.inr (11, 5002), 0)], []), rv_r 7, rv_i 99 99, rv_i 0 0], [((7, 7), 1, 2147483647, [])]), [38], 3, [], [1]),
  (38, ([rv_r 7, rv_full, rv_i 0 13], [rv_full, rv_i 99 99, rv_i 0 0], [((7, 7), 1, 2147483647, [])]), [39], 2, [], [2]),
  (39, ([rv_r 7, rv_full, rv_i 0 13], [rv_full, rv_i 0 0], [((7, 7), 1, 2147483647, [])]), [40], 1, [], [3]),
  (40, ([rv_r 7, rv_full, rv_i 0 13], [rv_full], [((7, 7), 1, 2147483647, [])]), [], 0, [], []),
  (41, ([rv_r 7, rv_full, rv_i 0 13], [], [((7, 7), 1, 2147483647, [])]), [42], 12165, [(2, (-935))], []),
  (42, ([rv_r 7, rv_full, rv_i 1 14], [], [((7, 7), 1, 2147483647, [])]), [2], 13099, [(2, (-935))], []),
  (43, ([rv_r 7, rv_full, rv_i 0 14], [], []), [44], 1, [], []),
  (44, ([rv_r 7, rv_full, rv_i 0 14], [rv_i 0 0], []), [], 0, [], [])]
def n_X1_amount_0 : List rv_N := n_X1_amount_0_0 ++ (n_X1_amount_0_1 ++ (n_X1_amount_0_2))
noncomputable def gn_X1_amount_0 : Nat → Option rv_N := rv_ap 16 (rv_at n_X1_amount_0_0) (rv_ap 16 (rv_at n_X1_amount_0_1) (rv_at n_X1_amount_0_2))
theorem hn_X1_amount_0 : ∀ i : Nat, n_X1_amount_0[i]? = gn_X1_amount_0 i := rv_ap_eq (l := n_X1_amount_0_0) (c := 16) (rv_ap_eq (l := n_X1_amount_0_1) (c := 16) (rv_at_eq n_X1_amount_0_2) rfl) rfl
set_option maxRecDepth 100000 in
theorem a_X1_amount_0 : rv_all (fm_tm, flX1, fm_wr, kcX1, klX1, K_X1_amount_0.2.2.1, [], 3) ct_X1_amount_0 cd_X1_amount n_X1_amount_0 K_X1_amount_0 [] 0 n_X1_amount_0 = true := rv_fast hn_X1_amount_0 hc_X1_amount (by decide +kernel)
theorem m_X1_amount_0 {l : Launch} {D : va_G} {ad : Nat → Nat} {cy : Nat → ClassId} {Z : State → Heap → Prop} {Gp : fm_V → Prop} (hAd : fm_Ad fm_tm ad) (hZ : fm_Zk (fm_A fm_tm ad) Z) (hGd : fm_Gd Gp) : rv_Met l D fm_cl fm_tm ad cy fm_nt Z Gp yX1_amount (.code yX1_amount prog_3_method_8_code 3 (some .int) :: fm_Ts) { frames := 1, cells := 0, slots := 0, locals := 100 } K_X1_amount_0 := rv_met hAd hZ (Or.inl (by decide +kernel)) evX1 dc_X1_amount a_X1_amount_0 ⟨rfl, rfl, rfl⟩ (by decide +kernel) (by decide +kernel) (by decide) (fm_gm hGd (by decide +kernel)) (Or.inl rfl) (fun p e s m args below meth c Q X Y => List.forall_mem_cons.mpr ⟨rv_ctV X Y fm_Ts_good dc_X1_amount (pc := 39) (i := 24) (idx := 53) rfl (m_X1_reckon_0 hAd hZ hGd) wl_X1_53 wm_X1_reckon wy_X1_reckon (by decide) ⟨rfl, rfl, rfl⟩ ⟨rfl, rfl⟩, List.forall_mem_cons.mpr ⟨rv_ctV X Y fm_Ts_good dc_X1_amount (pc := 61) (i := 37) (idx := 53) rfl (m_X1_reckon_0 hAd hZ hGd) wl_X1_53 wm_X1_reckon wy_X1_reckon (by decide) ⟨rfl, rfl, rfl⟩ ⟨rfl, rfl⟩, List.forall_mem_cons.mpr ⟨rv_ctS X Y fm_Ts_good dc_X1_amount (pc := 64) (i := 38) (idx := 57) rfl (m_J9_min_7cf53_0 hAd hZ hGd) wl_X1_57 wm_J9_min_7cf53 wy_J9_min_7cf53 (by decide) rfl, List.forall_mem_cons.mpr ⟨rv_ctS X Y fm_Ts_good dc_X1_amount (pc := 67) (i := 39) (idx := 62) rfl (m_J9_max_7cf53_0 hAd hZ hGd) wl_X1_62 wm_J9_max_7cf53 wy_J9_max_7cf53 (by decide) rfl, fun _ h => absurd h List.not_mem_nil⟩⟩⟩⟩) (fun _ _ _ _ _ _ _ _ _ _ _ _ _ _ _ _ h => absurd h List.not_mem_nil)
def cd_X0_loss : List (Nat × Instr × Nat) := [(0, .iload_n 2, 1), (1, .invokestatic 142, 3), (4, .ifCond .eq 26, 3), (7, .aload_n 0, 1), (8, .getfield 33, 3), (11, .iload_n 2, 1), (12, .invokevirtual 145, 3), (15, .ifCond .eq 15, 3), (18, .aload_n 0, 1), (19, .getfield 33, 3), (22, .getfield 135, 3), (25, .iload_n 2, 1), (26, .iaload, 1), (27, .ifCond .ne 5, 3), (30, .iconst 0, 1), (31, .ireturn, 1), (32, .aload_n 0, 1), (33, .getfield 33, 3), (36, .getfield 128, 3), (39, .iload_n 2, 1), (40, .iaload, 1), (41, .istore 4, 2), (43, .aload_n 1, 1), (44, .invokevirtual 109, 3), (47, .aload_n 0, 1), (48, .aload_n 1, 1), (49, .iload 4, 2), (51, .invokevirtual 148, 3), (54, .aload_n 1, 1), (55, .getfield 152, 3), (58, .bipush 6, 2), (60, .iload_n 2, 1), (61, .iastore, 1), (62, .aload_n 1, 1), (63, .getfield 152, 3), (66, .bipush 7, 2), (68, .aload_n 0, 1), (69, .getfield 33, 3), (72, .getfield 135, 3), (75, .iload_n 2, 1), (76, .iaload, 1), (77, .iastore, 1), (78, .aload_n 1, 1), (79, .getfield 152, 3), (82, .bipush 8, 2), (84, .aload_n 0, 1), (85, .getfield 33, 3), (88, .getfield 155, 3), (91, .iload_n 2, 1), (92, .iaload, 1), (93, .iastore, 1), (94, .aload_n 1, 1), (95, .getfield 152, 3), (98, .bipush 9, 2), (100, .iload_n 3, 1), (101, .aload_n 0, 1), (102, .getfield 33, 3), (105, .getfield 158, 3), (108, .iload_n 2, 1), (109, .iaload, 1), (110, .if_icmp .ne 7, 3), (113, .iconst 1, 1), (114, .goto 4, 3), (117, .iconst 0, 1), (118, .iastore, 1), (119, .aload_n 1, 1), (120, .getfield 152, 3), (123, .bipush 10, 2), (125, .aload_n 0, 1), (126, .getfield 33, 3), (129, .iload 4, 2), (131, .invokevirtual 161, 3), (134, .iastore, 1), (135, .aload_n 0, 1), (136, .getfield 33, 3), (139, .getfield 135, 3), (142, .iload_n 2, 1), (143, .iaload, 1), (144, .aload_n 1, 1), (145, .bipush 108, 2), (147, .invokevirtual 165, 3), (150, .invokestatic 168, 3), (153, .ireturn, 1)]
theorem dc_X0_loss : ∀ q ∈ cd_X0_loss, decode prog_2_method_11_code q.1 = .ok (q.2.1, q.2.2) := by decide +kernel
def ch_X0_loss_0 : List (Nat × Instr × Nat) := [(0, .iload_n 2, 1), (1, .invokestatic 142, 3), (4, .ifCond .eq 26, 3), (7, .aload_n 0, 1), (8, .getfield 33, 3), (11, .iload_n 2, 1), (12, .invokevirtual 145, 3), (15, .ifCond .eq 15, 3), (18, .aload_n 0, 1), (19, .getfield 33, 3), (22, .getfield 135, 3), (25, .iload_n 2, 1), (26, .iaload, 1), (27, .ifCond .ne 5, 3), (30, .iconst 0, 1), (31, .ireturn, 1)]
def ch_X0_loss_1 : List (Nat × Instr × Nat) := [(32, .aload_n 0, 1), (33, .getfield 33, 3), (36, .getfield 128, 3), (39, .iload_n 2, 1), (40, .iaload, 1), (41, .istore 4, 2), (43, .aload_n 1, 1), (44, .invokevirtual 109, 3), (47, .aload_n 0, 1), (48, .aload_n 1, 1), (49, .iload 4, 2), (51, .invokevirtual 148, 3), (54, .aload_n 1, 1), (55, .getfield 152, 3), (58, .bipush 6, 2), (60, .iload_n 2, 1)]
def ch_X0_loss_2 : List (Nat × Instr × Nat) := [(61, .iastore, 1), (62, .aload_n 1, 1), (63, .getfield 152, 3), (66, .bipush 7, 2), (68, .aload_n 0, 1), (69, .getfield 33, 3), (72, .getfield 135, 3), (75, .iload_n 2, 1), (76, .iaload, 1), (77, .iastore, 1), (78, .aload_n 1, 1), (79, .getfield 152, 3), (82, .bipush 8, 2), (84, .aload_n 0, 1), (85, .getfield 33, 3), (88, .getfield 155, 3)]
def ch_X0_loss_3 : List (Nat × Instr × Nat) := [(91, .iload_n 2, 1), (92, .iaload, 1), (93, .iastore, 1), (94, .aload_n 1, 1), (95, .getfield 152, 3), (98, .bipush 9, 2), (100, .iload_n 3, 1), (101, .aload_n 0, 1), (102, .getfield 33, 3), (105, .getfield 158, 3), (108, .iload_n 2, 1), (109, .iaload, 1), (110, .if_icmp .ne 7, 3), (113, .iconst 1, 1), (114, .goto 4, 3), (117, .iconst 0, 1)]
def ch_X0_loss_4 : List (Nat × Instr × Nat) := [(118, .iastore, 1), (119, .aload_n 1, 1), (120, .getfield 152, 3), (123, .bipush 10, 2), (125, .aload_n 0, 1), (126, .getfield 33, 3), (129, .iload 4, 2), (131, .invokevirtual 161, 3), (134, .iastore, 1), (135, .aload_n 0, 1), (136, .getfield 33, 3), (139, .getfield 135, 3), (142, .iload_n 2, 1), (143, .iaload, 1), (144, .aload_n 1, 1), (145, .bipush 108, 2)]
def ch_X0_loss_5 : List (Nat × Instr × Nat) := [(147, .invokevirtual 165, 3), (150, .invokestatic 168, 3), (153, .ireturn, 1)]
set_option maxRecDepth 100000 in
theorem he_X0_loss : cd_X0_loss = ch_X0_loss_0 ++ (ch_X0_loss_1 ++ (ch_X0_loss_2 ++ (ch_X0_loss_3 ++ (ch_X0_loss_4 ++ (ch_X0_loss_5))))) := rfl
noncomputable def gc_X0_loss : Nat → Option (Nat × Instr × Nat) := rv_ap 16 (rv_at ch_X0_loss_0) (rv_ap 16 (rv_at ch_X0_loss_1) (rv_ap 16 (rv_at ch_X0_loss_2) (rv_ap 16 (rv_at ch_X0_loss_3) (rv_ap 16 (rv_at ch_X0_loss_4) (rv_at ch_X0_loss_5)))))
theorem hc_X0_loss : ∀ i : Nat, cd_X0_loss[i]? = gc_X0_loss i := by
  rw [he_X0_loss]
  exact rv_ap_eq (l := ch_X0_loss_0) (c := 16) (rv_ap_eq (l := ch_X0_loss_1) (c := 16) (rv_ap_eq (l := ch_X0_loss_2) (c := 16) (rv_ap_eq (l := ch_X0_loss_3) (c := 16) (rv_ap_eq (l := ch_X0_loss_4) (c := 16) (rv_at_eq ch_X0_loss_5) rfl) rfl) rfl) rfl) rfl
def K_X0_loss_0 : rv_K := ([rv_r 26, rv_r 7, rv_full, rv_full], [], [(14, 0), (14, 1), (14, 2), (14, 3), (14, 4), (14, 5), (14, 6), (14, 7), (14, 8), (14, 9), (14, 10), (14, 9999), (15, 9999)], [(0, (-2147483648), 2147483647)], [(.inl 2, 0, 8), (.inr (37, 5002), (-2147483648), 19)], [])
def ct_X0_loss_0 : List (Nat × rv_K) := [(1, K_X7_isPorter_0), (6, K_X2_climbs_0), (23, K_X1_forgetWho_0), (27, K_X0_show_0), (71, K_X2_countAt_0), (80, K_X1_amount_0), (81, K_J9_min_7cf53_0)]
def n_X0_loss_0_0 : List rv_N := [
  (0, ([rv_r 26, rv_r 7, rv_full, rv_full, rv_u], [], []), [1], 79, [], []),
  (1, ([rv_r 26, rv_r 7, rv_full, rv_full, rv_u], [(1, 0, (-2147483648), 2147483647, [(.inl 2, 0)], [])], []), [2], 78, [], [0]),
  (2, ([rv_r 26, rv_r 7, rv_full, rv_full, rv_u], [(1, 0, 0, 1, [], [(.inl 2, 0, 8)])], []), [3, 14], 77, [], []),
  (3, ([rv_r 26, rv_r 7, rv_i 0 8, rv_full, rv_u], [], []), [4], 76, [], []),
  (4, ([rv_r 26, rv_r 7, rv_i 0 8, rv_full, rv_u], [rv_r 26], []), [5], 75, [], []),
  (5, ([rv_r 26, rv_r 7, rv_i 0 8, rv_full, rv_u], [rv_r 36], []), [6], 74, [], []),
  (6, ([rv_r 26, rv_r 7, rv_i 0 8, rv_full, rv_u], [(1, 0, 0, 8, [(.inl 2, 0)], []), rv_r 36], []), [7], 73, [], [1]),
  (7, ([rv_r 26, rv_r 7, rv_i 0 8, rv_full, rv_u], [(1, 0, 0, 1, [], [(.inl 2, 0, 8), (.inr (37, 5002), (-2147483648), 19)])], []), [8, 14], 72, [], []),
  (8, ([rv_r 26, rv_r 7, rv_i 0 8, rv_full, rv_u], [], [((37, 5002), (-2147483648), 19, [])]), [9], 71, [], []),
  (9, ([rv_r 26, rv_r 7, rv_i 0 8, rv_full, rv_u], [rv_r 26], [((37, 5002), (-2147483648), 19, [])]), [10], 70, [], []),
  (10, ([rv_r 26, rv_r 7, rv_i 0 8, rv_full, rv_u], [rv_r 36], [((37, 5002), (-2147483648), 19, [])]), [11], 69, [], []),
  (11, ([rv_r 26, rv_r 7, rv_i 0 8, rv_full, rv_u], [rv_r 38], [((37, 5002), (-2147483648), 19, [])]), [12], 68, [], []),
  (12, ([rv_r 26, rv_r 7, rv_i 0 8, rv_full, rv_u], [(1, 0, 0, 8, [(.inl 2, 0)], []), rv_r 38], [((37, 5002), (-2147483648), 19, [])]), [13], 67, [], []),
  (13, ([rv_r 26, rv_r 7, rv_i 0 8, rv_full, rv_u], [(1, 0, (-2147483648), 2147483647, [(.inr (38, 5002), 0)], [])], [((37, 5002), (-2147483648), 19, [])]), [14, 16], 66, [], []),
  (14, ([rv_r 26, rv_r 7, rv_full, rv_full, rv_u], [], []), [15], 1, [], []),
  (15, ([rv_r 26, rv_r 7, rv_full, rv_full, rv_u], [rv_i 0 0], []), [], 0, [], [])]
def n_X0_loss_0_1 : List rv_N := [
  (16, ([rv_r 26, rv_r 7, rv_i 0 8, rv_full, rv_u], [], [((37, 5002), (-2147483648), 19, [])]), [17], 65, [], []),
  (17, ([rv_r 26, rv_r 7, rv_i 0 8, rv_full, rv_u], [rv_r 26], [((37, 5002), (-2147483648), 19, [])]), [18], 64, [], []),
  (18, ([rv_r 26, rv_r 7, rv_i 0 8, rv_full, rv_u], [rv_r 36], [((37, 5002), (-2147483648), 19, [])]), [19], 63, [], []),
  (19, ([rv_r 26, rv_r 7, rv_i 0 8, rv_full, rv_u], [rv_r 37], [((37, 5002), (-2147483648), 19, [])]), [20], 62, [], []),
  (20, ([rv_r 26, rv_r 7, rv_i 0 8, rv_full, rv_u], [(1, 0, 0, 8, [(.inl 2, 0)], []), rv_r 37], [((37, 5002), (-2147483648), 19, [])]), [21], 61, [], []),
  (21, ([rv_r 26, rv_r 7, rv_i 0 8, rv_full, rv_u], [(1, 0, (-2147483648), 19, [(.inr (37, 5002), 0)], [])], [((37, 5002), (-2147483648), 19, [])]), [22], 60, [], []),
  (22, ([rv_r 26, rv_r 7, rv_i 0 8, rv_full, rv_i (-2147483648) 19], [], [((37, 5002), (-2147483648), 19, [])]), [23], 59, [], []),
  (23, ([rv_r 26, rv_r 7, rv_i 0 8, rv_full, rv_i (-2147483648) 19], [rv_r 7], [((37, 5002), (-2147483648), 19, [])]), [24], 58, [], [2]),
  (24, ([rv_r 26, rv_r 7, rv_i 0 8, rv_full, rv_i (-2147483648) 19], [], [((37, 5002), (-2147483648), 19, [])]), [25], 57, [], []),
  (25, ([rv_r 26, rv_r 7, rv_i 0 8, rv_full, rv_i (-2147483648) 19], [rv_r 26], [((37, 5002), (-2147483648), 19, [])]), [26], 56, [], []),
  (26, ([rv_r 26, rv_r 7, rv_i 0 8, rv_full, rv_i (-2147483648) 19], [rv_r 7, rv_r 26], [((37, 5002), (-2147483648), 19, [])]), [27], 55, [], []),
  (27, ([rv_r 26, rv_r 7, rv_i 0 8, rv_full, rv_i (-2147483648) 19], [(1, 0, (-2147483648), 19, [(.inl 4, 0)], []), rv_r 7, rv_r 26], [((37, 5002), (-2147483648), 19, [])]), [28], 54, [], [3]),
  (28, ([rv_r 26, rv_r 7, rv_i 0 8, rv_full, rv_i (-2147483648) 19], [], [((37, 5002), (-2147483648), 19, [])]), [29], 53, [], []),
  (29, ([rv_r 26, rv_r 7, rv_i 0 8, rv_full, rv_i (-2147483648) 19], [rv_r 7], [((37, 5002), (-2147483648), 19, [])]), [30], 52, [], []),
  (30, ([rv_r 26, rv_r 7, rv_i 0 8, rv_full, rv_i (-2147483648) 19], [rv_r 14], [((37, 5002), (-2147483648), 19, [])]), [31], 51, [], []),
  (31, ([rv_r 26, rv_r 7, rv_i 0 8, rv_full, rv_i (-2147483648) 19], [rv_i 6 6, rv_r 14], [((37, 5002), (-2147483648), 19, [])]), [32], 50, [], [])]
def n_X0_loss_0_2 : List rv_N := [
  (32, ([rv_r 26, rv_r 7, rv_i 0 8, rv_full, rv_i (-2147483648) 19], [(1, 0, 0, 8, [(.inl 2, 0)], []), rv_i 6 6, rv_r 14], [((37, 5002), (-2147483648), 19, [])]), [33], 49, [], []),
  (33, ([rv_r 26, rv_r 7, rv_i 0 8, rv_full, rv_i (-2147483648) 19], [], [((14, 6), 0, 8, []), ((37, 5002), (-2147483648), 19, [])]), [34], 48, [], []),
  (34, ([rv_r 26, rv_r 7, rv_i 0 8, rv_full, rv_i (-2147483648) 19], [rv_r 7], [((14, 6), 0, 8, []), ((37, 5002), (-2147483648), 19, [])]), [35], 47, [], []),
  (35, ([rv_r 26, rv_r 7, rv_i 0 8, rv_full, rv_i (-2147483648) 19], [rv_r 14], [((14, 6), 0, 8, []), ((37, 5002), (-2147483648), 19, [])]), [36], 46, [], []),
  (36, ([rv_r 26, rv_r 7, rv_i 0 8, rv_full, rv_i (-2147483648) 19], [rv_i 7 7, rv_r 14], [((14, 6), 0, 8, []), ((37, 5002), (-2147483648), 19, [])]), [37], 45, [], []),
  (37, ([rv_r 26, rv_r 7, rv_i 0 8, rv_full, rv_i (-2147483648) 19], [rv_r 26, rv_i 7 7, rv_r 14], [((14, 6), 0, 8, []), ((37, 5002), (-2147483648), 19, [])]), [38], 44, [], []),
  (38, ([rv_r 26, rv_r 7, rv_i 0 8, rv_full, rv_i (-2147483648) 19], [rv_r 36, rv_i 7 7, rv_r 14], [((14, 6), 0, 8, []), ((37, 5002), (-2147483648), 19, [])]), [39], 43, [], []),
  (39, ([rv_r 26, rv_r 7, rv_i 0 8, rv_full, rv_i (-2147483648) 19], [rv_r 38, rv_i 7 7, rv_r 14], [((14, 6), 0, 8, []), ((37, 5002), (-2147483648), 19, [])]), [40], 42, [], []),
  (40, ([rv_r 26, rv_r 7, rv_i 0 8, rv_full, rv_i (-2147483648) 19], [(1, 0, 0, 8, [(.inl 2, 0)], []), rv_r 38, rv_i 7 7, rv_r 14], [((14, 6), 0, 8, []), ((37, 5002), (-2147483648), 19, [])]), [41], 41, [], []),
  (41, ([rv_r 26, rv_r 7, rv_i 0 8, rv_full, rv_i (-2147483648) 19], [(1, 0, (-2147483648), 2147483647, [(.inr (38, 5002), 0)], []), rv_i 7 7, rv_r 14], [((14, 6), 0, 8, []), ((37, 5002), (-2147483648), 19, [])]), [42], 40, [], []),
  (42, ([rv_r 26, rv_r 7, rv_i 0 8, rv_full, rv_i (-2147483648) 19], [], [((14, 6), 0, 8, []), ((37, 5002), (-2147483648), 19, [])]), [43], 39, [], []),
  (43, ([rv_r 26, rv_r 7, rv_i 0 8, rv_full, rv_i (-2147483648) 19], [rv_r 7], [((14, 6), 0, 8, []), ((37, 5002), (-2147483648), 19, [])]), [44], 38, [], []),
  (44, ([rv_r 26, rv_r 7, rv_i 0 8, rv_full, rv_i (-2147483648) 19], [rv_r 14], [((14, 6), 0, 8, []), ((37, 5002), (-2147483648), 19, [])]), [45], 37, [], []),
  (45, ([rv_r 26, rv_r 7, rv_i 0 8, rv_full, rv_i (-2147483648) 19], [rv_i 8 8, rv_r 14], [((14, 6), 0, 8, []), ((37, 5002), (-2147483648), 19, [])]), [46], 36, [], []),
  (46, ([rv_r 26, rv_r 7, rv_i 0 8, rv_full, rv_i (-2147483648) 19], [rv_r 26, rv_i 8 8, rv_r 14], [((14, 6), 0, 8, []), ((37, 5002), (-2147483648), 19, [])]), [47], 35, [], []),
  (47, ([rv_r 26, rv_r 7, rv_i 0 8, rv_full, rv_i (-2147483648) 19], [rv_r 36, rv_i 8 8, rv_r 14], [((14, 6), 0, 8, []), ((37, 5002), (-2147483648), 19, [])]), [48], 34, [], [])]
def n_X0_loss_0_3 : List rv_N := [
  (48, ([rv_r 26, rv_r 7, rv_i 0 8, rv_full, rv_i (-2147483648) 19], [rv_r 39, rv_i 8 8, rv_r 14], [((14, 6), 0, 8, []), ((37, 5002), (-2147483648), 19, [])]), [49], 33, [], []),
  (49, ([rv_r 26, rv_r 7, rv_i 0 8, rv_full, rv_i (-2147483648) 19], [(1, 0, 0, 8, [(.inl 2, 0)], []), rv_r 39, rv_i 8 8, rv_r 14], [((14, 6), 0, 8, []), ((37, 5002), (-2147483648), 19, [])]), [50], 32, [], []),
  (50, ([rv_r 26, rv_r 7, rv_i 0 8, rv_full, rv_i (-2147483648) 19], [(1, 0, (-2147483648), 2147483647, [(.inr (39, 5002), 0)], []), rv_i 8 8, rv_r 14], [((14, 6), 0, 8, []), ((37, 5002), (-2147483648), 19, [])]), [51], 31, [], []),
  (51, ([rv_r 26, rv_r 7, rv_i 0 8, rv_full, rv_i (-2147483648) 19], [], [((14, 6), 0, 8, []), ((37, 5002), (-2147483648), 19, [])]), [52], 30, [], []),
  (52, ([rv_r 26, rv_r 7, rv_i 0 8, rv_full, rv_i (-2147483648) 19], [rv_r 7], [((14, 6), 0, 8, []), ((37, 5002), (-2147483648), 19, [])]), [53], 29, [], []),
  (53, ([rv_r 26, rv_r 7, rv_i 0 8, rv_full, rv_i (-2147483648) 19], [rv_r 14], [((14, 6), 0, 8, []), ((37, 5002), (-2147483648), 19, [])]), [54], 28, [], []),
  (54, ([rv_r 26, rv_r 7, rv_i 0 8, rv_full, rv_i (-2147483648) 19], [rv_i 9 9, rv_r 14], [((14, 6), 0, 8, []), ((37, 5002), (-2147483648), 19, [])]), [55], 27, [], []),
  (55, ([rv_r 26, rv_r 7, rv_i 0 8, rv_full, rv_i (-2147483648) 19], [(1, 0, (-2147483648), 2147483647, [(.inl 3, 0)], []), rv_i 9 9, rv_r 14], [((14, 6), 0, 8, []), ((37, 5002), (-2147483648), 19, [])]), [56], 26, [], []),
  (56, ([rv_r 26, rv_r 7, rv_i 0 8, rv_full, rv_i (-2147483648) 19], [rv_r 26, (1, 0, (-2147483648), 2147483647, [(.inl 3, 0)], []), rv_i 9 9, rv_r 14], [((14, 6), 0, 8, []), ((37, 5002), (-2147483648), 19, [])]), [57], 25, [], []),
  (57, ([rv_r 26, rv_r 7, rv_i 0 8, rv_full, rv_i (-2147483648) 19], [rv_r 36, (1, 0, (-2147483648), 2147483647, [(.inl 3, 0)], []), rv_i 9 9, rv_r 14], [((14, 6), 0, 8, []), ((37, 5002), (-2147483648), 19, [])]), [58], 24, [], []),
  (58, ([rv_r 26, rv_r 7, rv_i 0 8, rv_full, rv_i (-2147483648) 19], [rv_r 40, (1, 0, (-2147483648), 2147483647, [(.inl 3, 0)], []), rv_i 9 9, rv_r 14], [((14, 6), 0, 8, []), ((37, 5002), (-2147483648), 19, [])]), [59], 23, [], []),
  (59, ([rv_r 26, rv_r 7, rv_i 0 8, rv_full, rv_i (-2147483648) 19], [(1, 0, 0, 8, [(.inl 2, 0)], []), rv_r 40, (1, 0, (-2147483648), 2147483647, [(.inl 3, 0)], []), rv_i 9 9, rv_r 14], [((14, 6), 0, 8, []), ((37, 5002), (-2147483648), 19, [])]), [60], 22, [], []),
  (60, ([rv_r 26, rv_r 7, rv_i 0 8, rv_full, rv_i (-2147483648) 19], [(1, 0, (-2147483648), 2147483647, [(.inr (40, 5002), 0)], []), (1, 0, (-2147483648), 2147483647, [(.inl 3, 0)], []), rv_i 9 9, rv_r 14], [((14, 6), 0, 8, []), ((37, 5002), (-2147483648), 19, [])]), [61, 63], 21, [], []),
  (61, ([rv_r 26, rv_r 7, rv_i 0 8, rv_full, rv_i (-2147483648) 19], [rv_i 9 9, rv_r 14], [((14, 6), 0, 8, []), ((37, 5002), (-2147483648), 19, [])]), [62], 20, [], []),
  (62, ([rv_r 26, rv_r 7, rv_i 0 8, rv_full, rv_i (-2147483648) 19], [rv_i 1 1, rv_i 9 9, rv_r 14], [((14, 6), 0, 8, []), ((37, 5002), (-2147483648), 19, [])]), [65], 19, [], []),
  (63, ([rv_r 26, rv_r 7, rv_i 0 8, rv_full, rv_i (-2147483648) 19], [rv_i 9 9, rv_r 14], [((14, 6), 0, 8, []), ((37, 5002), (-2147483648), 19, [])]), [64], 19, [], [])]
def n_X0_loss_0_4 : List rv_N := [
  (64, ([rv_r 26, rv_r 7, rv_i 0 8, rv_full, rv_i (-2147483648) 19], [rv_i 0 0, rv_i 9 9, rv_r 14], [((14, 6), 0, 8, []), ((37, 5002), (-2147483648), 19, [])]), [66], 18, [], []),
  (64, ([rv_r 26, rv_r 7, rv_i 0 8, rv_full, rv_i (-2147483648) 19], [rv_i 1 1, rv_i 9 9, rv_r 14], [((14, 6), 0, 8, []), ((37, 5002), (-2147483648), 19, [])]), [66], 18, [], []),
  (65, ([rv_r 26, rv_r 7, rv_i 0 8, rv_full, rv_i (-2147483648) 19], [], [((14, 6), 0, 8, []), ((14, 9), 0, 1, []), ((37, 5002), (-2147483648), 19, [])]), [67], 17, [], []),
  (66, ([rv_r 26, rv_r 7, rv_i 0 8, rv_full, rv_i (-2147483648) 19], [rv_r 7], [((14, 6), 0, 8, []), ((14, 9), 0, 1, []), ((37, 5002), (-2147483648), 19, [])]), [68], 16, [], []),
  (67, ([rv_r 26, rv_r 7, rv_i 0 8, rv_full, rv_i (-2147483648) 19], [rv_r 14], [((14, 6), 0, 8, []), ((14, 9), 0, 1, []), ((37, 5002), (-2147483648), 19, [])]), [69], 15, [], []),
  (68, ([rv_r 26, rv_r 7, rv_i 0 8, rv_full, rv_i (-2147483648) 19], [rv_i 10 10, rv_r 14], [((14, 6), 0, 8, []), ((14, 9), 0, 1, []), ((37, 5002), (-2147483648), 19, [])]), [70], 14, [], []),
  (69, ([rv_r 26, rv_r 7, rv_i 0 8, rv_full, rv_i (-2147483648) 19], [rv_r 26, rv_i 10 10, rv_r 14], [((14, 6), 0, 8, []), ((14, 9), 0, 1, []), ((37, 5002), (-2147483648), 19, [])]), [71], 13, [], []),
  (70, ([rv_r 26, rv_r 7, rv_i 0 8, rv_full, rv_i (-2147483648) 19], [rv_r 36, rv_i 10 10, rv_r 14], [((14, 6), 0, 8, []), ((14, 9), 0, 1, []), ((37, 5002), (-2147483648), 19, [])]), [72], 12, [], []),
  (71, ([rv_r 26, rv_r 7, rv_i 0 8, rv_full, rv_i (-2147483648) 19], [(1, 0, (-2147483648), 19, [(.inl 4, 0)], []), rv_r 36, rv_i 10 10, rv_r 14], [((14, 6), 0, 8, []), ((14, 9), 0, 1, []), ((37, 5002), (-2147483648), 19, [])]), [73], 11, [], [4]),
  (72, ([rv_r 26, rv_r 7, rv_i 0 8, rv_full, rv_i (-2147483648) 19], [rv_full, rv_i 10 10, rv_r 14], [((14, 6), 0, 8, []), ((14, 9), 0, 1, []), ((37, 5002), (-2147483648), 19, [])]), [74], 10, [], []),
  (73, ([rv_r 26, rv_r 7, rv_i 0 8, rv_full, rv_i (-2147483648) 19], [], [((14, 6), 0, 8, []), ((14, 9), 0, 1, []), ((37, 5002), (-2147483648), 19, [])]), [75], 9, [], []),
  (74, ([rv_r 26, rv_r 7, rv_i 0 8, rv_full, rv_i (-2147483648) 19], [rv_r 26], [((14, 6), 0, 8, []), ((14, 9), 0, 1, []), ((37, 5002), (-2147483648), 19, [])]), [76], 8, [], []),
  (75, ([rv_r 26, rv_r 7, rv_i 0 8, rv_full, rv_i (-2147483648) 19], [rv_r 36], [((14, 6), 0, 8, []), ((14, 9), 0, 1, []), ((37, 5002), (-2147483648), 19, [])]), [77], 7, [], []),
  (76, ([rv_r 26, rv_r 7, rv_i 0 8, rv_full, rv_i (-2147483648) 19], [rv_r 38], [((14, 6), 0, 8, []), ((14, 9), 0, 1, []), ((37, 5002), (-2147483648), 19, [])]), [78], 6, [], []),
  (77, ([rv_r 26, rv_r 7, rv_i 0 8, rv_full, rv_i (-2147483648) 19], [(1, 0, 0, 8, [(.inl 2, 0)], []), rv_r 38], [((14, 6), 0, 8, []), ((14, 9), 0, 1, []), ((37, 5002), (-2147483648), 19, [])]), [79], 5, [], []),
  (78, ([rv_r 26, rv_r 7, rv_i 0 8, rv_full, rv_i (-2147483648) 19], [(1, 0, (-2147483648), 2147483647, [(.inr (38, 5002), 0)], [])], [((14, 6), 0, 8, []), ((14, 9), 0, 1, []), ((37, 5002), (-2147483648), 19, [])]), [80], 4, [], [])]
def n_X0_loss_0_5 : List rv_N := [
  (79, ([rv_r 26, rv_r 7, rv_i 0 8, rv_full, rv_i (-2147483648) 19], [rv_r 7, (1, 0, (-2147483648), 2147483647, [(.inr (38, 5002), 0)], [])], [((14, 6), 0, 8, []), ((14, 9), 0, 1, []), ((37, 5002), (-2147483648), 19, [])]), [81], 3, [], []),
  (80, ([rv_r 26, rv_r 7, rv_i 0 8, rv_full, rv_i (-2147483648) 19], [rv_i 108 108, rv_r 7, (1, 0, (-2147483648), 2147483647, [(.inr (38, 5002), 0)], [])], [((14, 6), 0, 8, []), ((14, 9), 0, 1, []), ((37, 5002), (-2147483648), 19, [])]), [82], 2, [], [5]),
  (81, ([rv_r 26, rv_r 7, rv_i 0 8, rv_full, rv_i (-2147483648) 19], [rv_full, (1, 0, (-2147483648), 2147483647, [(.inr (38, 5002), 0)], [])], [((14, 6), 0, 8, []), ((14, 9), 0, 1, []), ((37, 5002), (-2147483648), 19, [])]), [83], 1, [], [6]),
  (82, ([rv_r 26, rv_r 7, rv_i 0 8, rv_full, rv_i (-2147483648) 19], [rv_full], [((14, 6), 0, 8, []), ((14, 9), 0, 1, []), ((37, 5002), (-2147483648), 19, [])]), [], 0, [], [])]
def n_X0_loss_0 : List rv_N := n_X0_loss_0_0 ++ (n_X0_loss_0_1 ++ (n_X0_loss_0_2 ++ (n_X0_loss_0_3 ++ (n_X0_loss_0_4 ++ (n_X0_loss_0_5)))))
noncomputable def gn_X0_loss_0 : Nat → Option rv_N := rv_ap 16 (rv_at n_X0_loss_0_0) (rv_ap 16 (rv_at n_X0_loss_0_1) (rv_ap 16 (rv_at n_X0_loss_0_2) (rv_ap 16 (rv_at n_X0_loss_0_3) (rv_ap 16 (rv_at n_X0_loss_0_4) (rv_at n_X0_loss_0_5)))))
theorem hn_X0_loss_0 : ∀ i : Nat, n_X0_loss_0[i]? = gn_X0_loss_0 i := rv_ap_eq (l := n_X0_loss_0_0) (c := 16) (rv_ap_eq (l := n_X0_loss_0_1) (c := 16) (rv_ap_eq (l := n_X0_loss_0_2) (c := 16) (rv_ap_eq (l := n_X0_loss_0_3) (c := 16) (rv_ap_eq (l := n_X0_loss_0_4) (c := 16) (rv_at_eq n_X0_loss_0_5) rfl) rfl) rfl) rfl) rfl
set_option maxRecDepth 100000 in
theorem a_X0_loss_0 : rv_all (fm_tm, flX0, fm_wr, kcX0, klX0, K_X0_loss_0.2.2.1, [2, 3], 5) ct_X0_loss_0 cd_X0_loss n_X0_loss_0 K_X0_loss_0 [] 0 n_X0_loss_0 = true := rv_fast hn_X0_loss_0 hc_X0_loss (by decide +kernel)
theorem m_X0_loss_0 {l : Launch} {D : va_G} {ad : Nat → Nat} {cy : Nat → ClassId} {Z : State → Heap → Prop} {Gp : fm_V → Prop} (hAd : fm_Ad fm_tm ad) (hZ : fm_Zk (fm_A fm_tm ad) Z) (hGd : fm_Gd Gp) : rv_Met l D fm_cl fm_tm ad cy fm_nt Z Gp yX0_loss (.code yX0_loss prog_2_method_11_code 5 (some .int) :: fm_Ts) { frames := 2, cells := 0, slots := 0, locals := 200 } K_X0_loss_0 := rv_met hAd hZ (Or.inl (by decide +kernel)) evX0 dc_X0_loss a_X0_loss_0 ⟨rfl, rfl, rfl⟩ (by decide +kernel) (by decide +kernel) (by decide) (fm_gm hGd (by decide +kernel)) (Or.inl rfl) (fun p e s m args below meth c Q X Y => List.forall_mem_cons.mpr ⟨rv_ctN X Y fm_Ts_good dc_X0_loss (pc := 1) (i := 1) (idx := 142) rfl (m_X7_isPorter_0 hAd hZ hGd) wl_X0_142 wm_X7_isPorter wy_X7_isPorter (by decide) rfl, List.forall_mem_cons.mpr ⟨rv_ctV X Y fm_Ts_good dc_X0_loss (pc := 12) (i := 6) (idx := 145) rfl (m_X2_climbs_0 hAd hZ hGd) wl_X0_145 wm_X2_climbs wy_X2_climbs (by decide) ⟨rfl, rfl, rfl⟩ ⟨rfl, rfl⟩, List.forall_mem_cons.mpr ⟨rv_ctV X Y fm_Ts_good dc_X0_loss (pc := 44) (i := 23) (idx := 109) rfl (m_X1_forgetWho_0 hAd hZ hGd) wl_X0_109 wm_X1_forgetWho wy_X1_forgetWho (by decide) ⟨rfl, rfl, rfl⟩ ⟨rfl, rfl⟩, List.forall_mem_cons.mpr ⟨rv_ctV X Y fm_Ts_good dc_X0_loss (pc := 51) (i := 27) (idx := 148) rfl (m_X0_show_0 hAd hZ hGd) wl_X0_148 wm_X0_show wy_X0_show (by decide) ⟨rfl, rfl, rfl⟩ ⟨rfl, rfl⟩, List.forall_mem_cons.mpr ⟨rv_ctV X Y fm_Ts_good dc_X0_loss (pc := 131) (i := 71) (idx := 161) rfl (m_X2_countAt_0 hAd hZ hGd) wl_X0_161 wm_X2_countAt wy_X2_countAt (by decide) ⟨rfl, rfl, rfl⟩ ⟨rfl, rfl⟩, List.forall_mem_cons.mpr ⟨rv_ctV X Y fm_Ts_good dc_X0_loss (pc := 147) (i := 80) (idx := 165) rfl (m_X1_amount_0 hAd hZ hGd) wl_X0_165 wm_X1_amount wy_X1_amount (by decide) ⟨rfl, rfl, rfl⟩ ⟨rfl, rfl⟩, List.forall_mem_cons.mpr ⟨rv_ctS X Y fm_Ts_good dc_X0_loss (pc := 150) (i := 81) (idx := 168) rfl (m_J9_min_7cf53_0 hAd hZ hGd) wl_X0_168 wm_J9_min_7cf53 wy_J9_min_7cf53 (by decide) rfl, fun _ h => absurd h List.not_mem_nil⟩⟩⟩⟩⟩⟩⟩) (fun _ _ _ _ _ _ _ _ _ _ _ _ _ _ _ _ h => absurd h List.not_mem_nil)
def cd_X0_heap : List (Nat × Instr × Nat) := [(0, .iload_n 1, 1), (1, .invokestatic 131, 3), (4, .ifCond .eq 15, 3), (7, .ldc 174, 2), (9, .aload_n 0, 1), (10, .getfield 9, 3), (13, .iload_n 1, 1), (14, .iaload, 1), (15, .isub, 1), (16, .goto 4, 3), (19, .iconst 0, 1), (20, .istore_n 3, 1), (21, .iload_n 2, 1), (22, .iload_n 3, 1), (23, .invokestatic 168, 3), (26, .istore 4, 2), (28, .aload_n 0, 1), (29, .dup, 1), (30, .getfield 56, 3), (33, .iload_n 2, 1), (34, .iload 4, 2), (36, .isub, 1), (37, .iadd, 1), (38, .putfield 56, 3), (41, .iload_n 1, 1), (42, .invokestatic 131, 3), (45, .ifCond .eq 14, 3), (48, .aload_n 0, 1), (49, .getfield 9, 3), (52, .iload_n 1, 1), (53, .dup2, 1), (54, .iaload, 1), (55, .iload 4, 2), (57, .iadd, 1), (58, .iastore, 1), (59, .return_, 1)]
theorem dc_X0_heap : ∀ q ∈ cd_X0_heap, decode prog_2_method_13_code q.1 = .ok (q.2.1, q.2.2) := by decide +kernel
def ch_X0_heap_0 : List (Nat × Instr × Nat) := [(0, .iload_n 1, 1), (1, .invokestatic 131, 3), (4, .ifCond .eq 15, 3), (7, .ldc 174, 2), (9, .aload_n 0, 1), (10, .getfield 9, 3), (13, .iload_n 1, 1), (14, .iaload, 1), (15, .isub, 1), (16, .goto 4, 3), (19, .iconst 0, 1), (20, .istore_n 3, 1), (21, .iload_n 2, 1), (22, .iload_n 3, 1), (23, .invokestatic 168, 3), (26, .istore 4, 2)]
def ch_X0_heap_1 : List (Nat × Instr × Nat) := [(28, .aload_n 0, 1), (29, .dup, 1), (30, .getfield 56, 3), (33, .iload_n 2, 1), (34, .iload 4, 2), (36, .isub, 1), (37, .iadd, 1), (38, .putfield 56, 3), (41, .iload_n 1, 1), (42, .invokestatic 131, 3), (45, .ifCond .eq 14, 3), (48, .aload_n 0, 1), (49, .getfield 9, 3), (52, .iload_n 1, 1), (53, .dup2, 1), (54, .iaload, 1)]
def ch_X0_heap_2 : List (Nat × Instr × Nat) := [(55, .iload 4, 2), (57, .iadd, 1), (58, .iastore, 1), (59, .return_, 1)]
set_option maxRecDepth 100000 in
theorem he_X0_heap : cd_X0_heap = ch_X0_heap_0 ++ (ch_X0_heap_1 ++ (ch_X0_heap_2)) := rfl
noncomputable def gc_X0_heap : Nat → Option (Nat × Instr × Nat) := rv_ap 16 (rv_at ch_X0_heap_0) (rv_ap 16 (rv_at ch_X0_heap_1) (rv_at ch_X0_heap_2))
theorem hc_X0_heap : ∀ i : Nat, cd_X0_heap[i]? = gc_X0_heap i := by
  rw [he_X0_heap]
  exact rv_ap_eq (l := ch_X0_heap_0) (c := 16) (rv_ap_eq (l := ch_X0_heap_1) (c := 16) (rv_at_eq ch_X0_heap_2) rfl) rfl
def K_X0_heap_0 : rv_K := ([rv_r 26, rv_full, rv_full], [], [(26, 13), (27, 9999)], [], [], [])
def ct_X0_heap_0 : List (Nat × rv_K) := [(1, K_X7_isYard_0), (14, K_J9_min_7cf53_0), (25, K_X7_isYard_0)]
def n_X0_heap_0_0 : List rv_N := [
  (0, ([rv_r 26, rv_full, rv_full, rv_u, rv_u], [], []), [1], 34, [], []),
  (1, ([rv_r 26, rv_full, rv_full, rv_u, rv_u], [(1, 0, (-2147483648), 2147483647, [(.inl 1, 0)], [])], []), [2], 33, [], [0]),
  (2, ([rv_r 26, rv_full, rv_full, rv_u, rv_u], [(1, 0, 0, 1, [], [(.inl 1, 0, 19)])], []), [3, 10], 32, [], []),
  (3, ([rv_r 26, rv_i 0 19, rv_full, rv_u, rv_u], [], []), [4], 31, [], []),
  (4, ([rv_r 26, rv_i 0 19, rv_full, rv_u, rv_u], [rv_i 99999 99999], []), [5], 30, [], []),
  (5, ([rv_r 26, rv_i 0 19, rv_full, rv_u, rv_u], [rv_r 26, rv_i 99999 99999], []), [6], 29, [], []),
  (6, ([rv_r 26, rv_i 0 19, rv_full, rv_u, rv_u], [rv_r 27, rv_i 99999 99999], []), [7], 28, [], []),
  (7, ([rv_r 26, rv_i 0 19, rv_full, rv_u, rv_u], [(1, 0, 0, 19, [(.inl 1, 0)], []), rv_r 27, rv_i 99999 99999], []), [8], 27, [], []),
  (8, ([rv_r 26, rv_i 0 19, rv_full, rv_u, rv_u], [(1, 0, (-2147483648), 2147483647, [(.inr (27, 5001), 0)], []), rv_i 99999 99999], []), [9], 26, [], []),
  (9, ([rv_r 26, rv_i 0 19, rv_full, rv_u, rv_u], [rv_full], []), [12], 25, [], []),
  (10, ([rv_r 26, rv_full, rv_full, rv_u, rv_u], [], []), [11], 25, [], []),
  (11, ([rv_r 26, rv_full, rv_full, rv_u, rv_u], [rv_i 0 0], []), [13], 24, [], []),
  (11, ([rv_r 26, rv_i 0 19, rv_full, rv_u, rv_u], [rv_full], []), [13], 24, [], []),
  (12, ([rv_r 26, rv_full, rv_full, rv_full, rv_u], [], []), [14], 23, [], []),
  (13, ([rv_r 26, rv_full, rv_full, rv_full, rv_u], [(1, 0, (-2147483648), 2147483647, [(.inl 2, 0)], [])], []), [15], 22, [], []),
  (14, ([rv_r 26, rv_full, rv_full, rv_full, rv_u], [(1, 0, (-2147483648), 2147483647, [(.inl 3, 0)], []), (1, 0, (-2147483648), 2147483647, [(.inl 2, 0)], [])], []), [16], 21, [], [1])]
def n_X0_heap_0_1 : List rv_N := [
  (15, ([rv_r 26, rv_full, rv_full, rv_full, rv_u], [rv_full], []), [17], 20, [], []),
  (16, ([rv_r 26, rv_full, rv_full, rv_full, rv_full], [], []), [18], 19, [], []),
  (17, ([rv_r 26, rv_full, rv_full, rv_full, rv_full], [rv_r 26], []), [19], 18, [], []),
  (18, ([rv_r 26, rv_full, rv_full, rv_full, rv_full], [rv_r 26, rv_r 26], []), [20], 17, [], []),
  (19, ([rv_r 26, rv_full, rv_full, rv_full, rv_full], [(1, 0, (-2147483648), 2147483647, [(.inr (26, 13), 0)], []), rv_r 26], []), [21], 16, [], []),
  (20, ([rv_r 26, rv_full, rv_full, rv_full, rv_full], [(1, 0, (-2147483648), 2147483647, [(.inl 2, 0)], []), (1, 0, (-2147483648), 2147483647, [(.inr (26, 13), 0)], []), rv_r 26], []), [22], 15, [], []),
  (21, ([rv_r 26, rv_full, rv_full, rv_full, rv_full], [(1, 0, (-2147483648), 2147483647, [(.inl 4, 0)], []), (1, 0, (-2147483648), 2147483647, [(.inl 2, 0)], []), (1, 0, (-2147483648), 2147483647, [(.inr (26, 13), 0)], []), rv_r 26], []), [23], 14, [], []),
  (22, ([rv_r 26, rv_full, rv_full, rv_full, rv_full], [rv_full, (1, 0, (-2147483648), 2147483647, [(.inr (26, 13), 0)], []), rv_r 26], []), [24], 13, [], []),
  (23, ([rv_r 26, rv_full, rv_full, rv_full, rv_full], [rv_full, rv_r 26], []), [25], 12, [], []),
  (24, ([rv_r 26, rv_full, rv_full, rv_full, rv_full], [], []), [26], 11, [], []),
  (25, ([rv_r 26, rv_full, rv_full, rv_full, rv_full], [(1, 0, (-2147483648), 2147483647, [(.inl 1, 0)], [])], []), [27], 10, [], [2]),
  (26, ([rv_r 26, rv_full, rv_full, rv_full, rv_full], [(1, 0, 0, 1, [], [(.inl 1, 0, 19)])], []), [28, 36], 9, [], []),
  (27, ([rv_r 26, rv_i 0 19, rv_full, rv_full, rv_full], [], []), [29], 8, [], []),
  (28, ([rv_r 26, rv_i 0 19, rv_full, rv_full, rv_full], [rv_r 26], []), [30], 7, [], []),
  (29, ([rv_r 26, rv_i 0 19, rv_full, rv_full, rv_full], [rv_r 27], []), [31], 6, [], []),
  (30, ([rv_r 26, rv_i 0 19, rv_full, rv_full, rv_full], [(1, 0, 0, 19, [(.inl 1, 0)], []), rv_r 27], []), [32], 5, [], [])]
def n_X0_heap_0_2 : List rv_N := [
  (31, ([rv_r 26, rv_i 0 19, rv_full, rv_full, rv_full], [(1, 0, 0, 19, [(.inl 1, 0)], []), rv_r 27, (1, 0, 0, 19, [(.inl 1, 0)], []), rv_r 27], []), [33], 4, [], []),
  (32, ([rv_r 26, rv_i 0 19, rv_full, rv_full, rv_full], [(1, 0, (-2147483648), 2147483647, [(.inr (27, 5001), 0)], []), (1, 0, 0, 19, [(.inl 1, 0)], []), rv_r 27], []), [34], 3, [], []),
  (33, ([rv_r 26, rv_i 0 19, rv_full, rv_full, rv_full], [(1, 0, (-2147483648), 2147483647, [(.inl 4, 0)], []), (1, 0, (-2147483648), 2147483647, [(.inr (27, 5001), 0)], []), (1, 0, 0, 19, [(.inl 1, 0)], []), rv_r 27], []), [35], 2, [], []),
  (34, ([rv_r 26, rv_i 0 19, rv_full, rv_full, rv_full], [rv_full, (1, 0, 0, 19, [(.inl 1, 0)], []), rv_r 27], []), [36], 1, [], []),
  (35, ([rv_r 26, rv_full, rv_full, rv_full, rv_full], [], []), [], 0, [], [])]
def n_X0_heap_0 : List rv_N := n_X0_heap_0_0 ++ (n_X0_heap_0_1 ++ (n_X0_heap_0_2))
noncomputable def gn_X0_heap_0 : Nat → Option rv_N := rv_ap 16 (rv_at n_X0_heap_0_0) (rv_ap 16 (rv_at n_X0_heap_0_1) (rv_at n_X0_heap_0_2))
theorem hn_X0_heap_0 : ∀ i : Nat, n_X0_heap_0[i]? = gn_X0_heap_0 i := rv_ap_eq (l := n_X0_heap_0_0) (c := 16) (rv_ap_eq (l := n_X0_heap_0_1) (c := 16) (rv_at_eq n_X0_heap_0_2) rfl) rfl
set_option maxRecDepth 100000 in
theorem a_X0_heap_0 : rv_all (fm_tm, flX0, fm_wr, kcX0, klX0, K_X0_heap_0.2.2.1, [], 5) ct_X0_heap_0 cd_X0_heap n_X0_heap_0 K_X0_heap_0 [] 0 n_X0_heap_0 = true := rv_fast hn_X0_heap_0 hc_X0_heap (by decide +kernel)
theorem m_X0_heap_0 {l : Launch} {D : va_G} {ad : Nat → Nat} {cy : Nat → ClassId} {Z : State → Heap → Prop} {Gp : fm_V → Prop} (hAd : fm_Ad fm_tm ad) (hZ : fm_Zk (fm_A fm_tm ad) Z) (hGd : fm_Gd Gp) : rv_Met l D fm_cl fm_tm ad cy fm_nt Z Gp yX0_heap (.code yX0_heap prog_2_method_13_code 5 none :: fm_Ts) { frames := 1, cells := 0, slots := 0, locals := 100 } K_X0_heap_0 := rv_met hAd hZ (Or.inl (by decide +kernel)) evX0 dc_X0_heap a_X0_heap_0 ⟨rfl, rfl, rfl⟩ (by decide +kernel) (by decide +kernel) (by decide) (fm_gm hGd (by decide +kernel)) (rfl) (fun p e s m args below meth c Q X Y => List.forall_mem_cons.mpr ⟨rv_ctN X Y fm_Ts_good dc_X0_heap (pc := 1) (i := 1) (idx := 131) rfl (m_X7_isYard_0 hAd hZ hGd) wl_X0_131 wm_X7_isYard wy_X7_isYard (by decide) rfl, List.forall_mem_cons.mpr ⟨rv_ctS X Y fm_Ts_good dc_X0_heap (pc := 23) (i := 14) (idx := 168) rfl (m_J9_min_7cf53_0 hAd hZ hGd) wl_X0_168 wm_J9_min_7cf53 wy_J9_min_7cf53 (by decide) rfl, List.forall_mem_cons.mpr ⟨rv_ctN X Y fm_Ts_good dc_X0_heap (pc := 42) (i := 25) (idx := 131) rfl (m_X7_isYard_0 hAd hZ hGd) wl_X0_131 wm_X7_isYard wy_X7_isYard (by decide) rfl, fun _ h => absurd h List.not_mem_nil⟩⟩⟩) (fun _ _ _ _ _ _ _ _ _ _ _ _ _ _ _ _ h => absurd h List.not_mem_nil)
def cd_X0_spill : List (Nat × Instr × Nat) := [(0, .iconst 0, 1), (1, .istore_n 3, 1), (2, .iconst 0, 1), (3, .istore 4, 2), (5, .iload 4, 2), (7, .bipush 9, 2), (9, .if_icmp .ge 90, 3), (12, .aload_n 0, 1), (13, .aload_n 1, 1), (14, .iload 4, 2), (16, .iload_n 2, 1), (17, .invokevirtual 124, 3), (20, .istore 5, 2), (22, .aload_n 0, 1), (23, .getfield 33, 3), (26, .getfield 128, 3), (29, .iload 4, 2), (31, .iaload, 1), (32, .istore 6, 2), (34, .iload 5, 2), (36, .ifCond .le 57, 3), (39, .iload 6, 2), (41, .invokestatic 131, 3), (44, .ifCond .eq 49, 3), (47, .aload_n 0, 1), (48, .getfield 33, 3), (51, .getfield 135, 3), (54, .iload 4, 2), (56, .dup2, 1), (57, .iaload, 1), (58, .iload 5, 2), (60, .isub, 1), (61, .iastore, 1), (62, .aload_n 0, 1), (63, .getfield 40, 3), (66, .iload 4, 2), (68, .bipush 20, 2), (70, .imul, 1), (71, .iload 6, 2), (73, .iadd, 1), (74, .dup2, 1), (75, .iaload, 1), (76, .iload 5, 2), (78, .iadd, 1), (79, .iastore, 1), (80, .iload_n 3, 1), (81, .iload 5, 2), (83, .iadd, 1), (84, .istore_n 3, 1), (85, .aload_n 0, 1), (86, .iload 6, 2), (88, .iload 5, 2), (90, .invokevirtual 138, 3), (93, .iinc 4 1, 3), (96, .goto (-91), 3), (99, .iload_n 3, 1), (100, .ireturn, 1)]
theorem dc_X0_spill : ∀ q ∈ cd_X0_spill, decode prog_2_method_10_code q.1 = .ok (q.2.1, q.2.2) := by decide +kernel
def ch_X0_spill_0 : List (Nat × Instr × Nat) := [(0, .iconst 0, 1), (1, .istore_n 3, 1), (2, .iconst 0, 1), (3, .istore 4, 2), (5, .iload 4, 2), (7, .bipush 9, 2), (9, .if_icmp .ge 90, 3), (12, .aload_n 0, 1), (13, .aload_n 1, 1), (14, .iload 4, 2), (16, .iload_n 2, 1), (17, .invokevirtual 124, 3), (20, .istore 5, 2), (22, .aload_n 0, 1), (23, .getfield 33, 3), (26, .getfield 128, 3)]
def ch_X0_spill_1 : List (Nat × Instr × Nat) := [(29, .iload 4, 2), (31, .iaload, 1), (32, .istore 6, 2), (34, .iload 5, 2), (36, .ifCond .le 57, 3), (39, .iload 6, 2), (41, .invokestatic 131, 3), (44, .ifCond .eq 49, 3), (47, .aload_n 0, 1), (48, .getfield 33, 3), (51, .getfield 135, 3), (54, .iload 4, 2), (56, .dup2, 1), (57, .iaload, 1), (58, .iload 5, 2), (60, .isub, 1)]
def ch_X0_spill_2 : List (Nat × Instr × Nat) := [(61, .iastore, 1), (62, .aload_n 0, 1), (63, .getfield 40, 3), (66, .iload 4, 2), (68, .bipush 20, 2), (70, .imul, 1), (71, .iload 6, 2), (73, .iadd, 1), (74, .dup2, 1), (75, .iaload, 1), (76, .iload 5, 2), (78, .iadd, 1), (79, .iastore, 1), (80, .iload_n 3, 1), (81, .iload 5, 2), (83, .iadd, 1)]
def ch_X0_spill_3 : List (Nat × Instr × Nat) := [(84, .istore_n 3, 1), (85, .aload_n 0, 1), (86, .iload 6, 2), (88, .iload 5, 2), (90, .invokevirtual 138, 3), (93, .iinc 4 1, 3), (96, .goto (-91), 3), (99, .iload_n 3, 1), (100, .ireturn, 1)]
set_option maxRecDepth 100000 in
theorem he_X0_spill : cd_X0_spill = ch_X0_spill_0 ++ (ch_X0_spill_1 ++ (ch_X0_spill_2 ++ (ch_X0_spill_3))) := rfl
noncomputable def gc_X0_spill : Nat → Option (Nat × Instr × Nat) := rv_ap 16 (rv_at ch_X0_spill_0) (rv_ap 16 (rv_at ch_X0_spill_1) (rv_ap 16 (rv_at ch_X0_spill_2) (rv_at ch_X0_spill_3)))
theorem hc_X0_spill : ∀ i : Nat, cd_X0_spill[i]? = gc_X0_spill i := by
  rw [he_X0_spill]
  exact rv_ap_eq (l := ch_X0_spill_0) (c := 16) (rv_ap_eq (l := ch_X0_spill_1) (c := 16) (rv_ap_eq (l := ch_X0_spill_2) (c := 16) (rv_at_eq ch_X0_spill_3) rfl) rfl) rfl
def K_X0_spill_0 : rv_K := ([rv_r 26, rv_r 7, rv_full], [], [(14, 0), (14, 1), (14, 2), (14, 3), (14, 4), (14, 5), (14, 6), (14, 7), (14, 8), (14, 9), (14, 10), (14, 9999), (15, 9999), (26, 13), (27, 9999), (34, 9999), (38, 9999)], [(0, (-2147483648), 2147483647)], [], [])
def ct_X0_spill_0 : List (Nat × rv_K) := [(11, K_X0_loss_0), (22, K_X7_isYard_0), (52, K_X0_heap_0)]
def n_X0_spill_0_0 : List rv_N := [
  (0, ([rv_r 26, rv_r 7, rv_full, rv_u, rv_u, rv_u, rv_u], [], []), [1], 7244, [], []),
  (1, ([rv_r 26, rv_r 7, rv_full, rv_u, rv_u, rv_u, rv_u], [rv_i 0 0], []), [2], 7243, [], []),
  (2, ([rv_r 26, rv_r 7, rv_full, rv_i 0 0, rv_u, rv_u, rv_u], [], []), [3], 7242, [], []),
  (3, ([rv_r 26, rv_r 7, rv_full, rv_i 0 0, rv_u, rv_u, rv_u], [rv_i 0 0], []), [4], 7241, [], []),
  (4, ([rv_r 26, rv_r 7, rv_full, rv_full, rv_i 0 9, rv_u, rv_u], [], []), [5], 7240, [(4, (-804))], []),
  (5, ([rv_r 26, rv_r 7, rv_full, rv_full, rv_i 0 9, rv_u, rv_u], [(1, 0, 0, 9, [(.inl 4, 0)], [])], []), [6], 7239, [(4, (-804))], []),
  (6, ([rv_r 26, rv_r 7, rv_full, rv_full, rv_i 0 9, rv_u, rv_u], [rv_i 9 9, (1, 0, 0, 9, [(.inl 4, 0)], [])], []), [7, 55], 7238, [(4, (-804))], []),
  (7, ([rv_r 26, rv_r 7, rv_full, rv_full, rv_i 0 8, rv_u, rv_u], [], []), [8], 6484, [(4, (-804))], []),
  (8, ([rv_r 26, rv_r 7, rv_full, rv_full, rv_i 0 8, rv_u, rv_u], [rv_r 26], []), [9], 6483, [(4, (-804))], []),
  (9, ([rv_r 26, rv_r 7, rv_full, rv_full, rv_i 0 8, rv_u, rv_u], [rv_r 7, rv_r 26], []), [10], 6482, [(4, (-804))], []),
  (10, ([rv_r 26, rv_r 7, rv_full, rv_full, rv_i 0 8, rv_u, rv_u], [(1, 0, 0, 8, [(.inl 4, 0)], []), rv_r 7, rv_r 26], []), [11], 6481, [(4, (-804))], []),
  (11, ([rv_r 26, rv_r 7, rv_full, rv_full, rv_i 0 8, rv_u, rv_u], [(1, 0, (-2147483648), 2147483647, [(.inl 2, 0)], []), (1, 0, 0, 8, [(.inl 4, 0)], []), rv_r 7, rv_r 26], []), [12], 6480, [(4, (-804))], [0]),
  (12, ([rv_r 26, rv_r 7, rv_full, rv_full, rv_i 0 8, rv_u, rv_u], [(1, 0, (-2147483648), 2147483647, [], [(.inl 4, 0, 8), (.inr (37, 5004), (-2147483648), 19)])], []), [13], 6479, [(4, (-804))], []),
  (13, ([rv_r 26, rv_r 7, rv_full, rv_full, rv_i 0 8, rv_full, rv_u], [], []), [14], 6478, [(4, (-804))], []),
  (14, ([rv_r 26, rv_r 7, rv_full, rv_full, rv_i 0 8, rv_full, rv_u], [rv_r 26], []), [15], 6477, [(4, (-804))], []),
  (15, ([rv_r 26, rv_r 7, rv_full, rv_full, rv_i 0 8, rv_full, rv_u], [rv_r 36], []), [16], 6476, [(4, (-804))], [])]
def n_X0_spill_0_1 : List rv_N := [
  (16, ([rv_r 26, rv_r 7, rv_full, rv_full, rv_i 0 8, rv_full, rv_u], [rv_r 37], []), [17], 6475, [(4, (-804))], []),
  (17, ([rv_r 26, rv_r 7, rv_full, rv_full, rv_i 0 8, rv_full, rv_u], [(1, 0, 0, 8, [(.inl 4, 0)], []), rv_r 37], []), [18], 6474, [(4, (-804))], []),
  (18, ([rv_r 26, rv_r 7, rv_full, rv_full, rv_i 0 8, rv_full, rv_u], [(1, 0, (-2147483648), 2147483647, [(.inr (37, 5004), 0)], [])], []), [19], 6473, [(4, (-804))], []),
  (19, ([rv_r 26, rv_r 7, rv_full, rv_full, rv_i 0 8, rv_full, rv_full], [], []), [20], 6472, [(4, (-804))], []),
  (20, ([rv_r 26, rv_r 7, rv_full, rv_full, rv_i 0 8, rv_full, rv_full], [(1, 0, (-2147483648), 2147483647, [(.inl 5, 0)], [])], []), [21, 53], 6471, [(4, (-804))], []),
  (21, ([rv_r 26, rv_r 7, rv_full, rv_full, rv_i 0 8, rv_i 1 2147483647, rv_full], [], []), [22], 6470, [(4, (-804))], []),
  (22, ([rv_r 26, rv_r 7, rv_full, rv_full, rv_i 0 8, rv_i 1 2147483647, rv_full], [(1, 0, (-2147483648), 2147483647, [(.inl 6, 0)], [])], []), [23], 6469, [(4, (-804))], [1]),
  (23, ([rv_r 26, rv_r 7, rv_full, rv_full, rv_i 0 8, rv_i 1 2147483647, rv_full], [(1, 0, 0, 1, [], [(.inl 6, 0, 19)])], []), [24, 53], 6468, [(4, (-804))], []),
  (24, ([rv_r 26, rv_r 7, rv_full, rv_full, rv_i 0 8, rv_i 1 2147483647, rv_i 0 19], [], []), [25], 6467, [(4, (-804))], []),
  (25, ([rv_r 26, rv_r 7, rv_full, rv_full, rv_i 0 8, rv_i 1 2147483647, rv_i 0 19], [rv_r 26], []), [26], 6466, [(4, (-804))], []),
  (26, ([rv_r 26, rv_r 7, rv_full, rv_full, rv_i 0 8, rv_i 1 2147483647, rv_i 0 19], [rv_r 36], []), [27], 6465, [(4, (-804))], []),
  (27, ([rv_r 26, rv_r 7, rv_full, rv_full, rv_i 0 8, rv_i 1 2147483647, rv_i 0 19], [rv_r 38], []), [28], 6464, [(4, (-804))], []),
  (28, ([rv_r 26, rv_r 7, rv_full, rv_full, rv_i 0 8, rv_i 1 2147483647, rv_i 0 19], [(1, 0, 0, 8, [(.inl 4, 0)], []), rv_r 38], []), [29], 6463, [(4, (-804))], []),
  (29, ([rv_r 26, rv_r 7, rv_full, rv_full, rv_i 0 8, rv_i 1 2147483647, rv_i 0 19], [(1, 0, 0, 8, [(.inl 4, 0)], []), rv_r 38, (1, 0, 0, 8, [(.inl 4, 0)], []), rv_r 38], []), [30], 6462, [(4, (-804))], []),
  (30, ([rv_r 26, rv_r 7, rv_full, rv_full, rv_i 0 8, rv_i 1 2147483647, rv_i 0 19], [(1, 0, (-2147483648), 2147483647, [(.inr (38, 5004), 0)], []), (1, 0, 0, 8, [(.inl 4, 0)], []), rv_r 38], []), [31], 6461, [(4, (-804))], []),
  (31, ([rv_r 26, rv_r 7, rv_full, rv_full, rv_i 0 8, rv_i 1 2147483647, rv_i 0 19], [(1, 0, 1, 2147483647, [(.inl 5, 0)], []), (1, 0, (-2147483648), 2147483647, [(.inr (38, 5004), 0)], []), (1, 0, 0, 8, [(.inl 4, 0)], []), rv_r 38], []), [32], 6460, [(4, (-804))], [])]
def n_X0_spill_0_2 : List rv_N := [
  (32, ([rv_r 26, rv_r 7, rv_full, rv_full, rv_i 0 8, rv_i 1 2147483647, rv_i 0 19], [rv_full, (1, 0, 0, 8, [(.inl 4, 0)], []), rv_r 38], []), [33], 6459, [(4, (-804))], []),
  (33, ([rv_r 26, rv_r 7, rv_full, rv_full, rv_i 0 8, rv_i 1 2147483647, rv_i 0 19], [], []), [34], 6458, [(4, (-804))], []),
  (34, ([rv_r 26, rv_r 7, rv_full, rv_full, rv_i 0 8, rv_i 1 2147483647, rv_i 0 19], [rv_r 26], []), [35], 6457, [(4, (-804))], []),
  (35, ([rv_r 26, rv_r 7, rv_full, rv_full, rv_i 0 8, rv_i 1 2147483647, rv_i 0 19], [rv_r 34], []), [36], 6456, [(4, (-804))], []),
  (36, ([rv_r 26, rv_r 7, rv_full, rv_full, rv_i 0 8, rv_i 1 2147483647, rv_i 0 19], [(1, 0, 0, 8, [(.inl 4, 0)], []), rv_r 34], []), [37], 6455, [(4, (-804))], []),
  (37, ([rv_r 26, rv_r 7, rv_full, rv_full, rv_i 0 8, rv_i 1 2147483647, rv_i 0 19], [rv_i 20 20, (1, 0, 0, 8, [(.inl 4, 0)], []), rv_r 34], []), [38], 6454, [(4, (-804))], []),
  (38, ([rv_r 26, rv_r 7, rv_full, rv_full, rv_i 0 8, rv_i 1 2147483647, rv_i 0 19], [rv_i 0 160, rv_r 34], []), [39], 6453, [(4, (-804))], []),
  (39, ([rv_r 26, rv_r 7, rv_full, rv_full, rv_i 0 8, rv_i 1 2147483647, rv_i 0 19], [(1, 0, 0, 19, [(.inl 6, 0)], []), rv_i 0 160, rv_r 34], []), [40], 6452, [(4, (-804))], []),
  (40, ([rv_r 26, rv_r 7, rv_full, rv_full, rv_i 0 8, rv_i 1 2147483647, rv_i 0 19], [rv_i 0 179, rv_r 34], []), [41], 6451, [(4, (-804))], []),
  (41, ([rv_r 26, rv_r 7, rv_full, rv_full, rv_i 0 8, rv_i 1 2147483647, rv_i 0 19], [rv_i 0 179, rv_r 34, rv_i 0 179, rv_r 34], []), [42], 6450, [(4, (-804))], []),
  (42, ([rv_r 26, rv_r 7, rv_full, rv_full, rv_i 0 8, rv_i 1 2147483647, rv_i 0 19], [rv_full, rv_i 0 179, rv_r 34], []), [43], 6449, [(4, (-804))], []),
  (43, ([rv_r 26, rv_r 7, rv_full, rv_full, rv_i 0 8, rv_i 1 2147483647, rv_i 0 19], [(1, 0, 1, 2147483647, [(.inl 5, 0)], []), rv_full, rv_i 0 179, rv_r 34], []), [44], 6448, [(4, (-804))], []),
  (44, ([rv_r 26, rv_r 7, rv_full, rv_full, rv_i 0 8, rv_i 1 2147483647, rv_i 0 19], [rv_full, rv_i 0 179, rv_r 34], []), [45], 6447, [(4, (-804))], []),
  (45, ([rv_r 26, rv_r 7, rv_full, rv_full, rv_i 0 8, rv_i 1 2147483647, rv_i 0 19], [], []), [46], 6446, [(4, (-804))], []),
  (46, ([rv_r 26, rv_r 7, rv_full, rv_full, rv_i 0 8, rv_i 1 2147483647, rv_i 0 19], [(1, 0, (-2147483648), 2147483647, [(.inl 3, 0)], [])], []), [47], 6445, [(4, (-804))], []),
  (47, ([rv_r 26, rv_r 7, rv_full, rv_full, rv_i 0 8, rv_i 1 2147483647, rv_i 0 19], [(1, 0, 1, 2147483647, [(.inl 5, 0)], []), (1, 0, (-2147483648), 2147483647, [(.inl 3, 0)], [])], []), [48], 6444, [(4, (-804))], [])]
def n_X0_spill_0_3 : List rv_N := [
  (48, ([rv_r 26, rv_r 7, rv_full, rv_full, rv_i 0 8, rv_i 1 2147483647, rv_i 0 19], [rv_full], []), [49], 6443, [(4, (-804))], []),
  (49, ([rv_r 26, rv_r 7, rv_full, rv_full, rv_i 0 8, rv_i 1 2147483647, rv_i 0 19], [], []), [50], 6442, [(4, (-804))], []),
  (50, ([rv_r 26, rv_r 7, rv_full, rv_full, rv_i 0 8, rv_i 1 2147483647, rv_i 0 19], [rv_r 26], []), [51], 6441, [(4, (-804))], []),
  (51, ([rv_r 26, rv_r 7, rv_full, rv_full, rv_i 0 8, rv_i 1 2147483647, rv_i 0 19], [(1, 0, 0, 19, [(.inl 6, 0)], []), rv_r 26], []), [52], 6440, [(4, (-804))], []),
  (52, ([rv_r 26, rv_r 7, rv_full, rv_full, rv_i 0 8, rv_i 1 2147483647, rv_i 0 19], [(1, 0, 1, 2147483647, [(.inl 5, 0)], []), (1, 0, 0, 19, [(.inl 6, 0)], []), rv_r 26], []), [53], 6439, [(4, (-804))], [2]),
  (53, ([rv_r 26, rv_r 7, rv_full, rv_full, rv_i 0 8, rv_full, rv_full], [], []), [54], 6438, [(4, (-804))], []),
  (54, ([rv_r 26, rv_r 7, rv_full, rv_full, rv_i 1 9, rv_full, rv_full], [], []), [4], 7241, [(4, (-804))], []),
  (55, ([rv_r 26, rv_r 7, rv_full, rv_full, rv_i 9 9, rv_u, rv_u], [], []), [56], 1, [], []),
  (56, ([rv_r 26, rv_r 7, rv_full, rv_full, rv_i 9 9, rv_u, rv_u], [(1, 0, (-2147483648), 2147483647, [(.inl 3, 0)], [])], []), [], 0, [], [])]
def n_X0_spill_0 : List rv_N := n_X0_spill_0_0 ++ (n_X0_spill_0_1 ++ (n_X0_spill_0_2 ++ (n_X0_spill_0_3)))
noncomputable def gn_X0_spill_0 : Nat → Option rv_N := rv_ap 16 (rv_at n_X0_spill_0_0) (rv_ap 16 (rv_at n_X0_spill_0_1) (rv_ap 16 (rv_at n_X0_spill_0_2) (rv_at n_X0_spill_0_3)))
theorem hn_X0_spill_0 : ∀ i : Nat, n_X0_spill_0[i]? = gn_X0_spill_0 i := rv_ap_eq (l := n_X0_spill_0_0) (c := 16) (rv_ap_eq (l := n_X0_spill_0_1) (c := 16) (rv_ap_eq (l := n_X0_spill_0_2) (c := 16) (rv_at_eq n_X0_spill_0_3) rfl) rfl) rfl
set_option maxRecDepth 100000 in
theorem a_X0_spill_0 : rv_all (fm_tm, flX0, fm_wr, kcX0, klX0, K_X0_spill_0.2.2.1, [], 7) ct_X0_spill_0 cd_X0_spill n_X0_spill_0 K_X0_spill_0 [] 0 n_X0_spill_0 = true := rv_fast hn_X0_spill_0 hc_X0_spill (by decide +kernel)
theorem m_X0_spill_0 {l : Launch} {D : va_G} {ad : Nat → Nat} {cy : Nat → ClassId} {Z : State → Heap → Prop} {Gp : fm_V → Prop} (hAd : fm_Ad fm_tm ad) (hZ : fm_Zk (fm_A fm_tm ad) Z) (hGd : fm_Gd Gp) : rv_Met l D fm_cl fm_tm ad cy fm_nt Z Gp yX0_spill (.code yX0_spill prog_2_method_10_code 7 (some .int) :: fm_Ts) { frames := 3, cells := 0, slots := 0, locals := 300 } K_X0_spill_0 := rv_met hAd hZ (Or.inl (by decide +kernel)) evX0 dc_X0_spill a_X0_spill_0 ⟨rfl, rfl, rfl⟩ (by decide +kernel) (by decide +kernel) (by decide) (fm_gm hGd (by decide +kernel)) (Or.inl rfl) (fun p e s m args below meth c Q X Y => List.forall_mem_cons.mpr ⟨rv_ctV X Y fm_Ts_good dc_X0_spill (pc := 17) (i := 11) (idx := 124) rfl (m_X0_loss_0 hAd hZ hGd) wl_X0_124 wm_X0_loss wy_X0_loss (by decide) ⟨rfl, rfl, rfl⟩ ⟨rfl, rfl⟩, List.forall_mem_cons.mpr ⟨rv_ctN X Y fm_Ts_good dc_X0_spill (pc := 41) (i := 22) (idx := 131) rfl (m_X7_isYard_0 hAd hZ hGd) wl_X0_131 wm_X7_isYard wy_X7_isYard (by decide) rfl, List.forall_mem_cons.mpr ⟨rv_ctV X Y fm_Ts_good dc_X0_spill (pc := 90) (i := 52) (idx := 138) rfl (m_X0_heap_0 hAd hZ hGd) wl_X0_138 wm_X0_heap wy_X0_heap (by decide) ⟨rfl, rfl, rfl⟩ ⟨rfl, rfl⟩, fun _ h => absurd h List.not_mem_nil⟩⟩⟩) (fun _ _ _ _ _ _ _ _ _ _ _ _ _ _ _ _ h => absurd h List.not_mem_nil)
def cd_X0_climb : List (Nat × Instr × Nat) := [(0, .iconst 0, 1), (1, .istore_n 1, 1), (2, .iload_n 1, 1), (3, .bipush 9, 2), (5, .if_icmp .ge 94, 3), (8, .aload_n 0, 1), (9, .getfield 33, 3), (12, .iload_n 1, 1), (13, .invokevirtual 145, 3), (16, .ifCond .eq 77, 3), (19, .aload_n 0, 1), (20, .getfield 43, 3), (23, .bipush 10, 2), (25, .irem, 1), (26, .aload_n 0, 1), (27, .getfield 33, 3), (30, .getfield 155, 3), (33, .iload_n 1, 1), (34, .iaload, 1), (35, .if_icmp .lt 58, 3), (38, .aload_n 0, 1), (39, .getfield 33, 3), (42, .getfield 128, 3), (45, .iload_n 1, 1), (46, .dup2, 1), (47, .iaload, 1), (48, .iconst 1, 1), (49, .iadd, 1), (50, .iastore, 1), (51, .aload_n 0, 1), (52, .getfield 33, 3), (55, .getfield 128, 3), (58, .iload_n 1, 1), (59, .iaload, 1), (60, .bipush 20, 2), (62, .if_icmp .ne 31, 3), (65, .aload_n 0, 1), (66, .dup, 1), (67, .getfield 50, 3), (70, .aload_n 0, 1), (71, .getfield 33, 3), (74, .getfield 135, 3), (77, .iload_n 1, 1), (78, .iaload, 1), (79, .iadd, 1), (80, .putfield 50, 3), (83, .aload_n 0, 1), (84, .getfield 33, 3), (87, .getfield 135, 3), (90, .iload_n 1, 1), (91, .iconst 0, 1), (92, .iastore, 1), (93, .iinc 1 1, 3), (96, .goto (-94), 3), (99, .return_, 1)]
theorem dc_X0_climb : ∀ q ∈ cd_X0_climb, decode prog_2_method_14_code q.1 = .ok (q.2.1, q.2.2) := by decide +kernel
def ch_X0_climb_0 : List (Nat × Instr × Nat) := [(0, .iconst 0, 1), (1, .istore_n 1, 1), (2, .iload_n 1, 1), (3, .bipush 9, 2), (5, .if_icmp .ge 94, 3), (8, .aload_n 0, 1), (9, .getfield 33, 3), (12, .iload_n 1, 1), (13, .invokevirtual 145, 3), (16, .ifCond .eq 77, 3), (19, .aload_n 0, 1), (20, .getfield 43, 3), (23, .bipush 10, 2), (25, .irem, 1), (26, .aload_n 0, 1), (27, .getfield 33, 3)]
def ch_X0_climb_1 : List (Nat × Instr × Nat) := [(30, .getfield 155, 3), (33, .iload_n 1, 1), (34, .iaload, 1), (35, .if_icmp .lt 58, 3), (38, .aload_n 0, 1), (39, .getfield 33, 3), (42, .getfield 128, 3), (45, .iload_n 1, 1), (46, .dup2, 1), (47, .iaload, 1), (48, .iconst 1, 1), (49, .iadd, 1), (50, .iastore, 1), (51, .aload_n 0, 1), (52, .getfield 33, 3), (55, .getfield 128, 3)]
def ch_X0_climb_2 : List (Nat × Instr × Nat) := [(58, .iload_n 1, 1), (59, .iaload, 1), (60, .bipush 20, 2), (62, .if_icmp .ne 31, 3), (65, .aload_n 0, 1), (66, .dup, 1), (67, .getfield 50, 3), (70, .aload_n 0, 1), (71, .getfield 33, 3), (74, .getfield 135, 3), (77, .iload_n 1, 1), (78, .iaload, 1), (79, .iadd, 1), (80, .putfield 50, 3), (83, .aload_n 0, 1), (84, .getfield 33, 3)]
def ch_X0_climb_3 : List (Nat × Instr × Nat) := [(87, .getfield 135, 3), (90, .iload_n 1, 1), (91, .iconst 0, 1), (92, .iastore, 1), (93, .iinc 1 1, 3), (96, .goto (-94), 3), (99, .return_, 1)]
set_option maxRecDepth 100000 in
theorem he_X0_climb : cd_X0_climb = ch_X0_climb_0 ++ (ch_X0_climb_1 ++ (ch_X0_climb_2 ++ (ch_X0_climb_3))) := rfl
noncomputable def gc_X0_climb : Nat → Option (Nat × Instr × Nat) := rv_ap 16 (rv_at ch_X0_climb_0) (rv_ap 16 (rv_at ch_X0_climb_1) (rv_ap 16 (rv_at ch_X0_climb_2) (rv_at ch_X0_climb_3)))
theorem hc_X0_climb : ∀ i : Nat, cd_X0_climb[i]? = gc_X0_climb i := by
  rw [he_X0_climb]
  exact rv_ap_eq (l := ch_X0_climb_0) (c := 16) (rv_ap_eq (l := ch_X0_climb_1) (c := 16) (rv_ap_eq (l := ch_X0_climb_2) (c := 16) (rv_at_eq ch_X0_climb_3) rfl) rfl) rfl
def K_X0_climb_0 : rv_K := ([rv_r 26], [], [(26, 11), (37, 9999), (38, 9999)], [], [], [])
def ct_X0_climb_0 : List (Nat × rv_K) := [(8, K_X2_climbs_0)]
def n_X0_climb_0_0 : List rv_N := [
  (0, ([rv_r 26, rv_u], [], []), [1], 7025, [], []),
  (1, ([rv_r 26, rv_u], [rv_i 0 0], []), [2], 7024, [], []),
  (2, ([rv_r 26, rv_i 0 9], [], []), [3], 7023, [(1, (-780))], []),
  (3, ([rv_r 26, rv_i 0 9], [(1, 0, 0, 9, [(.inl 1, 0)], [])], []), [4], 7022, [(1, (-780))], []),
  (4, ([rv_r 26, rv_i 0 9], [rv_i 9 9, (1, 0, 0, 9, [(.inl 1, 0)], [])], []), [5, 54], 7021, [(1, (-780))], []),
  (5, ([rv_r 26, rv_i 0 8], [], []), [6], 6292, [(1, (-780))], []),
  (6, ([rv_r 26, rv_i 0 8], [rv_r 26], []), [7], 6291, [(1, (-780))], []),
  (7, ([rv_r 26, rv_i 0 8], [rv_r 36], []), [8], 6290, [(1, (-780))], []),
  (8, ([rv_r 26, rv_i 0 8], [(1, 0, 0, 8, [(.inl 1, 0)], []), rv_r 36], []), [9], 6289, [(1, (-780))], [0]),
  (9, ([rv_r 26, rv_i 0 8], [(1, 0, 0, 1, [], [(.inl 1, 0, 8), (.inr (37, 5001), (-2147483648), 19)])], []), [10, 52], 6288, [(1, (-780))], []),
  (10, ([rv_r 26, rv_i 0 8], [], [((37, 5001), (-2147483648), 19, [])]), [11], 6287, [(1, (-780))], []),
  (11, ([rv_r 26, rv_i 0 8], [rv_r 26], [((37, 5001), (-2147483648), 19, [])]), [12], 6286, [(1, (-780))], []),
  (12, ([rv_r 26, rv_i 0 8], [(1, 0, (-2147483648), 2147483647, [(.inr (26, 9), 0)], [])], [((37, 5001), (-2147483648), 19, [])]), [13], 6285, [(1, (-780))], []),
  (13, ([rv_r 26, rv_i 0 8], [rv_i 10 10, (1, 0, (-2147483648), 2147483647, [(.inr (26, 9), 0)], [])], [((37, 5001), (-2147483648), 19, [])]), [14], 6284, [(1, (-780))], []),
  (14, ([rv_r 26, rv_i 0 8], [rv_full], [((37, 5001), (-2147483648), 19, [])]), [15], 6283, [(1, (-780))], []),
  (15, ([rv_r 26, rv_i 0 8], [rv_r 26, rv_full], [((37, 5001), (-2147483648), 19, [])]), [16], 6282, [(1, (-780))], [])]
def n_X0_climb_0_1 : List rv_N := [
  (16, ([rv_r 26, rv_i 0 8], [rv_r 36, rv_full], [((37, 5001), (-2147483648), 19, [])]), [17], 6281, [(1, (-780))], []),
  (17, ([rv_r 26, rv_i 0 8], [rv_r 39, rv_full], [((37, 5001), (-2147483648), 19, [])]), [18], 6280, [(1, (-780))], []),
  (18, ([rv_r 26, rv_i 0 8], [(1, 0, 0, 8, [(.inl 1, 0)], []), rv_r 39, rv_full], [((37, 5001), (-2147483648), 19, [])]), [19], 6279, [(1, (-780))], []),
  (19, ([rv_r 26, rv_i 0 8], [(1, 0, (-2147483648), 2147483647, [(.inr (39, 5001), 0)], []), rv_full], [((37, 5001), (-2147483648), 19, [])]), [20, 52], 6278, [(1, (-780))], []),
  (20, ([rv_r 26, rv_i 0 8], [], [((37, 5001), (-2147483648), 19, [])]), [21], 6277, [(1, (-780))], []),
  (21, ([rv_r 26, rv_i 0 8], [rv_r 26], [((37, 5001), (-2147483648), 19, [])]), [22], 6276, [(1, (-780))], []),
  (22, ([rv_r 26, rv_i 0 8], [rv_r 36], [((37, 5001), (-2147483648), 19, [])]), [23], 6275, [(1, (-780))], []),
  (23, ([rv_r 26, rv_i 0 8], [rv_r 37], [((37, 5001), (-2147483648), 19, [])]), [24], 6274, [(1, (-780))], []),
  (24, ([rv_r 26, rv_i 0 8], [(1, 0, 0, 8, [(.inl 1, 0)], []), rv_r 37], [((37, 5001), (-2147483648), 19, [])]), [25], 6273, [(1, (-780))], []),
  (25, ([rv_r 26, rv_i 0 8], [(1, 0, 0, 8, [(.inl 1, 0)], []), rv_r 37, (1, 0, 0, 8, [(.inl 1, 0)], []), rv_r 37], [((37, 5001), (-2147483648), 19, [])]), [26], 6272, [(1, (-780))], []),
  (26, ([rv_r 26, rv_i 0 8], [(1, 0, (-2147483648), 19, [(.inr (37, 5001), 0)], []), (1, 0, 0, 8, [(.inl 1, 0)], []), rv_r 37], [((37, 5001), (-2147483648), 19, [])]), [27], 6271, [(1, (-780))], []),
  (27, ([rv_r 26, rv_i 0 8], [rv_i 1 1, (1, 0, (-2147483648), 19, [(.inr (37, 5001), 0)], []), (1, 0, 0, 8, [(.inl 1, 0)], []), rv_r 37], [((37, 5001), (-2147483648), 19, [])]), [28], 6270, [(1, (-780))], []),
  (28, ([rv_r 26, rv_i 0 8], [(1, 0, (-2147483647), 20, [(.inr (37, 5001), 1)], []), (1, 0, 0, 8, [(.inl 1, 0)], []), rv_r 37], [((37, 5001), (-2147483648), 19, [])]), [29], 6269, [(1, (-780))], []),
  (29, ([rv_r 26, rv_i 0 8], [], []), [30], 6268, [(1, (-780))], []),
  (30, ([rv_r 26, rv_i 0 8], [rv_r 26], []), [31], 6267, [(1, (-780))], []),
  (31, ([rv_r 26, rv_i 0 8], [rv_r 36], []), [32], 6266, [(1, (-780))], [])]
def n_X0_climb_0_2 : List rv_N := [
  (32, ([rv_r 26, rv_i 0 8], [rv_r 37], []), [33], 6265, [(1, (-780))], []),
  (33, ([rv_r 26, rv_i 0 8], [(1, 0, 0, 8, [(.inl 1, 0)], []), rv_r 37], []), [34], 6264, [(1, (-780))], []),
  (34, ([rv_r 26, rv_i 0 8], [(1, 0, (-2147483648), 2147483647, [(.inr (37, 5001), 0)], [])], []), [35], 6263, [(1, (-780))], []),
  (35, ([rv_r 26, rv_i 0 8], [rv_i 20 20, (1, 0, (-2147483648), 2147483647, [(.inr (37, 5001), 0)], [])], []), [36, 52], 6262, [(1, (-780))], []),
  (36, ([rv_r 26, rv_i 0 8], [], [((37, 5001), 20, 20, [])]), [37], 6261, [(1, (-780))], []),
  (37, ([rv_r 26, rv_i 0 8], [rv_r 26], [((37, 5001), 20, 20, [])]), [38], 6260, [(1, (-780))], []),
  (38, ([rv_r 26, rv_i 0 8], [rv_r 26, rv_r 26], [((37, 5001), 20, 20, [])]), [39], 6259, [(1, (-780))], []),
  (39, ([rv_r 26, rv_i 0 8], [(1, 0, (-2147483648), 2147483647, [(.inr (26, 11), 0)], []), rv_r 26], [((37, 5001), 20, 20, [])]), [40], 6258, [(1, (-780))], []),
  (40, ([rv_r 26, rv_i 0 8], [rv_r 26, (1, 0, (-2147483648), 2147483647, [(.inr (26, 11), 0)], []), rv_r 26], [((37, 5001), 20, 20, [])]), [41], 6257, [(1, (-780))], []),
  (41, ([rv_r 26, rv_i 0 8], [rv_r 36, (1, 0, (-2147483648), 2147483647, [(.inr (26, 11), 0)], []), rv_r 26], [((37, 5001), 20, 20, [])]), [42], 6256, [(1, (-780))], []),
  (42, ([rv_r 26, rv_i 0 8], [rv_r 38, (1, 0, (-2147483648), 2147483647, [(.inr (26, 11), 0)], []), rv_r 26], [((37, 5001), 20, 20, [])]), [43], 6255, [(1, (-780))], []),
  (43, ([rv_r 26, rv_i 0 8], [(1, 0, 0, 8, [(.inl 1, 0)], []), rv_r 38, (1, 0, (-2147483648), 2147483647, [(.inr (26, 11), 0)], []), rv_r 26], [((37, 5001), 20, 20, [])]), [44], 6254, [(1, (-780))], []),
  (44, ([rv_r 26, rv_i 0 8], [(1, 0, (-2147483648), 2147483647, [(.inr (38, 5001), 0)], []), (1, 0, (-2147483648), 2147483647, [(.inr (26, 11), 0)], []), rv_r 26], [((37, 5001), 20, 20, [])]), [45], 6253, [(1, (-780))], []),
  (45, ([rv_r 26, rv_i 0 8], [rv_full, rv_r 26], [((37, 5001), 20, 20, [])]), [46], 6252, [(1, (-780))], []),
  (46, ([rv_r 26, rv_i 0 8], [], [((37, 5001), 20, 20, [])]), [47], 6251, [(1, (-780))], []),
  (47, ([rv_r 26, rv_i 0 8], [rv_r 26], [((37, 5001), 20, 20, [])]), [48], 6250, [(1, (-780))], [])]
def n_X0_climb_0_3 : List rv_N := [
  (48, ([rv_r 26, rv_i 0 8], [rv_r 36], [((37, 5001), 20, 20, [])]), [49], 6249, [(1, (-780))], []),
  (49, ([rv_r 26, rv_i 0 8], [rv_r 38], [((37, 5001), 20, 20, [])]), [50], 6248, [(1, (-780))], []),
  (50, ([rv_r 26, rv_i 0 8], [(1, 0, 0, 8, [(.inl 1, 0)], []), rv_r 38], [((37, 5001), 20, 20, [])]), [51], 6247, [(1, (-780))], []),
  (51, ([rv_r 26, rv_i 0 8], [rv_i 0 0, (1, 0, 0, 8, [(.inl 1, 0)], []), rv_r 38], [((37, 5001), 20, 20, [])]), [52], 6246, [(1, (-780))], []),
  (52, ([rv_r 26, rv_i 0 8], [], []), [53], 6245, [(1, (-780))], []),
  (53, ([rv_r 26, rv_i 1 9], [], []), [2], 7024, [(1, (-780))], []),
  (54, ([rv_r 26, rv_i 9 9], [], []), [], 0, [], [])]
def n_X0_climb_0 : List rv_N := n_X0_climb_0_0 ++ (n_X0_climb_0_1 ++ (n_X0_climb_0_2 ++ (n_X0_climb_0_3)))
noncomputable def gn_X0_climb_0 : Nat → Option rv_N := rv_ap 16 (rv_at n_X0_climb_0_0) (rv_ap 16 (rv_at n_X0_climb_0_1) (rv_ap 16 (rv_at n_X0_climb_0_2) (rv_at n_X0_climb_0_3)))
theorem hn_X0_climb_0 : ∀ i : Nat, n_X0_climb_0[i]? = gn_X0_climb_0 i := rv_ap_eq (l := n_X0_climb_0_0) (c := 16) (rv_ap_eq (l := n_X0_climb_0_1) (c := 16) (rv_ap_eq (l := n_X0_climb_0_2) (c := 16) (rv_at_eq n_X0_climb_0_3) rfl) rfl) rfl
set_option maxRecDepth 100000 in
theorem a_X0_climb_0 : rv_all (fm_tm, flX0, fm_wr, kcX0, klX0, K_X0_climb_0.2.2.1, [], 2) ct_X0_climb_0 cd_X0_climb n_X0_climb_0 K_X0_climb_0 [] 0 n_X0_climb_0 = true := rv_fast hn_X0_climb_0 hc_X0_climb (by decide +kernel)
theorem m_X0_climb_0 {l : Launch} {D : va_G} {ad : Nat → Nat} {cy : Nat → ClassId} {Z : State → Heap → Prop} {Gp : fm_V → Prop} (hAd : fm_Ad fm_tm ad) (hZ : fm_Zk (fm_A fm_tm ad) Z) (hGd : fm_Gd Gp) : rv_Met l D fm_cl fm_tm ad cy fm_nt Z Gp yX0_climb (.code yX0_climb prog_2_method_14_code 2 none :: fm_Ts) { frames := 2, cells := 0, slots := 0, locals := 200 } K_X0_climb_0 := rv_met hAd hZ (Or.inl (by decide +kernel)) evX0 dc_X0_climb a_X0_climb_0 ⟨rfl, rfl, rfl⟩ (by decide +kernel) (by decide +kernel) (by decide) (fm_gm hGd (by decide +kernel)) (rfl) (fun p e s m args below meth c Q X Y => List.forall_mem_cons.mpr ⟨rv_ctV X Y fm_Ts_good dc_X0_climb (pc := 13) (i := 8) (idx := 145) rfl (m_X2_climbs_0 hAd hZ hGd) wl_X0_145 wm_X2_climbs wy_X2_climbs (by decide) ⟨rfl, rfl, rfl⟩ ⟨rfl, rfl⟩, fun _ h => absurd h List.not_mem_nil⟩) (fun _ _ _ _ _ _ _ _ _ _ _ _ _ _ _ _ h => absurd h List.not_mem_nil)
def cd_X1_has : List (Nat × Instr × Nat) := [(0, .iconst 0, 1), (1, .istore_n 2, 1), (2, .iload_n 2, 1), (3, .aload_n 0, 1), (4, .getfield 34, 3), (7, .if_icmp .ge 27, 3), (10, .iload_n 2, 1), (11, .bipush 14, 2), (13, .if_icmp .ge 21, 3), (16, .aload_n 0, 1), (17, .getfield 22, 3), (20, .iload_n 2, 1), (21, .iaload, 1), (22, .iload_n 1, 1), (23, .if_icmp .ne 5, 3), (26, .iconst 1, 1), (27, .ireturn, 1), (28, .iinc 2 1, 3), (31, .goto (-29), 3), (34, .iconst 0, 1), (35, .ireturn, 1)]
theorem dc_X1_has : ∀ q ∈ cd_X1_has, decode prog_3_method_7_code q.1 = .ok (q.2.1, q.2.2) := by decide +kernel
def K_X1_has_0 : rv_K := ([rv_r 7, rv_full], [], [], [(0, 0, 1)], [], [])
def ct_X1_has_0 : List (Nat × rv_K) := []
def n_X1_has_0_0 : List rv_N := [
  (0, ([rv_r 7, rv_full, rv_u], [], []), [1], 7388, [], []),
  (1, ([rv_r 7, rv_full, rv_u], [rv_i 0 0], []), [2], 7387, [], []),
  (2, ([rv_r 7, rv_full, rv_i 0 14], [], []), [3], 7386, [(2, (-527))], []),
  (3, ([rv_r 7, rv_full, rv_i 0 14], [(1, 0, 0, 14, [(.inl 2, 0)], [])], []), [4], 7385, [(2, (-527))], []),
  (4, ([rv_r 7, rv_full, rv_i 0 14], [rv_r 7, (1, 0, 0, 14, [(.inl 2, 0)], [])], []), [5], 7384, [(2, (-527))], []),
  (5, ([rv_r 7, rv_full, rv_i 0 14], [(1, 0, (-2147483648), 2147483647, [(.inr (7, 7), 0)], []), (1, 0, 0, 14, [(.inl 2, 0)], [])], []), [6, 19], 7383, [(2, (-527))], []),
  (6, ([rv_r 7, rv_full, rv_i 0 14], [], [((7, 7), 1, 2147483647, [])]), [7], 7382, [(2, (-527))], []),
  (7, ([rv_r 7, rv_full, rv_i 0 14], [(1, 0, 0, 14, [(.inl 2, 0)], [])], [((7, 7), 1, 2147483647, [])]), [8], 7381, [(2, (-527))], []),
  (8, ([rv_r 7, rv_full, rv_i 0 14], [rv_i 14 14, (1, 0, 0, 14, [(.inl 2, 0)], [])], [((7, 7), 1, 2147483647, [])]), [9, 19], 7380, [(2, (-527))], []),
  (9, ([rv_r 7, rv_full, rv_i 0 13], [], [((7, 7), 1, 2147483647, [])]), [10], 6867, [(2, (-527))], []),
  (10, ([rv_r 7, rv_full, rv_i 0 13], [rv_r 7], [((7, 7), 1, 2147483647, [])]), [11], 6866, [(2, (-527))], []),
  (11, ([rv_r 7, rv_full, rv_i 0 13], [rv_r 10], [((7, 7), 1, 2147483647, [])]), [12], 6865, [(2, (-527))], []),
  (12, ([rv_r 7, rv_full, rv_i 0 13], [(1, 0, 0, 13, [(.inl 2, 0)], []), rv_r 10], [((7, 7), 1, 2147483647, [])]), [13], 6864, [(2, (-527))], []),
  (13, ([rv_r 7, rv_full, rv_i 0 13], [(1, 0, (-2147483648), 2147483647, [(.inr (10, 5002), 0)], [])], [((7, 7), 1, 2147483647, [])]), [14], 6863, [(2, (-527))], []),
  (14, ([rv_r 7, rv_full, rv_i 0 13], [(1, 0, (-2147483648), 2147483647, [(.inl 1, 0)], []), (1, 0, (-2147483648), 2147483647, [(.inr (10, 5002), 0)], [])], [((7, 7), 1, 2147483647, [])]), [15, 17], 6862, [(2, (-527))], []),
  (15, ([rv_r 7, rv_full, rv_i 0 13], [], [((7, 7), 1, 2147483647, [])]), [16], 1, [], [])]
def n_X1_has_0_1 : List rv_N := [
  (16, ([rv_r 7, rv_full, rv_i 0 13], [rv_i 1 1], [((7, 7), 1, 2147483647, [])]), [], 0, [], []),
  (17, ([rv_r 7, rv_full, rv_i 0 13], [], [((7, 7), 1, 2147483647, [])]), [18], 6861, [(2, (-527))], []),
  (18, ([rv_r 7, rv_full, rv_i 1 14], [], [((7, 7), 1, 2147483647, [])]), [2], 7387, [(2, (-527))], []),
  (19, ([rv_r 7, rv_full, rv_i 0 14], [], []), [20], 1, [], []),
  (20, ([rv_r 7, rv_full, rv_i 0 14], [rv_i 0 0], []), [], 0, [], [])]
def n_X1_has_0 : List rv_N := n_X1_has_0_0 ++ (n_X1_has_0_1)
noncomputable def gn_X1_has_0 : Nat → Option rv_N := rv_ap 16 (rv_at n_X1_has_0_0) (rv_at n_X1_has_0_1)
theorem hn_X1_has_0 : ∀ i : Nat, n_X1_has_0[i]? = gn_X1_has_0 i := rv_ap_eq (l := n_X1_has_0_0) (c := 16) (rv_at_eq n_X1_has_0_1) rfl
set_option maxRecDepth 100000 in
theorem a_X1_has_0 : rv_all (fm_tm, flX1, fm_wr, kcX1, klX1, K_X1_has_0.2.2.1, [], 3) ct_X1_has_0 cd_X1_has n_X1_has_0 K_X1_has_0 [] 0 n_X1_has_0 = true := rv_fast hn_X1_has_0 (rv_at_eq cd_X1_has) (by decide +kernel)
theorem m_X1_has_0 {l : Launch} {D : va_G} {ad : Nat → Nat} {cy : Nat → ClassId} {Z : State → Heap → Prop} {Gp : fm_V → Prop} (hAd : fm_Ad fm_tm ad) (hZ : fm_Zk (fm_A fm_tm ad) Z) (hGd : fm_Gd Gp) : rv_Met l D fm_cl fm_tm ad cy fm_nt Z Gp yX1_has (.code yX1_has prog_3_method_7_code 3 (some .boolean) :: fm_Ts) { frames := 0, cells := 0, slots := 0, locals := 0 } K_X1_has_0 := rv_met hAd hZ (Or.inl (by decide +kernel)) evX1 dc_X1_has a_X1_has_0 ⟨rfl, rfl, rfl⟩ (by decide +kernel) (by decide +kernel) (by decide) (fm_gm hGd (by decide +kernel)) (Or.inr ⟨rfl, by decide, by decide⟩) (fun p e s m args below meth c Q X Y => fun _ h => absurd h List.not_mem_nil) (fun _ _ _ _ _ _ _ _ _ _ _ _ _ _ _ _ h => absurd h List.not_mem_nil)
def cd_X0_taken : List (Nat × Instr × Nat) := [(0, .iload_n 3, 1), (1, .invokestatic 131, 3), (4, .ifCond .eq 12, 3), (7, .aload_n 0, 1), (8, .getfield 9, 3), (11, .iload_n 3, 1), (12, .iaload, 1), (13, .ifCond .ne 5, 3), (16, .iconst 0, 1), (17, .ireturn, 1), (18, .aload_n 0, 1), (19, .aload_n 1, 1), (20, .iload_n 3, 1), (21, .invokevirtual 148, 3), (24, .aload_n 0, 1), (25, .getfield 9, 3), (28, .iload_n 3, 1), (29, .iaload, 1), (30, .aload_n 1, 1), (31, .iload_n 2, 1), (32, .invokevirtual 165, 3), (35, .invokestatic 168, 3), (38, .ireturn, 1)]
theorem dc_X0_taken : ∀ q ∈ cd_X0_taken, decode prog_2_method_18_code q.1 = .ok (q.2.1, q.2.2) := by decide +kernel
def K_X0_taken_0 : rv_K := ([rv_r 26, rv_r 7, rv_full, rv_full], [], [(14, 0), (14, 1), (14, 2), (14, 3), (14, 4), (14, 5), (15, 9999)], [(0, (-2147483648), 2147483647)], [(.inl 3, 0, 19)], [])
def ct_X0_taken_0 : List (Nat × rv_K) := [(1, K_X7_isYard_0), (13, K_X0_show_0), (20, K_X1_amount_0), (21, K_J9_min_7cf53_0)]
def n_X0_taken_0_0 : List rv_N := [
  (0, ([rv_r 26, rv_r 7, rv_full, rv_full], [], []), [1], 20, [], []),
  (1, ([rv_r 26, rv_r 7, rv_full, rv_full], [(1, 0, (-2147483648), 2147483647, [(.inl 3, 0)], [])], []), [2], 19, [], [0]),
  (2, ([rv_r 26, rv_r 7, rv_full, rv_full], [(1, 0, 0, 1, [], [(.inl 3, 0, 19)])], []), [3, 8], 18, [], []),
  (3, ([rv_r 26, rv_r 7, rv_full, rv_i 0 19], [], []), [4], 17, [], []),
  (4, ([rv_r 26, rv_r 7, rv_full, rv_i 0 19], [rv_r 26], []), [5], 16, [], []),
  (5, ([rv_r 26, rv_r 7, rv_full, rv_i 0 19], [rv_r 27], []), [6], 15, [], []),
  (6, ([rv_r 26, rv_r 7, rv_full, rv_i 0 19], [(1, 0, 0, 19, [(.inl 3, 0)], []), rv_r 27], []), [7], 14, [], []),
  (7, ([rv_r 26, rv_r 7, rv_full, rv_i 0 19], [(1, 0, (-2147483648), 2147483647, [(.inr (27, 5003), 0)], [])], []), [8, 10], 13, [], []),
  (8, ([rv_r 26, rv_r 7, rv_full, rv_full], [], []), [9], 1, [], []),
  (9, ([rv_r 26, rv_r 7, rv_full, rv_full], [rv_i 0 0], []), [], 0, [], []),
  (10, ([rv_r 26, rv_r 7, rv_full, rv_i 0 19], [], []), [11], 12, [], []),
  (11, ([rv_r 26, rv_r 7, rv_full, rv_i 0 19], [rv_r 26], []), [12], 11, [], []),
  (12, ([rv_r 26, rv_r 7, rv_full, rv_i 0 19], [rv_r 7, rv_r 26], []), [13], 10, [], []),
  (13, ([rv_r 26, rv_r 7, rv_full, rv_i 0 19], [(1, 0, 0, 19, [(.inl 3, 0)], []), rv_r 7, rv_r 26], []), [14], 9, [], [1]),
  (14, ([rv_r 26, rv_r 7, rv_full, rv_i 0 19], [], []), [15], 8, [], []),
  (15, ([rv_r 26, rv_r 7, rv_full, rv_i 0 19], [rv_r 26], []), [16], 7, [], [])]
def n_X0_taken_0_1 : List rv_N := [
  (16, ([rv_r 26, rv_r 7, rv_full, rv_i 0 19], [rv_r 27], []), [17], 6, [], []),
  (17, ([rv_r 26, rv_r 7, rv_full, rv_i 0 19], [(1, 0, 0, 19, [(.inl 3, 0)], []), rv_r 27], []), [18], 5, [], []),
  (18, ([rv_r 26, rv_r 7, rv_full, rv_i 0 19], [(1, 0, (-2147483648), 2147483647, [(.inr (27, 5003), 0)], [])], []), [19], 4, [], []),
  (19, ([rv_r 26, rv_r 7, rv_full, rv_i 0 19], [rv_r 7, (1, 0, (-2147483648), 2147483647, [(.inr (27, 5003), 0)], [])], []), [20], 3, [], []),
  (20, ([rv_r 26, rv_r 7, rv_full, rv_i 0 19], [(1, 0, (-2147483648), 2147483647, [(.inl 2, 0)], []), rv_r 7, (1, 0, (-2147483648), 2147483647, [(.inr (27, 5003), 0)], [])], []), [21], 2, [], [2]),
  (21, ([rv_r 26, rv_r 7, rv_full, rv_i 0 19], [rv_full, (1, 0, (-2147483648), 2147483647, [(.inr (27, 5003), 0)], [])], []), [22], 1, [], [3]),
  (22, ([rv_r 26, rv_r 7, rv_full, rv_i 0 19], [rv_full], []), [], 0, [], [])]
def n_X0_taken_0 : List rv_N := n_X0_taken_0_0 ++ (n_X0_taken_0_1)
noncomputable def gn_X0_taken_0 : Nat → Option rv_N := rv_ap 16 (rv_at n_X0_taken_0_0) (rv_at n_X0_taken_0_1)
theorem hn_X0_taken_0 : ∀ i : Nat, n_X0_taken_0[i]? = gn_X0_taken_0 i := rv_ap_eq (l := n_X0_taken_0_0) (c := 16) (rv_at_eq n_X0_taken_0_1) rfl
set_option maxRecDepth 100000 in
theorem a_X0_taken_0 : rv_all (fm_tm, flX0, fm_wr, kcX0, klX0, K_X0_taken_0.2.2.1, [2, 3], 4) ct_X0_taken_0 cd_X0_taken n_X0_taken_0 K_X0_taken_0 [] 0 n_X0_taken_0 = true := rv_fast hn_X0_taken_0 (rv_at_eq cd_X0_taken) (by decide +kernel)
theorem m_X0_taken_0 {l : Launch} {D : va_G} {ad : Nat → Nat} {cy : Nat → ClassId} {Z : State → Heap → Prop} {Gp : fm_V → Prop} (hAd : fm_Ad fm_tm ad) (hZ : fm_Zk (fm_A fm_tm ad) Z) (hGd : fm_Gd Gp) : rv_Met l D fm_cl fm_tm ad cy fm_nt Z Gp yX0_taken (.code yX0_taken prog_2_method_18_code 4 (some .int) :: fm_Ts) { frames := 2, cells := 0, slots := 0, locals := 200 } K_X0_taken_0 := rv_met hAd hZ (Or.inl (by decide +kernel)) evX0 dc_X0_taken a_X0_taken_0 ⟨rfl, rfl, rfl⟩ (by decide +kernel) (by decide +kernel) (by decide) (fm_gm hGd (by decide +kernel)) (Or.inl rfl) (fun p e s m args below meth c Q X Y => List.forall_mem_cons.mpr ⟨rv_ctN X Y fm_Ts_good dc_X0_taken (pc := 1) (i := 1) (idx := 131) rfl (m_X7_isYard_0 hAd hZ hGd) wl_X0_131 wm_X7_isYard wy_X7_isYard (by decide) rfl, List.forall_mem_cons.mpr ⟨rv_ctV X Y fm_Ts_good dc_X0_taken (pc := 21) (i := 13) (idx := 148) rfl (m_X0_show_0 hAd hZ hGd) wl_X0_148 wm_X0_show wy_X0_show (by decide) ⟨rfl, rfl, rfl⟩ ⟨rfl, rfl⟩, List.forall_mem_cons.mpr ⟨rv_ctV X Y fm_Ts_good dc_X0_taken (pc := 32) (i := 20) (idx := 165) rfl (m_X1_amount_0 hAd hZ hGd) wl_X0_165 wm_X1_amount wy_X1_amount (by decide) ⟨rfl, rfl, rfl⟩ ⟨rfl, rfl⟩, List.forall_mem_cons.mpr ⟨rv_ctS X Y fm_Ts_good dc_X0_taken (pc := 35) (i := 21) (idx := 168) rfl (m_J9_min_7cf53_0 hAd hZ hGd) wl_X0_168 wm_J9_min_7cf53 wy_J9_min_7cf53 (by decide) rfl, fun _ h => absurd h List.not_mem_nil⟩⟩⟩⟩) (fun _ _ _ _ _ _ _ _ _ _ _ _ _ _ _ _ h => absurd h List.not_mem_nil)
def cd_X0_blow : List (Nat × Instr × Nat) := [(0, .aload_n 1, 1), (1, .bipush 109, 2), (3, .invokevirtual 175, 3), (6, .ifCond .ne 4, 3), (9, .return_, 1), (10, .iconst 0, 1), (11, .istore_n 2, 1), (12, .iload_n 2, 1), (13, .bipush 20, 2), (15, .if_icmp .ge 36, 3), (18, .aload_n 0, 1), (19, .getfield 69, 3), (22, .iload_n 2, 1), (23, .aload_n 0, 1), (24, .getfield 15, 3), (27, .iload_n 2, 1), (28, .iaload, 1), (29, .ifCond .ne 7, 3), (32, .iconst 0, 1), (33, .goto 11, 3), (36, .aload_n 0, 1), (37, .aload_n 1, 1), (38, .bipush 109, 2), (40, .iload_n 2, 1), (41, .invokevirtual 178, 3), (44, .iastore, 1), (45, .iinc 2 1, 3), (48, .goto (-36), 3), (51, .iconst 0, 1), (52, .istore_n 2, 1), (53, .iload_n 2, 1), (54, .bipush 20, 2), (56, .if_icmp .ge 24, 3), (59, .aload_n 0, 1), (60, .getfield 9, 3), (63, .iload_n 2, 1), (64, .dup2, 1), (65, .iaload, 1), (66, .aload_n 0, 1), (67, .getfield 69, 3), (70, .iload_n 2, 1), (71, .iaload, 1), (72, .isub, 1), (73, .iastore, 1), (74, .iinc 2 1, 3), (77, .goto (-24), 3), (80, .iconst 0, 1), (81, .istore_n 2, 1), (82, .iload_n 2, 1), (83, .bipush 20, 2), (85, .if_icmp .ge 46, 3), (88, .aload_n 0, 1), (89, .getfield 69, 3), (92, .iload_n 2, 1), (93, .iaload, 1), (94, .ifCond .le 31, 3), (97, .aload_n 0, 1), (98, .aload_n 0, 1), (99, .getfield 15, 3), (102, .iload_n 2, 1), (103, .iaload, 1), (104, .ifCond .le 9, 3), (107, .iload_n 2, 1), (108, .iconst 1, 1), (109, .iadd, 1), (110, .goto 6, 3), (113, .iload_n 2, 1), (114, .iconst 1, 1), (115, .isub, 1), (116, .aload_n 0, 1), (117, .getfield 69, 3), (120, .iload_n 2, 1), (121, .iaload, 1), (122, .invokevirtual 138, 3), (125, .iinc 2 1, 3), (128, .goto (-46), 3), (131, .return_, 1)]
theorem dc_X0_blow : ∀ q ∈ cd_X0_blow, decode prog_2_method_15_code q.1 = .ok (q.2.1, q.2.2) := by decide +kernel
def ch_X0_blow_0 : List (Nat × Instr × Nat) := [(0, .aload_n 1, 1), (1, .bipush 109, 2), (3, .invokevirtual 175, 3), (6, .ifCond .ne 4, 3), (9, .return_, 1), (10, .iconst 0, 1), (11, .istore_n 2, 1), (12, .iload_n 2, 1), (13, .bipush 20, 2), (15, .if_icmp .ge 36, 3), (18, .aload_n 0, 1), (19, .getfield 69, 3), (22, .iload_n 2, 1), (23, .aload_n 0, 1), (24, .getfield 15, 3), (27, .iload_n 2, 1)]
def ch_X0_blow_1 : List (Nat × Instr × Nat) := [(28, .iaload, 1), (29, .ifCond .ne 7, 3), (32, .iconst 0, 1), (33, .goto 11, 3), (36, .aload_n 0, 1), (37, .aload_n 1, 1), (38, .bipush 109, 2), (40, .iload_n 2, 1), (41, .invokevirtual 178, 3), (44, .iastore, 1), (45, .iinc 2 1, 3), (48, .goto (-36), 3), (51, .iconst 0, 1), (52, .istore_n 2, 1), (53, .iload_n 2, 1), (54, .bipush 20, 2)]
def ch_X0_blow_2 : List (Nat × Instr × Nat) := [(56, .if_icmp .ge 24, 3), (59, .aload_n 0, 1), (60, .getfield 9, 3), (63, .iload_n 2, 1), (64, .dup2, 1), (65, .iaload, 1), (66, .aload_n 0, 1), (67, .getfield 69, 3), (70, .iload_n 2, 1), (71, .iaload, 1), (72, .isub, 1), (73, .iastore, 1), (74, .iinc 2 1, 3), (77, .goto (-24), 3), (80, .iconst 0, 1), (81, .istore_n 2, 1)]
def ch_X0_blow_3 : List (Nat × Instr × Nat) := [(82, .iload_n 2, 1), (83, .bipush 20, 2), (85, .if_icmp .ge 46, 3), (88, .aload_n 0, 1), (89, .getfield 69, 3), (92, .iload_n 2, 1), (93, .iaload, 1), (94, .ifCond .le 31, 3), (97, .aload_n 0, 1), (98, .aload_n 0, 1), (99, .getfield 15, 3), (102, .iload_n 2, 1), (103, .iaload, 1), (104, .ifCond .le 9, 3), (107, .iload_n 2, 1), (108, .iconst 1, 1)]
def ch_X0_blow_4 : List (Nat × Instr × Nat) := [(109, .iadd, 1), (110, .goto 6, 3), (113, .iload_n 2, 1), (114, .iconst 1, 1), (115, .isub, 1), (116, .aload_n 0, 1), (117, .getfield 69, 3), (120, .iload_n 2, 1), (121, .iaload, 1), (122, .invokevirtual 138, 3), (125, .iinc 2 1, 3), (128, .goto (-46), 3), (131, .return_, 1)]
set_option maxRecDepth 100000 in
theorem he_X0_blow : cd_X0_blow = ch_X0_blow_0 ++ (ch_X0_blow_1 ++ (ch_X0_blow_2 ++ (ch_X0_blow_3 ++ (ch_X0_blow_4)))) := rfl
noncomputable def gc_X0_blow : Nat → Option (Nat × Instr × Nat) := rv_ap 16 (rv_at ch_X0_blow_0) (rv_ap 16 (rv_at ch_X0_blow_1) (rv_ap 16 (rv_at ch_X0_blow_2) (rv_ap 16 (rv_at ch_X0_blow_3) (rv_at ch_X0_blow_4))))
theorem hc_X0_blow : ∀ i : Nat, cd_X0_blow[i]? = gc_X0_blow i := by
  rw [he_X0_blow]
  exact rv_ap_eq (l := ch_X0_blow_0) (c := 16) (rv_ap_eq (l := ch_X0_blow_1) (c := 16) (rv_ap_eq (l := ch_X0_blow_2) (c := 16) (rv_ap_eq (l := ch_X0_blow_3) (c := 16) (rv_at_eq ch_X0_blow_4) rfl) rfl) rfl) rfl
def K_X0_blow_0 : rv_K := ([rv_r 26, rv_r 7], [], [(14, 0), (14, 1), (14, 2), (14, 3), (14, 4), (14, 5), (15, 9999), (26, 13), (27, 9999), (35, 9999)], [], [], [])
def ct_X0_blow_0 : List (Nat × rv_K) := [(2, K_X1_has_0), (24, K_X0_taken_0), (73, K_X0_heap_0)]
def n_X0_blow_0_0 : List rv_N := [
  (0, ([rv_r 26, rv_r 7, rv_u], [], []), [1], 121459, [], []),
  (1, ([rv_r 26, rv_r 7, rv_u], [rv_r 7], []), [2], 121458, [], []),
  (2, ([rv_r 26, rv_r 7, rv_u], [rv_i 109 109, rv_r 7], []), [3], 121457, [], [0]),
  (3, ([rv_r 26, rv_r 7, rv_u], [rv_i 0 1], []), [4, 5], 121456, [], []),
  (4, ([rv_r 26, rv_r 7, rv_u], [], []), [], 0, [], []),
  (5, ([rv_r 26, rv_r 7, rv_u], [], []), [6], 121455, [], []),
  (6, ([rv_r 26, rv_r 7, rv_u], [rv_i 0 0], []), [7], 121454, [], []),
  (7, ([rv_r 26, rv_r 7, rv_i 0 20], [], []), [8], 121453, [(2, (-2024))], []),
  (8, ([rv_r 26, rv_r 7, rv_i 0 20], [(1, 0, 0, 20, [(.inl 2, 0)], [])], []), [9], 121452, [(2, (-2024))], []),
  (9, ([rv_r 26, rv_r 7, rv_i 0 20], [rv_i 20 20, (1, 0, 0, 20, [(.inl 2, 0)], [])], []), [10, 29], 121451, [(2, (-2024))], []),
  (10, ([rv_r 26, rv_r 7, rv_i 0 19], [], []), [11], 119445, [(2, (-2024))], []),
  (11, ([rv_r 26, rv_r 7, rv_i 0 19], [rv_r 26], []), [12], 119444, [(2, (-2024))], []),
  (12, ([rv_r 26, rv_r 7, rv_i 0 19], [rv_r 35], []), [13], 119443, [(2, (-2024))], []),
  (13, ([rv_r 26, rv_r 7, rv_i 0 19], [(1, 0, 0, 19, [(.inl 2, 0)], []), rv_r 35], []), [14], 119442, [(2, (-2024))], []),
  (14, ([rv_r 26, rv_r 7, rv_i 0 19], [rv_r 26, (1, 0, 0, 19, [(.inl 2, 0)], []), rv_r 35], []), [15], 119441, [(2, (-2024))], []),
  (15, ([rv_r 26, rv_r 7, rv_i 0 19], [rv_r 28, (1, 0, 0, 19, [(.inl 2, 0)], []), rv_r 35], []), [16], 119440, [(2, (-2024))], [])]
def n_X0_blow_0_1 : List rv_N := [
  (16, ([rv_r 26, rv_r 7, rv_i 0 19], [(1, 0, 0, 19, [(.inl 2, 0)], []), rv_r 28, (1, 0, 0, 19, [(.inl 2, 0)], []), rv_r 35], []), [17], 119439, [(2, (-2024))], []),
  (17, ([rv_r 26, rv_r 7, rv_i 0 19], [(1, 0, (-2147483648), 2147483647, [(.inr (28, 5002), 0)], []), (1, 0, 0, 19, [(.inl 2, 0)], []), rv_r 35], []), [18, 20], 119438, [(2, (-2024))], []),
  (18, ([rv_r 26, rv_r 7, rv_i 0 19], [(1, 0, 0, 19, [(.inl 2, 0)], []), rv_r 35], [((28, 5002), 0, 0, [])]), [19], 119434, [(2, (-2024))], []),
  (19, ([rv_r 26, rv_r 7, rv_i 0 19], [rv_i 0 0, (1, 0, 0, 19, [(.inl 2, 0)], []), rv_r 35], [((28, 5002), 0, 0, [])]), [25], 119433, [(2, (-2024))], []),
  (20, ([rv_r 26, rv_r 7, rv_i 0 19], [(1, 0, 0, 19, [(.inl 2, 0)], []), rv_r 35], []), [21], 119437, [(2, (-2024))], []),
  (21, ([rv_r 26, rv_r 7, rv_i 0 19], [rv_r 26, (1, 0, 0, 19, [(.inl 2, 0)], []), rv_r 35], []), [22], 119436, [(2, (-2024))], []),
  (22, ([rv_r 26, rv_r 7, rv_i 0 19], [rv_r 7, rv_r 26, (1, 0, 0, 19, [(.inl 2, 0)], []), rv_r 35], []), [23], 119435, [(2, (-2024))], []),
  (23, ([rv_r 26, rv_r 7, rv_i 0 19], [rv_i 109 109, rv_r 7, rv_r 26, (1, 0, 0, 19, [(.inl 2, 0)], []), rv_r 35], []), [24], 119434, [(2, (-2024))], []),
  (24, ([rv_r 26, rv_r 7, rv_i 0 19], [(1, 0, 0, 19, [(.inl 2, 0)], []), rv_i 109 109, rv_r 7, rv_r 26, (1, 0, 0, 19, [(.inl 2, 0)], []), rv_r 35], []), [26], 119433, [(2, (-2024))], [1]),
  (25, ([rv_r 26, rv_r 7, rv_i 0 19], [rv_i 0 0, (1, 0, 0, 19, [(.inl 2, 0)], []), rv_r 35], [((28, 5002), 0, 0, [])]), [27], 119432, [(2, (-2024))], []),
  (25, ([rv_r 26, rv_r 7, rv_i 0 19], [(1, 0, (-2147483648), 2147483647, [], [(.inl 2, 0, 19)]), (1, 0, 0, 19, [(.inl 2, 0)], []), rv_r 35], []), [27], 119432, [(2, (-2024))], []),
  (26, ([rv_r 26, rv_r 7, rv_i 0 19], [], []), [28], 119431, [(2, (-2024))], []),
  (27, ([rv_r 26, rv_r 7, rv_i 1 20], [], []), [7], 121454, [(2, (-2024))], []),
  (28, ([rv_r 26, rv_r 7, rv_i 20 20], [], []), [30], 80970, [], []),
  (29, ([rv_r 26, rv_r 7, rv_i 20 20], [rv_i 0 0], []), [31], 80969, [], []),
  (30, ([rv_r 26, rv_r 7, rv_i 0 20], [], []), [32], 80968, [(2, (-2024))], [])]
def n_X0_blow_0_2 : List rv_N := [
  (31, ([rv_r 26, rv_r 7, rv_i 0 20], [(1, 0, 0, 20, [(.inl 2, 0)], [])], []), [33], 80967, [(2, (-2024))], []),
  (32, ([rv_r 26, rv_r 7, rv_i 0 20], [rv_i 20 20, (1, 0, 0, 20, [(.inl 2, 0)], [])], []), [34, 47], 80966, [(2, (-2024))], []),
  (33, ([rv_r 26, rv_r 7, rv_i 0 19], [], []), [35], 78957, [(2, (-2024))], []),
  (34, ([rv_r 26, rv_r 7, rv_i 0 19], [rv_r 26], []), [36], 78956, [(2, (-2024))], []),
  (35, ([rv_r 26, rv_r 7, rv_i 0 19], [rv_r 27], []), [37], 78955, [(2, (-2024))], []),
  (36, ([rv_r 26, rv_r 7, rv_i 0 19], [(1, 0, 0, 19, [(.inl 2, 0)], []), rv_r 27], []), [38], 78954, [(2, (-2024))], []),
  (37, ([rv_r 26, rv_r 7, rv_i 0 19], [(1, 0, 0, 19, [(.inl 2, 0)], []), rv_r 27, (1, 0, 0, 19, [(.inl 2, 0)], []), rv_r 27], []), [39], 78953, [(2, (-2024))], []),
  (38, ([rv_r 26, rv_r 7, rv_i 0 19], [(1, 0, (-2147483648), 2147483647, [(.inr (27, 5002), 0)], []), (1, 0, 0, 19, [(.inl 2, 0)], []), rv_r 27], []), [40], 78952, [(2, (-2024))], []),
  (39, ([rv_r 26, rv_r 7, rv_i 0 19], [rv_r 26, (1, 0, (-2147483648), 2147483647, [(.inr (27, 5002), 0)], []), (1, 0, 0, 19, [(.inl 2, 0)], []), rv_r 27], []), [41], 78951, [(2, (-2024))], []),
  (40, ([rv_r 26, rv_r 7, rv_i 0 19], [rv_r 35, (1, 0, (-2147483648), 2147483647, [(.inr (27, 5002), 0)], []), (1, 0, 0, 19, [(.inl 2, 0)], []), rv_r 27], []), [42], 78950, [(2, (-2024))], []),
  (41, ([rv_r 26, rv_r 7, rv_i 0 19], [(1, 0, 0, 19, [(.inl 2, 0)], []), rv_r 35, (1, 0, (-2147483648), 2147483647, [(.inr (27, 5002), 0)], []), (1, 0, 0, 19, [(.inl 2, 0)], []), rv_r 27], []), [43], 78949, [(2, (-2024))], []),
  (42, ([rv_r 26, rv_r 7, rv_i 0 19], [(1, 0, (-2147483648), 2147483647, [(.inr (35, 5002), 0)], []), (1, 0, (-2147483648), 2147483647, [(.inr (27, 5002), 0)], []), (1, 0, 0, 19, [(.inl 2, 0)], []), rv_r 27], []), [44], 78948, [(2, (-2024))], []),
  (43, ([rv_r 26, rv_r 7, rv_i 0 19], [rv_full, (1, 0, 0, 19, [(.inl 2, 0)], []), rv_r 27], []), [45], 78947, [(2, (-2024))], []),
  (44, ([rv_r 26, rv_r 7, rv_i 0 19], [], []), [46], 78946, [(2, (-2024))], []),
  (45, ([rv_r 26, rv_r 7, rv_i 1 20], [], []), [31], 80969, [(2, (-2024))], []),
  (46, ([rv_r 26, rv_r 7, rv_i 20 20], [], []), [48], 40485, [], [])]
def n_X0_blow_0_3 : List rv_N := [
  (47, ([rv_r 26, rv_r 7, rv_i 20 20], [rv_i 0 0], []), [49], 40484, [], []),
  (48, ([rv_r 26, rv_r 7, rv_i 0 20], [], []), [50], 40483, [(2, (-2024))], []),
  (49, ([rv_r 26, rv_r 7, rv_i 0 20], [(1, 0, 0, 20, [(.inl 2, 0)], [])], []), [51], 40482, [(2, (-2024))], []),
  (50, ([rv_r 26, rv_r 7, rv_i 0 20], [rv_i 20 20, (1, 0, 0, 20, [(.inl 2, 0)], [])], []), [52, 77], 40481, [(2, (-2024))], []),
  (51, ([rv_r 26, rv_r 7, rv_i 0 19], [], []), [53], 38481, [(2, (-2024))], []),
  (52, ([rv_r 26, rv_r 7, rv_i 0 19], [rv_r 26], []), [54], 38480, [(2, (-2024))], []),
  (53, ([rv_r 26, rv_r 7, rv_i 0 19], [rv_r 35], []), [55], 38479, [(2, (-2024))], []),
  (54, ([rv_r 26, rv_r 7, rv_i 0 19], [(1, 0, 0, 19, [(.inl 2, 0)], []), rv_r 35], []), [56], 38478, [(2, (-2024))], []),
  (55, ([rv_r 26, rv_r 7, rv_i 0 19], [(1, 0, (-2147483648), 2147483647, [(.inr (35, 5002), 0)], [])], []), [57, 75], 38477, [(2, (-2024))], []),
  (56, ([rv_r 26, rv_r 7, rv_i 0 19], [], [((35, 5002), 1, 2147483647, [])]), [58], 38476, [(2, (-2024))], []),
  (57, ([rv_r 26, rv_r 7, rv_i 0 19], [rv_r 26], [((35, 5002), 1, 2147483647, [])]), [59], 38475, [(2, (-2024))], []),
  (58, ([rv_r 26, rv_r 7, rv_i 0 19], [rv_r 26, rv_r 26], [((35, 5002), 1, 2147483647, [])]), [60], 38474, [(2, (-2024))], []),
  (59, ([rv_r 26, rv_r 7, rv_i 0 19], [rv_r 28, rv_r 26], [((35, 5002), 1, 2147483647, [])]), [61], 38473, [(2, (-2024))], []),
  (60, ([rv_r 26, rv_r 7, rv_i 0 19], [(1, 0, 0, 19, [(.inl 2, 0)], []), rv_r 28, rv_r 26], [((35, 5002), 1, 2147483647, [])]), [62], 38472, [(2, (-2024))], []),
  (61, ([rv_r 26, rv_r 7, rv_i 0 19], [(1, 0, (-2147483648), 2147483647, [(.inr (28, 5002), 0)], []), rv_r 26], [((35, 5002), 1, 2147483647, [])]), [63, 67], 38471, [(2, (-2024))], []),
  (62, ([rv_r 26, rv_r 7, rv_i 0 19], [rv_r 26], [((28, 5002), 1, 2147483647, []), ((35, 5002), 1, 2147483647, [])]), [64], 38470, [(2, (-2024))], [])]
def n_X0_blow_0_4 : List rv_N := [
  (63, ([rv_r 26, rv_r 7, rv_i 0 19], [(1, 0, 0, 19, [(.inl 2, 0)], []), rv_r 26], [((28, 5002), 1, 2147483647, []), ((35, 5002), 1, 2147483647, [])]), [65], 38469, [(2, (-2024))], []),
  (64, ([rv_r 26, rv_r 7, rv_i 0 19], [rv_i 1 1, (1, 0, 0, 19, [(.inl 2, 0)], []), rv_r 26], [((28, 5002), 1, 2147483647, []), ((35, 5002), 1, 2147483647, [])]), [66], 38468, [(2, (-2024))], []),
  (65, ([rv_r 26, rv_r 7, rv_i 0 19], [(1, 0, 1, 20, [(.inl 2, 1)], []), rv_r 26], [((28, 5002), 1, 2147483647, []), ((35, 5002), 1, 2147483647, [])]), [70], 38467, [(2, (-2024))], []),
  (66, ([rv_r 26, rv_r 7, rv_i 0 19], [rv_r 26], [((28, 5002), (-2147483648), 0, []), ((35, 5002), 1, 2147483647, [])]), [68], 38469, [(2, (-2024))], []),
  (67, ([rv_r 26, rv_r 7, rv_i 0 19], [(1, 0, 0, 19, [(.inl 2, 0)], []), rv_r 26], [((28, 5002), (-2147483648), 0, []), ((35, 5002), 1, 2147483647, [])]), [69], 38468, [(2, (-2024))], []),
  (68, ([rv_r 26, rv_r 7, rv_i 0 19], [rv_i 1 1, (1, 0, 0, 19, [(.inl 2, 0)], []), rv_r 26], [((28, 5002), (-2147483648), 0, []), ((35, 5002), 1, 2147483647, [])]), [70], 38467, [(2, (-2024))], []),
  (69, ([rv_r 26, rv_r 7, rv_i 0 19], [rv_i (-1) 20, rv_r 26], [((35, 5002), 1, 2147483647, [])]), [71], 38466, [(2, (-2024))], []),
  (70, ([rv_r 26, rv_r 7, rv_i 0 19], [rv_r 26, rv_i (-1) 20, rv_r 26], [((35, 5002), 1, 2147483647, [])]), [72], 38465, [(2, (-2024))], []),
  (71, ([rv_r 26, rv_r 7, rv_i 0 19], [rv_r 35, rv_i (-1) 20, rv_r 26], [((35, 5002), 1, 2147483647, [])]), [73], 38464, [(2, (-2024))], []),
  (72, ([rv_r 26, rv_r 7, rv_i 0 19], [(1, 0, 0, 19, [(.inl 2, 0)], []), rv_r 35, rv_i (-1) 20, rv_r 26], [((35, 5002), 1, 2147483647, [])]), [74], 38463, [(2, (-2024))], []),
  (73, ([rv_r 26, rv_r 7, rv_i 0 19], [(1, 0, 1, 2147483647, [(.inr (35, 5002), 0)], []), rv_i (-1) 20, rv_r 26], [((35, 5002), 1, 2147483647, [])]), [75], 38462, [(2, (-2024))], [2]),
  (74, ([rv_r 26, rv_r 7, rv_i 0 19], [], []), [76], 38461, [(2, (-2024))], []),
  (75, ([rv_r 26, rv_r 7, rv_i 1 20], [], []), [49], 40484, [(2, (-2024))], []),
  (76, ([rv_r 26, rv_r 7, rv_i 20 20], [], []), [], 0, [], [])]
def n_X0_blow_0 : List rv_N := n_X0_blow_0_0 ++ (n_X0_blow_0_1 ++ (n_X0_blow_0_2 ++ (n_X0_blow_0_3 ++ (n_X0_blow_0_4))))
noncomputable def gn_X0_blow_0 : Nat → Option rv_N := rv_ap 16 (rv_at n_X0_blow_0_0) (rv_ap 16 (rv_at n_X0_blow_0_1) (rv_ap 16 (rv_at n_X0_blow_0_2) (rv_ap 16 (rv_at n_X0_blow_0_3) (rv_at n_X0_blow_0_4))))
theorem hn_X0_blow_0 : ∀ i : Nat, n_X0_blow_0[i]? = gn_X0_blow_0 i := rv_ap_eq (l := n_X0_blow_0_0) (c := 16) (rv_ap_eq (l := n_X0_blow_0_1) (c := 16) (rv_ap_eq (l := n_X0_blow_0_2) (c := 16) (rv_ap_eq (l := n_X0_blow_0_3) (c := 16) (rv_at_eq n_X0_blow_0_4) rfl) rfl) rfl) rfl
set_option maxRecDepth 100000 in
theorem a_X0_blow_0 : rv_all (fm_tm, flX0, fm_wr, kcX0, klX0, K_X0_blow_0.2.2.1, [], 3) ct_X0_blow_0 cd_X0_blow n_X0_blow_0 K_X0_blow_0 [] 0 n_X0_blow_0 = true := rv_fast hn_X0_blow_0 hc_X0_blow (by decide +kernel)
theorem m_X0_blow_0 {l : Launch} {D : va_G} {ad : Nat → Nat} {cy : Nat → ClassId} {Z : State → Heap → Prop} {Gp : fm_V → Prop} (hAd : fm_Ad fm_tm ad) (hZ : fm_Zk (fm_A fm_tm ad) Z) (hGd : fm_Gd Gp) : rv_Met l D fm_cl fm_tm ad cy fm_nt Z Gp yX0_blow (.code yX0_blow prog_2_method_15_code 3 none :: fm_Ts) { frames := 3, cells := 0, slots := 0, locals := 300 } K_X0_blow_0 := rv_met hAd hZ (Or.inl (by decide +kernel)) evX0 dc_X0_blow a_X0_blow_0 ⟨rfl, rfl, rfl⟩ (by decide +kernel) (by decide +kernel) (by decide) (fm_gm hGd (by decide +kernel)) (rfl) (fun p e s m args below meth c Q X Y => List.forall_mem_cons.mpr ⟨rv_ctV X Y fm_Ts_good dc_X0_blow (pc := 3) (i := 2) (idx := 175) rfl (m_X1_has_0 hAd hZ hGd) wl_X0_175 wm_X1_has wy_X1_has (by decide) ⟨rfl, rfl, rfl⟩ ⟨rfl, rfl⟩, List.forall_mem_cons.mpr ⟨rv_ctV X Y fm_Ts_good dc_X0_blow (pc := 41) (i := 24) (idx := 178) rfl (m_X0_taken_0 hAd hZ hGd) wl_X0_178 wm_X0_taken wy_X0_taken (by decide) ⟨rfl, rfl, rfl⟩ ⟨rfl, rfl⟩, List.forall_mem_cons.mpr ⟨rv_ctV X Y fm_Ts_good dc_X0_blow (pc := 122) (i := 73) (idx := 138) rfl (m_X0_heap_0 hAd hZ hGd) wl_X0_138 wm_X0_heap wy_X0_heap (by decide) ⟨rfl, rfl, rfl⟩ ⟨rfl, rfl⟩, fun _ h => absurd h List.not_mem_nil⟩⟩⟩) (fun _ _ _ _ _ _ _ _ _ _ _ _ _ _ _ _ h => absurd h List.not_mem_nil)
def cd_X0_wash : List (Nat × Instr × Nat) := [(0, .aload_n 1, 1), (1, .bipush 107, 2), (3, .invokevirtual 175, 3), (6, .ifCond .ne 4, 3), (9, .return_, 1), (10, .iconst 0, 1), (11, .istore_n 2, 1), (12, .iload_n 2, 1), (13, .bipush 20, 2), (15, .if_icmp .ge 38, 3), (18, .aload_n 0, 1), (19, .aload_n 1, 1), (20, .bipush 107, 2), (22, .iload_n 2, 1), (23, .invokevirtual 178, 3), (26, .istore_n 3, 1), (27, .aload_n 0, 1), (28, .getfield 9, 3), (31, .iload_n 2, 1), (32, .dup2, 1), (33, .iaload, 1), (34, .iload_n 3, 1), (35, .isub, 1), (36, .iastore, 1), (37, .aload_n 0, 1), (38, .dup, 1), (39, .getfield 53, 3), (42, .iload_n 3, 1), (43, .iadd, 1), (44, .putfield 53, 3), (47, .iinc 2 1, 3), (50, .goto (-38), 3), (53, .return_, 1)]
theorem dc_X0_wash : ∀ q ∈ cd_X0_wash, decode prog_2_method_16_code q.1 = .ok (q.2.1, q.2.2) := by decide +kernel
def ch_X0_wash_0 : List (Nat × Instr × Nat) := [(0, .aload_n 1, 1), (1, .bipush 107, 2), (3, .invokevirtual 175, 3), (6, .ifCond .ne 4, 3), (9, .return_, 1), (10, .iconst 0, 1), (11, .istore_n 2, 1), (12, .iload_n 2, 1), (13, .bipush 20, 2), (15, .if_icmp .ge 38, 3), (18, .aload_n 0, 1), (19, .aload_n 1, 1), (20, .bipush 107, 2), (22, .iload_n 2, 1), (23, .invokevirtual 178, 3), (26, .istore_n 3, 1)]
def ch_X0_wash_1 : List (Nat × Instr × Nat) := [(27, .aload_n 0, 1), (28, .getfield 9, 3), (31, .iload_n 2, 1), (32, .dup2, 1), (33, .iaload, 1), (34, .iload_n 3, 1), (35, .isub, 1), (36, .iastore, 1), (37, .aload_n 0, 1), (38, .dup, 1), (39, .getfield 53, 3), (42, .iload_n 3, 1), (43, .iadd, 1), (44, .putfield 53, 3), (47, .iinc 2 1, 3), (50, .goto (-38), 3)]
def ch_X0_wash_2 : List (Nat × Instr × Nat) := [(53, .return_, 1)]
set_option maxRecDepth 100000 in
theorem he_X0_wash : cd_X0_wash = ch_X0_wash_0 ++ (ch_X0_wash_1 ++ (ch_X0_wash_2)) := rfl
noncomputable def gc_X0_wash : Nat → Option (Nat × Instr × Nat) := rv_ap 16 (rv_at ch_X0_wash_0) (rv_ap 16 (rv_at ch_X0_wash_1) (rv_at ch_X0_wash_2))
theorem hc_X0_wash : ∀ i : Nat, cd_X0_wash[i]? = gc_X0_wash i := by
  rw [he_X0_wash]
  exact rv_ap_eq (l := ch_X0_wash_0) (c := 16) (rv_ap_eq (l := ch_X0_wash_1) (c := 16) (rv_at_eq ch_X0_wash_2) rfl) rfl
def K_X0_wash_0 : rv_K := ([rv_r 26, rv_r 7], [], [(14, 0), (14, 1), (14, 2), (14, 3), (14, 4), (14, 5), (15, 9999), (26, 12), (27, 9999)], [], [], [])
def ct_X0_wash_0 : List (Nat × rv_K) := [(2, K_X1_has_0), (14, K_X0_taken_0)]
def n_X0_wash_0_0 : List rv_N := [
  (0, ([rv_r 26, rv_r 7, rv_u, rv_u], [], []), [1], 19789, [], []),
  (1, ([rv_r 26, rv_r 7, rv_u, rv_u], [rv_r 7], []), [2], 19788, [], []),
  (2, ([rv_r 26, rv_r 7, rv_u, rv_u], [rv_i 107 107, rv_r 7], []), [3], 19787, [], [0]),
  (3, ([rv_r 26, rv_r 7, rv_u, rv_u], [rv_i 0 1], []), [4, 5], 19786, [], []),
  (4, ([rv_r 26, rv_r 7, rv_u, rv_u], [], []), [], 0, [], []),
  (5, ([rv_r 26, rv_r 7, rv_u, rv_u], [], []), [6], 19785, [], []),
  (6, ([rv_r 26, rv_r 7, rv_u, rv_u], [rv_i 0 0], []), [7], 19784, [], []),
  (7, ([rv_r 26, rv_r 7, rv_i 0 20, rv_u], [], []), [8], 19783, [(2, (-989))], []),
  (8, ([rv_r 26, rv_r 7, rv_i 0 20, rv_u], [(1, 0, 0, 20, [(.inl 2, 0)], [])], []), [9], 19782, [(2, (-989))], []),
  (9, ([rv_r 26, rv_r 7, rv_i 0 20, rv_u], [rv_i 20 20, (1, 0, 0, 20, [(.inl 2, 0)], [])], []), [10, 32], 19781, [(2, (-989))], []),
  (10, ([rv_r 26, rv_r 7, rv_i 0 19, rv_u], [], []), [11], 18816, [(2, (-989))], []),
  (11, ([rv_r 26, rv_r 7, rv_i 0 19, rv_u], [rv_r 26], []), [12], 18815, [(2, (-989))], []),
  (12, ([rv_r 26, rv_r 7, rv_i 0 19, rv_u], [rv_r 7, rv_r 26], []), [13], 18814, [(2, (-989))], []),
  (13, ([rv_r 26, rv_r 7, rv_i 0 19, rv_u], [rv_i 107 107, rv_r 7, rv_r 26], []), [14], 18813, [(2, (-989))], []),
  (14, ([rv_r 26, rv_r 7, rv_i 0 19, rv_u], [(1, 0, 0, 19, [(.inl 2, 0)], []), rv_i 107 107, rv_r 7, rv_r 26], []), [15], 18812, [(2, (-989))], [1]),
  (15, ([rv_r 26, rv_r 7, rv_i 0 19, rv_u], [(1, 0, (-2147483648), 2147483647, [], [(.inl 2, 0, 19)])], []), [16], 18811, [(2, (-989))], [])]
def n_X0_wash_0_1 : List rv_N := [
  (16, ([rv_r 26, rv_r 7, rv_i 0 19, rv_full], [], []), [17], 18810, [(2, (-989))], []),
  (17, ([rv_r 26, rv_r 7, rv_i 0 19, rv_full], [rv_r 26], []), [18], 18809, [(2, (-989))], []),
  (18, ([rv_r 26, rv_r 7, rv_i 0 19, rv_full], [rv_r 27], []), [19], 18808, [(2, (-989))], []),
  (19, ([rv_r 26, rv_r 7, rv_i 0 19, rv_full], [(1, 0, 0, 19, [(.inl 2, 0)], []), rv_r 27], []), [20], 18807, [(2, (-989))], []),
  (20, ([rv_r 26, rv_r 7, rv_i 0 19, rv_full], [(1, 0, 0, 19, [(.inl 2, 0)], []), rv_r 27, (1, 0, 0, 19, [(.inl 2, 0)], []), rv_r 27], []), [21], 18806, [(2, (-989))], []),
  (21, ([rv_r 26, rv_r 7, rv_i 0 19, rv_full], [(1, 0, (-2147483648), 2147483647, [(.inr (27, 5002), 0)], []), (1, 0, 0, 19, [(.inl 2, 0)], []), rv_r 27], []), [22], 18805, [(2, (-989))], []),
  (22, ([rv_r 26, rv_r 7, rv_i 0 19, rv_full], [(1, 0, (-2147483648), 2147483647, [(.inl 3, 0)], []), (1, 0, (-2147483648), 2147483647, [(.inr (27, 5002), 0)], []), (1, 0, 0, 19, [(.inl 2, 0)], []), rv_r 27], []), [23], 18804, [(2, (-989))], []),
  (23, ([rv_r 26, rv_r 7, rv_i 0 19, rv_full], [rv_full, (1, 0, 0, 19, [(.inl 2, 0)], []), rv_r 27], []), [24], 18803, [(2, (-989))], []),
  (24, ([rv_r 26, rv_r 7, rv_i 0 19, rv_full], [], []), [25], 18802, [(2, (-989))], []),
  (25, ([rv_r 26, rv_r 7, rv_i 0 19, rv_full], [rv_r 26], []), [26], 18801, [(2, (-989))], []),
  (26, ([rv_r 26, rv_r 7, rv_i 0 19, rv_full], [rv_r 26, rv_r 26], []), [27], 18800, [(2, (-989))], []),
  (27, ([rv_r 26, rv_r 7, rv_i 0 19, rv_full], [(1, 0, (-2147483648), 2147483647, [(.inr (26, 12), 0)], []), rv_r 26], []), [28], 18799, [(2, (-989))], []),
  (28, ([rv_r 26, rv_r 7, rv_i 0 19, rv_full], [(1, 0, (-2147483648), 2147483647, [(.inl 3, 0)], []), (1, 0, (-2147483648), 2147483647, [(.inr (26, 12), 0)], []), rv_r 26], []), [29], 18798, [(2, (-989))], []),
  (29, ([rv_r 26, rv_r 7, rv_i 0 19, rv_full], [rv_full, rv_r 26], []), [30], 18797, [(2, (-989))], []),
  (30, ([rv_r 26, rv_r 7, rv_i 0 19, rv_full], [], []), [31], 18796, [(2, (-989))], []),
  (31, ([rv_r 26, rv_r 7, rv_i 1 20, rv_full], [], []), [7], 19784, [(2, (-989))], [])]
def n_X0_wash_0_2 : List rv_N := [
  (32, ([rv_r 26, rv_r 7, rv_i 20 20, rv_u], [], []), [], 0, [], [])]
def n_X0_wash_0 : List rv_N := n_X0_wash_0_0 ++ (n_X0_wash_0_1 ++ (n_X0_wash_0_2))
noncomputable def gn_X0_wash_0 : Nat → Option rv_N := rv_ap 16 (rv_at n_X0_wash_0_0) (rv_ap 16 (rv_at n_X0_wash_0_1) (rv_at n_X0_wash_0_2))
theorem hn_X0_wash_0 : ∀ i : Nat, n_X0_wash_0[i]? = gn_X0_wash_0 i := rv_ap_eq (l := n_X0_wash_0_0) (c := 16) (rv_ap_eq (l := n_X0_wash_0_1) (c := 16) (rv_at_eq n_X0_wash_0_2) rfl) rfl
set_option maxRecDepth 100000 in
theorem a_X0_wash_0 : rv_all (fm_tm, flX0, fm_wr, kcX0, klX0, K_X0_wash_0.2.2.1, [], 4) ct_X0_wash_0 cd_X0_wash n_X0_wash_0 K_X0_wash_0 [] 0 n_X0_wash_0 = true := rv_fast hn_X0_wash_0 hc_X0_wash (by decide +kernel)
theorem m_X0_wash_0 {l : Launch} {D : va_G} {ad : Nat → Nat} {cy : Nat → ClassId} {Z : State → Heap → Prop} {Gp : fm_V → Prop} (hAd : fm_Ad fm_tm ad) (hZ : fm_Zk (fm_A fm_tm ad) Z) (hGd : fm_Gd Gp) : rv_Met l D fm_cl fm_tm ad cy fm_nt Z Gp yX0_wash (.code yX0_wash prog_2_method_16_code 4 none :: fm_Ts) { frames := 3, cells := 0, slots := 0, locals := 300 } K_X0_wash_0 := rv_met hAd hZ (Or.inl (by decide +kernel)) evX0 dc_X0_wash a_X0_wash_0 ⟨rfl, rfl, rfl⟩ (by decide +kernel) (by decide +kernel) (by decide) (fm_gm hGd (by decide +kernel)) (rfl) (fun p e s m args below meth c Q X Y => List.forall_mem_cons.mpr ⟨rv_ctV X Y fm_Ts_good dc_X0_wash (pc := 3) (i := 2) (idx := 175) rfl (m_X1_has_0 hAd hZ hGd) wl_X0_175 wm_X1_has wy_X1_has (by decide) ⟨rfl, rfl, rfl⟩ ⟨rfl, rfl⟩, List.forall_mem_cons.mpr ⟨rv_ctV X Y fm_Ts_good dc_X0_wash (pc := 23) (i := 14) (idx := 178) rfl (m_X0_taken_0 hAd hZ hGd) wl_X0_178 wm_X0_taken wy_X0_taken (by decide) ⟨rfl, rfl, rfl⟩ ⟨rfl, rfl⟩, fun _ h => absurd h List.not_mem_nil⟩⟩) (fun _ _ _ _ _ _ _ _ _ _ _ _ _ _ _ _ h => absurd h List.not_mem_nil)
def cd_X0_sieve : List (Nat × Instr × Nat) := [(0, .aload_n 1, 1), (1, .bipush 115, 2), (3, .invokevirtual 175, 3), (6, .ifCond .ne 4, 3), (9, .return_, 1), (10, .iconst 0, 1), (11, .istore_n 2, 1), (12, .iload_n 2, 1), (13, .bipush 20, 2), (15, .if_icmp .ge 124, 3), (18, .aload_n 0, 1), (19, .getfield 21, 3), (22, .iload_n 2, 1), (23, .iaload, 1), (24, .bipush 6, 2), (26, .if_icmp .ne 10, 3), (29, .aload_n 0, 1), (30, .getfield 63, 3), (33, .goto 9, 3), (36, .aload_n 0, 1), (37, .getfield 21, 3), (40, .iload_n 2, 1), (41, .iaload, 1), (42, .istore_n 3, 1), (43, .iload_n 3, 1), (44, .invokestatic 181, 3), (47, .ifCond .eq 86, 3), (50, .aload_n 1, 1), (51, .getfield 152, 3), (54, .bipush 11, 2), (56, .iload_n 3, 1), (57, .iastore, 1), (58, .aload_n 1, 1), (59, .getfield 152, 3), (62, .bipush 12, 2), (64, .aload_n 0, 1), (65, .getfield 24, 3), (68, .iload_n 3, 1), (69, .iaload, 1), (70, .iastore, 1), (71, .aload_n 0, 1), (72, .aload_n 1, 1), (73, .bipush 115, 2), (75, .iload_n 2, 1), (76, .invokevirtual 178, 3), (79, .istore 4, 2), (81, .aload_n 0, 1), (82, .getfield 21, 3), (85, .iload_n 2, 1), (86, .iaload, 1), (87, .iload_n 3, 1), (88, .if_icmp .ne 28, 3), (91, .aload_n 0, 1), (92, .getfield 9, 3), (95, .iload_n 2, 1), (96, .dup2, 1), (97, .iaload, 1), (98, .iload 4, 2), (100, .isub, 1), (101, .iastore, 1), (102, .aload_n 0, 1), (103, .getfield 27, 3), (106, .iload_n 3, 1), (107, .dup2, 1), (108, .iaload, 1), (109, .iload 4, 2), (111, .iadd, 1), (112, .iastore, 1), (113, .goto 20, 3), (116, .iload 4, 2), (118, .ifCond .le 15, 3), (121, .aload_n 0, 1), (122, .dup, 1), (123, .getfield 66, 3), (126, .iconst 1, 1), (127, .iload_n 2, 1), (128, .ishl, 1), (129, .ior, 1), (130, .putfield 66, 3), (133, .iinc 2 1, 3), (136, .goto (-124), 3), (139, .return_, 1)]
theorem dc_X0_sieve : ∀ q ∈ cd_X0_sieve, decode prog_2_method_17_code q.1 = .ok (q.2.1, q.2.2) := by decide +kernel
def ch_X0_sieve_0 : List (Nat × Instr × Nat) := [(0, .aload_n 1, 1), (1, .bipush 115, 2), (3, .invokevirtual 175, 3), (6, .ifCond .ne 4, 3), (9, .return_, 1), (10, .iconst 0, 1), (11, .istore_n 2, 1), (12, .iload_n 2, 1), (13, .bipush 20, 2), (15, .if_icmp .ge 124, 3), (18, .aload_n 0, 1), (19, .getfield 21, 3), (22, .iload_n 2, 1), (23, .iaload, 1), (24, .bipush 6, 2), (26, .if_icmp .ne 10, 3)]
def ch_X0_sieve_1 : List (Nat × Instr × Nat) := [(29, .aload_n 0, 1), (30, .getfield 63, 3), (33, .goto 9, 3), (36, .aload_n 0, 1), (37, .getfield 21, 3), (40, .iload_n 2, 1), (41, .iaload, 1), (42, .istore_n 3, 1), (43, .iload_n 3, 1), (44, .invokestatic 181, 3), (47, .ifCond .eq 86, 3), (50, .aload_n 1, 1), (51, .getfield 152, 3), (54, .bipush 11, 2), (56, .iload_n 3, 1), (57, .iastore, 1)]
def ch_X0_sieve_2 : List (Nat × Instr × Nat) := [(58, .aload_n 1, 1), (59, .getfield 152, 3), (62, .bipush 12, 2), (64, .aload_n 0, 1), (65, .getfield 24, 3), (68, .iload_n 3, 1), (69, .iaload, 1), (70, .iastore, 1), (71, .aload_n 0, 1), (72, .aload_n 1, 1), (73, .bipush 115, 2), (75, .iload_n 2, 1), (76, .invokevirtual 178, 3), (79, .istore 4, 2), (81, .aload_n 0, 1), (82, .getfield 21, 3)]
def ch_X0_sieve_3 : List (Nat × Instr × Nat) := [(85, .iload_n 2, 1), (86, .iaload, 1), (87, .iload_n 3, 1), (88, .if_icmp .ne 28, 3), (91, .aload_n 0, 1), (92, .getfield 9, 3), (95, .iload_n 2, 1), (96, .dup2, 1), (97, .iaload, 1), (98, .iload 4, 2), (100, .isub, 1), (101, .iastore, 1), (102, .aload_n 0, 1), (103, .getfield 27, 3), (106, .iload_n 3, 1), (107, .dup2, 1)]
def ch_X0_sieve_4 : List (Nat × Instr × Nat) := [(108, .iaload, 1), (109, .iload 4, 2), (111, .iadd, 1), (112, .iastore, 1), (113, .goto 20, 3), (116, .iload 4, 2), (118, .ifCond .le 15, 3), (121, .aload_n 0, 1), (122, .dup, 1), (123, .getfield 66, 3), (126, .iconst 1, 1), (127, .iload_n 2, 1), (128, .ishl, 1), (129, .ior, 1), (130, .putfield 66, 3), (133, .iinc 2 1, 3)]
def ch_X0_sieve_5 : List (Nat × Instr × Nat) := [(136, .goto (-124), 3), (139, .return_, 1)]
set_option maxRecDepth 100000 in
theorem he_X0_sieve : cd_X0_sieve = ch_X0_sieve_0 ++ (ch_X0_sieve_1 ++ (ch_X0_sieve_2 ++ (ch_X0_sieve_3 ++ (ch_X0_sieve_4 ++ (ch_X0_sieve_5))))) := rfl
noncomputable def gc_X0_sieve : Nat → Option (Nat × Instr × Nat) := rv_ap 16 (rv_at ch_X0_sieve_0) (rv_ap 16 (rv_at ch_X0_sieve_1) (rv_ap 16 (rv_at ch_X0_sieve_2) (rv_ap 16 (rv_at ch_X0_sieve_3) (rv_ap 16 (rv_at ch_X0_sieve_4) (rv_at ch_X0_sieve_5)))))
theorem hc_X0_sieve : ∀ i : Nat, cd_X0_sieve[i]? = gc_X0_sieve i := by
  rw [he_X0_sieve]
  exact rv_ap_eq (l := ch_X0_sieve_0) (c := 16) (rv_ap_eq (l := ch_X0_sieve_1) (c := 16) (rv_ap_eq (l := ch_X0_sieve_2) (c := 16) (rv_ap_eq (l := ch_X0_sieve_3) (c := 16) (rv_ap_eq (l := ch_X0_sieve_4) (c := 16) (rv_at_eq ch_X0_sieve_5) rfl) rfl) rfl) rfl) rfl
def K_X0_sieve_0 : rv_K := ([rv_r 26, rv_r 7], [], [(14, 0), (14, 1), (14, 2), (14, 3), (14, 4), (14, 5), (14, 11), (14, 12), (15, 9999), (26, 16), (27, 9999), (32, 9999)], [], [], [])
def ct_X0_sieve_0 : List (Nat × rv_K) := [(2, K_X1_has_0), (25, K_X7_isBeggar_0), (44, K_X0_taken_0)]
def n_X0_sieve_0_0 : List rv_N := [
  (0, ([rv_r 26, rv_r 7, rv_u, rv_u, rv_u], [], []), [1], 42329, [], []),
  (1, ([rv_r 26, rv_r 7, rv_u, rv_u, rv_u], [rv_r 7], []), [2], 42328, [], []),
  (2, ([rv_r 26, rv_r 7, rv_u, rv_u, rv_u], [rv_i 115 115, rv_r 7], []), [3], 42327, [], [0]),
  (3, ([rv_r 26, rv_r 7, rv_u, rv_u, rv_u], [rv_i 0 1], []), [4, 5], 42326, [], []),
  (4, ([rv_r 26, rv_r 7, rv_u, rv_u, rv_u], [], []), [], 0, [], []),
  (5, ([rv_r 26, rv_r 7, rv_u, rv_u, rv_u], [], []), [6], 42325, [], []),
  (6, ([rv_r 26, rv_r 7, rv_u, rv_u, rv_u], [rv_i 0 0], []), [7], 42324, [], []),
  (7, ([rv_r 26, rv_r 7, rv_i 0 20, rv_u, rv_u], [], []), [8], 42323, [(2, (-2116))], []),
  (8, ([rv_r 26, rv_r 7, rv_i 0 20, rv_u, rv_u], [(1, 0, 0, 20, [(.inl 2, 0)], [])], []), [9], 42322, [(2, (-2116))], []),
  (9, ([rv_r 26, rv_r 7, rv_i 0 20, rv_u, rv_u], [rv_i 20 20, (1, 0, 0, 20, [(.inl 2, 0)], [])], []), [10, 81], 42321, [(2, (-2116))], []),
  (10, ([rv_r 26, rv_r 7, rv_i 0 19, rv_u, rv_u], [], []), [11], 40265, [(2, (-2116))], []),
  (11, ([rv_r 26, rv_r 7, rv_i 0 19, rv_u, rv_u], [rv_r 26], []), [12], 40264, [(2, (-2116))], []),
  (12, ([rv_r 26, rv_r 7, rv_i 0 19, rv_u, rv_u], [rv_r 30], []), [13], 40263, [(2, (-2116))], []),
  (13, ([rv_r 26, rv_r 7, rv_i 0 19, rv_u, rv_u], [(1, 0, 0, 19, [(.inl 2, 0)], []), rv_r 30], []), [14], 40262, [(2, (-2116))], []),
  (14, ([rv_r 26, rv_r 7, rv_i 0 19, rv_u, rv_u], [(1, 0, (-2147483648), 2147483647, [(.inr (30, 5002), 0)], [])], []), [15], 40261, [(2, (-2116))], []),
  (15, ([rv_r 26, rv_r 7, rv_i 0 19, rv_u, rv_u], [rv_i 6 6, (1, 0, (-2147483648), 2147483647, [(.inr (30, 5002), 0)], [])], []), [16, 19], 40260, [(2, (-2116))], [])]
def n_X0_sieve_0_1 : List rv_N := [
  (16, ([rv_r 26, rv_r 7, rv_i 0 19, rv_u, rv_u], [], [((30, 5002), 6, 6, [])]), [17], 40258, [(2, (-2116))], []),
  (17, ([rv_r 26, rv_r 7, rv_i 0 19, rv_u, rv_u], [rv_r 26], [((30, 5002), 6, 6, [])]), [18], 40257, [(2, (-2116))], []),
  (18, ([rv_r 26, rv_r 7, rv_i 0 19, rv_u, rv_u], [(1, 0, (-2147483648), 2147483647, [(.inr (26, 15), 0)], [])], [((30, 5002), 6, 6, [])]), [23], 40256, [(2, (-2116))], []),
  (19, ([rv_r 26, rv_r 7, rv_i 0 19, rv_u, rv_u], [], []), [20], 40259, [(2, (-2116))], []),
  (20, ([rv_r 26, rv_r 7, rv_i 0 19, rv_u, rv_u], [rv_r 26], []), [21], 40258, [(2, (-2116))], []),
  (21, ([rv_r 26, rv_r 7, rv_i 0 19, rv_u, rv_u], [rv_r 30], []), [22], 40257, [(2, (-2116))], []),
  (22, ([rv_r 26, rv_r 7, rv_i 0 19, rv_u, rv_u], [(1, 0, 0, 19, [(.inl 2, 0)], []), rv_r 30], []), [23], 40256, [(2, (-2116))], []),
  (23, ([rv_r 26, rv_r 7, rv_i 0 19, rv_u, rv_u], [rv_full], []), [24], 40255, [(2, (-2116))], []),
  (24, ([rv_r 26, rv_r 7, rv_i 0 19, rv_full, rv_u], [], []), [25], 40254, [(2, (-2116))], []),
  (25, ([rv_r 26, rv_r 7, rv_i 0 19, rv_full, rv_u], [(1, 0, (-2147483648), 2147483647, [(.inl 3, 0)], [])], []), [26], 40253, [(2, (-2116))], [1]),
  (26, ([rv_r 26, rv_r 7, rv_i 0 19, rv_full, rv_u], [(1, 0, 0, 1, [], [(.inl 3, 0, 5)])], []), [27, 79], 40252, [(2, (-2116))], []),
  (27, ([rv_r 26, rv_r 7, rv_i 0 19, rv_i 0 5, rv_u], [], []), [28], 40251, [(2, (-2116))], []),
  (28, ([rv_r 26, rv_r 7, rv_i 0 19, rv_i 0 5, rv_u], [rv_r 7], []), [29], 40250, [(2, (-2116))], []),
  (29, ([rv_r 26, rv_r 7, rv_i 0 19, rv_i 0 5, rv_u], [rv_r 14], []), [30], 40249, [(2, (-2116))], []),
  (30, ([rv_r 26, rv_r 7, rv_i 0 19, rv_i 0 5, rv_u], [rv_i 11 11, rv_r 14], []), [31], 40248, [(2, (-2116))], []),
  (31, ([rv_r 26, rv_r 7, rv_i 0 19, rv_i 0 5, rv_u], [(1, 0, 0, 5, [(.inl 3, 0)], []), rv_i 11 11, rv_r 14], []), [32], 40247, [(2, (-2116))], [])]
def n_X0_sieve_0_2 : List rv_N := [
  (32, ([rv_r 26, rv_r 7, rv_i 0 19, rv_i 0 5, rv_u], [], [((14, 11), 0, 5, [])]), [33], 40246, [(2, (-2116))], []),
  (33, ([rv_r 26, rv_r 7, rv_i 0 19, rv_i 0 5, rv_u], [rv_r 7], [((14, 11), 0, 5, [])]), [34], 40245, [(2, (-2116))], []),
  (34, ([rv_r 26, rv_r 7, rv_i 0 19, rv_i 0 5, rv_u], [rv_r 14], [((14, 11), 0, 5, [])]), [35], 40244, [(2, (-2116))], []),
  (35, ([rv_r 26, rv_r 7, rv_i 0 19, rv_i 0 5, rv_u], [rv_i 12 12, rv_r 14], [((14, 11), 0, 5, [])]), [36], 40243, [(2, (-2116))], []),
  (36, ([rv_r 26, rv_r 7, rv_i 0 19, rv_i 0 5, rv_u], [rv_r 26, rv_i 12 12, rv_r 14], [((14, 11), 0, 5, [])]), [37], 40242, [(2, (-2116))], []),
  (37, ([rv_r 26, rv_r 7, rv_i 0 19, rv_i 0 5, rv_u], [rv_r 31, rv_i 12 12, rv_r 14], [((14, 11), 0, 5, [])]), [38], 40241, [(2, (-2116))], []),
  (38, ([rv_r 26, rv_r 7, rv_i 0 19, rv_i 0 5, rv_u], [(1, 0, 0, 5, [(.inl 3, 0)], []), rv_r 31, rv_i 12 12, rv_r 14], [((14, 11), 0, 5, [])]), [39], 40240, [(2, (-2116))], []),
  (39, ([rv_r 26, rv_r 7, rv_i 0 19, rv_i 0 5, rv_u], [(1, 0, (-2147483648), 2147483647, [(.inr (31, 5003), 0)], []), rv_i 12 12, rv_r 14], [((14, 11), 0, 5, [])]), [40], 40239, [(2, (-2116))], []),
  (40, ([rv_r 26, rv_r 7, rv_i 0 19, rv_i 0 5, rv_u], [], [((14, 11), 0, 5, [])]), [41], 40238, [(2, (-2116))], []),
  (41, ([rv_r 26, rv_r 7, rv_i 0 19, rv_i 0 5, rv_u], [rv_r 26], [((14, 11), 0, 5, [])]), [42], 40237, [(2, (-2116))], []),
  (42, ([rv_r 26, rv_r 7, rv_i 0 19, rv_i 0 5, rv_u], [rv_r 7, rv_r 26], [((14, 11), 0, 5, [])]), [43], 40236, [(2, (-2116))], []),
  (43, ([rv_r 26, rv_r 7, rv_i 0 19, rv_i 0 5, rv_u], [rv_i 115 115, rv_r 7, rv_r 26], [((14, 11), 0, 5, [])]), [44], 40235, [(2, (-2116))], []),
  (44, ([rv_r 26, rv_r 7, rv_i 0 19, rv_i 0 5, rv_u], [(1, 0, 0, 19, [(.inl 2, 0)], []), rv_i 115 115, rv_r 7, rv_r 26], [((14, 11), 0, 5, [])]), [45], 40234, [(2, (-2116))], [2]),
  (45, ([rv_r 26, rv_r 7, rv_i 0 19, rv_i 0 5, rv_u], [(1, 0, (-2147483648), 2147483647, [], [(.inl 2, 0, 19)])], [((14, 11), 0, 5, [])]), [46], 40233, [(2, (-2116))], []),
  (46, ([rv_r 26, rv_r 7, rv_i 0 19, rv_i 0 5, rv_full], [], [((14, 11), 0, 5, [])]), [47], 40232, [(2, (-2116))], []),
  (47, ([rv_r 26, rv_r 7, rv_i 0 19, rv_i 0 5, rv_full], [rv_r 26], [((14, 11), 0, 5, [])]), [48], 40231, [(2, (-2116))], [])]
def n_X0_sieve_0_3 : List rv_N := [
  (48, ([rv_r 26, rv_r 7, rv_i 0 19, rv_i 0 5, rv_full], [rv_r 30], [((14, 11), 0, 5, [])]), [49], 40230, [(2, (-2116))], []),
  (49, ([rv_r 26, rv_r 7, rv_i 0 19, rv_i 0 5, rv_full], [(1, 0, 0, 19, [(.inl 2, 0)], []), rv_r 30], [((14, 11), 0, 5, [])]), [50], 40229, [(2, (-2116))], []),
  (50, ([rv_r 26, rv_r 7, rv_i 0 19, rv_i 0 5, rv_full], [(1, 0, (-2147483648), 2147483647, [(.inr (30, 5002), 0)], [])], [((14, 11), 0, 5, [])]), [51], 40228, [(2, (-2116))], []),
  (51, ([rv_r 26, rv_r 7, rv_i 0 19, rv_i 0 5, rv_full], [(1, 0, 0, 5, [(.inl 3, 0)], []), (1, 0, (-2147483648), 2147483647, [(.inr (30, 5002), 0)], [])], [((14, 11), 0, 5, [])]), [52, 69], 40227, [(2, (-2116))], []),
  (52, ([rv_r 26, rv_r 7, rv_i 0 19, rv_i 0 5, rv_full], [], [((14, 11), 0, 5, []), ((30, 5002), 0, 5, [])]), [53], 40226, [(2, (-2116))], []),
  (53, ([rv_r 26, rv_r 7, rv_i 0 19, rv_i 0 5, rv_full], [rv_r 26], [((14, 11), 0, 5, []), ((30, 5002), 0, 5, [])]), [54], 40225, [(2, (-2116))], []),
  (54, ([rv_r 26, rv_r 7, rv_i 0 19, rv_i 0 5, rv_full], [rv_r 27], [((14, 11), 0, 5, []), ((30, 5002), 0, 5, [])]), [55], 40224, [(2, (-2116))], []),
  (55, ([rv_r 26, rv_r 7, rv_i 0 19, rv_i 0 5, rv_full], [(1, 0, 0, 19, [(.inl 2, 0)], []), rv_r 27], [((14, 11), 0, 5, []), ((30, 5002), 0, 5, [])]), [56], 40223, [(2, (-2116))], []),
  (56, ([rv_r 26, rv_r 7, rv_i 0 19, rv_i 0 5, rv_full], [(1, 0, 0, 19, [(.inl 2, 0)], []), rv_r 27, (1, 0, 0, 19, [(.inl 2, 0)], []), rv_r 27], [((14, 11), 0, 5, []), ((30, 5002), 0, 5, [])]), [57], 40222, [(2, (-2116))], []),
  (57, ([rv_r 26, rv_r 7, rv_i 0 19, rv_i 0 5, rv_full], [(1, 0, (-2147483648), 2147483647, [(.inr (27, 5002), 0)], []), (1, 0, 0, 19, [(.inl 2, 0)], []), rv_r 27], [((14, 11), 0, 5, []), ((30, 5002), 0, 5, [])]), [58], 40221, [(2, (-2116))], []),
  (58, ([rv_r 26, rv_r 7, rv_i 0 19, rv_i 0 5, rv_full], [(1, 0, (-2147483648), 2147483647, [(.inl 4, 0)], []), (1, 0, (-2147483648), 2147483647, [(.inr (27, 5002), 0)], []), (1, 0, 0, 19, [(.inl 2, 0)], []), rv_r 27], [((14, 11), 0, 5, []), ((30, 5002), 0, 5, [])]), [59], 40220, [(2, (-2116))], []),
  (59, ([rv_r 26, rv_r 7, rv_i 0 19, rv_i 0 5, rv_full], [rv_full, (1, 0, 0, 19, [(.inl 2, 0)], []), rv_r 27], [((14, 11), 0, 5, []), ((30, 5002), 0, 5, [])]), [60], 40219, [(2, (-2116))], []),
  (60, ([rv_r 26, rv_r 7, rv_i 0 19, rv_i 0 5, rv_full], [], [((14, 11), 0, 5, []), ((30, 5002), 0, 5, [])]), [61], 40218, [(2, (-2116))], []),
  (61, ([rv_r 26, rv_r 7, rv_i 0 19, rv_i 0 5, rv_full], [rv_r 26], [((14, 11), 0, 5, []), ((30, 5002), 0, 5, [])]), [62], 40217, [(2, (-2116))], []),
  (62, ([rv_r 26, rv_r 7, rv_i 0 19, rv_i 0 5, rv_full], [rv_r 32], [((14, 11), 0, 5, []), ((30, 5002), 0, 5, [])]), [63], 40216, [(2, (-2116))], []),
  (63, ([rv_r 26, rv_r 7, rv_i 0 19, rv_i 0 5, rv_full], [(1, 0, 0, 5, [(.inl 3, 0)], []), rv_r 32], [((14, 11), 0, 5, []), ((30, 5002), 0, 5, [])]), [64], 40215, [(2, (-2116))], [])]
def n_X0_sieve_0_4 : List rv_N := [
  (64, ([rv_r 26, rv_r 7, rv_i 0 19, rv_i 0 5, rv_full], [(1, 0, 0, 5, [(.inl 3, 0)], []), rv_r 32, (1, 0, 0, 5, [(.inl 3, 0)], []), rv_r 32], [((14, 11), 0, 5, []), ((30, 5002), 0, 5, [])]), [65], 40214, [(2, (-2116))], []),
  (65, ([rv_r 26, rv_r 7, rv_i 0 19, rv_i 0 5, rv_full], [(1, 0, (-2147483648), 2147483647, [(.inr (32, 5003), 0)], []), (1, 0, 0, 5, [(.inl 3, 0)], []), rv_r 32], [((14, 11), 0, 5, []), ((30, 5002), 0, 5, [])]), [66], 40213, [(2, (-2116))], []),
  (66, ([rv_r 26, rv_r 7, rv_i 0 19, rv_i 0 5, rv_full], [(1, 0, (-2147483648), 2147483647, [(.inl 4, 0)], []), (1, 0, (-2147483648), 2147483647, [(.inr (32, 5003), 0)], []), (1, 0, 0, 5, [(.inl 3, 0)], []), rv_r 32], [((14, 11), 0, 5, []), ((30, 5002), 0, 5, [])]), [67], 40212, [(2, (-2116))], []),
  (67, ([rv_r 26, rv_r 7, rv_i 0 19, rv_i 0 5, rv_full], [rv_full, (1, 0, 0, 5, [(.inl 3, 0)], []), rv_r 32], [((14, 11), 0, 5, []), ((30, 5002), 0, 5, [])]), [68], 40211, [(2, (-2116))], []),
  (68, ([rv_r 26, rv_r 7, rv_i 0 19, rv_i 0 5, rv_full], [], [((14, 11), 0, 5, []), ((30, 5002), 0, 5, [])]), [79], 40210, [(2, (-2116))], []),
  (69, ([rv_r 26, rv_r 7, rv_i 0 19, rv_i 0 5, rv_full], [], [((14, 11), 0, 5, [])]), [70], 40219, [(2, (-2116))], []),
  (70, ([rv_r 26, rv_r 7, rv_i 0 19, rv_i 0 5, rv_full], [(1, 0, (-2147483648), 2147483647, [(.inl 4, 0)], [])], [((14, 11), 0, 5, [])]), [71, 79], 40218, [(2, (-2116))], []),
  (71, ([rv_r 26, rv_r 7, rv_i 0 19, rv_i 0 5, rv_i 1 2147483647], [], [((14, 11), 0, 5, [])]), [72], 40217, [(2, (-2116))], []),
  (72, ([rv_r 26, rv_r 7, rv_i 0 19, rv_i 0 5, rv_i 1 2147483647], [rv_r 26], [((14, 11), 0, 5, [])]), [73], 40216, [(2, (-2116))], []),
  (73, ([rv_r 26, rv_r 7, rv_i 0 19, rv_i 0 5, rv_i 1 2147483647], [rv_r 26, rv_r 26], [((14, 11), 0, 5, [])]), [74], 40215, [(2, (-2116))], []),
  (74, ([rv_r 26, rv_r 7, rv_i 0 19, rv_i 0 5, rv_i 1 2147483647], [(1, 0, (-2147483648), 2147483647, [(.inr (26, 16), 0)], []), rv_r 26], [((14, 11), 0, 5, [])]), [75], 40214, [(2, (-2116))], []),
  (75, ([rv_r 26, rv_r 7, rv_i 0 19, rv_i 0 5, rv_i 1 2147483647], [rv_i 1 1, (1, 0, (-2147483648), 2147483647, [(.inr (26, 16), 0)], []), rv_r 26], [((14, 11), 0, 5, [])]), [76], 40213, [(2, (-2116))], []),
  (76, ([rv_r 26, rv_r 7, rv_i 0 19, rv_i 0 5, rv_i 1 2147483647], [(1, 0, 0, 19, [(.inl 2, 0)], []), rv_i 1 1, (1, 0, (-2147483648), 2147483647, [(.inr (26, 16), 0)], []), rv_r 26], [((14, 11), 0, 5, [])]), [77], 40212, [(2, (-2116))], []),
  (77, ([rv_r 26, rv_r 7, rv_i 0 19, rv_i 0 5, rv_i 1 2147483647], [rv_full, (1, 0, (-2147483648), 2147483647, [(.inr (26, 16), 0)], []), rv_r 26], [((14, 11), 0, 5, [])]), [78], 40211, [(2, (-2116))], []),
  (78, ([rv_r 26, rv_r 7, rv_i 0 19, rv_i 0 5, rv_i 1 2147483647], [rv_full, rv_r 26], [((14, 11), 0, 5, [])]), [79], 40210, [(2, (-2116))], []),
  (79, ([rv_r 26, rv_r 7, rv_i 0 19, rv_full, rv_u], [], []), [80], 40209, [(2, (-2116))], [])]
def n_X0_sieve_0_5 : List rv_N := [
  (80, ([rv_r 26, rv_r 7, rv_i 1 20, rv_full, rv_u], [], []), [7], 42324, [(2, (-2116))], []),
  (81, ([rv_r 26, rv_r 7, rv_i 20 20, rv_u, rv_u], [], []), [], 0, [], [])]
def n_X0_sieve_0 : List rv_N := n_X0_sieve_0_0 ++ (n_X0_sieve_0_1 ++ (n_X0_sieve_0_2 ++ (n_X0_sieve_0_3 ++ (n_X0_sieve_0_4 ++ (n_X0_sieve_0_5)))))
noncomputable def gn_X0_sieve_0 : Nat → Option rv_N := rv_ap 16 (rv_at n_X0_sieve_0_0) (rv_ap 16 (rv_at n_X0_sieve_0_1) (rv_ap 16 (rv_at n_X0_sieve_0_2) (rv_ap 16 (rv_at n_X0_sieve_0_3) (rv_ap 16 (rv_at n_X0_sieve_0_4) (rv_at n_X0_sieve_0_5)))))
theorem hn_X0_sieve_0 : ∀ i : Nat, n_X0_sieve_0[i]? = gn_X0_sieve_0 i := rv_ap_eq (l := n_X0_sieve_0_0) (c := 16) (rv_ap_eq (l := n_X0_sieve_0_1) (c := 16) (rv_ap_eq (l := n_X0_sieve_0_2) (c := 16) (rv_ap_eq (l := n_X0_sieve_0_3) (c := 16) (rv_ap_eq (l := n_X0_sieve_0_4) (c := 16) (rv_at_eq n_X0_sieve_0_5) rfl) rfl) rfl) rfl) rfl
set_option maxRecDepth 100000 in
theorem a_X0_sieve_0 : rv_all (fm_tm, flX0, fm_wr, kcX0, klX0, K_X0_sieve_0.2.2.1, [], 5) ct_X0_sieve_0 cd_X0_sieve n_X0_sieve_0 K_X0_sieve_0 [] 0 n_X0_sieve_0 = true := rv_fast hn_X0_sieve_0 hc_X0_sieve (by decide +kernel)
theorem m_X0_sieve_0 {l : Launch} {D : va_G} {ad : Nat → Nat} {cy : Nat → ClassId} {Z : State → Heap → Prop} {Gp : fm_V → Prop} (hAd : fm_Ad fm_tm ad) (hZ : fm_Zk (fm_A fm_tm ad) Z) (hGd : fm_Gd Gp) : rv_Met l D fm_cl fm_tm ad cy fm_nt Z Gp yX0_sieve (.code yX0_sieve prog_2_method_17_code 5 none :: fm_Ts) { frames := 3, cells := 0, slots := 0, locals := 300 } K_X0_sieve_0 := rv_met hAd hZ (Or.inl (by decide +kernel)) evX0 dc_X0_sieve a_X0_sieve_0 ⟨rfl, rfl, rfl⟩ (by decide +kernel) (by decide +kernel) (by decide) (fm_gm hGd (by decide +kernel)) (rfl) (fun p e s m args below meth c Q X Y => List.forall_mem_cons.mpr ⟨rv_ctV X Y fm_Ts_good dc_X0_sieve (pc := 3) (i := 2) (idx := 175) rfl (m_X1_has_0 hAd hZ hGd) wl_X0_175 wm_X1_has wy_X1_has (by decide) ⟨rfl, rfl, rfl⟩ ⟨rfl, rfl⟩, List.forall_mem_cons.mpr ⟨rv_ctN X Y fm_Ts_good dc_X0_sieve (pc := 44) (i := 25) (idx := 181) rfl (m_X7_isBeggar_0 hAd hZ hGd) wl_X0_181 wm_X7_isBeggar wy_X7_isBeggar (by decide) rfl, List.forall_mem_cons.mpr ⟨rv_ctV X Y fm_Ts_good dc_X0_sieve (pc := 76) (i := 44) (idx := 178) rfl (m_X0_taken_0 hAd hZ hGd) wl_X0_178 wm_X0_taken wy_X0_taken (by decide) ⟨rfl, rfl, rfl⟩ ⟨rfl, rfl⟩, fun _ h => absurd h List.not_mem_nil⟩⟩⟩) (fun _ _ _ _ _ _ _ _ _ _ _ _ _ _ _ _ h => absurd h List.not_mem_nil)
def cd_X0_pass : List (Nat × Instr × Nat) := [(0, .aload_n 0, 1), (1, .aload_n 1, 1), (2, .iload_n 2, 1), (3, .invokevirtual 103, 3), (6, .istore_n 3, 1), (7, .aload_n 0, 1), (8, .invokevirtual 106, 3), (11, .aload_n 0, 1), (12, .getfield 59, 3), (15, .ifCond .eq 22, 3), (18, .aload_n 1, 1), (19, .invokevirtual 109, 3), (22, .aload_n 0, 1), (23, .aload_n 1, 1), (24, .invokevirtual 114, 3), (27, .aload_n 0, 1), (28, .aload_n 1, 1), (29, .invokevirtual 118, 3), (32, .aload_n 0, 1), (33, .aload_n 1, 1), (34, .invokevirtual 121, 3), (37, .aload_n 0, 1), (38, .dup, 1), (39, .getfield 43, 3), (42, .iconst 1, 1), (43, .iadd, 1), (44, .putfield 43, 3), (47, .iload_n 3, 1), (48, .ireturn, 1)]
theorem dc_X0_pass : ∀ q ∈ cd_X0_pass, decode prog_2_method_9_code q.1 = .ok (q.2.1, q.2.2) := by decide +kernel
def K_X0_pass_0 : rv_K := ([rv_r 26, rv_r 7, rv_full], [], [(14, 0), (14, 1), (14, 2), (14, 3), (14, 4), (14, 5), (14, 6), (14, 7), (14, 8), (14, 9), (14, 10), (14, 11), (14, 12), (14, 9999), (15, 9999), (26, 9), (26, 11), (26, 12), (26, 13), (26, 16), (27, 9999), (32, 9999), (34, 9999), (35, 9999), (37, 9999), (38, 9999)], [(0, (-2147483648), 2147483647)], [], [])
def ct_X0_pass_0 : List (Nat × rv_K) := [(3, K_X0_spill_0), (6, K_X0_climb_0), (11, K_X1_forgetWho_0), (14, K_X0_blow_0), (17, K_X0_wash_0), (20, K_X0_sieve_0)]
def n_X0_pass_0_0 : List rv_N := [
  (0, ([rv_r 26, rv_r 7, rv_full, rv_u], [], []), [1], 28, [], []),
  (1, ([rv_r 26, rv_r 7, rv_full, rv_u], [rv_r 26], []), [2], 27, [], []),
  (2, ([rv_r 26, rv_r 7, rv_full, rv_u], [rv_r 7, rv_r 26], []), [3], 26, [], []),
  (3, ([rv_r 26, rv_r 7, rv_full, rv_u], [(1, 0, (-2147483648), 2147483647, [(.inl 2, 0)], []), rv_r 7, rv_r 26], []), [4], 25, [], [0]),
  (4, ([rv_r 26, rv_r 7, rv_full, rv_u], [rv_full], []), [5], 24, [], []),
  (5, ([rv_r 26, rv_r 7, rv_full, rv_full], [], []), [6], 23, [], []),
  (6, ([rv_r 26, rv_r 7, rv_full, rv_full], [rv_r 26], []), [7], 22, [], [1]),
  (7, ([rv_r 26, rv_r 7, rv_full, rv_full], [], []), [8], 21, [], []),
  (8, ([rv_r 26, rv_r 7, rv_full, rv_full], [rv_r 26], []), [9], 20, [], []),
  (9, ([rv_r 26, rv_r 7, rv_full, rv_full], [(1, 0, 0, 1, [(.inr (26, 14), 0)], [])], []), [10, 21], 19, [], []),
  (10, ([rv_r 26, rv_r 7, rv_full, rv_full], [], [((26, 14), 1, 1, [])]), [11], 18, [], []),
  (11, ([rv_r 26, rv_r 7, rv_full, rv_full], [rv_r 7], [((26, 14), 1, 1, [])]), [12], 17, [], [2]),
  (12, ([rv_r 26, rv_r 7, rv_full, rv_full], [], [((26, 14), 1, 1, [])]), [13], 16, [], []),
  (13, ([rv_r 26, rv_r 7, rv_full, rv_full], [rv_r 26], [((26, 14), 1, 1, [])]), [14], 15, [], []),
  (14, ([rv_r 26, rv_r 7, rv_full, rv_full], [rv_r 7, rv_r 26], [((26, 14), 1, 1, [])]), [15], 14, [], [3]),
  (15, ([rv_r 26, rv_r 7, rv_full, rv_full], [], [((26, 14), 1, 1, [])]), [16], 13, [], [])]
def n_X0_pass_0_1 : List rv_N := [
  (16, ([rv_r 26, rv_r 7, rv_full, rv_full], [rv_r 26], [((26, 14), 1, 1, [])]), [17], 12, [], []),
  (17, ([rv_r 26, rv_r 7, rv_full, rv_full], [rv_r 7, rv_r 26], [((26, 14), 1, 1, [])]), [18], 11, [], [4]),
  (18, ([rv_r 26, rv_r 7, rv_full, rv_full], [], [((26, 14), 1, 1, [])]), [19], 10, [], []),
  (19, ([rv_r 26, rv_r 7, rv_full, rv_full], [rv_r 26], [((26, 14), 1, 1, [])]), [20], 9, [], []),
  (20, ([rv_r 26, rv_r 7, rv_full, rv_full], [rv_r 7, rv_r 26], [((26, 14), 1, 1, [])]), [21], 8, [], [5]),
  (21, ([rv_r 26, rv_r 7, rv_full, rv_full], [], []), [22], 7, [], []),
  (22, ([rv_r 26, rv_r 7, rv_full, rv_full], [rv_r 26], []), [23], 6, [], []),
  (23, ([rv_r 26, rv_r 7, rv_full, rv_full], [rv_r 26, rv_r 26], []), [24], 5, [], []),
  (24, ([rv_r 26, rv_r 7, rv_full, rv_full], [(1, 0, (-2147483648), 2147483647, [(.inr (26, 9), 0)], []), rv_r 26], []), [25], 4, [], []),
  (25, ([rv_r 26, rv_r 7, rv_full, rv_full], [rv_i 1 1, (1, 0, (-2147483648), 2147483647, [(.inr (26, 9), 0)], []), rv_r 26], []), [26], 3, [], []),
  (26, ([rv_r 26, rv_r 7, rv_full, rv_full], [(1, 0, (-2147483648), 2147483647, [(.inr (26, 9), 1)], []), rv_r 26], []), [27], 2, [], []),
  (27, ([rv_r 26, rv_r 7, rv_full, rv_full], [], []), [28], 1, [], []),
  (28, ([rv_r 26, rv_r 7, rv_full, rv_full], [(1, 0, (-2147483648), 2147483647, [(.inl 3, 0)], [])], []), [], 0, [], [])]
def n_X0_pass_0 : List rv_N := n_X0_pass_0_0 ++ (n_X0_pass_0_1)
noncomputable def gn_X0_pass_0 : Nat → Option rv_N := rv_ap 16 (rv_at n_X0_pass_0_0) (rv_at n_X0_pass_0_1)
theorem hn_X0_pass_0 : ∀ i : Nat, n_X0_pass_0[i]? = gn_X0_pass_0 i := rv_ap_eq (l := n_X0_pass_0_0) (c := 16) (rv_at_eq n_X0_pass_0_1) rfl
set_option maxRecDepth 100000 in
theorem a_X0_pass_0 : rv_all (fm_tm, flX0, fm_wr, kcX0, klX0, K_X0_pass_0.2.2.1, [], 4) ct_X0_pass_0 cd_X0_pass n_X0_pass_0 K_X0_pass_0 [] 0 n_X0_pass_0 = true := rv_fast hn_X0_pass_0 (rv_at_eq cd_X0_pass) (by decide +kernel)
theorem m_X0_pass_0 {l : Launch} {D : va_G} {ad : Nat → Nat} {cy : Nat → ClassId} {Z : State → Heap → Prop} {Gp : fm_V → Prop} (hAd : fm_Ad fm_tm ad) (hZ : fm_Zk (fm_A fm_tm ad) Z) (hGd : fm_Gd Gp) : rv_Met l D fm_cl fm_tm ad cy fm_nt Z Gp yX0_pass (.code yX0_pass prog_2_method_9_code 4 (some .int) :: fm_Ts) { frames := 4, cells := 0, slots := 0, locals := 400 } K_X0_pass_0 := rv_met hAd hZ (Or.inl (by decide +kernel)) evX0 dc_X0_pass a_X0_pass_0 ⟨rfl, rfl, rfl⟩ (by decide +kernel) (by decide +kernel) (by decide) (fm_gm hGd (by decide +kernel)) (Or.inl rfl) (fun p e s m args below meth c Q X Y => List.forall_mem_cons.mpr ⟨rv_ctV X Y fm_Ts_good dc_X0_pass (pc := 3) (i := 3) (idx := 103) rfl (m_X0_spill_0 hAd hZ hGd) wl_X0_103 wm_X0_spill wy_X0_spill (by decide) ⟨rfl, rfl, rfl⟩ ⟨rfl, rfl⟩, List.forall_mem_cons.mpr ⟨rv_ctV X Y fm_Ts_good dc_X0_pass (pc := 8) (i := 6) (idx := 106) rfl (m_X0_climb_0 hAd hZ hGd) wl_X0_106 wm_X0_climb wy_X0_climb (by decide) ⟨rfl, rfl, rfl⟩ ⟨rfl, rfl⟩, List.forall_mem_cons.mpr ⟨rv_ctV X Y fm_Ts_good dc_X0_pass (pc := 19) (i := 11) (idx := 109) rfl (m_X1_forgetWho_0 hAd hZ hGd) wl_X0_109 wm_X1_forgetWho wy_X1_forgetWho (by decide) ⟨rfl, rfl, rfl⟩ ⟨rfl, rfl⟩, List.forall_mem_cons.mpr ⟨rv_ctV X Y fm_Ts_good dc_X0_pass (pc := 24) (i := 14) (idx := 114) rfl (m_X0_blow_0 hAd hZ hGd) wl_X0_114 wm_X0_blow wy_X0_blow (by decide) ⟨rfl, rfl, rfl⟩ ⟨rfl, rfl⟩, List.forall_mem_cons.mpr ⟨rv_ctV X Y fm_Ts_good dc_X0_pass (pc := 29) (i := 17) (idx := 118) rfl (m_X0_wash_0 hAd hZ hGd) wl_X0_118 wm_X0_wash wy_X0_wash (by decide) ⟨rfl, rfl, rfl⟩ ⟨rfl, rfl⟩, List.forall_mem_cons.mpr ⟨rv_ctV X Y fm_Ts_good dc_X0_pass (pc := 34) (i := 20) (idx := 121) rfl (m_X0_sieve_0 hAd hZ hGd) wl_X0_121 wm_X0_sieve wy_X0_sieve (by decide) ⟨rfl, rfl, rfl⟩ ⟨rfl, rfl⟩, fun _ h => absurd h List.not_mem_nil⟩⟩⟩⟩⟩⟩) (fun _ _ _ _ _ _ _ _ _ _ _ _ _ _ _ _ h => absurd h List.not_mem_nil)
def cd_X0_passDrawn : List (Nat × Instr × Nat) := [(0, .iconst 0, 1), (1, .istore_n 3, 1), (2, .iconst 0, 1), (3, .istore 4, 2), (5, .iload 4, 2), (7, .iload_n 2, 1), (8, .if_icmp .ge 21, 3), (11, .iload_n 3, 1), (12, .aload_n 0, 1), (13, .aload_n 1, 1), (14, .aload_n 0, 1), (15, .invokevirtual 94, 3), (18, .invokevirtual 98, 3), (21, .iadd, 1), (22, .istore_n 3, 1), (23, .iinc 4 1, 3), (26, .goto (-21), 3), (29, .iload_n 3, 1), (30, .ireturn, 1)]
theorem dc_X0_passDrawn : ∀ q ∈ cd_X0_passDrawn, decode prog_2_method_6_code q.1 = .ok (q.2.1, q.2.2) := by decide +kernel
def K_X0_passDrawn_0 : rv_K := ([rv_r 26, rv_r 7, rv_full], [], [(14, 0), (14, 1), (14, 2), (14, 3), (14, 4), (14, 5), (14, 6), (14, 7), (14, 8), (14, 9), (14, 10), (14, 11), (14, 12), (14, 9999), (15, 9999), (26, 9), (26, 10), (26, 11), (26, 12), (26, 13), (26, 16), (27, 9999), (32, 9999), (34, 9999), (35, 9999), (37, 9999), (38, 9999)], [(0, (-2147483648), 2147483647)], [], [])
def ct_X0_passDrawn_0 : List (Nat × rv_K) := [(11, K_X0_nextDraw_0), (12, K_X0_pass_0)]
def n_X0_passDrawn_0_0 : List rv_N := [
  (0, ([rv_r 26, rv_r 7, rv_full, rv_u, rv_u], [], []), [1], 133738894596671274958, [], []),
  (1, ([rv_r 26, rv_r 7, rv_full, rv_u, rv_u], [rv_i 0 0], []), [2], 133738894596671274957, [], []),
  (2, ([rv_r 26, rv_r 7, rv_full, rv_i 0 0, rv_u], [], []), [3], 133738894596671274956, [], []),
  (3, ([rv_r 26, rv_r 7, rv_full, rv_i 0 0, rv_u], [rv_i 0 0], []), [4], 133738894596671274955, [], []),
  (4, ([rv_r 26, rv_r 7, rv_full, rv_full, rv_i 0 2147483647], [], []), [5], 133738894596671274954, [(4, (-62277025850))], []),
  (5, ([rv_r 26, rv_r 7, rv_full, rv_full, rv_i 0 2147483647], [(1, 0, 0, 2147483647, [(.inl 4, 0)], [])], []), [6], 133738894596671274953, [(4, (-62277025850))], []),
  (6, ([rv_r 26, rv_r 7, rv_full, rv_full, rv_i 0 2147483647], [(1, 0, (-2147483648), 2147483647, [(.inl 2, 0)], []), (1, 0, 0, 2147483647, [(.inl 4, 0)], [])], []), [7, 17], 133738894596671274952, [(4, (-62277025850))], []),
  (7, ([rv_r 26, rv_r 7, rv_i 1 2147483647, rv_full, rv_i 0 2147483646], [], []), [8], 133738894534394249114, [(4, (-62277025850))], []),
  (8, ([rv_r 26, rv_r 7, rv_i 1 2147483647, rv_full, rv_i 0 2147483646], [(1, 0, (-2147483648), 2147483647, [(.inl 3, 0)], [])], []), [9], 133738894534394249113, [(4, (-62277025850))], []),
  (9, ([rv_r 26, rv_r 7, rv_i 1 2147483647, rv_full, rv_i 0 2147483646], [rv_r 26, (1, 0, (-2147483648), 2147483647, [(.inl 3, 0)], [])], []), [10], 133738894534394249112, [(4, (-62277025850))], []),
  (10, ([rv_r 26, rv_r 7, rv_i 1 2147483647, rv_full, rv_i 0 2147483646], [rv_r 7, rv_r 26, (1, 0, (-2147483648), 2147483647, [(.inl 3, 0)], [])], []), [11], 133738894534394249111, [(4, (-62277025850))], []),
  (11, ([rv_r 26, rv_r 7, rv_i 1 2147483647, rv_full, rv_i 0 2147483646], [rv_r 26, rv_r 7, rv_r 26, (1, 0, (-2147483648), 2147483647, [(.inl 3, 0)], [])], []), [12], 133738894534394249110, [(4, (-62277025850))], [0]),
  (12, ([rv_r 26, rv_r 7, rv_i 1 2147483647, rv_full, rv_i 0 2147483646], [rv_full, rv_r 7, rv_r 26, (1, 0, (-2147483648), 2147483647, [(.inl 3, 0)], [])], []), [13], 133738894534394249109, [(4, (-62277025850))], [1]),
  (13, ([rv_r 26, rv_r 7, rv_i 1 2147483647, rv_full, rv_i 0 2147483646], [rv_full, (1, 0, (-2147483648), 2147483647, [(.inl 3, 0)], [])], []), [14], 133738894534394249108, [(4, (-62277025850))], []),
  (14, ([rv_r 26, rv_r 7, rv_i 1 2147483647, rv_full, rv_i 0 2147483646], [rv_full], []), [15], 133738894534394249107, [(4, (-62277025850))], []),
  (15, ([rv_r 26, rv_r 7, rv_i 1 2147483647, rv_full, rv_i 0 2147483646], [], []), [16], 133738894534394249106, [(4, (-62277025850))], [])]
def n_X0_passDrawn_0_1 : List rv_N := [
  (16, ([rv_r 26, rv_r 7, rv_i 1 2147483647, rv_full, rv_i 1 2147483647], [], []), [4], 133738894596671274955, [(4, (-62277025850))], []),
  (17, ([rv_r 26, rv_r 7, rv_full, rv_full, rv_i 0 2147483647], [], []), [18], 1, [], []),
  (18, ([rv_r 26, rv_r 7, rv_full, rv_full, rv_i 0 2147483647], [(1, 0, (-2147483648), 2147483647, [(.inl 3, 0)], [])], []), [], 0, [], [])]
def n_X0_passDrawn_0 : List rv_N := n_X0_passDrawn_0_0 ++ (n_X0_passDrawn_0_1)
noncomputable def gn_X0_passDrawn_0 : Nat → Option rv_N := rv_ap 16 (rv_at n_X0_passDrawn_0_0) (rv_at n_X0_passDrawn_0_1)
theorem hn_X0_passDrawn_0 : ∀ i : Nat, n_X0_passDrawn_0[i]? = gn_X0_passDrawn_0 i := rv_ap_eq (l := n_X0_passDrawn_0_0) (c := 16) (rv_at_eq n_X0_passDrawn_0_1) rfl
set_option maxRecDepth 100000 in
theorem a_X0_passDrawn_0 : rv_all (fm_tm, flX0, fm_wr, kcX0, klX0, K_X0_passDrawn_0.2.2.1, [], 5) ct_X0_passDrawn_0 cd_X0_passDrawn n_X0_passDrawn_0 K_X0_passDrawn_0 [] 0 n_X0_passDrawn_0 = true := rv_fast hn_X0_passDrawn_0 (rv_at_eq cd_X0_passDrawn) (by decide +kernel)
theorem m_X0_passDrawn_0 {l : Launch} {D : va_G} {ad : Nat → Nat} {cy : Nat → ClassId} {Z : State → Heap → Prop} {Gp : fm_V → Prop} (hAd : fm_Ad fm_tm ad) (hZ : fm_Zk (fm_A fm_tm ad) Z) (hGd : fm_Gd Gp) : rv_Met l D fm_cl fm_tm ad cy fm_nt Z Gp yX0_passDrawn (.code yX0_passDrawn prog_2_method_6_code 5 (some .int) :: fm_Ts) { frames := 5, cells := 0, slots := 0, locals := 500 } K_X0_passDrawn_0 := rv_met hAd hZ (Or.inl (by decide +kernel)) evX0 dc_X0_passDrawn a_X0_passDrawn_0 ⟨rfl, rfl, rfl⟩ (by decide +kernel) (by decide +kernel) (by decide) (fm_gm hGd (by decide +kernel)) (Or.inl rfl) (fun p e s m args below meth c Q X Y => List.forall_mem_cons.mpr ⟨rv_ctV X Y fm_Ts_good dc_X0_passDrawn (pc := 15) (i := 11) (idx := 94) rfl (m_X0_nextDraw_0 hAd hZ hGd) wl_X0_94 wm_X0_nextDraw wy_X0_nextDraw (by decide) ⟨rfl, rfl, rfl⟩ ⟨rfl, rfl⟩, List.forall_mem_cons.mpr ⟨rv_ctV X Y fm_Ts_good dc_X0_passDrawn (pc := 18) (i := 12) (idx := 98) rfl (m_X0_pass_0 hAd hZ hGd) wl_X0_98 wm_X0_pass wy_X0_pass (by decide) ⟨rfl, rfl, rfl⟩ ⟨rfl, rfl⟩, fun _ h => absurd h List.not_mem_nil⟩⟩) (fun _ _ _ _ _ _ _ _ _ _ _ _ _ _ _ _ h => absurd h List.not_mem_nil)
def cd_X7_hours : List (Nat × Instr × Nat) := [(0, .iload_n 1, 1), (1, .iconst 1, 1), (2, .bipush 40, 2), (4, .invokestatic 80, 3), (7, .ifCond .eq 18, 3), (10, .aload_n 0, 1), (11, .getfield 38, 3), (14, .aload_n 0, 1), (15, .getfield 22, 3), (18, .iload_n 1, 1), (19, .invokevirtual 151, 3), (22, .goto 4, 3), (25, .iconst (-1), 1), (26, .ireturn, 1)]
theorem dc_X7_hours : ∀ q ∈ cd_X7_hours, decode prog_1_method_9_code q.1 = .ok (q.2.1, q.2.2) := by decide +kernel
def K_X7_hours_0 : rv_K := ([rv_r 0, rv_full], [], [(14, 0), (14, 1), (14, 2), (14, 3), (14, 4), (14, 5), (14, 6), (14, 7), (14, 8), (14, 9), (14, 10), (14, 11), (14, 12), (14, 9999), (15, 9999), (26, 9), (26, 10), (26, 11), (26, 12), (26, 13), (26, 16), (27, 9999), (32, 9999), (34, 9999), (35, 9999), (37, 9999), (38, 9999)], [(0, (-2147483648), 2147483647)], [], [])
def ct_X7_hours_0 : List (Nat × rv_K) := [(3, K_X7_isWithin_7), (10, K_X0_passDrawn_0)]
def n_X7_hours_0 : List rv_N := [
  (0, ([rv_r 0, rv_full], [], []), [1], 12, [], []),
  (1, ([rv_r 0, rv_full], [(1, 0, (-2147483648), 2147483647, [(.inl 1, 0)], [])], []), [2], 11, [], []),
  (2, ([rv_r 0, rv_full], [rv_i 1 1, (1, 0, (-2147483648), 2147483647, [(.inl 1, 0)], [])], []), [3], 10, [], []),
  (3, ([rv_r 0, rv_full], [rv_i 40 40, rv_i 1 1, (1, 0, (-2147483648), 2147483647, [(.inl 1, 0)], [])], []), [4], 9, [], [0]),
  (4, ([rv_r 0, rv_full], [(1, 0, 0, 1, [], [(.inl 1, 1, 40)])], []), [5, 12], 8, [], []),
  (5, ([rv_r 0, rv_i 1 40], [], []), [6], 7, [], []),
  (6, ([rv_r 0, rv_i 1 40], [rv_r 0], []), [7], 6, [], []),
  (7, ([rv_r 0, rv_i 1 40], [rv_r 26], []), [8], 5, [], []),
  (8, ([rv_r 0, rv_i 1 40], [rv_r 0, rv_r 26], []), [9], 4, [], []),
  (9, ([rv_r 0, rv_i 1 40], [rv_r 7, rv_r 26], []), [10], 3, [], []),
  (10, ([rv_r 0, rv_i 1 40], [(1, 0, 1, 40, [(.inl 1, 0)], []), rv_r 7, rv_r 26], []), [11], 2, [], [1]),
  (11, ([rv_r 0, rv_i 1 40], [rv_full], []), [14], 1, [], []),
  (12, ([rv_r 0, rv_full], [], []), [13], 1, [], []),
  (13, ([rv_r 0, rv_full], [rv_i (-1) (-1)], []), [], 0, [], []),
  (13, ([rv_r 0, rv_i 1 40], [rv_full], []), [], 0, [], [])]
set_option maxRecDepth 100000 in
theorem a_X7_hours_0 : rv_all (fm_tm, flX7, fm_wr, kcX7, klX7, K_X7_hours_0.2.2.1, [], 2) ct_X7_hours_0 cd_X7_hours n_X7_hours_0 K_X7_hours_0 [] 0 n_X7_hours_0 = true := rv_fast (rv_at_eq n_X7_hours_0) (rv_at_eq cd_X7_hours) (by decide +kernel)
theorem m_X7_hours_0 {l : Launch} {D : va_G} {ad : Nat → Nat} {cy : Nat → ClassId} {Z : State → Heap → Prop} {Gp : fm_V → Prop} (hAd : fm_Ad fm_tm ad) (hZ : fm_Zk (fm_A fm_tm ad) Z) (hGd : fm_Gd Gp) : rv_Met l D fm_cl fm_tm ad cy fm_nt Z Gp yX7_hours (.code yX7_hours prog_1_method_9_code 2 (some .int) :: fm_Ts) { frames := 6, cells := 0, slots := 0, locals := 600 } K_X7_hours_0 := rv_met hAd hZ (Or.inl (by decide +kernel)) evX7 dc_X7_hours a_X7_hours_0 ⟨rfl, rfl, rfl⟩ (by decide +kernel) (by decide +kernel) (by decide) (fm_gm hGd (by decide +kernel)) (Or.inl rfl) (fun p e s m args below meth c Q X Y => List.forall_mem_cons.mpr ⟨rv_ctS X Y fm_Ts_good dc_X7_hours (pc := 4) (i := 3) (idx := 80) rfl (m_X7_isWithin_7 hAd hZ hGd) wl_X7_80 wm_X7_isWithin wy_X7_isWithin (by decide) rfl, List.forall_mem_cons.mpr ⟨rv_ctV X Y fm_Ts_good dc_X7_hours (pc := 19) (i := 10) (idx := 151) rfl (m_X0_passDrawn_0 hAd hZ hGd) wl_X7_151 wm_X0_passDrawn wy_X0_passDrawn (by decide) ⟨rfl, rfl, rfl⟩ ⟨rfl, rfl⟩, fun _ h => absurd h List.not_mem_nil⟩⟩) (fun _ _ _ _ _ _ _ _ _ _ _ _ _ _ _ _ h => absurd h List.not_mem_nil)
def cd_X7_hour : List (Nat × Instr × Nat) := [(0, .iload_n 1, 1), (1, .iconst 0, 1), (2, .bipush 9, 2), (4, .invokestatic 80, 3), (7, .ifCond .eq 18, 3), (10, .aload_n 0, 1), (11, .getfield 38, 3), (14, .aload_n 0, 1), (15, .getfield 22, 3), (18, .iload_n 1, 1), (19, .invokevirtual 155, 3), (22, .goto 4, 3), (25, .iconst (-1), 1), (26, .ireturn, 1)]
theorem dc_X7_hour : ∀ q ∈ cd_X7_hour, decode prog_1_method_10_code q.1 = .ok (q.2.1, q.2.2) := by decide +kernel
def K_X7_hour_0 : rv_K := ([rv_r 0, rv_full], [], [(14, 0), (14, 1), (14, 2), (14, 3), (14, 4), (14, 5), (14, 6), (14, 7), (14, 8), (14, 9), (14, 10), (14, 11), (14, 12), (14, 9999), (15, 9999), (26, 9), (26, 11), (26, 12), (26, 13), (26, 16), (27, 9999), (32, 9999), (34, 9999), (35, 9999), (37, 9999), (38, 9999)], [(0, (-2147483648), 2147483647)], [], [])
def ct_X7_hour_0 : List (Nat × rv_K) := [(3, K_X7_isWithin_3), (10, K_X0_pass_0)]
def n_X7_hour_0 : List rv_N := [
  (0, ([rv_r 0, rv_full], [], []), [1], 12, [], []),
  (1, ([rv_r 0, rv_full], [(1, 0, (-2147483648), 2147483647, [(.inl 1, 0)], [])], []), [2], 11, [], []),
  (2, ([rv_r 0, rv_full], [rv_i 0 0, (1, 0, (-2147483648), 2147483647, [(.inl 1, 0)], [])], []), [3], 10, [], []),
  (3, ([rv_r 0, rv_full], [rv_i 9 9, rv_i 0 0, (1, 0, (-2147483648), 2147483647, [(.inl 1, 0)], [])], []), [4], 9, [], [0]),
  (4, ([rv_r 0, rv_full], [(1, 0, 0, 1, [], [(.inl 1, 0, 9)])], []), [5, 12], 8, [], []),
  (5, ([rv_r 0, rv_i 0 9], [], []), [6], 7, [], []),
  (6, ([rv_r 0, rv_i 0 9], [rv_r 0], []), [7], 6, [], []),
  (7, ([rv_r 0, rv_i 0 9], [rv_r 26], []), [8], 5, [], []),
  (8, ([rv_r 0, rv_i 0 9], [rv_r 0, rv_r 26], []), [9], 4, [], []),
  (9, ([rv_r 0, rv_i 0 9], [rv_r 7, rv_r 26], []), [10], 3, [], []),
  (10, ([rv_r 0, rv_i 0 9], [(1, 0, 0, 9, [(.inl 1, 0)], []), rv_r 7, rv_r 26], []), [11], 2, [], [1]),
  (11, ([rv_r 0, rv_i 0 9], [rv_full], []), [14], 1, [], []),
  (12, ([rv_r 0, rv_full], [], []), [13], 1, [], []),
  (13, ([rv_r 0, rv_full], [rv_i (-1) (-1)], []), [], 0, [], []),
  (13, ([rv_r 0, rv_i 0 9], [rv_full], []), [], 0, [], [])]
set_option maxRecDepth 100000 in
theorem a_X7_hour_0 : rv_all (fm_tm, flX7, fm_wr, kcX7, klX7, K_X7_hour_0.2.2.1, [], 2) ct_X7_hour_0 cd_X7_hour n_X7_hour_0 K_X7_hour_0 [] 0 n_X7_hour_0 = true := rv_fast (rv_at_eq n_X7_hour_0) (rv_at_eq cd_X7_hour) (by decide +kernel)
theorem m_X7_hour_0 {l : Launch} {D : va_G} {ad : Nat → Nat} {cy : Nat → ClassId} {Z : State → Heap → Prop} {Gp : fm_V → Prop} (hAd : fm_Ad fm_tm ad) (hZ : fm_Zk (fm_A fm_tm ad) Z) (hGd : fm_Gd Gp) : rv_Met l D fm_cl fm_tm ad cy fm_nt Z Gp yX7_hour (.code yX7_hour prog_1_method_10_code 2 (some .int) :: fm_Ts) { frames := 5, cells := 0, slots := 0, locals := 500 } K_X7_hour_0 := rv_met hAd hZ (Or.inl (by decide +kernel)) evX7 dc_X7_hour a_X7_hour_0 ⟨rfl, rfl, rfl⟩ (by decide +kernel) (by decide +kernel) (by decide) (fm_gm hGd (by decide +kernel)) (Or.inl rfl) (fun p e s m args below meth c Q X Y => List.forall_mem_cons.mpr ⟨rv_ctS X Y fm_Ts_good dc_X7_hour (pc := 4) (i := 3) (idx := 80) rfl (m_X7_isWithin_3 hAd hZ hGd) wl_X7_80 wm_X7_isWithin wy_X7_isWithin (by decide) rfl, List.forall_mem_cons.mpr ⟨rv_ctV X Y fm_Ts_good dc_X7_hour (pc := 19) (i := 10) (idx := 155) rfl (m_X0_pass_0 hAd hZ hGd) wl_X7_155 wm_X0_pass wy_X0_pass (by decide) ⟨rfl, rfl, rfl⟩ ⟨rfl, rfl⟩, fun _ h => absurd h List.not_mem_nil⟩⟩) (fun _ _ _ _ _ _ _ _ _ _ _ _ _ _ _ _ h => absurd h List.not_mem_nil)
def cd_X7_yardIs : List (Nat × Instr × Nat) := [(0, .iload_n 1, 1), (1, .invokestatic 75, 3), (4, .ifCond .ne 7, 3), (7, .sipush (-1000), 3), (10, .ireturn, 1), (11, .iload_n 2, 1), (12, .tableswitch 72 0 3 #[32, 42, 52, 62], 32), (44, .aload_n 0, 1), (45, .getfield 38, 3), (48, .getfield 84, 3), (51, .iload_n 1, 1), (52, .iaload, 1), (53, .ireturn, 1), (54, .aload_n 0, 1), (55, .getfield 38, 3), (58, .getfield 87, 3), (61, .iload_n 1, 1), (62, .iaload, 1), (63, .ireturn, 1), (64, .aload_n 0, 1), (65, .getfield 38, 3), (68, .getfield 90, 3), (71, .iload_n 1, 1), (72, .iaload, 1), (73, .ireturn, 1), (74, .aload_n 0, 1), (75, .getfield 38, 3), (78, .getfield 121, 3), (81, .iload_n 1, 1), (82, .iaload, 1), (83, .ireturn, 1), (84, .sipush (-1000), 3), (87, .ireturn, 1)]
theorem dc_X7_yardIs : ∀ q ∈ cd_X7_yardIs, decode prog_1_method_11_code q.1 = .ok (q.2.1, q.2.2) := by decide +kernel
def ch_X7_yardIs_0 : List (Nat × Instr × Nat) := [(0, .iload_n 1, 1), (1, .invokestatic 75, 3), (4, .ifCond .ne 7, 3), (7, .sipush (-1000), 3), (10, .ireturn, 1), (11, .iload_n 2, 1), (12, .tableswitch 72 0 3 #[32, 42, 52, 62], 32), (44, .aload_n 0, 1), (45, .getfield 38, 3), (48, .getfield 84, 3), (51, .iload_n 1, 1), (52, .iaload, 1), (53, .ireturn, 1), (54, .aload_n 0, 1), (55, .getfield 38, 3), (58, .getfield 87, 3)]
def ch_X7_yardIs_1 : List (Nat × Instr × Nat) := [(61, .iload_n 1, 1), (62, .iaload, 1), (63, .ireturn, 1), (64, .aload_n 0, 1), (65, .getfield 38, 3), (68, .getfield 90, 3), (71, .iload_n 1, 1), (72, .iaload, 1), (73, .ireturn, 1), (74, .aload_n 0, 1), (75, .getfield 38, 3), (78, .getfield 121, 3), (81, .iload_n 1, 1), (82, .iaload, 1), (83, .ireturn, 1), (84, .sipush (-1000), 3)]
def ch_X7_yardIs_2 : List (Nat × Instr × Nat) := [(87, .ireturn, 1)]
set_option maxRecDepth 100000 in
theorem he_X7_yardIs : cd_X7_yardIs = ch_X7_yardIs_0 ++ (ch_X7_yardIs_1 ++ (ch_X7_yardIs_2)) := rfl
noncomputable def gc_X7_yardIs : Nat → Option (Nat × Instr × Nat) := rv_ap 16 (rv_at ch_X7_yardIs_0) (rv_ap 16 (rv_at ch_X7_yardIs_1) (rv_at ch_X7_yardIs_2))
theorem hc_X7_yardIs : ∀ i : Nat, cd_X7_yardIs[i]? = gc_X7_yardIs i := by
  rw [he_X7_yardIs]
  exact rv_ap_eq (l := ch_X7_yardIs_0) (c := 16) (rv_ap_eq (l := ch_X7_yardIs_1) (c := 16) (rv_at_eq ch_X7_yardIs_2) rfl) rfl
def K_X7_yardIs_0 : rv_K := ([rv_r 0, rv_full, rv_full], [], [], [(0, (-2147483648), 2147483647)], [], [])
def ct_X7_yardIs_0 : List (Nat × rv_K) := [(1, K_X7_isYard_0)]
def n_X7_yardIs_0_0 : List rv_N := [
  (0, ([rv_r 0, rv_full, rv_full], [], []), [1], 10, [], []),
  (1, ([rv_r 0, rv_full, rv_full], [(1, 0, (-2147483648), 2147483647, [(.inl 1, 0)], [])], []), [2], 9, [], [0]),
  (2, ([rv_r 0, rv_full, rv_full], [(1, 0, 0, 1, [], [(.inl 1, 0, 19)])], []), [3, 5], 8, [], []),
  (3, ([rv_r 0, rv_full, rv_full], [], []), [4], 1, [], []),
  (4, ([rv_r 0, rv_full, rv_full], [rv_i (-1000) (-1000)], []), [], 0, [], []),
  (5, ([rv_r 0, rv_i 0 19, rv_full], [], []), [6], 7, [], []),
  (6, ([rv_r 0, rv_i 0 19, rv_full], [(1, 0, (-2147483648), 2147483647, [(.inl 2, 0)], [])], []), [7, 13, 19, 25, 31], 6, [], []),
  (7, ([rv_r 0, rv_i 0 19, rv_i 0 0], [], []), [8], 5, [], []),
  (8, ([rv_r 0, rv_i 0 19, rv_i 0 0], [rv_r 0], []), [9], 4, [], []),
  (9, ([rv_r 0, rv_i 0 19, rv_i 0 0], [rv_r 26], []), [10], 3, [], []),
  (10, ([rv_r 0, rv_i 0 19, rv_i 0 0], [rv_r 27], []), [11], 2, [], []),
  (11, ([rv_r 0, rv_i 0 19, rv_i 0 0], [(1, 0, 0, 19, [(.inl 1, 0)], []), rv_r 27], []), [12], 1, [], []),
  (12, ([rv_r 0, rv_i 0 19, rv_i 0 0], [(1, 0, (-2147483648), 2147483647, [(.inr (27, 5001), 0)], [])], []), [], 0, [], []),
  (13, ([rv_r 0, rv_i 0 19, rv_i 1 1], [], []), [14], 5, [], []),
  (14, ([rv_r 0, rv_i 0 19, rv_i 1 1], [rv_r 0], []), [15], 4, [], []),
  (15, ([rv_r 0, rv_i 0 19, rv_i 1 1], [rv_r 26], []), [16], 3, [], [])]
def n_X7_yardIs_0_1 : List rv_N := [
  (16, ([rv_r 0, rv_i 0 19, rv_i 1 1], [rv_r 28], []), [17], 2, [], []),
  (17, ([rv_r 0, rv_i 0 19, rv_i 1 1], [(1, 0, 0, 19, [(.inl 1, 0)], []), rv_r 28], []), [18], 1, [], []),
  (18, ([rv_r 0, rv_i 0 19, rv_i 1 1], [(1, 0, (-2147483648), 2147483647, [(.inr (28, 5001), 0)], [])], []), [], 0, [], []),
  (19, ([rv_r 0, rv_i 0 19, rv_i 2 2], [], []), [20], 5, [], []),
  (20, ([rv_r 0, rv_i 0 19, rv_i 2 2], [rv_r 0], []), [21], 4, [], []),
  (21, ([rv_r 0, rv_i 0 19, rv_i 2 2], [rv_r 26], []), [22], 3, [], []),
  (22, ([rv_r 0, rv_i 0 19, rv_i 2 2], [rv_r 29], []), [23], 2, [], []),
  (23, ([rv_r 0, rv_i 0 19, rv_i 2 2], [(1, 0, 0, 19, [(.inl 1, 0)], []), rv_r 29], []), [24], 1, [], []),
  (24, ([rv_r 0, rv_i 0 19, rv_i 2 2], [(1, 0, (-2147483648), 2147483647, [(.inr (29, 5001), 0)], [])], []), [], 0, [], []),
  (25, ([rv_r 0, rv_i 0 19, rv_i 3 3], [], []), [26], 5, [], []),
  (26, ([rv_r 0, rv_i 0 19, rv_i 3 3], [rv_r 0], []), [27], 4, [], []),
  (27, ([rv_r 0, rv_i 0 19, rv_i 3 3], [rv_r 26], []), [28], 3, [], []),
  (28, ([rv_r 0, rv_i 0 19, rv_i 3 3], [rv_r 30], []), [29], 2, [], []),
  (29, ([rv_r 0, rv_i 0 19, rv_i 3 3], [(1, 0, 0, 19, [(.inl 1, 0)], []), rv_r 30], []), [30], 1, [], []),
  (30, ([rv_r 0, rv_i 0 19, rv_i 3 3], [(1, 0, (-2147483648), 2147483647, [(.inr (30, 5001), 0)], [])], []), [], 0, [], []),
  (31, ([rv_r 0, rv_i 0 19, rv_full], [], []), [32], 1, [], [])]
def n_X7_yardIs_0_2 : List rv_N := [
  (32, ([rv_r 0, rv_i 0 19, rv_full], [rv_i (-1000) (-1000)], []), [], 0, [], [])]
def n_X7_yardIs_0 : List rv_N := n_X7_yardIs_0_0 ++ (n_X7_yardIs_0_1 ++ (n_X7_yardIs_0_2))
noncomputable def gn_X7_yardIs_0 : Nat → Option rv_N := rv_ap 16 (rv_at n_X7_yardIs_0_0) (rv_ap 16 (rv_at n_X7_yardIs_0_1) (rv_at n_X7_yardIs_0_2))
theorem hn_X7_yardIs_0 : ∀ i : Nat, n_X7_yardIs_0[i]? = gn_X7_yardIs_0 i := rv_ap_eq (l := n_X7_yardIs_0_0) (c := 16) (rv_ap_eq (l := n_X7_yardIs_0_1) (c := 16) (rv_at_eq n_X7_yardIs_0_2) rfl) rfl
set_option maxRecDepth 100000 in
theorem a_X7_yardIs_0 : rv_all (fm_tm, flX7, fm_wr, kcX7, klX7, K_X7_yardIs_0.2.2.1, [], 3) ct_X7_yardIs_0 cd_X7_yardIs n_X7_yardIs_0 K_X7_yardIs_0 [] 0 n_X7_yardIs_0 = true := rv_fast hn_X7_yardIs_0 hc_X7_yardIs (by decide +kernel)
theorem m_X7_yardIs_0 {l : Launch} {D : va_G} {ad : Nat → Nat} {cy : Nat → ClassId} {Z : State → Heap → Prop} {Gp : fm_V → Prop} (hAd : fm_Ad fm_tm ad) (hZ : fm_Zk (fm_A fm_tm ad) Z) (hGd : fm_Gd Gp) : rv_Met l D fm_cl fm_tm ad cy fm_nt Z Gp yX7_yardIs (.code yX7_yardIs prog_1_method_11_code 3 (some .int) :: fm_Ts) { frames := 1, cells := 0, slots := 0, locals := 100 } K_X7_yardIs_0 := rv_met hAd hZ (Or.inl (by decide +kernel)) evX7 dc_X7_yardIs a_X7_yardIs_0 ⟨rfl, rfl, rfl⟩ (by decide +kernel) (by decide +kernel) (by decide) (fm_gm hGd (by decide +kernel)) (Or.inl rfl) (fun p e s m args below meth c Q X Y => List.forall_mem_cons.mpr ⟨rv_ctS X Y fm_Ts_good dc_X7_yardIs (pc := 1) (i := 1) (idx := 75) rfl (m_X7_isYard_0 hAd hZ hGd) wl_X7_75 wm_X7_isYard wy_X7_isYard (by decide) rfl, fun _ h => absurd h List.not_mem_nil⟩) (fun _ _ _ _ _ _ _ _ _ _ _ _ _ _ _ _ h => absurd h List.not_mem_nil)
def cd_X2_isTold : List (Nat × Instr × Nat) := [(0, .iload_n 1, 1), (1, .invokestatic 34, 3), (4, .ifCond .eq 18, 3), (7, .aload_n 0, 1), (8, .getfield 9, 3), (11, .iload_n 1, 1), (12, .ishr, 1), (13, .iconst 1, 1), (14, .iand, 1), (15, .ifCond .eq 7, 3), (18, .iconst 1, 1), (19, .goto 4, 3), (22, .iconst 0, 1), (23, .ireturn, 1)]
theorem dc_X2_isTold : ∀ q ∈ cd_X2_isTold, decode prog_4_method_4_code q.1 = .ok (q.2.1, q.2.2) := by decide +kernel
def K_X2_isTold_0 : rv_K := ([rv_r 36, rv_full], [], [], [(0, 0, 1)], [(.inl 1, 0, 8)], [])
def ct_X2_isTold_0 : List (Nat × rv_K) := [(1, K_X7_isPorter_0)]
def n_X2_isTold_0 : List rv_N := [
  (0, ([rv_r 36, rv_full], [], []), [1], 12, [], []),
  (1, ([rv_r 36, rv_full], [(1, 0, (-2147483648), 2147483647, [(.inl 1, 0)], [])], []), [2], 11, [], [0]),
  (2, ([rv_r 36, rv_full], [(1, 0, 0, 1, [], [(.inl 1, 0, 8)])], []), [3, 12], 10, [], []),
  (3, ([rv_r 36, rv_i 0 8], [], []), [4], 9, [], []),
  (4, ([rv_r 36, rv_i 0 8], [rv_r 36], []), [5], 8, [], []),
  (5, ([rv_r 36, rv_i 0 8], [(1, 0, (-2147483648), 2147483647, [(.inr (36, 0), 0)], [])], []), [6], 7, [], []),
  (6, ([rv_r 36, rv_i 0 8], [(1, 0, 0, 8, [(.inl 1, 0)], []), (1, 0, (-2147483648), 2147483647, [(.inr (36, 0), 0)], [])], []), [7], 6, [], []),
  (7, ([rv_r 36, rv_i 0 8], [rv_full], []), [8], 5, [], []),
  (8, ([rv_r 36, rv_i 0 8], [rv_i 1 1, rv_full], []), [9], 4, [], []),
  (9, ([rv_r 36, rv_i 0 8], [rv_i 0 1], []), [10, 12], 3, [], []),
  (10, ([rv_r 36, rv_i 0 8], [], []), [11], 2, [], []),
  (11, ([rv_r 36, rv_i 0 8], [rv_i 1 1], []), [14], 1, [], []),
  (12, ([rv_r 36, rv_full], [], []), [13], 1, [], []),
  (13, ([rv_r 36, rv_full], [rv_i 0 0], []), [], 0, [], []),
  (13, ([rv_r 36, rv_i 0 8], [rv_i 1 1], []), [], 0, [], [])]
set_option maxRecDepth 100000 in
theorem a_X2_isTold_0 : rv_all (fm_tm, flX2, fm_wr, kcX2, klX2, K_X2_isTold_0.2.2.1, [1], 2) ct_X2_isTold_0 cd_X2_isTold n_X2_isTold_0 K_X2_isTold_0 [] 0 n_X2_isTold_0 = true := rv_fast (rv_at_eq n_X2_isTold_0) (rv_at_eq cd_X2_isTold) (by decide +kernel)
theorem m_X2_isTold_0 {l : Launch} {D : va_G} {ad : Nat → Nat} {cy : Nat → ClassId} {Z : State → Heap → Prop} {Gp : fm_V → Prop} (hAd : fm_Ad fm_tm ad) (hZ : fm_Zk (fm_A fm_tm ad) Z) (hGd : fm_Gd Gp) : rv_Met l D fm_cl fm_tm ad cy fm_nt Z Gp yX2_isTold (.code yX2_isTold prog_4_method_4_code 2 (some .boolean) :: fm_Ts) { frames := 1, cells := 0, slots := 0, locals := 100 } K_X2_isTold_0 := rv_met hAd hZ (Or.inl (by decide +kernel)) evX2 dc_X2_isTold a_X2_isTold_0 ⟨rfl, rfl, rfl⟩ (by decide +kernel) (by decide +kernel) (by decide) (fm_gm hGd (by decide +kernel)) (Or.inr ⟨rfl, by decide, by decide⟩) (fun p e s m args below meth c Q X Y => List.forall_mem_cons.mpr ⟨rv_ctN X Y fm_Ts_good dc_X2_isTold (pc := 1) (i := 1) (idx := 34) rfl (m_X7_isPorter_0 hAd hZ hGd) wl_X2_34 wm_X7_isPorter wy_X7_isPorter (by decide) rfl, fun _ h => absurd h List.not_mem_nil⟩) (fun _ _ _ _ _ _ _ _ _ _ _ _ _ _ _ _ h => absurd h List.not_mem_nil)
def cd_X7_porterIs : List (Nat × Instr × Nat) := [(0, .iload_n 1, 1), (1, .invokestatic 96, 3), (4, .ifCond .eq 17, 3), (7, .aload_n 0, 1), (8, .getfield 38, 3), (11, .getfield 99, 3), (14, .iload_n 1, 1), (15, .invokevirtual 158, 3), (18, .ifCond .ne 5, 3), (21, .iconst (-1), 1), (22, .ireturn, 1), (23, .iload_n 2, 1), (24, .tableswitch 102 0 4 #[36, 49, 62, 75, 88], 36), (60, .aload_n 0, 1), (61, .getfield 38, 3), (64, .getfield 99, 3), (67, .getfield 109, 3), (70, .iload_n 1, 1), (71, .iaload, 1), (72, .ireturn, 1), (73, .aload_n 0, 1), (74, .getfield 38, 3), (77, .getfield 99, 3), (80, .getfield 112, 3), (83, .iload_n 1, 1), (84, .iaload, 1), (85, .ireturn, 1), (86, .aload_n 0, 1), (87, .getfield 38, 3), (90, .getfield 99, 3), (93, .getfield 115, 3), (96, .iload_n 1, 1), (97, .iaload, 1), (98, .ireturn, 1), (99, .aload_n 0, 1), (100, .getfield 38, 3), (103, .getfield 99, 3), (106, .getfield 118, 3), (109, .iload_n 1, 1), (110, .iaload, 1), (111, .ireturn, 1), (112, .aload_n 0, 1), (113, .getfield 38, 3), (116, .aload_n 0, 1), (117, .getfield 22, 3), (120, .iload_n 1, 1), (121, .iconst 5, 1), (122, .invokevirtual 161, 3), (125, .ireturn, 1), (126, .iconst (-1), 1), (127, .ireturn, 1)]
theorem dc_X7_porterIs : ∀ q ∈ cd_X7_porterIs, decode prog_1_method_12_code q.1 = .ok (q.2.1, q.2.2) := by decide +kernel
def ch_X7_porterIs_0 : List (Nat × Instr × Nat) := [(0, .iload_n 1, 1), (1, .invokestatic 96, 3), (4, .ifCond .eq 17, 3), (7, .aload_n 0, 1), (8, .getfield 38, 3), (11, .getfield 99, 3), (14, .iload_n 1, 1), (15, .invokevirtual 158, 3), (18, .ifCond .ne 5, 3), (21, .iconst (-1), 1), (22, .ireturn, 1), (23, .iload_n 2, 1), (24, .tableswitch 102 0 4 #[36, 49, 62, 75, 88], 36), (60, .aload_n 0, 1), (61, .getfield 38, 3), (64, .getfield 99, 3)]
def ch_X7_porterIs_1 : List (Nat × Instr × Nat) := [(67, .getfield 109, 3), (70, .iload_n 1, 1), (71, .iaload, 1), (72, .ireturn, 1), (73, .aload_n 0, 1), (74, .getfield 38, 3), (77, .getfield 99, 3), (80, .getfield 112, 3), (83, .iload_n 1, 1), (84, .iaload, 1), (85, .ireturn, 1), (86, .aload_n 0, 1), (87, .getfield 38, 3), (90, .getfield 99, 3), (93, .getfield 115, 3), (96, .iload_n 1, 1)]
def ch_X7_porterIs_2 : List (Nat × Instr × Nat) := [(97, .iaload, 1), (98, .ireturn, 1), (99, .aload_n 0, 1), (100, .getfield 38, 3), (103, .getfield 99, 3), (106, .getfield 118, 3), (109, .iload_n 1, 1), (110, .iaload, 1), (111, .ireturn, 1), (112, .aload_n 0, 1), (113, .getfield 38, 3), (116, .aload_n 0, 1), (117, .getfield 22, 3), (120, .iload_n 1, 1), (121, .iconst 5, 1), (122, .invokevirtual 161, 3)]
def ch_X7_porterIs_3 : List (Nat × Instr × Nat) := [(125, .ireturn, 1), (126, .iconst (-1), 1), (127, .ireturn, 1)]
set_option maxRecDepth 100000 in
theorem he_X7_porterIs : cd_X7_porterIs = ch_X7_porterIs_0 ++ (ch_X7_porterIs_1 ++ (ch_X7_porterIs_2 ++ (ch_X7_porterIs_3))) := rfl
noncomputable def gc_X7_porterIs : Nat → Option (Nat × Instr × Nat) := rv_ap 16 (rv_at ch_X7_porterIs_0) (rv_ap 16 (rv_at ch_X7_porterIs_1) (rv_ap 16 (rv_at ch_X7_porterIs_2) (rv_at ch_X7_porterIs_3)))
theorem hc_X7_porterIs : ∀ i : Nat, cd_X7_porterIs[i]? = gc_X7_porterIs i := by
  rw [he_X7_porterIs]
  exact rv_ap_eq (l := ch_X7_porterIs_0) (c := 16) (rv_ap_eq (l := ch_X7_porterIs_1) (c := 16) (rv_ap_eq (l := ch_X7_porterIs_2) (c := 16) (rv_at_eq ch_X7_porterIs_3) rfl) rfl) rfl
def K_X7_porterIs_0 : rv_K := ([rv_r 0, rv_full, rv_full], [], [(14, 0), (14, 1), (14, 2), (14, 3), (14, 4), (14, 5), (14, 6), (14, 7), (14, 8), (14, 9), (14, 10), (14, 9999), (15, 9999)], [(0, (-2147483648), 2147483647)], [], [])
def ct_X7_porterIs_0 : List (Nat × rv_K) := [(1, K_X7_isPorter_0), (7, K_X2_isTold_0), (47, K_X0_loss_0)]
def n_X7_porterIs_0_0 : List rv_N := [
  (0, ([rv_r 0, rv_full, rv_full], [], []), [1], 18, [], []),
  (1, ([rv_r 0, rv_full, rv_full], [(1, 0, (-2147483648), 2147483647, [(.inl 1, 0)], [])], []), [2], 17, [], [0]),
  (2, ([rv_r 0, rv_full, rv_full], [(1, 0, 0, 1, [], [(.inl 1, 0, 8)])], []), [3, 9], 16, [], []),
  (3, ([rv_r 0, rv_i 0 8, rv_full], [], []), [4], 15, [], []),
  (4, ([rv_r 0, rv_i 0 8, rv_full], [rv_r 0], []), [5], 14, [], []),
  (5, ([rv_r 0, rv_i 0 8, rv_full], [rv_r 26], []), [6], 13, [], []),
  (6, ([rv_r 0, rv_i 0 8, rv_full], [rv_r 36], []), [7], 12, [], []),
  (7, ([rv_r 0, rv_i 0 8, rv_full], [(1, 0, 0, 8, [(.inl 1, 0)], []), rv_r 36], []), [8], 11, [], [1]),
  (8, ([rv_r 0, rv_i 0 8, rv_full], [(1, 0, 0, 1, [], [(.inl 1, 0, 8)])], []), [9, 11], 10, [], []),
  (9, ([rv_r 0, rv_full, rv_full], [], []), [10], 1, [], []),
  (10, ([rv_r 0, rv_full, rv_full], [rv_i (-1) (-1)], []), [], 0, [], []),
  (11, ([rv_r 0, rv_i 0 8, rv_full], [], []), [12], 9, [], []),
  (12, ([rv_r 0, rv_i 0 8, rv_full], [(1, 0, (-2147483648), 2147483647, [(.inl 2, 0)], [])], []), [13, 20, 27, 34, 41, 49], 8, [], []),
  (13, ([rv_r 0, rv_i 0 8, rv_i 0 0], [], []), [14], 6, [], []),
  (14, ([rv_r 0, rv_i 0 8, rv_i 0 0], [rv_r 0], []), [15], 5, [], []),
  (15, ([rv_r 0, rv_i 0 8, rv_i 0 0], [rv_r 26], []), [16], 4, [], [])]
def n_X7_porterIs_0_1 : List rv_N := [
  (16, ([rv_r 0, rv_i 0 8, rv_i 0 0], [rv_r 36], []), [17], 3, [], []),
  (17, ([rv_r 0, rv_i 0 8, rv_i 0 0], [rv_r 37], []), [18], 2, [], []),
  (18, ([rv_r 0, rv_i 0 8, rv_i 0 0], [(1, 0, 0, 8, [(.inl 1, 0)], []), rv_r 37], []), [19], 1, [], []),
  (19, ([rv_r 0, rv_i 0 8, rv_i 0 0], [(1, 0, (-2147483648), 2147483647, [(.inr (37, 5001), 0)], [])], []), [], 0, [], []),
  (20, ([rv_r 0, rv_i 0 8, rv_i 1 1], [], []), [21], 6, [], []),
  (21, ([rv_r 0, rv_i 0 8, rv_i 1 1], [rv_r 0], []), [22], 5, [], []),
  (22, ([rv_r 0, rv_i 0 8, rv_i 1 1], [rv_r 26], []), [23], 4, [], []),
  (23, ([rv_r 0, rv_i 0 8, rv_i 1 1], [rv_r 36], []), [24], 3, [], []),
  (24, ([rv_r 0, rv_i 0 8, rv_i 1 1], [rv_r 38], []), [25], 2, [], []),
  (25, ([rv_r 0, rv_i 0 8, rv_i 1 1], [(1, 0, 0, 8, [(.inl 1, 0)], []), rv_r 38], []), [26], 1, [], []),
  (26, ([rv_r 0, rv_i 0 8, rv_i 1 1], [(1, 0, (-2147483648), 2147483647, [(.inr (38, 5001), 0)], [])], []), [], 0, [], []),
  (27, ([rv_r 0, rv_i 0 8, rv_i 2 2], [], []), [28], 6, [], []),
  (28, ([rv_r 0, rv_i 0 8, rv_i 2 2], [rv_r 0], []), [29], 5, [], []),
  (29, ([rv_r 0, rv_i 0 8, rv_i 2 2], [rv_r 26], []), [30], 4, [], []),
  (30, ([rv_r 0, rv_i 0 8, rv_i 2 2], [rv_r 36], []), [31], 3, [], []),
  (31, ([rv_r 0, rv_i 0 8, rv_i 2 2], [rv_r 39], []), [32], 2, [], [])]
def n_X7_porterIs_0_2 : List rv_N := [
  (32, ([rv_r 0, rv_i 0 8, rv_i 2 2], [(1, 0, 0, 8, [(.inl 1, 0)], []), rv_r 39], []), [33], 1, [], []),
  (33, ([rv_r 0, rv_i 0 8, rv_i 2 2], [(1, 0, (-2147483648), 2147483647, [(.inr (39, 5001), 0)], [])], []), [], 0, [], []),
  (34, ([rv_r 0, rv_i 0 8, rv_i 3 3], [], []), [35], 6, [], []),
  (35, ([rv_r 0, rv_i 0 8, rv_i 3 3], [rv_r 0], []), [36], 5, [], []),
  (36, ([rv_r 0, rv_i 0 8, rv_i 3 3], [rv_r 26], []), [37], 4, [], []),
  (37, ([rv_r 0, rv_i 0 8, rv_i 3 3], [rv_r 36], []), [38], 3, [], []),
  (38, ([rv_r 0, rv_i 0 8, rv_i 3 3], [rv_r 40], []), [39], 2, [], []),
  (39, ([rv_r 0, rv_i 0 8, rv_i 3 3], [(1, 0, 0, 8, [(.inl 1, 0)], []), rv_r 40], []), [40], 1, [], []),
  (40, ([rv_r 0, rv_i 0 8, rv_i 3 3], [(1, 0, (-2147483648), 2147483647, [(.inr (40, 5001), 0)], [])], []), [], 0, [], []),
  (41, ([rv_r 0, rv_i 0 8, rv_i 4 4], [], []), [42], 7, [], []),
  (42, ([rv_r 0, rv_i 0 8, rv_i 4 4], [rv_r 0], []), [43], 6, [], []),
  (43, ([rv_r 0, rv_i 0 8, rv_i 4 4], [rv_r 26], []), [44], 5, [], []),
  (44, ([rv_r 0, rv_i 0 8, rv_i 4 4], [rv_r 0, rv_r 26], []), [45], 4, [], []),
  (45, ([rv_r 0, rv_i 0 8, rv_i 4 4], [rv_r 7, rv_r 26], []), [46], 3, [], []),
  (46, ([rv_r 0, rv_i 0 8, rv_i 4 4], [(1, 0, 0, 8, [(.inl 1, 0)], []), rv_r 7, rv_r 26], []), [47], 2, [], []),
  (47, ([rv_r 0, rv_i 0 8, rv_i 4 4], [rv_i 5 5, (1, 0, 0, 8, [(.inl 1, 0)], []), rv_r 7, rv_r 26], []), [48], 1, [], [2])]
def n_X7_porterIs_0_3 : List rv_N := [
  (48, ([rv_r 0, rv_i 0 8, rv_i 4 4], [(1, 0, (-2147483648), 2147483647, [], [(.inl 1, 0, 8), (.inr (37, 5001), (-2147483648), 19)])], []), [], 0, [], []),
  (49, ([rv_r 0, rv_i 0 8, rv_full], [], []), [50], 1, [], []),
  (50, ([rv_r 0, rv_i 0 8, rv_full], [rv_i (-1) (-1)], []), [], 0, [], [])]
def n_X7_porterIs_0 : List rv_N := n_X7_porterIs_0_0 ++ (n_X7_porterIs_0_1 ++ (n_X7_porterIs_0_2 ++ (n_X7_porterIs_0_3)))
noncomputable def gn_X7_porterIs_0 : Nat → Option rv_N := rv_ap 16 (rv_at n_X7_porterIs_0_0) (rv_ap 16 (rv_at n_X7_porterIs_0_1) (rv_ap 16 (rv_at n_X7_porterIs_0_2) (rv_at n_X7_porterIs_0_3)))
theorem hn_X7_porterIs_0 : ∀ i : Nat, n_X7_porterIs_0[i]? = gn_X7_porterIs_0 i := rv_ap_eq (l := n_X7_porterIs_0_0) (c := 16) (rv_ap_eq (l := n_X7_porterIs_0_1) (c := 16) (rv_ap_eq (l := n_X7_porterIs_0_2) (c := 16) (rv_at_eq n_X7_porterIs_0_3) rfl) rfl) rfl
set_option maxRecDepth 100000 in
theorem a_X7_porterIs_0 : rv_all (fm_tm, flX7, fm_wr, kcX7, klX7, K_X7_porterIs_0.2.2.1, [], 3) ct_X7_porterIs_0 cd_X7_porterIs n_X7_porterIs_0 K_X7_porterIs_0 [] 0 n_X7_porterIs_0 = true := rv_fast hn_X7_porterIs_0 hc_X7_porterIs (by decide +kernel)
theorem m_X7_porterIs_0 {l : Launch} {D : va_G} {ad : Nat → Nat} {cy : Nat → ClassId} {Z : State → Heap → Prop} {Gp : fm_V → Prop} (hAd : fm_Ad fm_tm ad) (hZ : fm_Zk (fm_A fm_tm ad) Z) (hGd : fm_Gd Gp) : rv_Met l D fm_cl fm_tm ad cy fm_nt Z Gp yX7_porterIs (.code yX7_porterIs prog_1_method_12_code 3 (some .int) :: fm_Ts) { frames := 3, cells := 0, slots := 0, locals := 300 } K_X7_porterIs_0 := rv_met hAd hZ (Or.inl (by decide +kernel)) evX7 dc_X7_porterIs a_X7_porterIs_0 ⟨rfl, rfl, rfl⟩ (by decide +kernel) (by decide +kernel) (by decide) (fm_gm hGd (by decide +kernel)) (Or.inl rfl) (fun p e s m args below meth c Q X Y => List.forall_mem_cons.mpr ⟨rv_ctS X Y fm_Ts_good dc_X7_porterIs (pc := 1) (i := 1) (idx := 96) rfl (m_X7_isPorter_0 hAd hZ hGd) wl_X7_96 wm_X7_isPorter wy_X7_isPorter (by decide) rfl, List.forall_mem_cons.mpr ⟨rv_ctV X Y fm_Ts_good dc_X7_porterIs (pc := 15) (i := 7) (idx := 158) rfl (m_X2_isTold_0 hAd hZ hGd) wl_X7_158 wm_X2_isTold wy_X2_isTold (by decide) ⟨rfl, rfl, rfl⟩ ⟨rfl, rfl⟩, List.forall_mem_cons.mpr ⟨rv_ctV X Y fm_Ts_good dc_X7_porterIs (pc := 122) (i := 47) (idx := 161) rfl (m_X0_loss_0 hAd hZ hGd) wl_X7_161 wm_X0_loss wy_X0_loss (by decide) ⟨rfl, rfl, rfl⟩ ⟨rfl, rfl⟩, fun _ h => absurd h List.not_mem_nil⟩⟩⟩) (fun _ _ _ _ _ _ _ _ _ _ _ _ _ _ _ _ h => absurd h List.not_mem_nil)
def K_X7_isWithin_8 : rv_K := ([rv_full, rv_i 0 0, rv_i 3 3], [], [], [(0, 0, 1)], [(.inl 0, 0, 3)], [])
def ct_X7_isWithin_8 : List (Nat × rv_K) := []
def n_X7_isWithin_8 : List rv_N := [
  (0, ([rv_full, rv_i 0 0, rv_i 3 3], [], []), [1], 8, [], []),
  (1, ([rv_full, rv_i 0 0, rv_i 3 3], [(1, 0, (-2147483648), 2147483647, [(.inl 0, 0)], [])], []), [2], 7, [], []),
  (2, ([rv_full, rv_i 0 0, rv_i 3 3], [(1, 0, 0, 0, [(.inl 1, 0)], []), (1, 0, (-2147483648), 2147483647, [(.inl 0, 0)], [])], []), [3, 8], 6, [], []),
  (3, ([rv_i 0 2147483647, rv_i 0 0, rv_i 3 3], [], []), [4], 5, [], []),
  (4, ([rv_i 0 2147483647, rv_i 0 0, rv_i 3 3], [(1, 0, 0, 2147483647, [(.inl 0, 0)], [])], []), [5], 4, [], []),
  (5, ([rv_i 0 2147483647, rv_i 0 0, rv_i 3 3], [(1, 0, 3, 3, [(.inl 2, 0)], []), (1, 0, 0, 2147483647, [(.inl 0, 0)], [])], []), [6, 8], 3, [], []),
  (6, ([rv_i 0 3, rv_i 0 0, rv_i 3 3], [], []), [7], 2, [], []),
  (7, ([rv_i 0 3, rv_i 0 0, rv_i 3 3], [rv_i 1 1], []), [10], 1, [], []),
  (8, ([rv_full, rv_i 0 0, rv_i 3 3], [], []), [9], 1, [], []),
  (9, ([rv_full, rv_i 0 0, rv_i 3 3], [rv_i 0 0], []), [], 0, [], []),
  (9, ([rv_i 0 3, rv_i 0 0, rv_i 3 3], [rv_i 1 1], []), [], 0, [], [])]
set_option maxRecDepth 100000 in
theorem a_X7_isWithin_8 : rv_all (fm_tm, flX7, fm_wr, kcX7, klX7, K_X7_isWithin_8.2.2.1, [0, 1, 2], 3) ct_X7_isWithin_8 cd_X7_isWithin n_X7_isWithin_8 K_X7_isWithin_8 [] 0 n_X7_isWithin_8 = true := rv_fast (rv_at_eq n_X7_isWithin_8) (rv_at_eq cd_X7_isWithin) (by decide +kernel)
theorem m_X7_isWithin_8 {l : Launch} {D : va_G} {ad : Nat → Nat} {cy : Nat → ClassId} {Z : State → Heap → Prop} {Gp : fm_V → Prop} (hAd : fm_Ad fm_tm ad) (hZ : fm_Zk (fm_A fm_tm ad) Z) (hGd : fm_Gd Gp) : rv_Met l D fm_cl fm_tm ad cy fm_nt Z Gp yX7_isWithin (.code yX7_isWithin prog_1_method_34_code 3 (some .boolean) :: fm_Ts) { frames := 0, cells := 0, slots := 0, locals := 0 } K_X7_isWithin_8 := rv_met hAd hZ (Or.inl (by decide +kernel)) evX7 dc_X7_isWithin a_X7_isWithin_8 ⟨rfl, rfl, rfl⟩ (by decide +kernel) (by decide +kernel) (by decide) (fm_gm hGd (by decide +kernel)) (Or.inr ⟨rfl, by decide, by decide⟩) (fun p e s m args below meth c Q X Y => fun _ h => absurd h List.not_mem_nil) (fun _ _ _ _ _ _ _ _ _ _ _ _ _ _ _ _ h => absurd h List.not_mem_nil)
def cd_X7_isTriable : List (Nat × Instr × Nat) := [(0, .iload_n 1, 1), (1, .bipush 40, 2), (3, .if_icmp .lt 11, 3), (6, .iload_n 1, 1), (7, .bipush 40, 2), (9, .isub, 1), (10, .invokestatic 75, 3), (13, .ireturn, 1), (14, .iload_n 1, 1), (15, .bipush 30, 2), (17, .if_icmp .lt 11, 3), (20, .iload_n 1, 1), (21, .bipush 30, 2), (23, .isub, 1), (24, .invokestatic 124, 3), (27, .ireturn, 1), (28, .iload_n 1, 1), (29, .bipush 20, 2), (31, .if_icmp .lt 18, 3), (34, .aload_n 0, 1), (35, .getfield 38, 3), (38, .getfield 99, 3), (41, .iload_n 1, 1), (42, .bipush 20, 2), (44, .isub, 1), (45, .invokevirtual 158, 3), (48, .ireturn, 1), (49, .iload_n 1, 1), (50, .bipush 10, 2), (52, .if_icmp .lt 18, 3), (55, .aload_n 0, 1), (56, .getfield 38, 3), (59, .getfield 99, 3), (62, .iload_n 1, 1), (63, .bipush 10, 2), (65, .isub, 1), (66, .invokevirtual 158, 3), (69, .ireturn, 1), (70, .iload_n 1, 1), (71, .iconst 0, 1), (72, .iconst 3, 1), (73, .invokestatic 80, 3), (76, .ireturn, 1)]
theorem dc_X7_isTriable : ∀ q ∈ cd_X7_isTriable, decode prog_1_method_14_code q.1 = .ok (q.2.1, q.2.2) := by decide +kernel
def ch_X7_isTriable_0 : List (Nat × Instr × Nat) := [(0, .iload_n 1, 1), (1, .bipush 40, 2), (3, .if_icmp .lt 11, 3), (6, .iload_n 1, 1), (7, .bipush 40, 2), (9, .isub, 1), (10, .invokestatic 75, 3), (13, .ireturn, 1), (14, .iload_n 1, 1), (15, .bipush 30, 2), (17, .if_icmp .lt 11, 3), (20, .iload_n 1, 1), (21, .bipush 30, 2), (23, .isub, 1), (24, .invokestatic 124, 3), (27, .ireturn, 1)]
def ch_X7_isTriable_1 : List (Nat × Instr × Nat) := [(28, .iload_n 1, 1), (29, .bipush 20, 2), (31, .if_icmp .lt 18, 3), (34, .aload_n 0, 1), (35, .getfield 38, 3), (38, .getfield 99, 3), (41, .iload_n 1, 1), (42, .bipush 20, 2), (44, .isub, 1), (45, .invokevirtual 158, 3), (48, .ireturn, 1), (49, .iload_n 1, 1), (50, .bipush 10, 2), (52, .if_icmp .lt 18, 3), (55, .aload_n 0, 1), (56, .getfield 38, 3)]
def ch_X7_isTriable_2 : List (Nat × Instr × Nat) := [(59, .getfield 99, 3), (62, .iload_n 1, 1), (63, .bipush 10, 2), (65, .isub, 1), (66, .invokevirtual 158, 3), (69, .ireturn, 1), (70, .iload_n 1, 1), (71, .iconst 0, 1), (72, .iconst 3, 1), (73, .invokestatic 80, 3), (76, .ireturn, 1)]
set_option maxRecDepth 100000 in
theorem he_X7_isTriable : cd_X7_isTriable = ch_X7_isTriable_0 ++ (ch_X7_isTriable_1 ++ (ch_X7_isTriable_2)) := rfl
noncomputable def gc_X7_isTriable : Nat → Option (Nat × Instr × Nat) := rv_ap 16 (rv_at ch_X7_isTriable_0) (rv_ap 16 (rv_at ch_X7_isTriable_1) (rv_at ch_X7_isTriable_2))
theorem hc_X7_isTriable : ∀ i : Nat, cd_X7_isTriable[i]? = gc_X7_isTriable i := by
  rw [he_X7_isTriable]
  exact rv_ap_eq (l := ch_X7_isTriable_0) (c := 16) (rv_ap_eq (l := ch_X7_isTriable_1) (c := 16) (rv_at_eq ch_X7_isTriable_2) rfl) rfl
def K_X7_isTriable_0 : rv_K := ([rv_r 0, rv_full], [], [], [(0, 0, 1)], [(.inl 1, 0, 59)], [])
def ct_X7_isTriable_0 : List (Nat × rv_K) := [(6, K_X7_isYard_0), (14, K_X7_isBeggar_0), (25, K_X2_isTold_0), (36, K_X2_isTold_0), (41, K_X7_isWithin_8)]
def n_X7_isTriable_0_0 : List rv_N := [
  (0, ([rv_r 0, rv_full], [], []), [1], 19, [], []),
  (1, ([rv_r 0, rv_full], [(1, 0, (-2147483648), 2147483647, [(.inl 1, 0)], [])], []), [2], 18, [], []),
  (2, ([rv_r 0, rv_full], [rv_i 40 40, (1, 0, (-2147483648), 2147483647, [(.inl 1, 0)], [])], []), [3, 8], 17, [], []),
  (3, ([rv_r 0, rv_i 40 2147483647], [], []), [4], 4, [], []),
  (4, ([rv_r 0, rv_i 40 2147483647], [(1, 0, 40, 2147483647, [(.inl 1, 0)], [])], []), [5], 3, [], []),
  (5, ([rv_r 0, rv_i 40 2147483647], [rv_i 40 40, (1, 0, 40, 2147483647, [(.inl 1, 0)], [])], []), [6], 2, [], []),
  (6, ([rv_r 0, rv_i 40 2147483647], [(1, 0, 0, 2147483607, [(.inl 1, (-40))], [])], []), [7], 1, [], [0]),
  (7, ([rv_r 0, rv_i 40 2147483647], [(1, 0, 0, 1, [], [(.inl 1, 40, 59)])], []), [], 0, [], []),
  (8, ([rv_r 0, rv_i (-2147483648) 39], [], []), [9], 16, [], []),
  (9, ([rv_r 0, rv_i (-2147483648) 39], [(1, 0, (-2147483648), 39, [(.inl 1, 0)], [])], []), [10], 15, [], []),
  (10, ([rv_r 0, rv_i (-2147483648) 39], [rv_i 30 30, (1, 0, (-2147483648), 39, [(.inl 1, 0)], [])], []), [11, 16], 14, [], []),
  (11, ([rv_r 0, rv_i 30 39], [], []), [12], 4, [], []),
  (12, ([rv_r 0, rv_i 30 39], [(1, 0, 30, 39, [(.inl 1, 0)], [])], []), [13], 3, [], []),
  (13, ([rv_r 0, rv_i 30 39], [rv_i 30 30, (1, 0, 30, 39, [(.inl 1, 0)], [])], []), [14], 2, [], []),
  (14, ([rv_r 0, rv_i 30 39], [(1, 0, 0, 9, [(.inl 1, (-30))], [])], []), [15], 1, [], [1]),
  (15, ([rv_r 0, rv_i 30 39], [(1, 0, 0, 1, [], [(.inl 1, 30, 35)])], []), [], 0, [], [])]
def n_X7_isTriable_0_1 : List rv_N := [
  (16, ([rv_r 0, rv_i (-2147483648) 29], [], []), [17], 13, [], []),
  (17, ([rv_r 0, rv_i (-2147483648) 29], [(1, 0, (-2147483648), 29, [(.inl 1, 0)], [])], []), [18], 12, [], []),
  (18, ([rv_r 0, rv_i (-2147483648) 29], [rv_i 20 20, (1, 0, (-2147483648), 29, [(.inl 1, 0)], [])], []), [19, 27], 11, [], []),
  (19, ([rv_r 0, rv_i 20 29], [], []), [20], 7, [], []),
  (20, ([rv_r 0, rv_i 20 29], [rv_r 0], []), [21], 6, [], []),
  (21, ([rv_r 0, rv_i 20 29], [rv_r 26], []), [22], 5, [], []),
  (22, ([rv_r 0, rv_i 20 29], [rv_r 36], []), [23], 4, [], []),
  (23, ([rv_r 0, rv_i 20 29], [(1, 0, 20, 29, [(.inl 1, 0)], []), rv_r 36], []), [24], 3, [], []),
  (24, ([rv_r 0, rv_i 20 29], [rv_i 20 20, (1, 0, 20, 29, [(.inl 1, 0)], []), rv_r 36], []), [25], 2, [], []),
  (25, ([rv_r 0, rv_i 20 29], [(1, 0, 0, 9, [(.inl 1, (-20))], []), rv_r 36], []), [26], 1, [], [2]),
  (26, ([rv_r 0, rv_i 20 29], [(1, 0, 0, 1, [], [(.inl 1, 20, 28)])], []), [], 0, [], []),
  (27, ([rv_r 0, rv_i (-2147483648) 19], [], []), [28], 10, [], []),
  (28, ([rv_r 0, rv_i (-2147483648) 19], [(1, 0, (-2147483648), 19, [(.inl 1, 0)], [])], []), [29], 9, [], []),
  (29, ([rv_r 0, rv_i (-2147483648) 19], [rv_i 10 10, (1, 0, (-2147483648), 19, [(.inl 1, 0)], [])], []), [30, 38], 8, [], []),
  (30, ([rv_r 0, rv_i 10 19], [], []), [31], 7, [], []),
  (31, ([rv_r 0, rv_i 10 19], [rv_r 0], []), [32], 6, [], [])]
def n_X7_isTriable_0_2 : List rv_N := [
  (32, ([rv_r 0, rv_i 10 19], [rv_r 26], []), [33], 5, [], []),
  (33, ([rv_r 0, rv_i 10 19], [rv_r 36], []), [34], 4, [], []),
  (34, ([rv_r 0, rv_i 10 19], [(1, 0, 10, 19, [(.inl 1, 0)], []), rv_r 36], []), [35], 3, [], []),
  (35, ([rv_r 0, rv_i 10 19], [rv_i 10 10, (1, 0, 10, 19, [(.inl 1, 0)], []), rv_r 36], []), [36], 2, [], []),
  (36, ([rv_r 0, rv_i 10 19], [(1, 0, 0, 9, [(.inl 1, (-10))], []), rv_r 36], []), [37], 1, [], [3]),
  (37, ([rv_r 0, rv_i 10 19], [(1, 0, 0, 1, [], [(.inl 1, 10, 18)])], []), [], 0, [], []),
  (38, ([rv_r 0, rv_i (-2147483648) 9], [], []), [39], 4, [], []),
  (39, ([rv_r 0, rv_i (-2147483648) 9], [(1, 0, (-2147483648), 9, [(.inl 1, 0)], [])], []), [40], 3, [], []),
  (40, ([rv_r 0, rv_i (-2147483648) 9], [rv_i 0 0, (1, 0, (-2147483648), 9, [(.inl 1, 0)], [])], []), [41], 2, [], []),
  (41, ([rv_r 0, rv_i (-2147483648) 9], [rv_i 3 3, rv_i 0 0, (1, 0, (-2147483648), 9, [(.inl 1, 0)], [])], []), [42], 1, [], [4]),
  (42, ([rv_r 0, rv_i (-2147483648) 9], [(1, 0, 0, 1, [], [(.inl 1, 0, 3)])], []), [], 0, [], [])]
def n_X7_isTriable_0 : List rv_N := n_X7_isTriable_0_0 ++ (n_X7_isTriable_0_1 ++ (n_X7_isTriable_0_2))
noncomputable def gn_X7_isTriable_0 : Nat → Option rv_N := rv_ap 16 (rv_at n_X7_isTriable_0_0) (rv_ap 16 (rv_at n_X7_isTriable_0_1) (rv_at n_X7_isTriable_0_2))
theorem hn_X7_isTriable_0 : ∀ i : Nat, n_X7_isTriable_0[i]? = gn_X7_isTriable_0 i := rv_ap_eq (l := n_X7_isTriable_0_0) (c := 16) (rv_ap_eq (l := n_X7_isTriable_0_1) (c := 16) (rv_at_eq n_X7_isTriable_0_2) rfl) rfl
set_option maxRecDepth 100000 in
theorem a_X7_isTriable_0 : rv_all (fm_tm, flX7, fm_wr, kcX7, klX7, K_X7_isTriable_0.2.2.1, [1], 2) ct_X7_isTriable_0 cd_X7_isTriable n_X7_isTriable_0 K_X7_isTriable_0 [] 0 n_X7_isTriable_0 = true := rv_fast hn_X7_isTriable_0 hc_X7_isTriable (by decide +kernel)
theorem m_X7_isTriable_0 {l : Launch} {D : va_G} {ad : Nat → Nat} {cy : Nat → ClassId} {Z : State → Heap → Prop} {Gp : fm_V → Prop} (hAd : fm_Ad fm_tm ad) (hZ : fm_Zk (fm_A fm_tm ad) Z) (hGd : fm_Gd Gp) : rv_Met l D fm_cl fm_tm ad cy fm_nt Z Gp yX7_isTriable (.code yX7_isTriable prog_1_method_14_code 2 (some .boolean) :: fm_Ts) { frames := 2, cells := 0, slots := 0, locals := 200 } K_X7_isTriable_0 := rv_met hAd hZ (Or.inl (by decide +kernel)) evX7 dc_X7_isTriable a_X7_isTriable_0 ⟨rfl, rfl, rfl⟩ (by decide +kernel) (by decide +kernel) (by decide) (fm_gm hGd (by decide +kernel)) (Or.inr ⟨rfl, by decide, by decide⟩) (fun p e s m args below meth c Q X Y => List.forall_mem_cons.mpr ⟨rv_ctS X Y fm_Ts_good dc_X7_isTriable (pc := 10) (i := 6) (idx := 75) rfl (m_X7_isYard_0 hAd hZ hGd) wl_X7_75 wm_X7_isYard wy_X7_isYard (by decide) rfl, List.forall_mem_cons.mpr ⟨rv_ctS X Y fm_Ts_good dc_X7_isTriable (pc := 24) (i := 14) (idx := 124) rfl (m_X7_isBeggar_0 hAd hZ hGd) wl_X7_124 wm_X7_isBeggar wy_X7_isBeggar (by decide) rfl, List.forall_mem_cons.mpr ⟨rv_ctV X Y fm_Ts_good dc_X7_isTriable (pc := 45) (i := 25) (idx := 158) rfl (m_X2_isTold_0 hAd hZ hGd) wl_X7_158 wm_X2_isTold wy_X2_isTold (by decide) ⟨rfl, rfl, rfl⟩ ⟨rfl, rfl⟩, List.forall_mem_cons.mpr ⟨rv_ctV X Y fm_Ts_good dc_X7_isTriable (pc := 66) (i := 36) (idx := 158) rfl (m_X2_isTold_0 hAd hZ hGd) wl_X7_158 wm_X2_isTold wy_X2_isTold (by decide) ⟨rfl, rfl, rfl⟩ ⟨rfl, rfl⟩, List.forall_mem_cons.mpr ⟨rv_ctS X Y fm_Ts_good dc_X7_isTriable (pc := 73) (i := 41) (idx := 80) rfl (m_X7_isWithin_8 hAd hZ hGd) wl_X7_80 wm_X7_isWithin wy_X7_isWithin (by decide) rfl, fun _ h => absurd h List.not_mem_nil⟩⟩⟩⟩⟩) (fun _ _ _ _ _ _ _ _ _ _ _ _ _ _ _ _ h => absurd h List.not_mem_nil)
def cd_X2_takeMoving : List (Nat × Instr × Nat) := [(0, .aload_n 1, 1), (1, .getfield 15, 3), (4, .iconst 0, 1), (5, .aload_n 0, 1), (6, .getfield 15, 3), (9, .iconst 0, 1), (10, .bipush 9, 2), (12, .invokestatic 28, 3), (15, .aload_n 1, 1), (16, .getfield 19, 3), (19, .iconst 0, 1), (20, .aload_n 0, 1), (21, .getfield 19, 3), (24, .iconst 0, 1), (25, .bipush 9, 2), (27, .invokestatic 28, 3), (30, .return_, 1)]
theorem dc_X2_takeMoving : ∀ q ∈ cd_X2_takeMoving, decode prog_4_method_3_code q.1 = .ok (q.2.1, q.2.2) := by decide +kernel
def K_X2_takeMoving_0 : rv_K := ([rv_r 66, rv_r 36], [], [(67, 9999), (68, 9999)], [], [], [])
def ct_X2_takeMoving_0 : List (Nat × rv_K) := [(7, ([rv_r 37, rv_i 0 0, rv_r 67, rv_i 0 0, rv_i 9 9], [], [(67, 9999)], [], [], [])), (15, ([rv_r 38, rv_i 0 0, rv_r 68, rv_i 0 0, rv_i 9 9], [], [(68, 9999)], [], [], []))]
def n_X2_takeMoving_0_0 : List rv_N := [
  (0, ([rv_r 66, rv_r 36], [], []), [1], 16, [], []),
  (1, ([rv_r 66, rv_r 36], [rv_r 36], []), [2], 15, [], []),
  (2, ([rv_r 66, rv_r 36], [rv_r 37], []), [3], 14, [], []),
  (3, ([rv_r 66, rv_r 36], [rv_i 0 0, rv_r 37], []), [4], 13, [], []),
  (4, ([rv_r 66, rv_r 36], [rv_r 66, rv_i 0 0, rv_r 37], []), [5], 12, [], []),
  (5, ([rv_r 66, rv_r 36], [rv_r 67, rv_i 0 0, rv_r 37], []), [6], 11, [], []),
  (6, ([rv_r 66, rv_r 36], [rv_i 0 0, rv_r 67, rv_i 0 0, rv_r 37], []), [7], 10, [], []),
  (7, ([rv_r 66, rv_r 36], [rv_i 9 9, rv_i 0 0, rv_r 67, rv_i 0 0, rv_r 37], []), [8], 9, [], [0]),
  (8, ([rv_r 66, rv_r 36], [], []), [9], 8, [], []),
  (9, ([rv_r 66, rv_r 36], [rv_r 36], []), [10], 7, [], []),
  (10, ([rv_r 66, rv_r 36], [rv_r 38], []), [11], 6, [], []),
  (11, ([rv_r 66, rv_r 36], [rv_i 0 0, rv_r 38], []), [12], 5, [], []),
  (12, ([rv_r 66, rv_r 36], [rv_r 66, rv_i 0 0, rv_r 38], []), [13], 4, [], []),
  (13, ([rv_r 66, rv_r 36], [rv_r 68, rv_i 0 0, rv_r 38], []), [14], 3, [], []),
  (14, ([rv_r 66, rv_r 36], [rv_i 0 0, rv_r 68, rv_i 0 0, rv_r 38], []), [15], 2, [], []),
  (15, ([rv_r 66, rv_r 36], [rv_i 9 9, rv_i 0 0, rv_r 68, rv_i 0 0, rv_r 38], []), [16], 1, [], [1])]
def n_X2_takeMoving_0_1 : List rv_N := [
  (16, ([rv_r 66, rv_r 36], [], []), [], 0, [], [])]
def n_X2_takeMoving_0 : List rv_N := n_X2_takeMoving_0_0 ++ (n_X2_takeMoving_0_1)
noncomputable def gn_X2_takeMoving_0 : Nat → Option rv_N := rv_ap 16 (rv_at n_X2_takeMoving_0_0) (rv_at n_X2_takeMoving_0_1)
theorem hn_X2_takeMoving_0 : ∀ i : Nat, n_X2_takeMoving_0[i]? = gn_X2_takeMoving_0 i := rv_ap_eq (l := n_X2_takeMoving_0_0) (c := 16) (rv_at_eq n_X2_takeMoving_0_1) rfl
set_option maxRecDepth 100000 in
theorem a_X2_takeMoving_0 : rv_all (fm_tm, flX2, fm_wr, kcX2, klX2, K_X2_takeMoving_0.2.2.1, [], 2) ct_X2_takeMoving_0 cd_X2_takeMoving n_X2_takeMoving_0 K_X2_takeMoving_0 [] 0 n_X2_takeMoving_0 = true := rv_fast hn_X2_takeMoving_0 (rv_at_eq cd_X2_takeMoving) (by decide +kernel)
theorem m_X2_takeMoving_0 {l : Launch} {D : va_G} {ad : Nat → Nat} {cy : Nat → ClassId} {Z : State → Heap → Prop} {Gp : fm_V → Prop} (hAd : fm_Ad fm_tm ad) (hZ : fm_Zk (fm_A fm_tm ad) Z) (hGd : fm_Gd Gp) : rv_Met l D fm_cl fm_tm ad cy fm_nt Z Gp yX2_takeMoving (.code yX2_takeMoving prog_4_method_3_code 2 none :: fm_Ts) { frames := 1, cells := 0, slots := 0, locals := 100 } K_X2_takeMoving_0 := rv_met hAd hZ (Or.inl (by decide +kernel)) evX2 dc_X2_takeMoving a_X2_takeMoving_0 ⟨rfl, rfl, rfl⟩ (by decide +kernel) (by decide +kernel) (by decide) (fm_gm hGd (by decide +kernel)) (rfl) (fun p e s m args below meth c Q X Y => List.forall_mem_cons.mpr ⟨rv_ctC X dc_X2_takeMoving (pc := 12) (i := 7) (idx := 28) rfl wl_X2_28 fm_acw (by decide +kernel) (a := 37) (b := 67) (n := 9) ⟨rfl, rfl⟩ (by decide) rfl, List.forall_mem_cons.mpr ⟨rv_ctC X dc_X2_takeMoving (pc := 27) (i := 15) (idx := 28) rfl wl_X2_28 fm_acw (by decide +kernel) (a := 38) (b := 68) (n := 9) ⟨rfl, rfl⟩ (by decide) rfl, fun _ h => absurd h List.not_mem_nil⟩⟩) (fun _ _ _ _ _ _ _ _ _ _ _ _ _ _ _ _ h => absurd h List.not_mem_nil)
def cd_X0_takeMoving : List (Nat × Instr × Nat) := [(0, .aload_n 0, 1), (1, .getfield 33, 3), (4, .aload_n 1, 1), (5, .getfield 33, 3), (8, .invokevirtual 92, 3), (11, .aload_n 1, 1), (12, .getfield 9, 3), (15, .iconst 0, 1), (16, .aload_n 0, 1), (17, .getfield 9, 3), (20, .iconst 0, 1), (21, .bipush 20, 2), (23, .invokestatic 86, 3), (26, .aload_n 1, 1), (27, .getfield 27, 3), (30, .iconst 0, 1), (31, .aload_n 0, 1), (32, .getfield 27, 3), (35, .iconst 0, 1), (36, .bipush 6, 2), (38, .invokestatic 86, 3), (41, .aload_n 0, 1), (42, .aload_n 1, 1), (43, .getfield 43, 3), (46, .putfield 43, 3), (49, .aload_n 0, 1), (50, .aload_n 1, 1), (51, .getfield 47, 3), (54, .putfield 47, 3), (57, .aload_n 0, 1), (58, .aload_n 1, 1), (59, .getfield 50, 3), (62, .putfield 50, 3), (65, .aload_n 0, 1), (66, .aload_n 1, 1), (67, .getfield 53, 3), (70, .putfield 53, 3), (73, .aload_n 0, 1), (74, .aload_n 1, 1), (75, .getfield 56, 3), (78, .putfield 56, 3), (81, .return_, 1)]
theorem dc_X0_takeMoving : ∀ q ∈ cd_X0_takeMoving, decode prog_2_method_3_code q.1 = .ok (q.2.1, q.2.2) := by decide +kernel
def ch_X0_takeMoving_0 : List (Nat × Instr × Nat) := [(0, .aload_n 0, 1), (1, .getfield 33, 3), (4, .aload_n 1, 1), (5, .getfield 33, 3), (8, .invokevirtual 92, 3), (11, .aload_n 1, 1), (12, .getfield 9, 3), (15, .iconst 0, 1), (16, .aload_n 0, 1), (17, .getfield 9, 3), (20, .iconst 0, 1), (21, .bipush 20, 2), (23, .invokestatic 86, 3), (26, .aload_n 1, 1), (27, .getfield 27, 3), (30, .iconst 0, 1)]
def ch_X0_takeMoving_1 : List (Nat × Instr × Nat) := [(31, .aload_n 0, 1), (32, .getfield 27, 3), (35, .iconst 0, 1), (36, .bipush 6, 2), (38, .invokestatic 86, 3), (41, .aload_n 0, 1), (42, .aload_n 1, 1), (43, .getfield 43, 3), (46, .putfield 43, 3), (49, .aload_n 0, 1), (50, .aload_n 1, 1), (51, .getfield 47, 3), (54, .putfield 47, 3), (57, .aload_n 0, 1), (58, .aload_n 1, 1), (59, .getfield 50, 3)]
def ch_X0_takeMoving_2 : List (Nat × Instr × Nat) := [(62, .putfield 50, 3), (65, .aload_n 0, 1), (66, .aload_n 1, 1), (67, .getfield 53, 3), (70, .putfield 53, 3), (73, .aload_n 0, 1), (74, .aload_n 1, 1), (75, .getfield 56, 3), (78, .putfield 56, 3), (81, .return_, 1)]
set_option maxRecDepth 100000 in
theorem he_X0_takeMoving : cd_X0_takeMoving = ch_X0_takeMoving_0 ++ (ch_X0_takeMoving_1 ++ (ch_X0_takeMoving_2)) := rfl
noncomputable def gc_X0_takeMoving : Nat → Option (Nat × Instr × Nat) := rv_ap 16 (rv_at ch_X0_takeMoving_0) (rv_ap 16 (rv_at ch_X0_takeMoving_1) (rv_at ch_X0_takeMoving_2))
theorem hc_X0_takeMoving : ∀ i : Nat, cd_X0_takeMoving[i]? = gc_X0_takeMoving i := by
  rw [he_X0_takeMoving]
  exact rv_ap_eq (l := ch_X0_takeMoving_0) (c := 16) (rv_ap_eq (l := ch_X0_takeMoving_1) (c := 16) (rv_at_eq ch_X0_takeMoving_2) rfl) rfl
def K_X0_takeMoving_0 : rv_K := ([rv_r 56, rv_r 26], [], [(56, 9), (56, 10), (56, 11), (56, 12), (56, 13), (57, 9999), (62, 9999), (67, 9999), (68, 9999)], [], [], [])
def ct_X0_takeMoving_0 : List (Nat × rv_K) := [(4, K_X2_takeMoving_0), (12, ([rv_r 27, rv_i 0 0, rv_r 57, rv_i 0 0, rv_i 20 20], [], [(57, 9999)], [], [], [])), (20, ([rv_r 32, rv_i 0 0, rv_r 62, rv_i 0 0, rv_i 6 6], [], [(62, 9999)], [], [], []))]
def n_X0_takeMoving_0_0 : List rv_N := [
  (0, ([rv_r 56, rv_r 26], [], []), [1], 41, [], []),
  (1, ([rv_r 56, rv_r 26], [rv_r 56], []), [2], 40, [], []),
  (2, ([rv_r 56, rv_r 26], [rv_r 66], []), [3], 39, [], []),
  (3, ([rv_r 56, rv_r 26], [rv_r 26, rv_r 66], []), [4], 38, [], []),
  (4, ([rv_r 56, rv_r 26], [rv_r 36, rv_r 66], []), [5], 37, [], [0]),
  (5, ([rv_r 56, rv_r 26], [], []), [6], 36, [], []),
  (6, ([rv_r 56, rv_r 26], [rv_r 26], []), [7], 35, [], []),
  (7, ([rv_r 56, rv_r 26], [rv_r 27], []), [8], 34, [], []),
  (8, ([rv_r 56, rv_r 26], [rv_i 0 0, rv_r 27], []), [9], 33, [], []),
  (9, ([rv_r 56, rv_r 26], [rv_r 56, rv_i 0 0, rv_r 27], []), [10], 32, [], []),
  (10, ([rv_r 56, rv_r 26], [rv_r 57, rv_i 0 0, rv_r 27], []), [11], 31, [], []),
  (11, ([rv_r 56, rv_r 26], [rv_i 0 0, rv_r 57, rv_i 0 0, rv_r 27], []), [12], 30, [], []),
  (12, ([rv_r 56, rv_r 26], [rv_i 20 20, rv_i 0 0, rv_r 57, rv_i 0 0, rv_r 27], []), [13], 29, [], [1]),
  (13, ([rv_r 56, rv_r 26], [], []), [14], 28, [], []),
  (14, ([rv_r 56, rv_r 26], [rv_r 26], []), [15], 27, [], []),
  (15, ([rv_r 56, rv_r 26], [rv_r 32], []), [16], 26, [], [])]
def n_X0_takeMoving_0_1 : List rv_N := [
  (16, ([rv_r 56, rv_r 26], [rv_i 0 0, rv_r 32], []), [17], 25, [], []),
  (17, ([rv_r 56, rv_r 26], [rv_r 56, rv_i 0 0, rv_r 32], []), [18], 24, [], []),
  (18, ([rv_r 56, rv_r 26], [rv_r 62, rv_i 0 0, rv_r 32], []), [19], 23, [], []),
  (19, ([rv_r 56, rv_r 26], [rv_i 0 0, rv_r 62, rv_i 0 0, rv_r 32], []), [20], 22, [], []),
  (20, ([rv_r 56, rv_r 26], [rv_i 6 6, rv_i 0 0, rv_r 62, rv_i 0 0, rv_r 32], []), [21], 21, [], [2]),
  (21, ([rv_r 56, rv_r 26], [], []), [22], 20, [], []),
  (22, ([rv_r 56, rv_r 26], [rv_r 56], []), [23], 19, [], []),
  (23, ([rv_r 56, rv_r 26], [rv_r 26, rv_r 56], []), [24], 18, [], []),
  (24, ([rv_r 56, rv_r 26], [(1, 0, (-2147483648), 2147483647, [(.inr (26, 9), 0)], []), rv_r 56], []), [25], 17, [], []),
  (25, ([rv_r 56, rv_r 26], [], []), [26], 16, [], []),
  (26, ([rv_r 56, rv_r 26], [rv_r 56], []), [27], 15, [], []),
  (27, ([rv_r 56, rv_r 26], [rv_r 26, rv_r 56], []), [28], 14, [], []),
  (28, ([rv_r 56, rv_r 26], [(1, 0, (-2147483648), 2147483647, [(.inr (26, 10), 0)], []), rv_r 56], []), [29], 13, [], []),
  (29, ([rv_r 56, rv_r 26], [], []), [30], 12, [], []),
  (30, ([rv_r 56, rv_r 26], [rv_r 56], []), [31], 11, [], []),
  (31, ([rv_r 56, rv_r 26], [rv_r 26, rv_r 56], []), [32], 10, [], [])]
def n_X0_takeMoving_0_2 : List rv_N := [
  (32, ([rv_r 56, rv_r 26], [(1, 0, (-2147483648), 2147483647, [(.inr (26, 11), 0)], []), rv_r 56], []), [33], 9, [], []),
  (33, ([rv_r 56, rv_r 26], [], []), [34], 8, [], []),
  (34, ([rv_r 56, rv_r 26], [rv_r 56], []), [35], 7, [], []),
  (35, ([rv_r 56, rv_r 26], [rv_r 26, rv_r 56], []), [36], 6, [], []),
  (36, ([rv_r 56, rv_r 26], [(1, 0, (-2147483648), 2147483647, [(.inr (26, 12), 0)], []), rv_r 56], []), [37], 5, [], []),
  (37, ([rv_r 56, rv_r 26], [], []), [38], 4, [], []),
  (38, ([rv_r 56, rv_r 26], [rv_r 56], []), [39], 3, [], []),
  (39, ([rv_r 56, rv_r 26], [rv_r 26, rv_r 56], []), [40], 2, [], []),
  (40, ([rv_r 56, rv_r 26], [(1, 0, (-2147483648), 2147483647, [(.inr (26, 13), 0)], []), rv_r 56], []), [41], 1, [], []),
  (41, ([rv_r 56, rv_r 26], [], []), [], 0, [], [])]
def n_X0_takeMoving_0 : List rv_N := n_X0_takeMoving_0_0 ++ (n_X0_takeMoving_0_1 ++ (n_X0_takeMoving_0_2))
noncomputable def gn_X0_takeMoving_0 : Nat → Option rv_N := rv_ap 16 (rv_at n_X0_takeMoving_0_0) (rv_ap 16 (rv_at n_X0_takeMoving_0_1) (rv_at n_X0_takeMoving_0_2))
theorem hn_X0_takeMoving_0 : ∀ i : Nat, n_X0_takeMoving_0[i]? = gn_X0_takeMoving_0 i := rv_ap_eq (l := n_X0_takeMoving_0_0) (c := 16) (rv_ap_eq (l := n_X0_takeMoving_0_1) (c := 16) (rv_at_eq n_X0_takeMoving_0_2) rfl) rfl
set_option maxRecDepth 100000 in
theorem a_X0_takeMoving_0 : rv_all (fm_tm, flX0, fm_wr, kcX0, klX0, K_X0_takeMoving_0.2.2.1, [], 2) ct_X0_takeMoving_0 cd_X0_takeMoving n_X0_takeMoving_0 K_X0_takeMoving_0 [] 0 n_X0_takeMoving_0 = true := rv_fast hn_X0_takeMoving_0 hc_X0_takeMoving (by decide +kernel)
theorem m_X0_takeMoving_0 {l : Launch} {D : va_G} {ad : Nat → Nat} {cy : Nat → ClassId} {Z : State → Heap → Prop} {Gp : fm_V → Prop} (hAd : fm_Ad fm_tm ad) (hZ : fm_Zk (fm_A fm_tm ad) Z) (hGd : fm_Gd Gp) : rv_Met l D fm_cl fm_tm ad cy fm_nt Z Gp yX0_takeMoving (.code yX0_takeMoving prog_2_method_3_code 2 none :: fm_Ts) { frames := 2, cells := 0, slots := 0, locals := 200 } K_X0_takeMoving_0 := rv_met hAd hZ (Or.inl (by decide +kernel)) evX0 dc_X0_takeMoving a_X0_takeMoving_0 ⟨rfl, rfl, rfl⟩ (by decide +kernel) (by decide +kernel) (by decide) (fm_gm hGd (by decide +kernel)) (rfl) (fun p e s m args below meth c Q X Y => List.forall_mem_cons.mpr ⟨rv_ctV X Y fm_Ts_good dc_X0_takeMoving (pc := 8) (i := 4) (idx := 92) rfl (m_X2_takeMoving_0 hAd hZ hGd) wl_X0_92 wm_X2_takeMoving wy_X2_takeMoving (by decide) ⟨rfl, rfl, rfl⟩ ⟨rfl, rfl⟩, List.forall_mem_cons.mpr ⟨rv_ctC X dc_X0_takeMoving (pc := 23) (i := 12) (idx := 86) rfl wl_X0_86 fm_acw (by decide +kernel) (a := 27) (b := 57) (n := 20) ⟨rfl, rfl⟩ (by decide) rfl, List.forall_mem_cons.mpr ⟨rv_ctC X dc_X0_takeMoving (pc := 38) (i := 20) (idx := 86) rfl wl_X0_86 fm_acw (by decide +kernel) (a := 32) (b := 62) (n := 6) ⟨rfl, rfl⟩ (by decide) rfl, fun _ h => absurd h List.not_mem_nil⟩⟩⟩) (fun _ _ _ _ _ _ _ _ _ _ _ _ _ _ _ _ h => absurd h List.not_mem_nil)
def cd_X2_takeAll : List (Nat × Instr × Nat) := [(0, .aload_n 0, 1), (1, .aload_n 1, 1), (2, .getfield 9, 3), (5, .putfield 9, 3), (8, .aload_n 1, 1), (9, .getfield 22, 3), (12, .iconst 0, 1), (13, .aload_n 0, 1), (14, .getfield 22, 3), (17, .iconst 0, 1), (18, .bipush 9, 2), (20, .invokestatic 28, 3), (23, .aload_n 1, 1), (24, .getfield 25, 3), (27, .iconst 0, 1), (28, .aload_n 0, 1), (29, .getfield 25, 3), (32, .iconst 0, 1), (33, .bipush 9, 2), (35, .invokestatic 28, 3), (38, .return_, 1)]
theorem dc_X2_takeAll : ∀ q ∈ cd_X2_takeAll, decode prog_4_method_2_code q.1 = .ok (q.2.1, q.2.2) := by decide +kernel
def K_X2_takeAll_0 : rv_K := ([rv_r 66, rv_r 36], [], [(66, 0), (69, 9999), (70, 9999)], [], [], [])
def ct_X2_takeAll_0 : List (Nat × rv_K) := [(11, ([rv_r 39, rv_i 0 0, rv_r 69, rv_i 0 0, rv_i 9 9], [], [(69, 9999)], [], [], [])), (19, ([rv_r 40, rv_i 0 0, rv_r 70, rv_i 0 0, rv_i 9 9], [], [(70, 9999)], [], [], []))]
def n_X2_takeAll_0_0 : List rv_N := [
  (0, ([rv_r 66, rv_r 36], [], []), [1], 20, [], []),
  (1, ([rv_r 66, rv_r 36], [rv_r 66], []), [2], 19, [], []),
  (2, ([rv_r 66, rv_r 36], [rv_r 36, rv_r 66], []), [3], 18, [], []),
  (3, ([rv_r 66, rv_r 36], [(1, 0, (-2147483648), 2147483647, [(.inr (36, 0), 0)], []), rv_r 66], []), [4], 17, [], []),
  (4, ([rv_r 66, rv_r 36], [], []), [5], 16, [], []),
  (5, ([rv_r 66, rv_r 36], [rv_r 36], []), [6], 15, [], []),
  (6, ([rv_r 66, rv_r 36], [rv_r 39], []), [7], 14, [], []),
  (7, ([rv_r 66, rv_r 36], [rv_i 0 0, rv_r 39], []), [8], 13, [], []),
  (8, ([rv_r 66, rv_r 36], [rv_r 66, rv_i 0 0, rv_r 39], []), [9], 12, [], []),
  (9, ([rv_r 66, rv_r 36], [rv_r 69, rv_i 0 0, rv_r 39], []), [10], 11, [], []),
  (10, ([rv_r 66, rv_r 36], [rv_i 0 0, rv_r 69, rv_i 0 0, rv_r 39], []), [11], 10, [], []),
  (11, ([rv_r 66, rv_r 36], [rv_i 9 9, rv_i 0 0, rv_r 69, rv_i 0 0, rv_r 39], []), [12], 9, [], [0]),
  (12, ([rv_r 66, rv_r 36], [], []), [13], 8, [], []),
  (13, ([rv_r 66, rv_r 36], [rv_r 36], []), [14], 7, [], []),
  (14, ([rv_r 66, rv_r 36], [rv_r 40], []), [15], 6, [], []),
  (15, ([rv_r 66, rv_r 36], [rv_i 0 0, rv_r 40], []), [16], 5, [], [])]
def n_X2_takeAll_0_1 : List rv_N := [
  (16, ([rv_r 66, rv_r 36], [rv_r 66, rv_i 0 0, rv_r 40], []), [17], 4, [], []),
  (17, ([rv_r 66, rv_r 36], [rv_r 70, rv_i 0 0, rv_r 40], []), [18], 3, [], []),
  (18, ([rv_r 66, rv_r 36], [rv_i 0 0, rv_r 70, rv_i 0 0, rv_r 40], []), [19], 2, [], []),
  (19, ([rv_r 66, rv_r 36], [rv_i 9 9, rv_i 0 0, rv_r 70, rv_i 0 0, rv_r 40], []), [20], 1, [], [1]),
  (20, ([rv_r 66, rv_r 36], [], []), [], 0, [], [])]
def n_X2_takeAll_0 : List rv_N := n_X2_takeAll_0_0 ++ (n_X2_takeAll_0_1)
noncomputable def gn_X2_takeAll_0 : Nat → Option rv_N := rv_ap 16 (rv_at n_X2_takeAll_0_0) (rv_at n_X2_takeAll_0_1)
theorem hn_X2_takeAll_0 : ∀ i : Nat, n_X2_takeAll_0[i]? = gn_X2_takeAll_0 i := rv_ap_eq (l := n_X2_takeAll_0_0) (c := 16) (rv_at_eq n_X2_takeAll_0_1) rfl
set_option maxRecDepth 100000 in
theorem a_X2_takeAll_0 : rv_all (fm_tm, flX2, fm_wr, kcX2, klX2, K_X2_takeAll_0.2.2.1, [], 2) ct_X2_takeAll_0 cd_X2_takeAll n_X2_takeAll_0 K_X2_takeAll_0 [] 0 n_X2_takeAll_0 = true := rv_fast hn_X2_takeAll_0 (rv_at_eq cd_X2_takeAll) (by decide +kernel)
theorem m_X2_takeAll_0 {l : Launch} {D : va_G} {ad : Nat → Nat} {cy : Nat → ClassId} {Z : State → Heap → Prop} {Gp : fm_V → Prop} (hAd : fm_Ad fm_tm ad) (hZ : fm_Zk (fm_A fm_tm ad) Z) (hGd : fm_Gd Gp) : rv_Met l D fm_cl fm_tm ad cy fm_nt Z Gp yX2_takeAll (.code yX2_takeAll prog_4_method_2_code 2 none :: fm_Ts) { frames := 1, cells := 0, slots := 0, locals := 100 } K_X2_takeAll_0 := rv_met hAd hZ (Or.inl (by decide +kernel)) evX2 dc_X2_takeAll a_X2_takeAll_0 ⟨rfl, rfl, rfl⟩ (by decide +kernel) (by decide +kernel) (by decide) (fm_gm hGd (by decide +kernel)) (rfl) (fun p e s m args below meth c Q X Y => List.forall_mem_cons.mpr ⟨rv_ctC X dc_X2_takeAll (pc := 20) (i := 11) (idx := 28) rfl wl_X2_28 fm_acw (by decide +kernel) (a := 39) (b := 69) (n := 9) ⟨rfl, rfl⟩ (by decide) rfl, List.forall_mem_cons.mpr ⟨rv_ctC X dc_X2_takeAll (pc := 35) (i := 19) (idx := 28) rfl wl_X2_28 fm_acw (by decide +kernel) (a := 40) (b := 70) (n := 9) ⟨rfl, rfl⟩ (by decide) rfl, fun _ h => absurd h List.not_mem_nil⟩⟩) (fun _ _ _ _ _ _ _ _ _ _ _ _ _ _ _ _ h => absurd h List.not_mem_nil)
def cd_X0_takeAll : List (Nat × Instr × Nat) := [(0, .aload_n 0, 1), (1, .aload_n 1, 1), (2, .invokevirtual 78, 3), (5, .aload_n 0, 1), (6, .getfield 33, 3), (9, .aload_n 1, 1), (10, .getfield 33, 3), (13, .invokevirtual 82, 3), (16, .aload_n 1, 1), (17, .getfield 15, 3), (20, .iconst 0, 1), (21, .aload_n 0, 1), (22, .getfield 15, 3), (25, .iconst 0, 1), (26, .bipush 20, 2), (28, .invokestatic 86, 3), (31, .aload_n 1, 1), (32, .getfield 18, 3), (35, .iconst 0, 1), (36, .aload_n 0, 1), (37, .getfield 18, 3), (40, .iconst 0, 1), (41, .bipush 20, 2), (43, .invokestatic 86, 3), (46, .aload_n 1, 1), (47, .getfield 21, 3), (50, .iconst 0, 1), (51, .aload_n 0, 1), (52, .getfield 21, 3), (55, .iconst 0, 1), (56, .bipush 20, 2), (58, .invokestatic 86, 3), (61, .aload_n 1, 1), (62, .getfield 24, 3), (65, .iconst 0, 1), (66, .aload_n 0, 1), (67, .getfield 24, 3), (70, .iconst 0, 1), (71, .bipush 6, 2), (73, .invokestatic 86, 3), (76, .aload_n 1, 1), (77, .getfield 37, 3), (80, .iconst 0, 1), (81, .aload_n 0, 1), (82, .getfield 37, 3), (85, .iconst 0, 1), (86, .bipush 100, 2), (88, .invokestatic 86, 3), (91, .aload_n 1, 1), (92, .getfield 40, 3), (95, .iconst 0, 1), (96, .aload_n 0, 1), (97, .getfield 40, 3), (100, .iconst 0, 1), (101, .sipush 180, 3), (104, .invokestatic 86, 3), (107, .aload_n 0, 1), (108, .iconst 1, 1), (109, .putfield 59, 3), (112, .aload_n 0, 1), (113, .bipush 6, 2), (115, .putfield 63, 3), (118, .return_, 1)]
theorem dc_X0_takeAll : ∀ q ∈ cd_X0_takeAll, decode prog_2_method_2_code q.1 = .ok (q.2.1, q.2.2) := by decide +kernel
def ch_X0_takeAll_0 : List (Nat × Instr × Nat) := [(0, .aload_n 0, 1), (1, .aload_n 1, 1), (2, .invokevirtual 78, 3), (5, .aload_n 0, 1), (6, .getfield 33, 3), (9, .aload_n 1, 1), (10, .getfield 33, 3), (13, .invokevirtual 82, 3), (16, .aload_n 1, 1), (17, .getfield 15, 3), (20, .iconst 0, 1), (21, .aload_n 0, 1), (22, .getfield 15, 3), (25, .iconst 0, 1), (26, .bipush 20, 2), (28, .invokestatic 86, 3)]
def ch_X0_takeAll_1 : List (Nat × Instr × Nat) := [(31, .aload_n 1, 1), (32, .getfield 18, 3), (35, .iconst 0, 1), (36, .aload_n 0, 1), (37, .getfield 18, 3), (40, .iconst 0, 1), (41, .bipush 20, 2), (43, .invokestatic 86, 3), (46, .aload_n 1, 1), (47, .getfield 21, 3), (50, .iconst 0, 1), (51, .aload_n 0, 1), (52, .getfield 21, 3), (55, .iconst 0, 1), (56, .bipush 20, 2), (58, .invokestatic 86, 3)]
def ch_X0_takeAll_2 : List (Nat × Instr × Nat) := [(61, .aload_n 1, 1), (62, .getfield 24, 3), (65, .iconst 0, 1), (66, .aload_n 0, 1), (67, .getfield 24, 3), (70, .iconst 0, 1), (71, .bipush 6, 2), (73, .invokestatic 86, 3), (76, .aload_n 1, 1), (77, .getfield 37, 3), (80, .iconst 0, 1), (81, .aload_n 0, 1), (82, .getfield 37, 3), (85, .iconst 0, 1), (86, .bipush 100, 2), (88, .invokestatic 86, 3)]
def ch_X0_takeAll_3 : List (Nat × Instr × Nat) := [(91, .aload_n 1, 1), (92, .getfield 40, 3), (95, .iconst 0, 1), (96, .aload_n 0, 1), (97, .getfield 40, 3), (100, .iconst 0, 1), (101, .sipush 180, 3), (104, .invokestatic 86, 3), (107, .aload_n 0, 1), (108, .iconst 1, 1), (109, .putfield 59, 3), (112, .aload_n 0, 1), (113, .bipush 6, 2), (115, .putfield 63, 3), (118, .return_, 1)]
set_option maxRecDepth 100000 in
theorem he_X0_takeAll : cd_X0_takeAll = ch_X0_takeAll_0 ++ (ch_X0_takeAll_1 ++ (ch_X0_takeAll_2 ++ (ch_X0_takeAll_3))) := rfl
noncomputable def gc_X0_takeAll : Nat → Option (Nat × Instr × Nat) := rv_ap 16 (rv_at ch_X0_takeAll_0) (rv_ap 16 (rv_at ch_X0_takeAll_1) (rv_ap 16 (rv_at ch_X0_takeAll_2) (rv_at ch_X0_takeAll_3)))
theorem hc_X0_takeAll : ∀ i : Nat, cd_X0_takeAll[i]? = gc_X0_takeAll i := by
  rw [he_X0_takeAll]
  exact rv_ap_eq (l := ch_X0_takeAll_0) (c := 16) (rv_ap_eq (l := ch_X0_takeAll_1) (c := 16) (rv_ap_eq (l := ch_X0_takeAll_2) (c := 16) (rv_at_eq ch_X0_takeAll_3) rfl) rfl) rfl
def K_X0_takeAll_0 : rv_K := ([rv_r 56, rv_r 26], [], [(56, 9), (56, 10), (56, 11), (56, 12), (56, 13), (56, 14), (56, 15), (57, 9999), (58, 9999), (59, 9999), (60, 9999), (61, 9999), (62, 9999), (63, 9999), (64, 9999), (66, 0), (67, 9999), (68, 9999), (69, 9999), (70, 9999)], [], [], [])
def ct_X0_takeAll_0 : List (Nat × rv_K) := [(2, K_X0_takeMoving_0), (7, K_X2_takeAll_0), (15, ([rv_r 28, rv_i 0 0, rv_r 58, rv_i 0 0, rv_i 20 20], [], [(58, 9999)], [], [], [])), (23, ([rv_r 29, rv_i 0 0, rv_r 59, rv_i 0 0, rv_i 20 20], [], [(59, 9999)], [], [], [])), (31, ([rv_r 30, rv_i 0 0, rv_r 60, rv_i 0 0, rv_i 20 20], [], [(60, 9999)], [], [], [])), (39, ([rv_r 31, rv_i 0 0, rv_r 61, rv_i 0 0, rv_i 6 6], [], [(61, 9999)], [], [], [])), (47, ([rv_r 33, rv_i 0 0, rv_r 63, rv_i 0 0, rv_i 100 100], [], [(63, 9999)], [], [], [])), (55, ([rv_r 34, rv_i 0 0, rv_r 64, rv_i 0 0, rv_i 180 180], [], [(64, 9999)], [], [], []))]
def n_X0_takeAll_0_0 : List rv_N := [
  (0, ([rv_r 56, rv_r 26], [], []), [1], 62, [], []),
  (1, ([rv_r 56, rv_r 26], [rv_r 56], []), [2], 61, [], []),
  (2, ([rv_r 56, rv_r 26], [rv_r 26, rv_r 56], []), [3], 60, [], [0]),
  (3, ([rv_r 56, rv_r 26], [], []), [4], 59, [], []),
  (4, ([rv_r 56, rv_r 26], [rv_r 56], []), [5], 58, [], []),
  (5, ([rv_r 56, rv_r 26], [rv_r 66], []), [6], 57, [], []),
  (6, ([rv_r 56, rv_r 26], [rv_r 26, rv_r 66], []), [7], 56, [], []),
  (7, ([rv_r 56, rv_r 26], [rv_r 36, rv_r 66], []), [8], 55, [], [1]),
  (8, ([rv_r 56, rv_r 26], [], []), [9], 54, [], []),
  (9, ([rv_r 56, rv_r 26], [rv_r 26], []), [10], 53, [], []),
  (10, ([rv_r 56, rv_r 26], [rv_r 28], []), [11], 52, [], []),
  (11, ([rv_r 56, rv_r 26], [rv_i 0 0, rv_r 28], []), [12], 51, [], []),
  (12, ([rv_r 56, rv_r 26], [rv_r 56, rv_i 0 0, rv_r 28], []), [13], 50, [], []),
  (13, ([rv_r 56, rv_r 26], [rv_r 58, rv_i 0 0, rv_r 28], []), [14], 49, [], []),
  (14, ([rv_r 56, rv_r 26], [rv_i 0 0, rv_r 58, rv_i 0 0, rv_r 28], []), [15], 48, [], []),
  (15, ([rv_r 56, rv_r 26], [rv_i 20 20, rv_i 0 0, rv_r 58, rv_i 0 0, rv_r 28], []), [16], 47, [], [2])]
def n_X0_takeAll_0_1 : List rv_N := [
  (16, ([rv_r 56, rv_r 26], [], []), [17], 46, [], []),
  (17, ([rv_r 56, rv_r 26], [rv_r 26], []), [18], 45, [], []),
  (18, ([rv_r 56, rv_r 26], [rv_r 29], []), [19], 44, [], []),
  (19, ([rv_r 56, rv_r 26], [rv_i 0 0, rv_r 29], []), [20], 43, [], []),
  (20, ([rv_r 56, rv_r 26], [rv_r 56, rv_i 0 0, rv_r 29], []), [21], 42, [], []),
  (21, ([rv_r 56, rv_r 26], [rv_r 59, rv_i 0 0, rv_r 29], []), [22], 41, [], []),
  (22, ([rv_r 56, rv_r 26], [rv_i 0 0, rv_r 59, rv_i 0 0, rv_r 29], []), [23], 40, [], []),
  (23, ([rv_r 56, rv_r 26], [rv_i 20 20, rv_i 0 0, rv_r 59, rv_i 0 0, rv_r 29], []), [24], 39, [], [3]),
  (24, ([rv_r 56, rv_r 26], [], []), [25], 38, [], []),
  (25, ([rv_r 56, rv_r 26], [rv_r 26], []), [26], 37, [], []),
  (26, ([rv_r 56, rv_r 26], [rv_r 30], []), [27], 36, [], []),
  (27, ([rv_r 56, rv_r 26], [rv_i 0 0, rv_r 30], []), [28], 35, [], []),
  (28, ([rv_r 56, rv_r 26], [rv_r 56, rv_i 0 0, rv_r 30], []), [29], 34, [], []),
  (29, ([rv_r 56, rv_r 26], [rv_r 60, rv_i 0 0, rv_r 30], []), [30], 33, [], []),
  (30, ([rv_r 56, rv_r 26], [rv_i 0 0, rv_r 60, rv_i 0 0, rv_r 30], []), [31], 32, [], []),
  (31, ([rv_r 56, rv_r 26], [rv_i 20 20, rv_i 0 0, rv_r 60, rv_i 0 0, rv_r 30], []), [32], 31, [], [4])]
def n_X0_takeAll_0_2 : List rv_N := [
  (32, ([rv_r 56, rv_r 26], [], []), [33], 30, [], []),
  (33, ([rv_r 56, rv_r 26], [rv_r 26], []), [34], 29, [], []),
  (34, ([rv_r 56, rv_r 26], [rv_r 31], []), [35], 28, [], []),
  (35, ([rv_r 56, rv_r 26], [rv_i 0 0, rv_r 31], []), [36], 27, [], []),
  (36, ([rv_r 56, rv_r 26], [rv_r 56, rv_i 0 0, rv_r 31], []), [37], 26, [], []),
  (37, ([rv_r 56, rv_r 26], [rv_r 61, rv_i 0 0, rv_r 31], []), [38], 25, [], []),
  (38, ([rv_r 56, rv_r 26], [rv_i 0 0, rv_r 61, rv_i 0 0, rv_r 31], []), [39], 24, [], []),
  (39, ([rv_r 56, rv_r 26], [rv_i 6 6, rv_i 0 0, rv_r 61, rv_i 0 0, rv_r 31], []), [40], 23, [], [5]),
  (40, ([rv_r 56, rv_r 26], [], []), [41], 22, [], []),
  (41, ([rv_r 56, rv_r 26], [rv_r 26], []), [42], 21, [], []),
  (42, ([rv_r 56, rv_r 26], [rv_r 33], []), [43], 20, [], []),
  (43, ([rv_r 56, rv_r 26], [rv_i 0 0, rv_r 33], []), [44], 19, [], []),
  (44, ([rv_r 56, rv_r 26], [rv_r 56, rv_i 0 0, rv_r 33], []), [45], 18, [], []),
  (45, ([rv_r 56, rv_r 26], [rv_r 63, rv_i 0 0, rv_r 33], []), [46], 17, [], []),
  (46, ([rv_r 56, rv_r 26], [rv_i 0 0, rv_r 63, rv_i 0 0, rv_r 33], []), [47], 16, [], []),
  (47, ([rv_r 56, rv_r 26], [rv_i 100 100, rv_i 0 0, rv_r 63, rv_i 0 0, rv_r 33], []), [48], 15, [], [6])]
def n_X0_takeAll_0_3 : List rv_N := [
  (48, ([rv_r 56, rv_r 26], [], []), [49], 14, [], []),
  (49, ([rv_r 56, rv_r 26], [rv_r 26], []), [50], 13, [], []),
  (50, ([rv_r 56, rv_r 26], [rv_r 34], []), [51], 12, [], []),
  (51, ([rv_r 56, rv_r 26], [rv_i 0 0, rv_r 34], []), [52], 11, [], []),
  (52, ([rv_r 56, rv_r 26], [rv_r 56, rv_i 0 0, rv_r 34], []), [53], 10, [], []),
  (53, ([rv_r 56, rv_r 26], [rv_r 64, rv_i 0 0, rv_r 34], []), [54], 9, [], []),
  (54, ([rv_r 56, rv_r 26], [rv_i 0 0, rv_r 64, rv_i 0 0, rv_r 34], []), [55], 8, [], []),
  (55, ([rv_r 56, rv_r 26], [rv_i 180 180, rv_i 0 0, rv_r 64, rv_i 0 0, rv_r 34], []), [56], 7, [], [7]),
  (56, ([rv_r 56, rv_r 26], [], []), [57], 6, [], []),
  (57, ([rv_r 56, rv_r 26], [rv_r 56], []), [58], 5, [], []),
  (58, ([rv_r 56, rv_r 26], [rv_i 1 1, rv_r 56], []), [59], 4, [], []),
  (59, ([rv_r 56, rv_r 26], [], [((56, 14), 1, 1, [])]), [60], 3, [], []),
  (60, ([rv_r 56, rv_r 26], [rv_r 56], [((56, 14), 1, 1, [])]), [61], 2, [], []),
  (61, ([rv_r 56, rv_r 26], [rv_i 6 6, rv_r 56], [((56, 14), 1, 1, [])]), [62], 1, [], []),
  (62, ([rv_r 56, rv_r 26], [], [((56, 14), 1, 1, []), ((56, 15), 6, 6, [])]), [], 0, [], [])]
def n_X0_takeAll_0 : List rv_N := n_X0_takeAll_0_0 ++ (n_X0_takeAll_0_1 ++ (n_X0_takeAll_0_2 ++ (n_X0_takeAll_0_3)))
noncomputable def gn_X0_takeAll_0 : Nat → Option rv_N := rv_ap 16 (rv_at n_X0_takeAll_0_0) (rv_ap 16 (rv_at n_X0_takeAll_0_1) (rv_ap 16 (rv_at n_X0_takeAll_0_2) (rv_at n_X0_takeAll_0_3)))
theorem hn_X0_takeAll_0 : ∀ i : Nat, n_X0_takeAll_0[i]? = gn_X0_takeAll_0 i := rv_ap_eq (l := n_X0_takeAll_0_0) (c := 16) (rv_ap_eq (l := n_X0_takeAll_0_1) (c := 16) (rv_ap_eq (l := n_X0_takeAll_0_2) (c := 16) (rv_at_eq n_X0_takeAll_0_3) rfl) rfl) rfl
set_option maxRecDepth 100000 in
theorem a_X0_takeAll_0 : rv_all (fm_tm, flX0, fm_wr, kcX0, klX0, K_X0_takeAll_0.2.2.1, [], 2) ct_X0_takeAll_0 cd_X0_takeAll n_X0_takeAll_0 K_X0_takeAll_0 [] 0 n_X0_takeAll_0 = true := rv_fast hn_X0_takeAll_0 hc_X0_takeAll (by decide +kernel)
theorem m_X0_takeAll_0 {l : Launch} {D : va_G} {ad : Nat → Nat} {cy : Nat → ClassId} {Z : State → Heap → Prop} {Gp : fm_V → Prop} (hAd : fm_Ad fm_tm ad) (hZ : fm_Zk (fm_A fm_tm ad) Z) (hGd : fm_Gd Gp) : rv_Met l D fm_cl fm_tm ad cy fm_nt Z Gp yX0_takeAll (.code yX0_takeAll prog_2_method_2_code 2 none :: fm_Ts) { frames := 3, cells := 0, slots := 0, locals := 300 } K_X0_takeAll_0 := rv_met hAd hZ (Or.inl (by decide +kernel)) evX0 dc_X0_takeAll a_X0_takeAll_0 ⟨rfl, rfl, rfl⟩ (by decide +kernel) (by decide +kernel) (by decide) (fm_gm hGd (by decide +kernel)) (rfl) (fun p e s m args below meth c Q X Y => List.forall_mem_cons.mpr ⟨rv_ctV X Y fm_Ts_good dc_X0_takeAll (pc := 2) (i := 2) (idx := 78) rfl (m_X0_takeMoving_0 hAd hZ hGd) wl_X0_78 wm_X0_takeMoving wy_X0_takeMoving (by decide) ⟨rfl, rfl, rfl⟩ ⟨rfl, rfl⟩, List.forall_mem_cons.mpr ⟨rv_ctV X Y fm_Ts_good dc_X0_takeAll (pc := 13) (i := 7) (idx := 82) rfl (m_X2_takeAll_0 hAd hZ hGd) wl_X0_82 wm_X2_takeAll wy_X2_takeAll (by decide) ⟨rfl, rfl, rfl⟩ ⟨rfl, rfl⟩, List.forall_mem_cons.mpr ⟨rv_ctC X dc_X0_takeAll (pc := 28) (i := 15) (idx := 86) rfl wl_X0_86 fm_acw (by decide +kernel) (a := 28) (b := 58) (n := 20) ⟨rfl, rfl⟩ (by decide) rfl, List.forall_mem_cons.mpr ⟨rv_ctC X dc_X0_takeAll (pc := 43) (i := 23) (idx := 86) rfl wl_X0_86 fm_acw (by decide +kernel) (a := 29) (b := 59) (n := 20) ⟨rfl, rfl⟩ (by decide) rfl, List.forall_mem_cons.mpr ⟨rv_ctC X dc_X0_takeAll (pc := 58) (i := 31) (idx := 86) rfl wl_X0_86 fm_acw (by decide +kernel) (a := 30) (b := 60) (n := 20) ⟨rfl, rfl⟩ (by decide) rfl, List.forall_mem_cons.mpr ⟨rv_ctC X dc_X0_takeAll (pc := 73) (i := 39) (idx := 86) rfl wl_X0_86 fm_acw (by decide +kernel) (a := 31) (b := 61) (n := 6) ⟨rfl, rfl⟩ (by decide) rfl, List.forall_mem_cons.mpr ⟨rv_ctC X dc_X0_takeAll (pc := 88) (i := 47) (idx := 86) rfl wl_X0_86 fm_acw (by decide +kernel) (a := 33) (b := 63) (n := 100) ⟨rfl, rfl⟩ (by decide) rfl, List.forall_mem_cons.mpr ⟨rv_ctC X dc_X0_takeAll (pc := 104) (i := 55) (idx := 86) rfl wl_X0_86 fm_acw (by decide +kernel) (a := 34) (b := 64) (n := 180) ⟨rfl, rfl⟩ (by decide) rfl, fun _ h => absurd h List.not_mem_nil⟩⟩⟩⟩⟩⟩⟩⟩) (fun _ _ _ _ _ _ _ _ _ _ _ _ _ _ _ _ h => absurd h List.not_mem_nil)
def K_X0_nextDraw_1 : rv_K := ([rv_r 56], [], [(56, 10)], [(0, (-2147483648), 2147483647)], [], [])
def ct_X0_nextDraw_1 : List (Nat × rv_K) := []
def n_X0_nextDraw_1 : List rv_N := [
  (0, ([rv_r 56], [], []), [1], 14, [], []),
  (1, ([rv_r 56], [rv_r 56], []), [2], 13, [], []),
  (2, ([rv_r 56], [rv_i 25173 25173, rv_r 56], []), [3], 12, [], []),
  (3, ([rv_r 56], [rv_r 56, rv_i 25173 25173, rv_r 56], []), [4], 11, [], []),
  (4, ([rv_r 56], [(1, 0, (-2147483648), 2147483647, [(.inr (56, 10), 0)], []), rv_i 25173 25173, rv_r 56], []), [5], 10, [], []),
  (5, ([rv_r 56], [rv_full, rv_r 56], []), [6], 9, [], []),
  (6, ([rv_r 56], [rv_i 13849 13849, rv_full, rv_r 56], []), [7], 8, [], []),
  (7, ([rv_r 56], [rv_full, rv_r 56], []), [8], 7, [], []),
  (8, ([rv_r 56], [rv_i 65535 65535, rv_full, rv_r 56], []), [9], 6, [], []),
  (9, ([rv_r 56], [rv_i 0 65535, rv_r 56], []), [10], 5, [], []),
  (10, ([rv_r 56], [], [((56, 10), 0, 65535, [])]), [11], 4, [], []),
  (11, ([rv_r 56], [rv_r 56], [((56, 10), 0, 65535, [])]), [12], 3, [], []),
  (12, ([rv_r 56], [(1, 0, 0, 65535, [(.inr (56, 10), 0)], [])], [((56, 10), 0, 65535, [])]), [13], 2, [], []),
  (13, ([rv_r 56], [rv_i 10 10, (1, 0, 0, 65535, [(.inr (56, 10), 0)], [])], [((56, 10), 0, 65535, [])]), [14], 1, [], []),
  (14, ([rv_r 56], [rv_full], [((56, 10), 0, 65535, [])]), [], 0, [], [])]
set_option maxRecDepth 100000 in
theorem a_X0_nextDraw_1 : rv_all (fm_tm, flX0, fm_wr, kcX0, klX0, K_X0_nextDraw_1.2.2.1, [], 1) ct_X0_nextDraw_1 cd_X0_nextDraw n_X0_nextDraw_1 K_X0_nextDraw_1 [] 0 n_X0_nextDraw_1 = true := rv_fast (rv_at_eq n_X0_nextDraw_1) (rv_at_eq cd_X0_nextDraw) (by decide +kernel)
theorem m_X0_nextDraw_1 {l : Launch} {D : va_G} {ad : Nat → Nat} {cy : Nat → ClassId} {Z : State → Heap → Prop} {Gp : fm_V → Prop} (hAd : fm_Ad fm_tm ad) (hZ : fm_Zk (fm_A fm_tm ad) Z) (hGd : fm_Gd Gp) : rv_Met l D fm_cl fm_tm ad cy fm_nt Z Gp yX0_nextDraw (.code yX0_nextDraw prog_2_method_8_code 1 (some .int) :: fm_Ts) { frames := 0, cells := 0, slots := 0, locals := 0 } K_X0_nextDraw_1 := rv_met hAd hZ (Or.inl (by decide +kernel)) evX0 dc_X0_nextDraw a_X0_nextDraw_1 ⟨rfl, rfl, rfl⟩ (by decide +kernel) (by decide +kernel) (by decide) (fm_gm hGd (by decide +kernel)) (Or.inl rfl) (fun p e s m args below meth c Q X Y => fun _ h => absurd h List.not_mem_nil) (fun _ _ _ _ _ _ _ _ _ _ _ _ _ _ _ _ h => absurd h List.not_mem_nil)
def K_X2_climbs_1 : rv_K := ([rv_r 66, rv_full], [], [], [(0, 0, 1)], [(.inl 1, 0, 8), (.inr (67, 5001), (-2147483648), 19)], [])
def ct_X2_climbs_1 : List (Nat × rv_K) := [(1, K_X7_isPorter_0)]
def n_X2_climbs_1_0 : List rv_N := [
  (0, ([rv_r 66, rv_full], [], []), [1], 18, [], []),
  (1, ([rv_r 66, rv_full], [(1, 0, (-2147483648), 2147483647, [(.inl 1, 0)], [])], []), [2], 17, [], [0]),
  (2, ([rv_r 66, rv_full], [(1, 0, 0, 1, [], [(.inl 1, 0, 8)])], []), [3, 18], 16, [], []),
  (3, ([rv_r 66, rv_i 0 8], [], []), [4], 15, [], []),
  (4, ([rv_r 66, rv_i 0 8], [rv_r 66], []), [5], 14, [], []),
  (5, ([rv_r 66, rv_i 0 8], [(1, 0, (-2147483648), 2147483647, [(.inr (66, 0), 0)], [])], []), [6], 13, [], []),
  (6, ([rv_r 66, rv_i 0 8], [(1, 0, 0, 8, [(.inl 1, 0)], []), (1, 0, (-2147483648), 2147483647, [(.inr (66, 0), 0)], [])], []), [7], 12, [], []),
  (7, ([rv_r 66, rv_i 0 8], [rv_full], []), [8], 11, [], []),
  (8, ([rv_r 66, rv_i 0 8], [rv_i 1 1, rv_full], []), [9], 10, [], []),
  (9, ([rv_r 66, rv_i 0 8], [rv_i 0 1], []), [10, 18], 9, [], []),
  (10, ([rv_r 66, rv_i 0 8], [], []), [11], 8, [], []),
  (11, ([rv_r 66, rv_i 0 8], [rv_r 66], []), [12], 7, [], []),
  (12, ([rv_r 66, rv_i 0 8], [rv_r 67], []), [13], 6, [], []),
  (13, ([rv_r 66, rv_i 0 8], [(1, 0, 0, 8, [(.inl 1, 0)], []), rv_r 67], []), [14], 5, [], []),
  (14, ([rv_r 66, rv_i 0 8], [(1, 0, (-2147483648), 2147483647, [(.inr (67, 5001), 0)], [])], []), [15], 4, [], []),
  (15, ([rv_r 66, rv_i 0 8], [rv_i 20 20, (1, 0, (-2147483648), 2147483647, [(.inr (67, 5001), 0)], [])], []), [16, 18], 3, [], [])]
def n_X2_climbs_1_1 : List rv_N := [
  (16, ([rv_r 66, rv_i 0 8], [], [((67, 5001), (-2147483648), 19, [])]), [17], 2, [], []),
  (17, ([rv_r 66, rv_i 0 8], [rv_i 1 1], [((67, 5001), (-2147483648), 19, [])]), [20], 1, [], []),
  (18, ([rv_r 66, rv_full], [], []), [19], 1, [], []),
  (19, ([rv_r 66, rv_full], [rv_i 0 0], []), [], 0, [], []),
  (19, ([rv_r 66, rv_i 0 8], [rv_i 1 1], [((67, 5001), (-2147483648), 19, [])]), [], 0, [], [])]
def n_X2_climbs_1 : List rv_N := n_X2_climbs_1_0 ++ (n_X2_climbs_1_1)
noncomputable def gn_X2_climbs_1 : Nat → Option rv_N := rv_ap 16 (rv_at n_X2_climbs_1_0) (rv_at n_X2_climbs_1_1)
theorem hn_X2_climbs_1 : ∀ i : Nat, n_X2_climbs_1[i]? = gn_X2_climbs_1 i := rv_ap_eq (l := n_X2_climbs_1_0) (c := 16) (rv_at_eq n_X2_climbs_1_1) rfl
set_option maxRecDepth 100000 in
theorem a_X2_climbs_1 : rv_all (fm_tm, flX2, fm_wr, kcX2, klX2, K_X2_climbs_1.2.2.1, [1], 2) ct_X2_climbs_1 cd_X2_climbs n_X2_climbs_1 K_X2_climbs_1 [] 0 n_X2_climbs_1 = true := rv_fast hn_X2_climbs_1 (rv_at_eq cd_X2_climbs) (by decide +kernel)
theorem m_X2_climbs_1 {l : Launch} {D : va_G} {ad : Nat → Nat} {cy : Nat → ClassId} {Z : State → Heap → Prop} {Gp : fm_V → Prop} (hAd : fm_Ad fm_tm ad) (hZ : fm_Zk (fm_A fm_tm ad) Z) (hGd : fm_Gd Gp) : rv_Met l D fm_cl fm_tm ad cy fm_nt Z Gp yX2_climbs (.code yX2_climbs prog_4_method_5_code 2 (some .boolean) :: fm_Ts) { frames := 1, cells := 0, slots := 0, locals := 100 } K_X2_climbs_1 := rv_met hAd hZ (Or.inl (by decide +kernel)) evX2 dc_X2_climbs a_X2_climbs_1 ⟨rfl, rfl, rfl⟩ (by decide +kernel) (by decide +kernel) (by decide) (fm_gm hGd (by decide +kernel)) (Or.inr ⟨rfl, by decide, by decide⟩) (fun p e s m args below meth c Q X Y => List.forall_mem_cons.mpr ⟨rv_ctN X Y fm_Ts_good dc_X2_climbs (pc := 1) (i := 1) (idx := 34) rfl (m_X7_isPorter_0 hAd hZ hGd) wl_X2_34 wm_X7_isPorter wy_X7_isPorter (by decide) rfl, fun _ h => absurd h List.not_mem_nil⟩) (fun _ _ _ _ _ _ _ _ _ _ _ _ _ _ _ _ h => absurd h List.not_mem_nil)
def K_X0_show_1 : rv_K := ([rv_r 56, rv_r 7, rv_full], [], [(14, 0), (14, 1), (14, 2), (14, 3), (14, 4), (14, 5)], [], [], [])
def ct_X0_show_1 : List (Nat × rv_K) := [(1, K_X7_isYard_0)]
def n_X0_show_1_0 : List rv_N := [
  (0, ([rv_r 56, rv_r 7, rv_full], [], []), [1], 55, [], []),
  (1, ([rv_r 56, rv_r 7, rv_full], [(1, 0, (-2147483648), 2147483647, [(.inl 2, 0)], [])], []), [2], 54, [], [0]),
  (2, ([rv_r 56, rv_r 7, rv_full], [(1, 0, 0, 1, [], [(.inl 2, 0, 19)])], []), [3, 4], 53, [], []),
  (3, ([rv_r 56, rv_r 7, rv_full], [], []), [], 0, [], []),
  (4, ([rv_r 56, rv_r 7, rv_i 0 19], [], []), [5], 52, [], []),
  (5, ([rv_r 56, rv_r 7, rv_i 0 19], [rv_r 7], []), [6], 51, [], []),
  (6, ([rv_r 56, rv_r 7, rv_i 0 19], [rv_r 14], []), [7], 50, [], []),
  (7, ([rv_r 56, rv_r 7, rv_i 0 19], [rv_i 0 0, rv_r 14], []), [8], 49, [], []),
  (8, ([rv_r 56, rv_r 7, rv_i 0 19], [(1, 0, 0, 19, [(.inl 2, 0)], []), rv_i 0 0, rv_r 14], []), [9], 48, [], []),
  (9, ([rv_r 56, rv_r 7, rv_i 0 19], [], [((14, 0), 0, 19, [])]), [10], 47, [], []),
  (10, ([rv_r 56, rv_r 7, rv_i 0 19], [rv_r 7], [((14, 0), 0, 19, [])]), [11], 46, [], []),
  (11, ([rv_r 56, rv_r 7, rv_i 0 19], [rv_r 14], [((14, 0), 0, 19, [])]), [12], 45, [], []),
  (12, ([rv_r 56, rv_r 7, rv_i 0 19], [rv_i 1 1, rv_r 14], [((14, 0), 0, 19, [])]), [13], 44, [], []),
  (13, ([rv_r 56, rv_r 7, rv_i 0 19], [rv_r 56, rv_i 1 1, rv_r 14], [((14, 0), 0, 19, [])]), [14], 43, [], []),
  (14, ([rv_r 56, rv_r 7, rv_i 0 19], [rv_r 57, rv_i 1 1, rv_r 14], [((14, 0), 0, 19, [])]), [15], 42, [], []),
  (15, ([rv_r 56, rv_r 7, rv_i 0 19], [(1, 0, 0, 19, [(.inl 2, 0)], []), rv_r 57, rv_i 1 1, rv_r 14], [((14, 0), 0, 19, [])]), [16], 41, [], [])]
def n_X0_show_1_1 : List rv_N := [
  (16, ([rv_r 56, rv_r 7, rv_i 0 19], [(1, 0, (-2147483648), 2147483647, [(.inr (57, 5002), 0)], []), rv_i 1 1, rv_r 14], [((14, 0), 0, 19, [])]), [17], 40, [], []),
  (17, ([rv_r 56, rv_r 7, rv_i 0 19], [], [((14, 0), 0, 19, [])]), [18], 39, [], []),
  (18, ([rv_r 56, rv_r 7, rv_i 0 19], [rv_r 7], [((14, 0), 0, 19, [])]), [19], 38, [], []),
  (19, ([rv_r 56, rv_r 7, rv_i 0 19], [rv_r 14], [((14, 0), 0, 19, [])]), [20], 37, [], []),
  (20, ([rv_r 56, rv_r 7, rv_i 0 19], [rv_i 2 2, rv_r 14], [((14, 0), 0, 19, [])]), [21], 36, [], []),
  (21, ([rv_r 56, rv_r 7, rv_i 0 19], [rv_r 56, rv_i 2 2, rv_r 14], [((14, 0), 0, 19, [])]), [22], 35, [], []),
  (22, ([rv_r 56, rv_r 7, rv_i 0 19], [rv_r 58, rv_i 2 2, rv_r 14], [((14, 0), 0, 19, [])]), [23], 34, [], []),
  (23, ([rv_r 56, rv_r 7, rv_i 0 19], [(1, 0, 0, 19, [(.inl 2, 0)], []), rv_r 58, rv_i 2 2, rv_r 14], [((14, 0), 0, 19, [])]), [24], 33, [], []),
  (24, ([rv_r 56, rv_r 7, rv_i 0 19], [(1, 0, (-2147483648), 2147483647, [(.inr (58, 5002), 0)], []), rv_i 2 2, rv_r 14], [((14, 0), 0, 19, [])]), [25], 32, [], []),
  (25, ([rv_r 56, rv_r 7, rv_i 0 19], [], [((14, 0), 0, 19, [])]), [26], 31, [], []),
  (26, ([rv_r 56, rv_r 7, rv_i 0 19], [rv_r 7], [((14, 0), 0, 19, [])]), [27], 30, [], []),
  (27, ([rv_r 56, rv_r 7, rv_i 0 19], [rv_r 14], [((14, 0), 0, 19, [])]), [28], 29, [], []),
  (28, ([rv_r 56, rv_r 7, rv_i 0 19], [rv_i 3 3, rv_r 14], [((14, 0), 0, 19, [])]), [29], 28, [], []),
  (29, ([rv_r 56, rv_r 7, rv_i 0 19], [rv_r 56, rv_i 3 3, rv_r 14], [((14, 0), 0, 19, [])]), [30], 27, [], []),
  (30, ([rv_r 56, rv_r 7, rv_i 0 19], [rv_r 59, rv_i 3 3, rv_r 14], [((14, 0), 0, 19, [])]), [31], 26, [], []),
  (31, ([rv_r 56, rv_r 7, rv_i 0 19], [(1, 0, 0, 19, [(.inl 2, 0)], []), rv_r 59, rv_i 3 3, rv_r 14], [((14, 0), 0, 19, [])]), [32], 25, [], [])]
def n_X0_show_1_2 : List rv_N := [
  (32, ([rv_r 56, rv_r 7, rv_i 0 19], [(1, 0, (-2147483648), 2147483647, [(.inr (59, 5002), 0)], []), rv_i 3 3, rv_r 14], [((14, 0), 0, 19, [])]), [33], 24, [], []),
  (33, ([rv_r 56, rv_r 7, rv_i 0 19], [], [((14, 0), 0, 19, [])]), [34], 23, [], []),
  (34, ([rv_r 56, rv_r 7, rv_i 0 19], [rv_r 7], [((14, 0), 0, 19, [])]), [35], 22, [], []),
  (35, ([rv_r 56, rv_r 7, rv_i 0 19], [rv_r 14], [((14, 0), 0, 19, [])]), [36], 21, [], []),
  (36, ([rv_r 56, rv_r 7, rv_i 0 19], [rv_i 4 4, rv_r 14], [((14, 0), 0, 19, [])]), [37], 20, [], []),
  (37, ([rv_r 56, rv_r 7, rv_i 0 19], [rv_r 56, rv_i 4 4, rv_r 14], [((14, 0), 0, 19, [])]), [38], 19, [], []),
  (38, ([rv_r 56, rv_r 7, rv_i 0 19], [(1, 0, (-2147483648), 2147483647, [(.inr (56, 9), 0)], []), rv_i 4 4, rv_r 14], [((14, 0), 0, 19, [])]), [39, 49], 18, [], []),
  (39, ([rv_r 56, rv_r 7, rv_i 0 19], [rv_i 4 4, rv_r 14], [((14, 0), 0, 19, []), ((56, 9), 0, 2147483647, [])]), [40], 17, [], []),
  (40, ([rv_r 56, rv_r 7, rv_i 0 19], [rv_r 56, rv_i 4 4, rv_r 14], [((14, 0), 0, 19, []), ((56, 9), 0, 2147483647, [])]), [41], 16, [], []),
  (41, ([rv_r 56, rv_r 7, rv_i 0 19], [(1, 0, 0, 2147483647, [(.inr (56, 9), 0)], []), rv_i 4 4, rv_r 14], [((14, 0), 0, 19, []), ((56, 9), 0, 2147483647, [])]), [42], 15, [], []),
  (42, ([rv_r 56, rv_r 7, rv_i 0 19], [rv_i 100 100, (1, 0, 0, 2147483647, [(.inr (56, 9), 0)], []), rv_i 4 4, rv_r 14], [((14, 0), 0, 19, []), ((56, 9), 0, 2147483647, [])]), [43, 49], 14, [], []),
  (43, ([rv_r 56, rv_r 7, rv_i 0 19], [rv_i 4 4, rv_r 14], [((14, 0), 0, 19, []), ((56, 9), 0, 99, [])]), [44], 13, [], []),
  (44, ([rv_r 56, rv_r 7, rv_i 0 19], [rv_r 56, rv_i 4 4, rv_r 14], [((14, 0), 0, 19, []), ((56, 9), 0, 99, [])]), [45], 12, [], []),
  (45, ([rv_r 56, rv_r 7, rv_i 0 19], [rv_r 63, rv_i 4 4, rv_r 14], [((14, 0), 0, 19, []), ((56, 9), 0, 99, [])]), [46], 11, [], []),
  (46, ([rv_r 56, rv_r 7, rv_i 0 19], [rv_r 56, rv_r 63, rv_i 4 4, rv_r 14], [((14, 0), 0, 19, []), ((56, 9), 0, 99, [])]), [47], 10, [], []),
  (47, ([rv_r 56, rv_r 7, rv_i 0 19], [(1, 0, 0, 99, [(.inr (56, 9), 0)], []), rv_r 63, rv_i 4 4, rv_r 14], [((14, 0), 0, 19, []), ((56, 9), 0, 99, [])]), [48], 9, [], [])]
def n_X0_show_1_3 : List rv_N := [
  (48, ([rv_r 56, rv_r 7, rv_i 0 19], [rv_full, rv_i 4 4, rv_r 14], [((14, 0), 0, 19, []), ((56, 9), 0, 99, [])]), [51], 8, [], []),
  (49, ([rv_r 56, rv_r 7, rv_i 0 19], [rv_i 4 4, rv_r 14], [((14, 0), 0, 19, [])]), [50], 8, [], []),
  (50, ([rv_r 56, rv_r 7, rv_i 0 19], [rv_i 0 0, rv_i 4 4, rv_r 14], [((14, 0), 0, 19, [])]), [52], 7, [], []),
  (50, ([rv_r 56, rv_r 7, rv_i 0 19], [rv_full, rv_i 4 4, rv_r 14], [((14, 0), 0, 19, []), ((56, 9), 0, 99, [])]), [52], 7, [], []),
  (51, ([rv_r 56, rv_r 7, rv_i 0 19], [], [((14, 0), 0, 19, [])]), [53], 6, [], []),
  (52, ([rv_r 56, rv_r 7, rv_i 0 19], [rv_r 7], [((14, 0), 0, 19, [])]), [54], 5, [], []),
  (53, ([rv_r 56, rv_r 7, rv_i 0 19], [rv_r 14], [((14, 0), 0, 19, [])]), [55], 4, [], []),
  (54, ([rv_r 56, rv_r 7, rv_i 0 19], [rv_i 5 5, rv_r 14], [((14, 0), 0, 19, [])]), [56], 3, [], []),
  (55, ([rv_r 56, rv_r 7, rv_i 0 19], [rv_r 56, rv_i 5 5, rv_r 14], [((14, 0), 0, 19, [])]), [57], 2, [], []),
  (56, ([rv_r 56, rv_r 7, rv_i 0 19], [(1, 0, (-2147483648), 2147483647, [(.inr (56, 9), 0)], []), rv_i 5 5, rv_r 14], [((14, 0), 0, 19, [])]), [58], 1, [], []),
  (57, ([rv_r 56, rv_r 7, rv_i 0 19], [], [((14, 0), 0, 19, [])]), [], 0, [], [])]
def n_X0_show_1 : List rv_N := n_X0_show_1_0 ++ (n_X0_show_1_1 ++ (n_X0_show_1_2 ++ (n_X0_show_1_3)))
noncomputable def gn_X0_show_1 : Nat → Option rv_N := rv_ap 16 (rv_at n_X0_show_1_0) (rv_ap 16 (rv_at n_X0_show_1_1) (rv_ap 16 (rv_at n_X0_show_1_2) (rv_at n_X0_show_1_3)))
theorem hn_X0_show_1 : ∀ i : Nat, n_X0_show_1[i]? = gn_X0_show_1 i := rv_ap_eq (l := n_X0_show_1_0) (c := 16) (rv_ap_eq (l := n_X0_show_1_1) (c := 16) (rv_ap_eq (l := n_X0_show_1_2) (c := 16) (rv_at_eq n_X0_show_1_3) rfl) rfl) rfl
set_option maxRecDepth 100000 in
theorem a_X0_show_1 : rv_all (fm_tm, flX0, fm_wr, kcX0, klX0, K_X0_show_1.2.2.1, [], 3) ct_X0_show_1 cd_X0_show n_X0_show_1 K_X0_show_1 [] 0 n_X0_show_1 = true := rv_fast hn_X0_show_1 hc_X0_show (by decide +kernel)
theorem m_X0_show_1 {l : Launch} {D : va_G} {ad : Nat → Nat} {cy : Nat → ClassId} {Z : State → Heap → Prop} {Gp : fm_V → Prop} (hAd : fm_Ad fm_tm ad) (hZ : fm_Zk (fm_A fm_tm ad) Z) (hGd : fm_Gd Gp) : rv_Met l D fm_cl fm_tm ad cy fm_nt Z Gp yX0_show (.code yX0_show prog_2_method_12_code 3 none :: fm_Ts) { frames := 1, cells := 0, slots := 0, locals := 100 } K_X0_show_1 := rv_met hAd hZ (Or.inl (by decide +kernel)) evX0 dc_X0_show a_X0_show_1 ⟨rfl, rfl, rfl⟩ (by decide +kernel) (by decide +kernel) (by decide) (fm_gm hGd (by decide +kernel)) (rfl) (fun p e s m args below meth c Q X Y => List.forall_mem_cons.mpr ⟨rv_ctN X Y fm_Ts_good dc_X0_show (pc := 1) (i := 1) (idx := 131) rfl (m_X7_isYard_0 hAd hZ hGd) wl_X0_131 wm_X7_isYard wy_X7_isYard (by decide) rfl, fun _ h => absurd h List.not_mem_nil⟩) (fun _ _ _ _ _ _ _ _ _ _ _ _ _ _ _ _ h => absurd h List.not_mem_nil)
def K_X2_countAt_1 : rv_K := ([rv_r 66, rv_full], [], [], [(0, (-2147483648), 2147483647)], [], [])
def ct_X2_countAt_1 : List (Nat × rv_K) := []
def n_X2_countAt_1_0 : List rv_N := [
  (0, ([rv_r 66, rv_full, rv_u, rv_u], [], []), [1], 3788, [], []),
  (1, ([rv_r 66, rv_full, rv_u, rv_u], [rv_i 0 0], []), [2], 3787, [], []),
  (2, ([rv_r 66, rv_full, rv_i 0 0, rv_u], [], []), [3], 3786, [], []),
  (3, ([rv_r 66, rv_full, rv_i 0 0, rv_u], [rv_i 0 0], []), [4], 3785, [], []),
  (4, ([rv_r 66, rv_full, rv_full, rv_i 0 9], [], []), [5], 3784, [(3, (-420))], []),
  (5, ([rv_r 66, rv_full, rv_full, rv_i 0 9], [(1, 0, 0, 9, [(.inl 3, 0)], [])], []), [6], 3783, [(3, (-420))], []),
  (6, ([rv_r 66, rv_full, rv_full, rv_i 0 9], [rv_i 9 9, (1, 0, 0, 9, [(.inl 3, 0)], [])], []), [7, 23], 3782, [(3, (-420))], []),
  (7, ([rv_r 66, rv_full, rv_full, rv_i 0 8], [], []), [8], 3380, [(3, (-420))], []),
  (8, ([rv_r 66, rv_full, rv_full, rv_i 0 8], [rv_r 66], []), [9], 3379, [(3, (-420))], []),
  (9, ([rv_r 66, rv_full, rv_full, rv_i 0 8], [(1, 0, (-2147483648), 2147483647, [(.inr (66, 0), 0)], [])], []), [10], 3378, [(3, (-420))], []),
  (10, ([rv_r 66, rv_full, rv_full, rv_i 0 8], [(1, 0, 0, 8, [(.inl 3, 0)], []), (1, 0, (-2147483648), 2147483647, [(.inr (66, 0), 0)], [])], []), [11], 3377, [(3, (-420))], []),
  (11, ([rv_r 66, rv_full, rv_full, rv_i 0 8], [rv_full], []), [12], 3376, [(3, (-420))], []),
  (12, ([rv_r 66, rv_full, rv_full, rv_i 0 8], [rv_i 1 1, rv_full], []), [13], 3375, [(3, (-420))], []),
  (13, ([rv_r 66, rv_full, rv_full, rv_i 0 8], [rv_i 0 1], []), [14, 21], 3374, [(3, (-420))], []),
  (14, ([rv_r 66, rv_full, rv_full, rv_i 0 8], [], []), [15], 3373, [(3, (-420))], []),
  (15, ([rv_r 66, rv_full, rv_full, rv_i 0 8], [rv_r 66], []), [16], 3372, [(3, (-420))], [])]
def n_X2_countAt_1_1 : List rv_N := [
  (16, ([rv_r 66, rv_full, rv_full, rv_i 0 8], [rv_r 67], []), [17], 3371, [(3, (-420))], []),
  (17, ([rv_r 66, rv_full, rv_full, rv_i 0 8], [(1, 0, 0, 8, [(.inl 3, 0)], []), rv_r 67], []), [18], 3370, [(3, (-420))], []),
  (18, ([rv_r 66, rv_full, rv_full, rv_i 0 8], [(1, 0, (-2147483648), 2147483647, [(.inr (67, 5003), 0)], [])], []), [19], 3369, [(3, (-420))], []),
  (19, ([rv_r 66, rv_full, rv_full, rv_i 0 8], [(1, 0, (-2147483648), 2147483647, [(.inl 1, 0)], []), (1, 0, (-2147483648), 2147483647, [(.inr (67, 5003), 0)], [])], []), [20, 21], 3368, [(3, (-420))], []),
  (20, ([rv_r 66, rv_full, rv_full, rv_i 0 8], [], []), [21], 3367, [(3, (-420))], []),
  (21, ([rv_r 66, rv_full, rv_full, rv_i 0 8], [], []), [22], 3366, [(3, (-420))], []),
  (22, ([rv_r 66, rv_full, rv_full, rv_i 1 9], [], []), [4], 3785, [(3, (-420))], []),
  (23, ([rv_r 66, rv_full, rv_full, rv_i 9 9], [], []), [24], 1, [], []),
  (24, ([rv_r 66, rv_full, rv_full, rv_i 9 9], [(1, 0, (-2147483648), 2147483647, [(.inl 2, 0)], [])], []), [], 0, [], [])]
def n_X2_countAt_1 : List rv_N := n_X2_countAt_1_0 ++ (n_X2_countAt_1_1)
noncomputable def gn_X2_countAt_1 : Nat → Option rv_N := rv_ap 16 (rv_at n_X2_countAt_1_0) (rv_at n_X2_countAt_1_1)
theorem hn_X2_countAt_1 : ∀ i : Nat, n_X2_countAt_1[i]? = gn_X2_countAt_1 i := rv_ap_eq (l := n_X2_countAt_1_0) (c := 16) (rv_at_eq n_X2_countAt_1_1) rfl
set_option maxRecDepth 100000 in
theorem a_X2_countAt_1 : rv_all (fm_tm, flX2, fm_wr, kcX2, klX2, K_X2_countAt_1.2.2.1, [], 4) ct_X2_countAt_1 cd_X2_countAt n_X2_countAt_1 K_X2_countAt_1 [] 0 n_X2_countAt_1 = true := rv_fast hn_X2_countAt_1 (rv_at_eq cd_X2_countAt) (by decide +kernel)
theorem m_X2_countAt_1 {l : Launch} {D : va_G} {ad : Nat → Nat} {cy : Nat → ClassId} {Z : State → Heap → Prop} {Gp : fm_V → Prop} (hAd : fm_Ad fm_tm ad) (hZ : fm_Zk (fm_A fm_tm ad) Z) (hGd : fm_Gd Gp) : rv_Met l D fm_cl fm_tm ad cy fm_nt Z Gp yX2_countAt (.code yX2_countAt prog_4_method_7_code 4 (some .int) :: fm_Ts) { frames := 0, cells := 0, slots := 0, locals := 0 } K_X2_countAt_1 := rv_met hAd hZ (Or.inl (by decide +kernel)) evX2 dc_X2_countAt a_X2_countAt_1 ⟨rfl, rfl, rfl⟩ (by decide +kernel) (by decide +kernel) (by decide) (fm_gm hGd (by decide +kernel)) (Or.inl rfl) (fun p e s m args below meth c Q X Y => fun _ h => absurd h List.not_mem_nil) (fun _ _ _ _ _ _ _ _ _ _ _ _ _ _ _ _ h => absurd h List.not_mem_nil)
def K_X0_loss_1 : rv_K := ([rv_r 56, rv_r 7, rv_full, rv_full], [], [(14, 0), (14, 1), (14, 2), (14, 3), (14, 4), (14, 5), (14, 6), (14, 7), (14, 8), (14, 9), (14, 10), (14, 9999), (15, 9999)], [(0, (-2147483648), 2147483647)], [(.inl 2, 0, 8), (.inr (67, 5002), (-2147483648), 19)], [])
def ct_X0_loss_1 : List (Nat × rv_K) := [(1, K_X7_isPorter_0), (6, K_X2_climbs_1), (23, K_X1_forgetWho_0), (27, K_X0_show_1), (71, K_X2_countAt_1), (80, K_X1_amount_0), (81, K_J9_min_7cf53_0)]
def n_X0_loss_1_0 : List rv_N := [
  (0, ([rv_r 56, rv_r 7, rv_full, rv_full, rv_u], [], []), [1], 79, [], []),
  (1, ([rv_r 56, rv_r 7, rv_full, rv_full, rv_u], [(1, 0, (-2147483648), 2147483647, [(.inl 2, 0)], [])], []), [2], 78, [], [0]),
  (2, ([rv_r 56, rv_r 7, rv_full, rv_full, rv_u], [(1, 0, 0, 1, [], [(.inl 2, 0, 8)])], []), [3, 14], 77, [], []),
  (3, ([rv_r 56, rv_r 7, rv_i 0 8, rv_full, rv_u], [], []), [4], 76, [], []),
  (4, ([rv_r 56, rv_r 7, rv_i 0 8, rv_full, rv_u], [rv_r 56], []), [5], 75, [], []),
  (5, ([rv_r 56, rv_r 7, rv_i 0 8, rv_full, rv_u], [rv_r 66], []), [6], 74, [], []),
  (6, ([rv_r 56, rv_r 7, rv_i 0 8, rv_full, rv_u], [(1, 0, 0, 8, [(.inl 2, 0)], []), rv_r 66], []), [7], 73, [], [1]),
  (7, ([rv_r 56, rv_r 7, rv_i 0 8, rv_full, rv_u], [(1, 0, 0, 1, [], [(.inl 2, 0, 8), (.inr (67, 5002), (-2147483648), 19)])], []), [8, 14], 72, [], []),
  (8, ([rv_r 56, rv_r 7, rv_i 0 8, rv_full, rv_u], [], [((67, 5002), (-2147483648), 19, [])]), [9], 71, [], []),
  (9, ([rv_r 56, rv_r 7, rv_i 0 8, rv_full, rv_u], [rv_r 56], [((67, 5002), (-2147483648), 19, [])]), [10], 70, [], []),
  (10, ([rv_r 56, rv_r 7, rv_i 0 8, rv_full, rv_u], [rv_r 66], [((67, 5002), (-2147483648), 19, [])]), [11], 69, [], []),
  (11, ([rv_r 56, rv_r 7, rv_i 0 8, rv_full, rv_u], [rv_r 68], [((67, 5002), (-2147483648), 19, [])]), [12], 68, [], []),
  (12, ([rv_r 56, rv_r 7, rv_i 0 8, rv_full, rv_u], [(1, 0, 0, 8, [(.inl 2, 0)], []), rv_r 68], [((67, 5002), (-2147483648), 19, [])]), [13], 67, [], []),
  (13, ([rv_r 56, rv_r 7, rv_i 0 8, rv_full, rv_u], [(1, 0, (-2147483648), 2147483647, [(.inr (68, 5002), 0)], [])], [((67, 5002), (-2147483648), 19, [])]), [14, 16], 66, [], []),
  (14, ([rv_r 56, rv_r 7, rv_full, rv_full, rv_u], [], []), [15], 1, [], []),
  (15, ([rv_r 56, rv_r 7, rv_full, rv_full, rv_u], [rv_i 0 0], []), [], 0, [], [])]
def n_X0_loss_1_1 : List rv_N := [
  (16, ([rv_r 56, rv_r 7, rv_i 0 8, rv_full, rv_u], [], [((67, 5002), (-2147483648), 19, [])]), [17], 65, [], []),
  (17, ([rv_r 56, rv_r 7, rv_i 0 8, rv_full, rv_u], [rv_r 56], [((67, 5002), (-2147483648), 19, [])]), [18], 64, [], []),
  (18, ([rv_r 56, rv_r 7, rv_i 0 8, rv_full, rv_u], [rv_r 66], [((67, 5002), (-2147483648), 19, [])]), [19], 63, [], []),
  (19, ([rv_r 56, rv_r 7, rv_i 0 8, rv_full, rv_u], [rv_r 67], [((67, 5002), (-2147483648), 19, [])]), [20], 62, [], []),
  (20, ([rv_r 56, rv_r 7, rv_i 0 8, rv_full, rv_u], [(1, 0, 0, 8, [(.inl 2, 0)], []), rv_r 67], [((67, 5002), (-2147483648), 19, [])]), [21], 61, [], []),
  (21, ([rv_r 56, rv_r 7, rv_i 0 8, rv_full, rv_u], [(1, 0, (-2147483648), 19, [(.inr (67, 5002), 0)], [])], [((67, 5002), (-2147483648), 19, [])]), [22], 60, [], []),
  (22, ([rv_r 56, rv_r 7, rv_i 0 8, rv_full, rv_i (-2147483648) 19], [], [((67, 5002), (-2147483648), 19, [])]), [23], 59, [], []),
  (23, ([rv_r 56, rv_r 7, rv_i 0 8, rv_full, rv_i (-2147483648) 19], [rv_r 7], [((67, 5002), (-2147483648), 19, [])]), [24], 58, [], [2]),
  (24, ([rv_r 56, rv_r 7, rv_i 0 8, rv_full, rv_i (-2147483648) 19], [], [((67, 5002), (-2147483648), 19, [])]), [25], 57, [], []),
  (25, ([rv_r 56, rv_r 7, rv_i 0 8, rv_full, rv_i (-2147483648) 19], [rv_r 56], [((67, 5002), (-2147483648), 19, [])]), [26], 56, [], []),
  (26, ([rv_r 56, rv_r 7, rv_i 0 8, rv_full, rv_i (-2147483648) 19], [rv_r 7, rv_r 56], [((67, 5002), (-2147483648), 19, [])]), [27], 55, [], []),
  (27, ([rv_r 56, rv_r 7, rv_i 0 8, rv_full, rv_i (-2147483648) 19], [(1, 0, (-2147483648), 19, [(.inl 4, 0)], []), rv_r 7, rv_r 56], [((67, 5002), (-2147483648), 19, [])]), [28], 54, [], [3]),
  (28, ([rv_r 56, rv_r 7, rv_i 0 8, rv_full, rv_i (-2147483648) 19], [], [((67, 5002), (-2147483648), 19, [])]), [29], 53, [], []),
  (29, ([rv_r 56, rv_r 7, rv_i 0 8, rv_full, rv_i (-2147483648) 19], [rv_r 7], [((67, 5002), (-2147483648), 19, [])]), [30], 52, [], []),
  (30, ([rv_r 56, rv_r 7, rv_i 0 8, rv_full, rv_i (-2147483648) 19], [rv_r 14], [((67, 5002), (-2147483648), 19, [])]), [31], 51, [], []),
  (31, ([rv_r 56, rv_r 7, rv_i 0 8, rv_full, rv_i (-2147483648) 19], [rv_i 6 6, rv_r 14], [((67, 5002), (-2147483648), 19, [])]), [32], 50, [], [])]
def n_X0_loss_1_2 : List rv_N := [
  (32, ([rv_r 56, rv_r 7, rv_i 0 8, rv_full, rv_i (-2147483648) 19], [(1, 0, 0, 8, [(.inl 2, 0)], []), rv_i 6 6, rv_r 14], [((67, 5002), (-2147483648), 19, [])]), [33], 49, [], []),
  (33, ([rv_r 56, rv_r 7, rv_i 0 8, rv_full, rv_i (-2147483648) 19], [], [((14, 6), 0, 8, []), ((67, 5002), (-2147483648), 19, [])]), [34], 48, [], []),
  (34, ([rv_r 56, rv_r 7, rv_i 0 8, rv_full, rv_i (-2147483648) 19], [rv_r 7], [((14, 6), 0, 8, []), ((67, 5002), (-2147483648), 19, [])]), [35], 47, [], []),
  (35, ([rv_r 56, rv_r 7, rv_i 0 8, rv_full, rv_i (-2147483648) 19], [rv_r 14], [((14, 6), 0, 8, []), ((67, 5002), (-2147483648), 19, [])]), [36], 46, [], []),
  (36, ([rv_r 56, rv_r 7, rv_i 0 8, rv_full, rv_i (-2147483648) 19], [rv_i 7 7, rv_r 14], [((14, 6), 0, 8, []), ((67, 5002), (-2147483648), 19, [])]), [37], 45, [], []),
  (37, ([rv_r 56, rv_r 7, rv_i 0 8, rv_full, rv_i (-2147483648) 19], [rv_r 56, rv_i 7 7, rv_r 14], [((14, 6), 0, 8, []), ((67, 5002), (-2147483648), 19, [])]), [38], 44, [], []),
  (38, ([rv_r 56, rv_r 7, rv_i 0 8, rv_full, rv_i (-2147483648) 19], [rv_r 66, rv_i 7 7, rv_r 14], [((14, 6), 0, 8, []), ((67, 5002), (-2147483648), 19, [])]), [39], 43, [], []),
  (39, ([rv_r 56, rv_r 7, rv_i 0 8, rv_full, rv_i (-2147483648) 19], [rv_r 68, rv_i 7 7, rv_r 14], [((14, 6), 0, 8, []), ((67, 5002), (-2147483648), 19, [])]), [40], 42, [], []),
  (40, ([rv_r 56, rv_r 7, rv_i 0 8, rv_full, rv_i (-2147483648) 19], [(1, 0, 0, 8, [(.inl 2, 0)], []), rv_r 68, rv_i 7 7, rv_r 14], [((14, 6), 0, 8, []), ((67, 5002), (-2147483648), 19, [])]), [41], 41, [], []),
  (41, ([rv_r 56, rv_r 7, rv_i 0 8, rv_full, rv_i (-2147483648) 19], [(1, 0, (-2147483648), 2147483647, [(.inr (68, 5002), 0)], []), rv_i 7 7, rv_r 14], [((14, 6), 0, 8, []), ((67, 5002), (-2147483648), 19, [])]), [42], 40, [], []),
  (42, ([rv_r 56, rv_r 7, rv_i 0 8, rv_full, rv_i (-2147483648) 19], [], [((14, 6), 0, 8, []), ((67, 5002), (-2147483648), 19, [])]), [43], 39, [], []),
  (43, ([rv_r 56, rv_r 7, rv_i 0 8, rv_full, rv_i (-2147483648) 19], [rv_r 7], [((14, 6), 0, 8, []), ((67, 5002), (-2147483648), 19, [])]), [44], 38, [], []),
  (44, ([rv_r 56, rv_r 7, rv_i 0 8, rv_full, rv_i (-2147483648) 19], [rv_r 14], [((14, 6), 0, 8, []), ((67, 5002), (-2147483648), 19, [])]), [45], 37, [], []),
  (45, ([rv_r 56, rv_r 7, rv_i 0 8, rv_full, rv_i (-2147483648) 19], [rv_i 8 8, rv_r 14], [((14, 6), 0, 8, []), ((67, 5002), (-2147483648), 19, [])]), [46], 36, [], []),
  (46, ([rv_r 56, rv_r 7, rv_i 0 8, rv_full, rv_i (-2147483648) 19], [rv_r 56, rv_i 8 8, rv_r 14], [((14, 6), 0, 8, []), ((67, 5002), (-2147483648), 19, [])]), [47], 35, [], []),
  (47, ([rv_r 56, rv_r 7, rv_i 0 8, rv_full, rv_i (-2147483648) 19], [rv_r 66, rv_i 8 8, rv_r 14], [((14, 6), 0, 8, []), ((67, 5002), (-2147483648), 19, [])]), [48], 34, [], [])]
def n_X0_loss_1_3 : List rv_N := [
  (48, ([rv_r 56, rv_r 7, rv_i 0 8, rv_full, rv_i (-2147483648) 19], [rv_r 69, rv_i 8 8, rv_r 14], [((14, 6), 0, 8, []), ((67, 5002), (-2147483648), 19, [])]), [49], 33, [], []),
  (49, ([rv_r 56, rv_r 7, rv_i 0 8, rv_full, rv_i (-2147483648) 19], [(1, 0, 0, 8, [(.inl 2, 0)], []), rv_r 69, rv_i 8 8, rv_r 14], [((14, 6), 0, 8, []), ((67, 5002), (-2147483648), 19, [])]), [50], 32, [], []),
  (50, ([rv_r 56, rv_r 7, rv_i 0 8, rv_full, rv_i (-2147483648) 19], [(1, 0, (-2147483648), 2147483647, [(.inr (69, 5002), 0)], []), rv_i 8 8, rv_r 14], [((14, 6), 0, 8, []), ((67, 5002), (-2147483648), 19, [])]), [51], 31, [], []),
  (51, ([rv_r 56, rv_r 7, rv_i 0 8, rv_full, rv_i (-2147483648) 19], [], [((14, 6), 0, 8, []), ((67, 5002), (-2147483648), 19, [])]), [52], 30, [], []),
  (52, ([rv_r 56, rv_r 7, rv_i 0 8, rv_full, rv_i (-2147483648) 19], [rv_r 7], [((14, 6), 0, 8, []), ((67, 5002), (-2147483648), 19, [])]), [53], 29, [], []),
  (53, ([rv_r 56, rv_r 7, rv_i 0 8, rv_full, rv_i (-2147483648) 19], [rv_r 14], [((14, 6), 0, 8, []), ((67, 5002), (-2147483648), 19, [])]), [54], 28, [], []),
  (54, ([rv_r 56, rv_r 7, rv_i 0 8, rv_full, rv_i (-2147483648) 19], [rv_i 9 9, rv_r 14], [((14, 6), 0, 8, []), ((67, 5002), (-2147483648), 19, [])]), [55], 27, [], []),
  (55, ([rv_r 56, rv_r 7, rv_i 0 8, rv_full, rv_i (-2147483648) 19], [(1, 0, (-2147483648), 2147483647, [(.inl 3, 0)], []), rv_i 9 9, rv_r 14], [((14, 6), 0, 8, []), ((67, 5002), (-2147483648), 19, [])]), [56], 26, [], []),
  (56, ([rv_r 56, rv_r 7, rv_i 0 8, rv_full, rv_i (-2147483648) 19], [rv_r 56, (1, 0, (-2147483648), 2147483647, [(.inl 3, 0)], []), rv_i 9 9, rv_r 14], [((14, 6), 0, 8, []), ((67, 5002), (-2147483648), 19, [])]), [57], 25, [], []),
  (57, ([rv_r 56, rv_r 7, rv_i 0 8, rv_full, rv_i (-2147483648) 19], [rv_r 66, (1, 0, (-2147483648), 2147483647, [(.inl 3, 0)], []), rv_i 9 9, rv_r 14], [((14, 6), 0, 8, []), ((67, 5002), (-2147483648), 19, [])]), [58], 24, [], []),
  (58, ([rv_r 56, rv_r 7, rv_i 0 8, rv_full, rv_i (-2147483648) 19], [rv_r 70, (1, 0, (-2147483648), 2147483647, [(.inl 3, 0)], []), rv_i 9 9, rv_r 14], [((14, 6), 0, 8, []), ((67, 5002), (-2147483648), 19, [])]), [59], 23, [], []),
  (59, ([rv_r 56, rv_r 7, rv_i 0 8, rv_full, rv_i (-2147483648) 19], [(1, 0, 0, 8, [(.inl 2, 0)], []), rv_r 70, (1, 0, (-2147483648), 2147483647, [(.inl 3, 0)], []), rv_i 9 9, rv_r 14], [((14, 6), 0, 8, []), ((67, 5002), (-2147483648), 19, [])]), [60], 22, [], []),
  (60, ([rv_r 56, rv_r 7, rv_i 0 8, rv_full, rv_i (-2147483648) 19], [(1, 0, (-2147483648), 2147483647, [(.inr (70, 5002), 0)], []), (1, 0, (-2147483648), 2147483647, [(.inl 3, 0)], []), rv_i 9 9, rv_r 14], [((14, 6), 0, 8, []), ((67, 5002), (-2147483648), 19, [])]), [61, 63], 21, [], []),
  (61, ([rv_r 56, rv_r 7, rv_i 0 8, rv_full, rv_i (-2147483648) 19], [rv_i 9 9, rv_r 14], [((14, 6), 0, 8, []), ((67, 5002), (-2147483648), 19, [])]), [62], 20, [], []),
  (62, ([rv_r 56, rv_r 7, rv_i 0 8, rv_full, rv_i (-2147483648) 19], [rv_i 1 1, rv_i 9 9, rv_r 14], [((14, 6), 0, 8, []), ((67, 5002), (-2147483648), 19, [])]), [65], 19, [], []),
  (63, ([rv_r 56, rv_r 7, rv_i 0 8, rv_full, rv_i (-2147483648) 19], [rv_i 9 9, rv_r 14], [((14, 6), 0, 8, []), ((67, 5002), (-2147483648), 19, [])]), [64], 19, [], [])]
def n_X0_loss_1_4 : List rv_N := [
  (64, ([rv_r 56, rv_r 7, rv_i 0 8, rv_full, rv_i (-2147483648) 19], [rv_i 0 0, rv_i 9 9, rv_r 14], [((14, 6), 0, 8, []), ((67, 5002), (-2147483648), 19, [])]), [66], 18, [], []),
  (64, ([rv_r 56, rv_r 7, rv_i 0 8, rv_full, rv_i (-2147483648) 19], [rv_i 1 1, rv_i 9 9, rv_r 14], [((14, 6), 0, 8, []), ((67, 5002), (-2147483648), 19, [])]), [66], 18, [], []),
  (65, ([rv_r 56, rv_r 7, rv_i 0 8, rv_full, rv_i (-2147483648) 19], [], [((14, 6), 0, 8, []), ((14, 9), 0, 1, []), ((67, 5002), (-2147483648), 19, [])]), [67], 17, [], []),
  (66, ([rv_r 56, rv_r 7, rv_i 0 8, rv_full, rv_i (-2147483648) 19], [rv_r 7], [((14, 6), 0, 8, []), ((14, 9), 0, 1, []), ((67, 5002), (-2147483648), 19, [])]), [68], 16, [], []),
  (67, ([rv_r 56, rv_r 7, rv_i 0 8, rv_full, rv_i (-2147483648) 19], [rv_r 14], [((14, 6), 0, 8, []), ((14, 9), 0, 1, []), ((67, 5002), (-2147483648), 19, [])]), [69], 15, [], []),
  (68, ([rv_r 56, rv_r 7, rv_i 0 8, rv_full, rv_i (-2147483648) 19], [rv_i 10 10, rv_r 14], [((14, 6), 0, 8, []), ((14, 9), 0, 1, []), ((67, 5002), (-2147483648), 19, [])]), [70], 14, [], []),
  (69, ([rv_r 56, rv_r 7, rv_i 0 8, rv_full, rv_i (-2147483648) 19], [rv_r 56, rv_i 10 10, rv_r 14], [((14, 6), 0, 8, []), ((14, 9), 0, 1, []), ((67, 5002), (-2147483648), 19, [])]), [71], 13, [], []),
  (70, ([rv_r 56, rv_r 7, rv_i 0 8, rv_full, rv_i (-2147483648) 19], [rv_r 66, rv_i 10 10, rv_r 14], [((14, 6), 0, 8, []), ((14, 9), 0, 1, []), ((67, 5002), (-2147483648), 19, [])]), [72], 12, [], []),
  (71, ([rv_r 56, rv_r 7, rv_i 0 8, rv_full, rv_i (-2147483648) 19], [(1, 0, (-2147483648), 19, [(.inl 4, 0)], []), rv_r 66, rv_i 10 10, rv_r 14], [((14, 6), 0, 8, []), ((14, 9), 0, 1, []), ((67, 5002), (-2147483648), 19, [])]), [73], 11, [], [4]),
  (72, ([rv_r 56, rv_r 7, rv_i 0 8, rv_full, rv_i (-2147483648) 19], [rv_full, rv_i 10 10, rv_r 14], [((14, 6), 0, 8, []), ((14, 9), 0, 1, []), ((67, 5002), (-2147483648), 19, [])]), [74], 10, [], []),
  (73, ([rv_r 56, rv_r 7, rv_i 0 8, rv_full, rv_i (-2147483648) 19], [], [((14, 6), 0, 8, []), ((14, 9), 0, 1, []), ((67, 5002), (-2147483648), 19, [])]), [75], 9, [], []),
  (74, ([rv_r 56, rv_r 7, rv_i 0 8, rv_full, rv_i (-2147483648) 19], [rv_r 56], [((14, 6), 0, 8, []), ((14, 9), 0, 1, []), ((67, 5002), (-2147483648), 19, [])]), [76], 8, [], []),
  (75, ([rv_r 56, rv_r 7, rv_i 0 8, rv_full, rv_i (-2147483648) 19], [rv_r 66], [((14, 6), 0, 8, []), ((14, 9), 0, 1, []), ((67, 5002), (-2147483648), 19, [])]), [77], 7, [], []),
  (76, ([rv_r 56, rv_r 7, rv_i 0 8, rv_full, rv_i (-2147483648) 19], [rv_r 68], [((14, 6), 0, 8, []), ((14, 9), 0, 1, []), ((67, 5002), (-2147483648), 19, [])]), [78], 6, [], []),
  (77, ([rv_r 56, rv_r 7, rv_i 0 8, rv_full, rv_i (-2147483648) 19], [(1, 0, 0, 8, [(.inl 2, 0)], []), rv_r 68], [((14, 6), 0, 8, []), ((14, 9), 0, 1, []), ((67, 5002), (-2147483648), 19, [])]), [79], 5, [], []),
  (78, ([rv_r 56, rv_r 7, rv_i 0 8, rv_full, rv_i (-2147483648) 19], [(1, 0, (-2147483648), 2147483647, [(.inr (68, 5002), 0)], [])], [((14, 6), 0, 8, []), ((14, 9), 0, 1, []), ((67, 5002), (-2147483648), 19, [])]), [80], 4, [], [])]
def n_X0_loss_1_5 : List rv_N := [
  (79, ([rv_r 56, rv_r 7, rv_i 0 8, rv_full, rv_i (-2147483648) 19], [rv_r 7, (1, 0, (-2147483648), 2147483647, [(.inr (68, 5002), 0)], [])], [((14, 6), 0, 8, []), ((14, 9), 0, 1, []), ((67, 5002), (-2147483648), 19, [])]), [81], 3, [], []),
  (80, ([rv_r 56, rv_r 7, rv_i 0 8, rv_full, rv_i (-2147483648) 19], [rv_i 108 108, rv_r 7, (1, 0, (-2147483648), 2147483647, [(.inr (68, 5002), 0)], [])], [((14, 6), 0, 8, []), ((14, 9), 0, 1, []), ((67, 5002), (-2147483648), 19, [])]), [82], 2, [], [5]),
  (81, ([rv_r 56, rv_r 7, rv_i 0 8, rv_full, rv_i (-2147483648) 19], [rv_full, (1, 0, (-2147483648), 2147483647, [(.inr (68, 5002), 0)], [])], [((14, 6), 0, 8, []), ((14, 9), 0, 1, []), ((67, 5002), (-2147483648), 19, [])]), [83], 1, [], [6]),
  (82, ([rv_r 56, rv_r 7, rv_i 0 8, rv_full, rv_i (-2147483648) 19], [rv_full], [((14, 6), 0, 8, []), ((14, 9), 0, 1, []), ((67, 5002), (-2147483648), 19, [])]), [], 0, [], [])]
def n_X0_loss_1 : List rv_N := n_X0_loss_1_0 ++ (n_X0_loss_1_1 ++ (n_X0_loss_1_2 ++ (n_X0_loss_1_3 ++ (n_X0_loss_1_4 ++ (n_X0_loss_1_5)))))
noncomputable def gn_X0_loss_1 : Nat → Option rv_N := rv_ap 16 (rv_at n_X0_loss_1_0) (rv_ap 16 (rv_at n_X0_loss_1_1) (rv_ap 16 (rv_at n_X0_loss_1_2) (rv_ap 16 (rv_at n_X0_loss_1_3) (rv_ap 16 (rv_at n_X0_loss_1_4) (rv_at n_X0_loss_1_5)))))
theorem hn_X0_loss_1 : ∀ i : Nat, n_X0_loss_1[i]? = gn_X0_loss_1 i := rv_ap_eq (l := n_X0_loss_1_0) (c := 16) (rv_ap_eq (l := n_X0_loss_1_1) (c := 16) (rv_ap_eq (l := n_X0_loss_1_2) (c := 16) (rv_ap_eq (l := n_X0_loss_1_3) (c := 16) (rv_ap_eq (l := n_X0_loss_1_4) (c := 16) (rv_at_eq n_X0_loss_1_5) rfl) rfl) rfl) rfl) rfl
set_option maxRecDepth 100000 in
theorem a_X0_loss_1 : rv_all (fm_tm, flX0, fm_wr, kcX0, klX0, K_X0_loss_1.2.2.1, [2, 3], 5) ct_X0_loss_1 cd_X0_loss n_X0_loss_1 K_X0_loss_1 [] 0 n_X0_loss_1 = true := rv_fast hn_X0_loss_1 hc_X0_loss (by decide +kernel)
theorem m_X0_loss_1 {l : Launch} {D : va_G} {ad : Nat → Nat} {cy : Nat → ClassId} {Z : State → Heap → Prop} {Gp : fm_V → Prop} (hAd : fm_Ad fm_tm ad) (hZ : fm_Zk (fm_A fm_tm ad) Z) (hGd : fm_Gd Gp) : rv_Met l D fm_cl fm_tm ad cy fm_nt Z Gp yX0_loss (.code yX0_loss prog_2_method_11_code 5 (some .int) :: fm_Ts) { frames := 2, cells := 0, slots := 0, locals := 200 } K_X0_loss_1 := rv_met hAd hZ (Or.inl (by decide +kernel)) evX0 dc_X0_loss a_X0_loss_1 ⟨rfl, rfl, rfl⟩ (by decide +kernel) (by decide +kernel) (by decide) (fm_gm hGd (by decide +kernel)) (Or.inl rfl) (fun p e s m args below meth c Q X Y => List.forall_mem_cons.mpr ⟨rv_ctN X Y fm_Ts_good dc_X0_loss (pc := 1) (i := 1) (idx := 142) rfl (m_X7_isPorter_0 hAd hZ hGd) wl_X0_142 wm_X7_isPorter wy_X7_isPorter (by decide) rfl, List.forall_mem_cons.mpr ⟨rv_ctV X Y fm_Ts_good dc_X0_loss (pc := 12) (i := 6) (idx := 145) rfl (m_X2_climbs_1 hAd hZ hGd) wl_X0_145 wm_X2_climbs wy_X2_climbs (by decide) ⟨rfl, rfl, rfl⟩ ⟨rfl, rfl⟩, List.forall_mem_cons.mpr ⟨rv_ctV X Y fm_Ts_good dc_X0_loss (pc := 44) (i := 23) (idx := 109) rfl (m_X1_forgetWho_0 hAd hZ hGd) wl_X0_109 wm_X1_forgetWho wy_X1_forgetWho (by decide) ⟨rfl, rfl, rfl⟩ ⟨rfl, rfl⟩, List.forall_mem_cons.mpr ⟨rv_ctV X Y fm_Ts_good dc_X0_loss (pc := 51) (i := 27) (idx := 148) rfl (m_X0_show_1 hAd hZ hGd) wl_X0_148 wm_X0_show wy_X0_show (by decide) ⟨rfl, rfl, rfl⟩ ⟨rfl, rfl⟩, List.forall_mem_cons.mpr ⟨rv_ctV X Y fm_Ts_good dc_X0_loss (pc := 131) (i := 71) (idx := 161) rfl (m_X2_countAt_1 hAd hZ hGd) wl_X0_161 wm_X2_countAt wy_X2_countAt (by decide) ⟨rfl, rfl, rfl⟩ ⟨rfl, rfl⟩, List.forall_mem_cons.mpr ⟨rv_ctV X Y fm_Ts_good dc_X0_loss (pc := 147) (i := 80) (idx := 165) rfl (m_X1_amount_0 hAd hZ hGd) wl_X0_165 wm_X1_amount wy_X1_amount (by decide) ⟨rfl, rfl, rfl⟩ ⟨rfl, rfl⟩, List.forall_mem_cons.mpr ⟨rv_ctS X Y fm_Ts_good dc_X0_loss (pc := 150) (i := 81) (idx := 168) rfl (m_J9_min_7cf53_0 hAd hZ hGd) wl_X0_168 wm_J9_min_7cf53 wy_J9_min_7cf53 (by decide) rfl, fun _ h => absurd h List.not_mem_nil⟩⟩⟩⟩⟩⟩⟩) (fun _ _ _ _ _ _ _ _ _ _ _ _ _ _ _ _ h => absurd h List.not_mem_nil)
def K_X0_heap_1 : rv_K := ([rv_r 56, rv_full, rv_full], [], [(56, 13), (57, 9999)], [], [], [])
def ct_X0_heap_1 : List (Nat × rv_K) := [(1, K_X7_isYard_0), (14, K_J9_min_7cf53_0), (25, K_X7_isYard_0)]
def n_X0_heap_1_0 : List rv_N := [
  (0, ([rv_r 56, rv_full, rv_full, rv_u, rv_u], [], []), [1], 34, [], []),
  (1, ([rv_r 56, rv_full, rv_full, rv_u, rv_u], [(1, 0, (-2147483648), 2147483647, [(.inl 1, 0)], [])], []), [2], 33, [], [0]),
  (2, ([rv_r 56, rv_full, rv_full, rv_u, rv_u], [(1, 0, 0, 1, [], [(.inl 1, 0, 19)])], []), [3, 10], 32, [], []),
  (3, ([rv_r 56, rv_i 0 19, rv_full, rv_u, rv_u], [], []), [4], 31, [], []),
  (4, ([rv_r 56, rv_i 0 19, rv_full, rv_u, rv_u], [rv_i 99999 99999], []), [5], 30, [], []),
  (5, ([rv_r 56, rv_i 0 19, rv_full, rv_u, rv_u], [rv_r 56, rv_i 99999 99999], []), [6], 29, [], []),
  (6, ([rv_r 56, rv_i 0 19, rv_full, rv_u, rv_u], [rv_r 57, rv_i 99999 99999], []), [7], 28, [], []),
  (7, ([rv_r 56, rv_i 0 19, rv_full, rv_u, rv_u], [(1, 0, 0, 19, [(.inl 1, 0)], []), rv_r 57, rv_i 99999 99999], []), [8], 27, [], []),
  (8, ([rv_r 56, rv_i 0 19, rv_full, rv_u, rv_u], [(1, 0, (-2147483648), 2147483647, [(.inr (57, 5001), 0)], []), rv_i 99999 99999], []), [9], 26, [], []),
  (9, ([rv_r 56, rv_i 0 19, rv_full, rv_u, rv_u], [rv_full], []), [12], 25, [], []),
  (10, ([rv_r 56, rv_full, rv_full, rv_u, rv_u], [], []), [11], 25, [], []),
  (11, ([rv_r 56, rv_full, rv_full, rv_u, rv_u], [rv_i 0 0], []), [13], 24, [], []),
  (11, ([rv_r 56, rv_i 0 19, rv_full, rv_u, rv_u], [rv_full], []), [13], 24, [], []),
  (12, ([rv_r 56, rv_full, rv_full, rv_full, rv_u], [], []), [14], 23, [], []),
  (13, ([rv_r 56, rv_full, rv_full, rv_full, rv_u], [(1, 0, (-2147483648), 2147483647, [(.inl 2, 0)], [])], []), [15], 22, [], []),
  (14, ([rv_r 56, rv_full, rv_full, rv_full, rv_u], [(1, 0, (-2147483648), 2147483647, [(.inl 3, 0)], []), (1, 0, (-2147483648), 2147483647, [(.inl 2, 0)], [])], []), [16], 21, [], [1])]
def n_X0_heap_1_1 : List rv_N := [
  (15, ([rv_r 56, rv_full, rv_full, rv_full, rv_u], [rv_full], []), [17], 20, [], []),
  (16, ([rv_r 56, rv_full, rv_full, rv_full, rv_full], [], []), [18], 19, [], []),
  (17, ([rv_r 56, rv_full, rv_full, rv_full, rv_full], [rv_r 56], []), [19], 18, [], []),
  (18, ([rv_r 56, rv_full, rv_full, rv_full, rv_full], [rv_r 56, rv_r 56], []), [20], 17, [], []),
  (19, ([rv_r 56, rv_full, rv_full, rv_full, rv_full], [(1, 0, (-2147483648), 2147483647, [(.inr (56, 13), 0)], []), rv_r 56], []), [21], 16, [], []),
  (20, ([rv_r 56, rv_full, rv_full, rv_full, rv_full], [(1, 0, (-2147483648), 2147483647, [(.inl 2, 0)], []), (1, 0, (-2147483648), 2147483647, [(.inr (56, 13), 0)], []), rv_r 56], []), [22], 15, [], []),
  (21, ([rv_r 56, rv_full, rv_full, rv_full, rv_full], [(1, 0, (-2147483648), 2147483647, [(.inl 4, 0)], []), (1, 0, (-2147483648), 2147483647, [(.inl 2, 0)], []), (1, 0, (-2147483648), 2147483647, [(.inr (56, 13), 0)], []), rv_r 56], []), [23], 14, [], []),
  (22, ([rv_r 56, rv_full, rv_full, rv_full, rv_full], [rv_full, (1, 0, (-2147483648), 2147483647, [(.inr (56, 13), 0)], []), rv_r 56], []), [24], 13, [], []),
  (23, ([rv_r 56, rv_full, rv_full, rv_full, rv_full], [rv_full, rv_r 56], []), [25], 12, [], []),
  (24, ([rv_r 56, rv_full, rv_full, rv_full, rv_full], [], []), [26], 11, [], []),
  (25, ([rv_r 56, rv_full, rv_full, rv_full, rv_full], [(1, 0, (-2147483648), 2147483647, [(.inl 1, 0)], [])], []), [27], 10, [], [2]),
  (26, ([rv_r 56, rv_full, rv_full, rv_full, rv_full], [(1, 0, 0, 1, [], [(.inl 1, 0, 19)])], []), [28, 36], 9, [], []),
  (27, ([rv_r 56, rv_i 0 19, rv_full, rv_full, rv_full], [], []), [29], 8, [], []),
  (28, ([rv_r 56, rv_i 0 19, rv_full, rv_full, rv_full], [rv_r 56], []), [30], 7, [], []),
  (29, ([rv_r 56, rv_i 0 19, rv_full, rv_full, rv_full], [rv_r 57], []), [31], 6, [], []),
  (30, ([rv_r 56, rv_i 0 19, rv_full, rv_full, rv_full], [(1, 0, 0, 19, [(.inl 1, 0)], []), rv_r 57], []), [32], 5, [], [])]
def n_X0_heap_1_2 : List rv_N := [
  (31, ([rv_r 56, rv_i 0 19, rv_full, rv_full, rv_full], [(1, 0, 0, 19, [(.inl 1, 0)], []), rv_r 57, (1, 0, 0, 19, [(.inl 1, 0)], []), rv_r 57], []), [33], 4, [], []),
  (32, ([rv_r 56, rv_i 0 19, rv_full, rv_full, rv_full], [(1, 0, (-2147483648), 2147483647, [(.inr (57, 5001), 0)], []), (1, 0, 0, 19, [(.inl 1, 0)], []), rv_r 57], []), [34], 3, [], []),
  (33, ([rv_r 56, rv_i 0 19, rv_full, rv_full, rv_full], [(1, 0, (-2147483648), 2147483647, [(.inl 4, 0)], []), (1, 0, (-2147483648), 2147483647, [(.inr (57, 5001), 0)], []), (1, 0, 0, 19, [(.inl 1, 0)], []), rv_r 57], []), [35], 2, [], []),
  (34, ([rv_r 56, rv_i 0 19, rv_full, rv_full, rv_full], [rv_full, (1, 0, 0, 19, [(.inl 1, 0)], []), rv_r 57], []), [36], 1, [], []),
  (35, ([rv_r 56, rv_full, rv_full, rv_full, rv_full], [], []), [], 0, [], [])]
def n_X0_heap_1 : List rv_N := n_X0_heap_1_0 ++ (n_X0_heap_1_1 ++ (n_X0_heap_1_2))
noncomputable def gn_X0_heap_1 : Nat → Option rv_N := rv_ap 16 (rv_at n_X0_heap_1_0) (rv_ap 16 (rv_at n_X0_heap_1_1) (rv_at n_X0_heap_1_2))
theorem hn_X0_heap_1 : ∀ i : Nat, n_X0_heap_1[i]? = gn_X0_heap_1 i := rv_ap_eq (l := n_X0_heap_1_0) (c := 16) (rv_ap_eq (l := n_X0_heap_1_1) (c := 16) (rv_at_eq n_X0_heap_1_2) rfl) rfl
set_option maxRecDepth 100000 in
theorem a_X0_heap_1 : rv_all (fm_tm, flX0, fm_wr, kcX0, klX0, K_X0_heap_1.2.2.1, [], 5) ct_X0_heap_1 cd_X0_heap n_X0_heap_1 K_X0_heap_1 [] 0 n_X0_heap_1 = true := rv_fast hn_X0_heap_1 hc_X0_heap (by decide +kernel)
theorem m_X0_heap_1 {l : Launch} {D : va_G} {ad : Nat → Nat} {cy : Nat → ClassId} {Z : State → Heap → Prop} {Gp : fm_V → Prop} (hAd : fm_Ad fm_tm ad) (hZ : fm_Zk (fm_A fm_tm ad) Z) (hGd : fm_Gd Gp) : rv_Met l D fm_cl fm_tm ad cy fm_nt Z Gp yX0_heap (.code yX0_heap prog_2_method_13_code 5 none :: fm_Ts) { frames := 1, cells := 0, slots := 0, locals := 100 } K_X0_heap_1 := rv_met hAd hZ (Or.inl (by decide +kernel)) evX0 dc_X0_heap a_X0_heap_1 ⟨rfl, rfl, rfl⟩ (by decide +kernel) (by decide +kernel) (by decide) (fm_gm hGd (by decide +kernel)) (rfl) (fun p e s m args below meth c Q X Y => List.forall_mem_cons.mpr ⟨rv_ctN X Y fm_Ts_good dc_X0_heap (pc := 1) (i := 1) (idx := 131) rfl (m_X7_isYard_0 hAd hZ hGd) wl_X0_131 wm_X7_isYard wy_X7_isYard (by decide) rfl, List.forall_mem_cons.mpr ⟨rv_ctS X Y fm_Ts_good dc_X0_heap (pc := 23) (i := 14) (idx := 168) rfl (m_J9_min_7cf53_0 hAd hZ hGd) wl_X0_168 wm_J9_min_7cf53 wy_J9_min_7cf53 (by decide) rfl, List.forall_mem_cons.mpr ⟨rv_ctN X Y fm_Ts_good dc_X0_heap (pc := 42) (i := 25) (idx := 131) rfl (m_X7_isYard_0 hAd hZ hGd) wl_X0_131 wm_X7_isYard wy_X7_isYard (by decide) rfl, fun _ h => absurd h List.not_mem_nil⟩⟩⟩) (fun _ _ _ _ _ _ _ _ _ _ _ _ _ _ _ _ h => absurd h List.not_mem_nil)
def K_X0_spill_1 : rv_K := ([rv_r 56, rv_r 7, rv_full], [], [(14, 0), (14, 1), (14, 2), (14, 3), (14, 4), (14, 5), (14, 6), (14, 7), (14, 8), (14, 9), (14, 10), (14, 9999), (15, 9999), (56, 13), (57, 9999), (64, 9999), (68, 9999)], [(0, (-2147483648), 2147483647)], [], [])
def ct_X0_spill_1 : List (Nat × rv_K) := [(11, K_X0_loss_1), (22, K_X7_isYard_0), (52, K_X0_heap_1)]
def n_X0_spill_1_0 : List rv_N := [
  (0, ([rv_r 56, rv_r 7, rv_full, rv_u, rv_u, rv_u, rv_u], [], []), [1], 7244, [], []),
  (1, ([rv_r 56, rv_r 7, rv_full, rv_u, rv_u, rv_u, rv_u], [rv_i 0 0], []), [2], 7243, [], []),
  (2, ([rv_r 56, rv_r 7, rv_full, rv_i 0 0, rv_u, rv_u, rv_u], [], []), [3], 7242, [], []),
  (3, ([rv_r 56, rv_r 7, rv_full, rv_i 0 0, rv_u, rv_u, rv_u], [rv_i 0 0], []), [4], 7241, [], []),
  (4, ([rv_r 56, rv_r 7, rv_full, rv_full, rv_i 0 9, rv_u, rv_u], [], []), [5], 7240, [(4, (-804))], []),
  (5, ([rv_r 56, rv_r 7, rv_full, rv_full, rv_i 0 9, rv_u, rv_u], [(1, 0, 0, 9, [(.inl 4, 0)], [])], []), [6], 7239, [(4, (-804))], []),
  (6, ([rv_r 56, rv_r 7, rv_full, rv_full, rv_i 0 9, rv_u, rv_u], [rv_i 9 9, (1, 0, 0, 9, [(.inl 4, 0)], [])], []), [7, 55], 7238, [(4, (-804))], []),
  (7, ([rv_r 56, rv_r 7, rv_full, rv_full, rv_i 0 8, rv_u, rv_u], [], []), [8], 6484, [(4, (-804))], []),
  (8, ([rv_r 56, rv_r 7, rv_full, rv_full, rv_i 0 8, rv_u, rv_u], [rv_r 56], []), [9], 6483, [(4, (-804))], []),
  (9, ([rv_r 56, rv_r 7, rv_full, rv_full, rv_i 0 8, rv_u, rv_u], [rv_r 7, rv_r 56], []), [10], 6482, [(4, (-804))], []),
  (10, ([rv_r 56, rv_r 7, rv_full, rv_full, rv_i 0 8, rv_u, rv_u], [(1, 0, 0, 8, [(.inl 4, 0)], []), rv_r 7, rv_r 56], []), [11], 6481, [(4, (-804))], []),
  (11, ([rv_r 56, rv_r 7, rv_full, rv_full, rv_i 0 8, rv_u, rv_u], [(1, 0, (-2147483648), 2147483647, [(.inl 2, 0)], []), (1, 0, 0, 8, [(.inl 4, 0)], []), rv_r 7, rv_r 56], []), [12], 6480, [(4, (-804))], [0]),
  (12, ([rv_r 56, rv_r 7, rv_full, rv_full, rv_i 0 8, rv_u, rv_u], [(1, 0, (-2147483648), 2147483647, [], [(.inl 4, 0, 8), (.inr (67, 5004), (-2147483648), 19)])], []), [13], 6479, [(4, (-804))], []),
  (13, ([rv_r 56, rv_r 7, rv_full, rv_full, rv_i 0 8, rv_full, rv_u], [], []), [14], 6478, [(4, (-804))], []),
  (14, ([rv_r 56, rv_r 7, rv_full, rv_full, rv_i 0 8, rv_full, rv_u], [rv_r 56], []), [15], 6477, [(4, (-804))], []),
  (15, ([rv_r 56, rv_r 7, rv_full, rv_full, rv_i 0 8, rv_full, rv_u], [rv_r 66], []), [16], 6476, [(4, (-804))], [])]
def n_X0_spill_1_1 : List rv_N := [
  (16, ([rv_r 56, rv_r 7, rv_full, rv_full, rv_i 0 8, rv_full, rv_u], [rv_r 67], []), [17], 6475, [(4, (-804))], []),
  (17, ([rv_r 56, rv_r 7, rv_full, rv_full, rv_i 0 8, rv_full, rv_u], [(1, 0, 0, 8, [(.inl 4, 0)], []), rv_r 67], []), [18], 6474, [(4, (-804))], []),
  (18, ([rv_r 56, rv_r 7, rv_full, rv_full, rv_i 0 8, rv_full, rv_u], [(1, 0, (-2147483648), 2147483647, [(.inr (67, 5004), 0)], [])], []), [19], 6473, [(4, (-804))], []),
  (19, ([rv_r 56, rv_r 7, rv_full, rv_full, rv_i 0 8, rv_full, rv_full], [], []), [20], 6472, [(4, (-804))], []),
  (20, ([rv_r 56, rv_r 7, rv_full, rv_full, rv_i 0 8, rv_full, rv_full], [(1, 0, (-2147483648), 2147483647, [(.inl 5, 0)], [])], []), [21, 53], 6471, [(4, (-804))], []),
  (21, ([rv_r 56, rv_r 7, rv_full, rv_full, rv_i 0 8, rv_i 1 2147483647, rv_full], [], []), [22], 6470, [(4, (-804))], []),
  (22, ([rv_r 56, rv_r 7, rv_full, rv_full, rv_i 0 8, rv_i 1 2147483647, rv_full], [(1, 0, (-2147483648), 2147483647, [(.inl 6, 0)], [])], []), [23], 6469, [(4, (-804))], [1]),
  (23, ([rv_r 56, rv_r 7, rv_full, rv_full, rv_i 0 8, rv_i 1 2147483647, rv_full], [(1, 0, 0, 1, [], [(.inl 6, 0, 19)])], []), [24, 53], 6468, [(4, (-804))], []),
  (24, ([rv_r 56, rv_r 7, rv_full, rv_full, rv_i 0 8, rv_i 1 2147483647, rv_i 0 19], [], []), [25], 6467, [(4, (-804))], []),
  (25, ([rv_r 56, rv_r 7, rv_full, rv_full, rv_i 0 8, rv_i 1 2147483647, rv_i 0 19], [rv_r 56], []), [26], 6466, [(4, (-804))], []),
  (26, ([rv_r 56, rv_r 7, rv_full, rv_full, rv_i 0 8, rv_i 1 2147483647, rv_i 0 19], [rv_r 66], []), [27], 6465, [(4, (-804))], []),
  (27, ([rv_r 56, rv_r 7, rv_full, rv_full, rv_i 0 8, rv_i 1 2147483647, rv_i 0 19], [rv_r 68], []), [28], 6464, [(4, (-804))], []),
  (28, ([rv_r 56, rv_r 7, rv_full, rv_full, rv_i 0 8, rv_i 1 2147483647, rv_i 0 19], [(1, 0, 0, 8, [(.inl 4, 0)], []), rv_r 68], []), [29], 6463, [(4, (-804))], []),
  (29, ([rv_r 56, rv_r 7, rv_full, rv_full, rv_i 0 8, rv_i 1 2147483647, rv_i 0 19], [(1, 0, 0, 8, [(.inl 4, 0)], []), rv_r 68, (1, 0, 0, 8, [(.inl 4, 0)], []), rv_r 68], []), [30], 6462, [(4, (-804))], []),
  (30, ([rv_r 56, rv_r 7, rv_full, rv_full, rv_i 0 8, rv_i 1 2147483647, rv_i 0 19], [(1, 0, (-2147483648), 2147483647, [(.inr (68, 5004), 0)], []), (1, 0, 0, 8, [(.inl 4, 0)], []), rv_r 68], []), [31], 6461, [(4, (-804))], []),
  (31, ([rv_r 56, rv_r 7, rv_full, rv_full, rv_i 0 8, rv_i 1 2147483647, rv_i 0 19], [(1, 0, 1, 2147483647, [(.inl 5, 0)], []), (1, 0, (-2147483648), 2147483647, [(.inr (68, 5004), 0)], []), (1, 0, 0, 8, [(.inl 4, 0)], []), rv_r 68], []), [32], 6460, [(4, (-804))], [])]
def n_X0_spill_1_2 : List rv_N := [
  (32, ([rv_r 56, rv_r 7, rv_full, rv_full, rv_i 0 8, rv_i 1 2147483647, rv_i 0 19], [rv_full, (1, 0, 0, 8, [(.inl 4, 0)], []), rv_r 68], []), [33], 6459, [(4, (-804))], []),
  (33, ([rv_r 56, rv_r 7, rv_full, rv_full, rv_i 0 8, rv_i 1 2147483647, rv_i 0 19], [], []), [34], 6458, [(4, (-804))], []),
  (34, ([rv_r 56, rv_r 7, rv_full, rv_full, rv_i 0 8, rv_i 1 2147483647, rv_i 0 19], [rv_r 56], []), [35], 6457, [(4, (-804))], []),
  (35, ([rv_r 56, rv_r 7, rv_full, rv_full, rv_i 0 8, rv_i 1 2147483647, rv_i 0 19], [rv_r 64], []), [36], 6456, [(4, (-804))], []),
  (36, ([rv_r 56, rv_r 7, rv_full, rv_full, rv_i 0 8, rv_i 1 2147483647, rv_i 0 19], [(1, 0, 0, 8, [(.inl 4, 0)], []), rv_r 64], []), [37], 6455, [(4, (-804))], []),
  (37, ([rv_r 56, rv_r 7, rv_full, rv_full, rv_i 0 8, rv_i 1 2147483647, rv_i 0 19], [rv_i 20 20, (1, 0, 0, 8, [(.inl 4, 0)], []), rv_r 64], []), [38], 6454, [(4, (-804))], []),
  (38, ([rv_r 56, rv_r 7, rv_full, rv_full, rv_i 0 8, rv_i 1 2147483647, rv_i 0 19], [rv_i 0 160, rv_r 64], []), [39], 6453, [(4, (-804))], []),
  (39, ([rv_r 56, rv_r 7, rv_full, rv_full, rv_i 0 8, rv_i 1 2147483647, rv_i 0 19], [(1, 0, 0, 19, [(.inl 6, 0)], []), rv_i 0 160, rv_r 64], []), [40], 6452, [(4, (-804))], []),
  (40, ([rv_r 56, rv_r 7, rv_full, rv_full, rv_i 0 8, rv_i 1 2147483647, rv_i 0 19], [rv_i 0 179, rv_r 64], []), [41], 6451, [(4, (-804))], []),
  (41, ([rv_r 56, rv_r 7, rv_full, rv_full, rv_i 0 8, rv_i 1 2147483647, rv_i 0 19], [rv_i 0 179, rv_r 64, rv_i 0 179, rv_r 64], []), [42], 6450, [(4, (-804))], []),
  (42, ([rv_r 56, rv_r 7, rv_full, rv_full, rv_i 0 8, rv_i 1 2147483647, rv_i 0 19], [rv_full, rv_i 0 179, rv_r 64], []), [43], 6449, [(4, (-804))], []),
  (43, ([rv_r 56, rv_r 7, rv_full, rv_full, rv_i 0 8, rv_i 1 2147483647, rv_i 0 19], [(1, 0, 1, 2147483647, [(.inl 5, 0)], []), rv_full, rv_i 0 179, rv_r 64], []), [44], 6448, [(4, (-804))], []),
  (44, ([rv_r 56, rv_r 7, rv_full, rv_full, rv_i 0 8, rv_i 1 2147483647, rv_i 0 19], [rv_full, rv_i 0 179, rv_r 64], []), [45], 6447, [(4, (-804))], []),
  (45, ([rv_r 56, rv_r 7, rv_full, rv_full, rv_i 0 8, rv_i 1 2147483647, rv_i 0 19], [], []), [46], 6446, [(4, (-804))], []),
  (46, ([rv_r 56, rv_r 7, rv_full, rv_full, rv_i 0 8, rv_i 1 2147483647, rv_i 0 19], [(1, 0, (-2147483648), 2147483647, [(.inl 3, 0)], [])], []), [47], 6445, [(4, (-804))], []),
  (47, ([rv_r 56, rv_r 7, rv_full, rv_full, rv_i 0 8, rv_i 1 2147483647, rv_i 0 19], [(1, 0, 1, 2147483647, [(.inl 5, 0)], []), (1, 0, (-2147483648), 2147483647, [(.inl 3, 0)], [])], []), [48], 6444, [(4, (-804))], [])]
def n_X0_spill_1_3 : List rv_N := [
  (48, ([rv_r 56, rv_r 7, rv_full, rv_full, rv_i 0 8, rv_i 1 2147483647, rv_i 0 19], [rv_full], []), [49], 6443, [(4, (-804))], []),
  (49, ([rv_r 56, rv_r 7, rv_full, rv_full, rv_i 0 8, rv_i 1 2147483647, rv_i 0 19], [], []), [50], 6442, [(4, (-804))], []),
  (50, ([rv_r 56, rv_r 7, rv_full, rv_full, rv_i 0 8, rv_i 1 2147483647, rv_i 0 19], [rv_r 56], []), [51], 6441, [(4, (-804))], []),
  (51, ([rv_r 56, rv_r 7, rv_full, rv_full, rv_i 0 8, rv_i 1 2147483647, rv_i 0 19], [(1, 0, 0, 19, [(.inl 6, 0)], []), rv_r 56], []), [52], 6440, [(4, (-804))], []),
  (52, ([rv_r 56, rv_r 7, rv_full, rv_full, rv_i 0 8, rv_i 1 2147483647, rv_i 0 19], [(1, 0, 1, 2147483647, [(.inl 5, 0)], []), (1, 0, 0, 19, [(.inl 6, 0)], []), rv_r 56], []), [53], 6439, [(4, (-804))], [2]),
  (53, ([rv_r 56, rv_r 7, rv_full, rv_full, rv_i 0 8, rv_full, rv_full], [], []), [54], 6438, [(4, (-804))], []),
  (54, ([rv_r 56, rv_r 7, rv_full, rv_full, rv_i 1 9, rv_full, rv_full], [], []), [4], 7241, [(4, (-804))], []),
  (55, ([rv_r 56, rv_r 7, rv_full, rv_full, rv_i 9 9, rv_u, rv_u], [], []), [56], 1, [], []),
  (56, ([rv_r 56, rv_r 7, rv_full, rv_full, rv_i 9 9, rv_u, rv_u], [(1, 0, (-2147483648), 2147483647, [(.inl 3, 0)], [])], []), [], 0, [], [])]
def n_X0_spill_1 : List rv_N := n_X0_spill_1_0 ++ (n_X0_spill_1_1 ++ (n_X0_spill_1_2 ++ (n_X0_spill_1_3)))
noncomputable def gn_X0_spill_1 : Nat → Option rv_N := rv_ap 16 (rv_at n_X0_spill_1_0) (rv_ap 16 (rv_at n_X0_spill_1_1) (rv_ap 16 (rv_at n_X0_spill_1_2) (rv_at n_X0_spill_1_3)))
theorem hn_X0_spill_1 : ∀ i : Nat, n_X0_spill_1[i]? = gn_X0_spill_1 i := rv_ap_eq (l := n_X0_spill_1_0) (c := 16) (rv_ap_eq (l := n_X0_spill_1_1) (c := 16) (rv_ap_eq (l := n_X0_spill_1_2) (c := 16) (rv_at_eq n_X0_spill_1_3) rfl) rfl) rfl
set_option maxRecDepth 100000 in
theorem a_X0_spill_1 : rv_all (fm_tm, flX0, fm_wr, kcX0, klX0, K_X0_spill_1.2.2.1, [], 7) ct_X0_spill_1 cd_X0_spill n_X0_spill_1 K_X0_spill_1 [] 0 n_X0_spill_1 = true := rv_fast hn_X0_spill_1 hc_X0_spill (by decide +kernel)
theorem m_X0_spill_1 {l : Launch} {D : va_G} {ad : Nat → Nat} {cy : Nat → ClassId} {Z : State → Heap → Prop} {Gp : fm_V → Prop} (hAd : fm_Ad fm_tm ad) (hZ : fm_Zk (fm_A fm_tm ad) Z) (hGd : fm_Gd Gp) : rv_Met l D fm_cl fm_tm ad cy fm_nt Z Gp yX0_spill (.code yX0_spill prog_2_method_10_code 7 (some .int) :: fm_Ts) { frames := 3, cells := 0, slots := 0, locals := 300 } K_X0_spill_1 := rv_met hAd hZ (Or.inl (by decide +kernel)) evX0 dc_X0_spill a_X0_spill_1 ⟨rfl, rfl, rfl⟩ (by decide +kernel) (by decide +kernel) (by decide) (fm_gm hGd (by decide +kernel)) (Or.inl rfl) (fun p e s m args below meth c Q X Y => List.forall_mem_cons.mpr ⟨rv_ctV X Y fm_Ts_good dc_X0_spill (pc := 17) (i := 11) (idx := 124) rfl (m_X0_loss_1 hAd hZ hGd) wl_X0_124 wm_X0_loss wy_X0_loss (by decide) ⟨rfl, rfl, rfl⟩ ⟨rfl, rfl⟩, List.forall_mem_cons.mpr ⟨rv_ctN X Y fm_Ts_good dc_X0_spill (pc := 41) (i := 22) (idx := 131) rfl (m_X7_isYard_0 hAd hZ hGd) wl_X0_131 wm_X7_isYard wy_X7_isYard (by decide) rfl, List.forall_mem_cons.mpr ⟨rv_ctV X Y fm_Ts_good dc_X0_spill (pc := 90) (i := 52) (idx := 138) rfl (m_X0_heap_1 hAd hZ hGd) wl_X0_138 wm_X0_heap wy_X0_heap (by decide) ⟨rfl, rfl, rfl⟩ ⟨rfl, rfl⟩, fun _ h => absurd h List.not_mem_nil⟩⟩⟩) (fun _ _ _ _ _ _ _ _ _ _ _ _ _ _ _ _ h => absurd h List.not_mem_nil)
