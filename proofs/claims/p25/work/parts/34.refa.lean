def cd_X8_worked : List (Nat × Instr × Nat) := [(0, .iload_n 0, 1), (1, .lookupswitch 125 #[(37, 91), (42, 75), (43, 67), (45, 71), (47, 79), (60, 103), (62, 114)], 67), (68, .iload_n 1, 1), (69, .iload_n 2, 1), (70, .iadd, 1), (71, .ireturn, 1), (72, .iload_n 1, 1), (73, .iload_n 2, 1), (74, .isub, 1), (75, .ireturn, 1), (76, .iload_n 1, 1), (77, .iload_n 2, 1), (78, .imul, 1), (79, .ireturn, 1), (80, .iload_n 2, 1), (81, .ifCond .ne 7, 3), (84, .iconst 0, 1), (85, .goto 6, 3), (88, .iload_n 1, 1), (89, .iload_n 2, 1), (90, .idiv, 1), (91, .ireturn, 1), (92, .iload_n 2, 1), (93, .ifCond .ne 7, 3), (96, .iconst 0, 1), (97, .goto 6, 3), (100, .iload_n 1, 1), (101, .iload_n 2, 1), (102, .irem, 1), (103, .ireturn, 1), (104, .iload_n 1, 1), (105, .iload_n 2, 1), (106, .if_icmp .ge 7, 3), (109, .iconst 1, 1), (110, .goto 4, 3), (113, .iconst 0, 1), (114, .ireturn, 1), (115, .iload_n 1, 1), (116, .iload_n 2, 1), (117, .if_icmp .le 7, 3), (120, .iconst 1, 1), (121, .goto 4, 3), (124, .iconst 0, 1), (125, .ireturn, 1), (126, .iload_n 1, 1), (127, .iload_n 2, 1), (128, .if_icmp .ne 7, 3), (131, .iconst 1, 1), (132, .goto 4, 3), (135, .iconst 0, 1), (136, .ireturn, 1)]
theorem dc_X8_worked : ∀ q ∈ cd_X8_worked, decode prog_10_method_48_code q.1 = .ok (q.2.1, q.2.2) := by decide +kernel
def ch_X8_worked_0 : List (Nat × Instr × Nat) := [(0, .iload_n 0, 1), (1, .lookupswitch 125 #[(37, 91), (42, 75), (43, 67), (45, 71), (47, 79), (60, 103), (62, 114)], 67), (68, .iload_n 1, 1), (69, .iload_n 2, 1), (70, .iadd, 1), (71, .ireturn, 1), (72, .iload_n 1, 1), (73, .iload_n 2, 1), (74, .isub, 1), (75, .ireturn, 1), (76, .iload_n 1, 1), (77, .iload_n 2, 1), (78, .imul, 1), (79, .ireturn, 1), (80, .iload_n 2, 1), (81, .ifCond .ne 7, 3)]
def ch_X8_worked_1 : List (Nat × Instr × Nat) := [(84, .iconst 0, 1), (85, .goto 6, 3), (88, .iload_n 1, 1), (89, .iload_n 2, 1), (90, .idiv, 1), (91, .ireturn, 1), (92, .iload_n 2, 1), (93, .ifCond .ne 7, 3), (96, .iconst 0, 1), (97, .goto 6, 3), (100, .iload_n 1, 1), (101, .iload_n 2, 1), (102, .irem, 1), (103, .ireturn, 1), (104, .iload_n 1, 1), (105, .iload_n 2, 1)]
def ch_X8_worked_2 : List (Nat × Instr × Nat) := [(106, .if_icmp .ge 7, 3), (109, .iconst 1, 1), (110, .goto 4, 3), (113, .iconst 0, 1), (114, .ireturn, 1), (115, .iload_n 1, 1), (116, .iload_n 2, 1), (117, .if_icmp .le 7, 3), (120, .iconst 1, 1), (121, .goto 4, 3), (124, .iconst 0, 1), (125, .ireturn, 1), (126, .iload_n 1, 1), (127, .iload_n 2, 1), (128, .if_icmp .ne 7, 3), (131, .iconst 1, 1)]
def ch_X8_worked_3 : List (Nat × Instr × Nat) := [(132, .goto 4, 3), (135, .iconst 0, 1), (136, .ireturn, 1)]
set_option maxRecDepth 100000 in
theorem he_X8_worked : cd_X8_worked = ch_X8_worked_0 ++ (ch_X8_worked_1 ++ (ch_X8_worked_2 ++ (ch_X8_worked_3))) := rfl
noncomputable def gc_X8_worked : Nat → Option (Nat × Instr × Nat) := rv_ap 16 (rv_at ch_X8_worked_0) (rv_ap 16 (rv_at ch_X8_worked_1) (rv_ap 16 (rv_at ch_X8_worked_2) (rv_at ch_X8_worked_3)))
theorem hc_X8_worked : ∀ i : Nat, cd_X8_worked[i]? = gc_X8_worked i := by
  rw [he_X8_worked]
  exact rv_ap_eq (l := ch_X8_worked_0) (c := 16) (rv_ap_eq (l := ch_X8_worked_1) (c := 16) (rv_ap_eq (l := ch_X8_worked_2) (c := 16) (rv_at_eq ch_X8_worked_3) rfl) rfl) rfl
def K_X8_worked_0 : rv_K := ([rv_full, rv_full, rv_full], [], [], [(0, (-2147483648), 2147483647)], [], [])
def ct_X8_worked_0 : List (Nat × rv_K) := []
def n_X8_worked_0_0 : List rv_N := [
  (0, ([rv_full, rv_full, rv_full], [], []), [1], 7, [], []),
  (1, ([rv_full, rv_full, rv_full], [(1, 0, (-2147483648), 2147483647, [(.inl 0, 0)], [])], []), [2, 6, 10, 14, 23, 32, 40, 48], 6, [], []),
  (2, ([rv_i 43 43, rv_full, rv_full], [], []), [3], 3, [], []),
  (3, ([rv_i 43 43, rv_full, rv_full], [(1, 0, (-2147483648), 2147483647, [(.inl 1, 0)], [])], []), [4], 2, [], []),
  (4, ([rv_i 43 43, rv_full, rv_full], [(1, 0, (-2147483648), 2147483647, [(.inl 2, 0)], []), (1, 0, (-2147483648), 2147483647, [(.inl 1, 0)], [])], []), [5], 1, [], []),
  (5, ([rv_i 43 43, rv_full, rv_full], [rv_full], []), [], 0, [], []),
  (6, ([rv_i 45 45, rv_full, rv_full], [], []), [7], 3, [], []),
  (7, ([rv_i 45 45, rv_full, rv_full], [(1, 0, (-2147483648), 2147483647, [(.inl 1, 0)], [])], []), [8], 2, [], []),
  (8, ([rv_i 45 45, rv_full, rv_full], [(1, 0, (-2147483648), 2147483647, [(.inl 2, 0)], []), (1, 0, (-2147483648), 2147483647, [(.inl 1, 0)], [])], []), [9], 1, [], []),
  (9, ([rv_i 45 45, rv_full, rv_full], [rv_full], []), [], 0, [], []),
  (10, ([rv_i 42 42, rv_full, rv_full], [], []), [11], 3, [], []),
  (11, ([rv_i 42 42, rv_full, rv_full], [(1, 0, (-2147483648), 2147483647, [(.inl 1, 0)], [])], []), [12], 2, [], []),
  (12, ([rv_i 42 42, rv_full, rv_full], [(1, 0, (-2147483648), 2147483647, [(.inl 2, 0)], []), (1, 0, (-2147483648), 2147483647, [(.inl 1, 0)], [])], []), [13], 1, [], []),
  (13, ([rv_i 42 42, rv_full, rv_full], [rv_full], []), [], 0, [], []),
  (14, ([rv_i 47 47, rv_full, rv_full], [], []), [15], 5, [], []),
  (15, ([rv_i 47 47, rv_full, rv_full], [(1, 0, (-2147483648), 2147483647, [(.inl 2, 0)], [])], []), [16, 18], 4, [], [])]
def n_X8_worked_0_1 : List rv_N := [
  (16, ([rv_i 47 47, rv_full, rv_i 0 0], [], []), [17], 2, [], []),
  (17, ([rv_i 47 47, rv_full, rv_i 0 0], [rv_i 0 0], []), [21], 1, [], []),
  (18, ([rv_i 47 47, rv_full, (1, 1, (-2147483648), 2147483647, [], [])], [], []), [19], 3, [], []),
  (19, ([rv_i 47 47, rv_full, (1, 1, (-2147483648), 2147483647, [], [])], [(1, 0, (-2147483648), 2147483647, [(.inl 1, 0)], [])], []), [20], 2, [], []),
  (20, ([rv_i 47 47, rv_full, (1, 1, (-2147483648), 2147483647, [], [])], [(1, 1, (-2147483648), 2147483647, [(.inl 2, 0)], []), (1, 0, (-2147483648), 2147483647, [(.inl 1, 0)], [])], []), [22], 1, [], []),
  (21, ([rv_i 47 47, rv_full, rv_i 0 0], [rv_i 0 0], []), [], 0, [], []),
  (21, ([rv_i 47 47, rv_full, (1, 1, (-2147483648), 2147483647, [], [])], [rv_full], []), [], 0, [], []),
  (22, ([rv_i 37 37, rv_full, rv_full], [], []), [24], 5, [], []),
  (23, ([rv_i 37 37, rv_full, rv_full], [(1, 0, (-2147483648), 2147483647, [(.inl 2, 0)], [])], []), [25, 27], 4, [], []),
  (24, ([rv_i 37 37, rv_full, rv_i 0 0], [], []), [26], 2, [], []),
  (25, ([rv_i 37 37, rv_full, rv_i 0 0], [rv_i 0 0], []), [30], 1, [], []),
  (26, ([rv_i 37 37, rv_full, (1, 1, (-2147483648), 2147483647, [], [])], [], []), [28], 3, [], []),
  (27, ([rv_i 37 37, rv_full, (1, 1, (-2147483648), 2147483647, [], [])], [(1, 0, (-2147483648), 2147483647, [(.inl 1, 0)], [])], []), [29], 2, [], []),
  (28, ([rv_i 37 37, rv_full, (1, 1, (-2147483648), 2147483647, [], [])], [(1, 1, (-2147483648), 2147483647, [(.inl 2, 0)], []), (1, 0, (-2147483648), 2147483647, [(.inl 1, 0)], [])], []), [31], 1, [], []),
  (29, ([rv_i 37 37, rv_full, rv_i 0 0], [rv_i 0 0], []), [], 0, [], []),
  (29, ([rv_i 37 37, rv_full, (1, 1, (-2147483648), 2147483647, [], [])], [rv_full], []), [], 0, [], [])]
def n_X8_worked_0_2 : List rv_N := [
  (30, ([rv_i 60 60, rv_full, rv_full], [], []), [33], 5, [], []),
  (31, ([rv_i 60 60, rv_full, rv_full], [(1, 0, (-2147483648), 2147483647, [(.inl 1, 0)], [])], []), [34], 4, [], []),
  (32, ([rv_i 60 60, rv_full, rv_full], [(1, 0, (-2147483648), 2147483647, [(.inl 2, 0)], []), (1, 0, (-2147483648), 2147483647, [(.inl 1, 0)], [])], []), [35, 37], 3, [], []),
  (33, ([rv_i 60 60, rv_i (-2147483648) 2147483646, rv_i (-2147483647) 2147483647], [], []), [36], 2, [], []),
  (34, ([rv_i 60 60, rv_i (-2147483648) 2147483646, rv_i (-2147483647) 2147483647], [rv_i 1 1], []), [39], 1, [], []),
  (35, ([rv_i 60 60, rv_full, rv_full], [], []), [38], 1, [], []),
  (36, ([rv_i 60 60, rv_full, rv_full], [rv_i 0 0], []), [], 0, [], []),
  (36, ([rv_i 60 60, rv_i (-2147483648) 2147483646, rv_i (-2147483647) 2147483647], [rv_i 1 1], []), [], 0, [], []),
  (37, ([rv_i 62 62, rv_full, rv_full], [], []), [41], 5, [], []),
  (38, ([rv_i 62 62, rv_full, rv_full], [(1, 0, (-2147483648), 2147483647, [(.inl 1, 0)], [])], []), [42], 4, [], []),
  (39, ([rv_i 62 62, rv_full, rv_full], [(1, 0, (-2147483648), 2147483647, [(.inl 2, 0)], []), (1, 0, (-2147483648), 2147483647, [(.inl 1, 0)], [])], []), [43, 45], 3, [], []),
  (40, ([rv_i 62 62, rv_i (-2147483647) 2147483647, rv_i (-2147483648) 2147483646], [], []), [44], 2, [], []),
  (41, ([rv_i 62 62, rv_i (-2147483647) 2147483647, rv_i (-2147483648) 2147483646], [rv_i 1 1], []), [47], 1, [], []),
  (42, ([rv_i 62 62, rv_full, rv_full], [], []), [46], 1, [], []),
  (43, ([rv_i 62 62, rv_full, rv_full], [rv_i 0 0], []), [], 0, [], []),
  (43, ([rv_i 62 62, rv_i (-2147483647) 2147483647, rv_i (-2147483648) 2147483646], [rv_i 1 1], []), [], 0, [], [])]
def n_X8_worked_0_3 : List rv_N := [
  (44, ([rv_full, rv_full, rv_full], [], []), [49], 5, [], []),
  (45, ([rv_full, rv_full, rv_full], [(1, 0, (-2147483648), 2147483647, [(.inl 1, 0)], [])], []), [50], 4, [], []),
  (46, ([rv_full, rv_full, rv_full], [(1, 0, (-2147483648), 2147483647, [(.inl 2, 0)], []), (1, 0, (-2147483648), 2147483647, [(.inl 1, 0)], [])], []), [51, 53], 3, [], []),
  (47, ([rv_full, rv_full, rv_full], [], []), [52], 2, [], []),
  (48, ([rv_full, rv_full, rv_full], [rv_i 1 1], []), [55], 1, [], []),
  (49, ([rv_full, rv_full, rv_full], [], []), [54], 1, [], []),
  (50, ([rv_full, rv_full, rv_full], [rv_i 0 0], []), [], 0, [], []),
  (50, ([rv_full, rv_full, rv_full], [rv_i 1 1], []), [], 0, [], [])]
def n_X8_worked_0 : List rv_N := n_X8_worked_0_0 ++ (n_X8_worked_0_1 ++ (n_X8_worked_0_2 ++ (n_X8_worked_0_3)))
noncomputable def gn_X8_worked_0 : Nat → Option rv_N := rv_ap 16 (rv_at n_X8_worked_0_0) (rv_ap 16 (rv_at n_X8_worked_0_1) (rv_ap 16 (rv_at n_X8_worked_0_2) (rv_at n_X8_worked_0_3)))
theorem hn_X8_worked_0 : ∀ i : Nat, n_X8_worked_0[i]? = gn_X8_worked_0 i := rv_ap_eq (l := n_X8_worked_0_0) (c := 16) (rv_ap_eq (l := n_X8_worked_0_1) (c := 16) (rv_ap_eq (l := n_X8_worked_0_2) (c := 16) (rv_at_eq n_X8_worked_0_3) rfl) rfl) rfl
set_option maxRecDepth 100000 in
theorem a_X8_worked_0 : rv_all (fm_tm, flX8, fm_wr, kcX8, klX8, K_X8_worked_0.2.2.1, [], 3) ct_X8_worked_0 cd_X8_worked n_X8_worked_0 K_X8_worked_0 [] 0 n_X8_worked_0 = true := rv_fast hn_X8_worked_0 hc_X8_worked (by decide +kernel)
theorem m_X8_worked_0 {l : Launch} {D : va_G} {ad : Nat → Nat} {cy : Nat → ClassId} {Z : State → Heap → Prop} (hAd : fm_Ad fm_tm ad) (hZ : fm_Zk (fm_A fm_tm ad) Z) : rv_Met l D fm_cl fm_tm ad cy fm_nt Z fm_G yX8_worked (.code yX8_worked prog_10_method_48_code 3 (some .int) :: fm_Ts) { frames := 0, cells := 0, slots := 0, locals := 0 } K_X8_worked_0 := rv_met hAd hZ (Or.inl (by decide +kernel)) evX8 dc_X8_worked a_X8_worked_0 ⟨rfl, rfl, rfl⟩ (by decide +kernel) (by decide +kernel) (by decide) (fm_gm fm_G_gd (by decide +kernel)) (Or.inl rfl) (fun p e s m args below meth c Q X Y => fun _ h => absurd h List.not_mem_nil) (fun _ _ _ _ _ _ _ _ _ _ _ _ _ _ _ _ h => absurd h List.not_mem_nil)
def cd_X8_does : List (Nat × Instr × Nat) := [(0, .iload_n 2, 1), (1, .iconst 1, 1), (2, .iadd, 1), (3, .istore_n 3, 1), (4, .iload_n 1, 1), (5, .bipush 38, 2), (7, .if_icmp .eq 9, 3), (10, .iload_n 1, 1), (11, .bipush 124, 2), (13, .if_icmp .ne 58, 3), (16, .aload_n 0, 1), (17, .getfield 100, 3), (20, .iload_n 2, 1), (21, .baload, 1), (22, .ifCond .ne 23, 3), (25, .aload_n 0, 1), (26, .getfield 97, 3), (29, .iload_n 2, 1), (30, .iaload, 1), (31, .iload_n 1, 1), (32, .bipush 38, 2), (34, .if_icmp .ne 7, 3), (37, .iconst 1, 1), (38, .goto 4, 3), (41, .iconst 0, 1), (42, .if_icmp .eq 4, 3), (45, .return_, 1), (46, .aload_n 0, 1), (47, .getfield 97, 3), (50, .iload_n 2, 1), (51, .aload_n 0, 1), (52, .getfield 97, 3), (55, .iload_n 3, 1), (56, .iaload, 1), (57, .iastore, 1), (58, .aload_n 0, 1), (59, .getfield 100, 3), (62, .iload_n 2, 1), (63, .aload_n 0, 1), (64, .getfield 100, 3), (67, .iload_n 3, 1), (68, .baload, 1), (69, .bastore, 1), (70, .return_, 1), (71, .aload_n 0, 1), (72, .getfield 100, 3), (75, .iload_n 2, 1), (76, .aload_n 0, 1), (77, .getfield 100, 3), (80, .iload_n 2, 1), (81, .baload, 1), (82, .ifCond .ne 33, 3), (85, .aload_n 0, 1), (86, .getfield 100, 3), (89, .iload_n 3, 1), (90, .baload, 1), (91, .ifCond .ne 24, 3), (94, .iload_n 1, 1), (95, .bipush 47, 2), (97, .if_icmp .eq 9, 3), (100, .iload_n 1, 1), (101, .bipush 37, 2), (103, .if_icmp .ne 16, 3), (106, .aload_n 0, 1), (107, .getfield 97, 3), (110, .iload_n 3, 1), (111, .iaload, 1), (112, .ifCond .ne 7, 3), (115, .iconst 1, 1), (116, .goto 4, 3), (119, .iconst 0, 1), (120, .bastore, 1), (121, .aload_n 0, 1), (122, .getfield 97, 3), (125, .iload_n 2, 1), (126, .iload_n 1, 1), (127, .aload_n 0, 1), (128, .getfield 97, 3), (131, .iload_n 2, 1), (132, .iaload, 1), (133, .aload_n 0, 1), (134, .getfield 97, 3), (137, .iload_n 3, 1), (138, .iaload, 1), (139, .invokestatic 349, 3), (142, .iastore, 1), (143, .return_, 1)]
theorem dc_X8_does : ∀ q ∈ cd_X8_does, decode prog_10_method_49_code q.1 = .ok (q.2.1, q.2.2) := by decide +kernel
def ch_X8_does_0 : List (Nat × Instr × Nat) := [(0, .iload_n 2, 1), (1, .iconst 1, 1), (2, .iadd, 1), (3, .istore_n 3, 1), (4, .iload_n 1, 1), (5, .bipush 38, 2), (7, .if_icmp .eq 9, 3), (10, .iload_n 1, 1), (11, .bipush 124, 2), (13, .if_icmp .ne 58, 3), (16, .aload_n 0, 1), (17, .getfield 100, 3), (20, .iload_n 2, 1), (21, .baload, 1), (22, .ifCond .ne 23, 3), (25, .aload_n 0, 1)]
def ch_X8_does_1 : List (Nat × Instr × Nat) := [(26, .getfield 97, 3), (29, .iload_n 2, 1), (30, .iaload, 1), (31, .iload_n 1, 1), (32, .bipush 38, 2), (34, .if_icmp .ne 7, 3), (37, .iconst 1, 1), (38, .goto 4, 3), (41, .iconst 0, 1), (42, .if_icmp .eq 4, 3), (45, .return_, 1), (46, .aload_n 0, 1), (47, .getfield 97, 3), (50, .iload_n 2, 1), (51, .aload_n 0, 1), (52, .getfield 97, 3)]
def ch_X8_does_2 : List (Nat × Instr × Nat) := [(55, .iload_n 3, 1), (56, .iaload, 1), (57, .iastore, 1), (58, .aload_n 0, 1), (59, .getfield 100, 3), (62, .iload_n 2, 1), (63, .aload_n 0, 1), (64, .getfield 100, 3), (67, .iload_n 3, 1), (68, .baload, 1), (69, .bastore, 1), (70, .return_, 1), (71, .aload_n 0, 1), (72, .getfield 100, 3), (75, .iload_n 2, 1), (76, .aload_n 0, 1)]
def ch_X8_does_3 : List (Nat × Instr × Nat) := [(77, .getfield 100, 3), (80, .iload_n 2, 1), (81, .baload, 1), (82, .ifCond .ne 33, 3), (85, .aload_n 0, 1), (86, .getfield 100, 3), (89, .iload_n 3, 1), (90, .baload, 1), (91, .ifCond .ne 24, 3), (94, .iload_n 1, 1), (95, .bipush 47, 2), (97, .if_icmp .eq 9, 3), (100, .iload_n 1, 1), (101, .bipush 37, 2), (103, .if_icmp .ne 16, 3), (106, .aload_n 0, 1)]
def ch_X8_does_4 : List (Nat × Instr × Nat) := [(107, .getfield 97, 3), (110, .iload_n 3, 1), (111, .iaload, 1), (112, .ifCond .ne 7, 3), (115, .iconst 1, 1), (116, .goto 4, 3), (119, .iconst 0, 1), (120, .bastore, 1), (121, .aload_n 0, 1), (122, .getfield 97, 3), (125, .iload_n 2, 1), (126, .iload_n 1, 1), (127, .aload_n 0, 1), (128, .getfield 97, 3), (131, .iload_n 2, 1), (132, .iaload, 1)]
def ch_X8_does_5 : List (Nat × Instr × Nat) := [(133, .aload_n 0, 1), (134, .getfield 97, 3), (137, .iload_n 3, 1), (138, .iaload, 1), (139, .invokestatic 349, 3), (142, .iastore, 1), (143, .return_, 1)]
set_option maxRecDepth 100000 in
theorem he_X8_does : cd_X8_does = ch_X8_does_0 ++ (ch_X8_does_1 ++ (ch_X8_does_2 ++ (ch_X8_does_3 ++ (ch_X8_does_4 ++ (ch_X8_does_5))))) := rfl
noncomputable def gc_X8_does : Nat → Option (Nat × Instr × Nat) := rv_ap 16 (rv_at ch_X8_does_0) (rv_ap 16 (rv_at ch_X8_does_1) (rv_ap 16 (rv_at ch_X8_does_2) (rv_ap 16 (rv_at ch_X8_does_3) (rv_ap 16 (rv_at ch_X8_does_4) (rv_at ch_X8_does_5)))))
theorem hc_X8_does : ∀ i : Nat, cd_X8_does[i]? = gc_X8_does i := by
  rw [he_X8_does]
  exact rv_ap_eq (l := ch_X8_does_0) (c := 16) (rv_ap_eq (l := ch_X8_does_1) (c := 16) (rv_ap_eq (l := ch_X8_does_2) (c := 16) (rv_ap_eq (l := ch_X8_does_3) (c := 16) (rv_ap_eq (l := ch_X8_does_4) (c := 16) (rv_at_eq ch_X8_does_5) rfl) rfl) rfl) rfl) rfl
def K_X8_does_0 : rv_K := ([rv_r 80, rv_full, rv_i 0 238], [], [(108, 9999), (109, 9999)], [], [], [])
def ct_X8_does_0 : List (Nat × rv_K) := [(84, K_X8_worked_0)]
def n_X8_does_0_0 : List rv_N := [
  (0, ([rv_r 80, rv_full, rv_i 0 238, rv_u], [], []), [1], 51, [], []),
  (1, ([rv_r 80, rv_full, rv_i 0 238, rv_u], [(1, 0, 0, 238, [(.inl 2, 0)], [])], []), [2], 50, [], []),
  (2, ([rv_r 80, rv_full, rv_i 0 238, rv_u], [rv_i 1 1, (1, 0, 0, 238, [(.inl 2, 0)], [])], []), [3], 49, [], []),
  (3, ([rv_r 80, rv_full, rv_i 0 238, rv_u], [(1, 0, 1, 239, [(.inl 2, 1)], [])], []), [4], 48, [], []),
  (4, ([rv_r 80, rv_full, rv_i 0 238, rv_i 1 239], [], []), [5], 47, [], []),
  (5, ([rv_r 80, rv_full, rv_i 0 238, rv_i 1 239], [(1, 0, (-2147483648), 2147483647, [(.inl 1, 0)], [])], []), [6], 46, [], []),
  (6, ([rv_r 80, rv_full, rv_i 0 238, rv_i 1 239], [rv_i 38 38, (1, 0, (-2147483648), 2147483647, [(.inl 1, 0)], [])], []), [7, 10], 45, [], []),
  (7, ([rv_r 80, rv_full, rv_i 0 238, rv_i 1 239], [], []), [8], 44, [], []),
  (8, ([rv_r 80, rv_full, rv_i 0 238, rv_i 1 239], [(1, 0, (-2147483648), 2147483647, [(.inl 1, 0)], [])], []), [9], 43, [], []),
  (9, ([rv_r 80, rv_full, rv_i 0 238, rv_i 1 239], [rv_i 124 124, (1, 0, (-2147483648), 2147483647, [(.inl 1, 0)], [])], []), [10, 45], 42, [], []),
  (10, ([rv_r 80, rv_i 38 124, rv_i 0 238, rv_i 1 239], [], []), [11], 31, [], []),
  (11, ([rv_r 80, rv_i 38 124, rv_i 0 238, rv_i 1 239], [rv_r 80], []), [12], 30, [], []),
  (12, ([rv_r 80, rv_i 38 124, rv_i 0 238, rv_i 1 239], [rv_r 109], []), [13], 29, [], []),
  (13, ([rv_r 80, rv_i 38 124, rv_i 0 238, rv_i 1 239], [(1, 0, 0, 238, [(.inl 2, 0)], []), rv_r 109], []), [14], 28, [], []),
  (14, ([rv_r 80, rv_i 38 124, rv_i 0 238, rv_i 1 239], [(1, 0, 0, 1, [(.inr (109, 5002), 0)], [])], []), [15, 27], 27, [], []),
  (15, ([rv_r 80, rv_i 38 124, rv_i 0 238, rv_i 1 239], [], [((109, 5002), 0, 0, [])]), [16], 26, [], [])]
def n_X8_does_0_1 : List rv_N := [
  (16, ([rv_r 80, rv_i 38 124, rv_i 0 238, rv_i 1 239], [rv_r 80], [((109, 5002), 0, 0, [])]), [17], 25, [], []),
  (17, ([rv_r 80, rv_i 38 124, rv_i 0 238, rv_i 1 239], [rv_r 108], [((109, 5002), 0, 0, [])]), [18], 24, [], []),
  (18, ([rv_r 80, rv_i 38 124, rv_i 0 238, rv_i 1 239], [(1, 0, 0, 238, [(.inl 2, 0)], []), rv_r 108], [((109, 5002), 0, 0, [])]), [19], 23, [], []),
  (19, ([rv_r 80, rv_i 38 124, rv_i 0 238, rv_i 1 239], [(1, 0, (-2147483648), 2147483647, [(.inr (108, 5002), 0)], [])], [((109, 5002), 0, 0, [])]), [20], 22, [], []),
  (20, ([rv_r 80, rv_i 38 124, rv_i 0 238, rv_i 1 239], [(1, 0, 38, 124, [(.inl 1, 0)], []), (1, 0, (-2147483648), 2147483647, [(.inr (108, 5002), 0)], [])], [((109, 5002), 0, 0, [])]), [21], 21, [], []),
  (21, ([rv_r 80, rv_i 38 124, rv_i 0 238, rv_i 1 239], [rv_i 38 38, (1, 0, 38, 124, [(.inl 1, 0)], []), (1, 0, (-2147483648), 2147483647, [(.inr (108, 5002), 0)], [])], [((109, 5002), 0, 0, [])]), [22, 24], 20, [], []),
  (22, ([rv_r 80, rv_i 38 38, rv_i 0 238, rv_i 1 239], [(1, 0, (-2147483648), 2147483647, [(.inr (108, 5002), 0)], [])], [((109, 5002), 0, 0, [])]), [23], 19, [], []),
  (23, ([rv_r 80, rv_i 38 38, rv_i 0 238, rv_i 1 239], [rv_i 1 1, (1, 0, (-2147483648), 2147483647, [(.inr (108, 5002), 0)], [])], [((109, 5002), 0, 0, [])]), [26], 18, [], []),
  (24, ([rv_r 80, rv_i 39 124, rv_i 0 238, rv_i 1 239], [(1, 0, (-2147483648), 2147483647, [(.inr (108, 5002), 0)], [])], [((109, 5002), 0, 0, [])]), [25], 18, [], []),
  (25, ([rv_r 80, rv_i 39 124, rv_i 0 238, rv_i 1 239], [rv_i 0 0, (1, 0, (-2147483648), 2147483647, [(.inr (108, 5002), 0)], [])], [((109, 5002), 0, 0, [])]), [27, 28], 17, [], []),
  (25, ([rv_r 80, rv_i 38 38, rv_i 0 238, rv_i 1 239], [rv_i 1 1, (1, 0, (-2147483648), 2147483647, [(.inr (108, 5002), 0)], [])], [((109, 5002), 0, 0, [])]), [27, 28], 17, [], []),
  (26, ([rv_r 80, rv_i 38 124, rv_i 0 238, rv_i 1 239], [], [((109, 5002), 0, 1, [])]), [], 0, [], []),
  (27, ([rv_r 80, rv_i 38 124, rv_i 0 238, rv_i 1 239], [], [((108, 5002), 0, 1, []), ((109, 5002), 0, 0, [])]), [29], 16, [], []),
  (28, ([rv_r 80, rv_i 38 124, rv_i 0 238, rv_i 1 239], [rv_r 80], [((108, 5002), 0, 1, []), ((109, 5002), 0, 0, [])]), [30], 15, [], []),
  (29, ([rv_r 80, rv_i 38 124, rv_i 0 238, rv_i 1 239], [rv_r 108], [((108, 5002), 0, 1, []), ((109, 5002), 0, 0, [])]), [31], 14, [], []),
  (30, ([rv_r 80, rv_i 38 124, rv_i 0 238, rv_i 1 239], [(1, 0, 0, 238, [(.inl 2, 0)], []), rv_r 108], [((108, 5002), 0, 1, []), ((109, 5002), 0, 0, [])]), [32], 13, [], [])]
def n_X8_does_0_2 : List rv_N := [
  (31, ([rv_r 80, rv_i 38 124, rv_i 0 238, rv_i 1 239], [rv_r 80, (1, 0, 0, 238, [(.inl 2, 0)], []), rv_r 108], [((108, 5002), 0, 1, []), ((109, 5002), 0, 0, [])]), [33], 12, [], []),
  (32, ([rv_r 80, rv_i 38 124, rv_i 0 238, rv_i 1 239], [rv_r 108, (1, 0, 0, 238, [(.inl 2, 0)], []), rv_r 108], [((108, 5002), 0, 1, []), ((109, 5002), 0, 0, [])]), [34], 11, [], []),
  (33, ([rv_r 80, rv_i 38 124, rv_i 0 238, rv_i 1 239], [(1, 0, 1, 239, [(.inl 3, 0)], []), rv_r 108, (1, 0, 0, 238, [(.inl 2, 0)], []), rv_r 108], [((108, 5002), 0, 1, []), ((109, 5002), 0, 0, [])]), [35], 10, [], []),
  (34, ([rv_r 80, rv_i 38 124, rv_i 0 238, rv_i 1 239], [(1, 0, (-2147483648), 2147483647, [(.inr (108, 5003), 0)], []), (1, 0, 0, 238, [(.inl 2, 0)], []), rv_r 108], [((108, 5002), 0, 1, []), ((109, 5002), 0, 0, [])]), [36], 9, [], []),
  (35, ([rv_r 80, rv_i 38 124, rv_i 0 238, rv_i 1 239], [], [((109, 5002), 0, 0, [])]), [37], 8, [], []),
  (36, ([rv_r 80, rv_i 38 124, rv_i 0 238, rv_i 1 239], [rv_r 80], [((109, 5002), 0, 0, [])]), [38], 7, [], []),
  (37, ([rv_r 80, rv_i 38 124, rv_i 0 238, rv_i 1 239], [rv_r 109], [((109, 5002), 0, 0, [])]), [39], 6, [], []),
  (38, ([rv_r 80, rv_i 38 124, rv_i 0 238, rv_i 1 239], [(1, 0, 0, 238, [(.inl 2, 0)], []), rv_r 109], [((109, 5002), 0, 0, [])]), [40], 5, [], []),
  (39, ([rv_r 80, rv_i 38 124, rv_i 0 238, rv_i 1 239], [rv_r 80, (1, 0, 0, 238, [(.inl 2, 0)], []), rv_r 109], [((109, 5002), 0, 0, [])]), [41], 4, [], []),
  (40, ([rv_r 80, rv_i 38 124, rv_i 0 238, rv_i 1 239], [rv_r 109, (1, 0, 0, 238, [(.inl 2, 0)], []), rv_r 109], [((109, 5002), 0, 0, [])]), [42], 3, [], []),
  (41, ([rv_r 80, rv_i 38 124, rv_i 0 238, rv_i 1 239], [(1, 0, 1, 239, [(.inl 3, 0)], []), rv_r 109, (1, 0, 0, 238, [(.inl 2, 0)], []), rv_r 109], [((109, 5002), 0, 0, [])]), [43], 2, [], []),
  (42, ([rv_r 80, rv_i 38 124, rv_i 0 238, rv_i 1 239], [(1, 0, 0, 1, [(.inr (109, 5003), 0)], []), (1, 0, 0, 238, [(.inl 2, 0)], []), rv_r 109], [((109, 5002), 0, 0, [])]), [44], 1, [], []),
  (43, ([rv_r 80, rv_i 38 124, rv_i 0 238, rv_i 1 239], [], []), [], 0, [], []),
  (44, ([rv_r 80, rv_full, rv_i 0 238, rv_i 1 239], [], []), [46], 41, [], []),
  (45, ([rv_r 80, rv_full, rv_i 0 238, rv_i 1 239], [rv_r 80], []), [47], 40, [], []),
  (46, ([rv_r 80, rv_full, rv_i 0 238, rv_i 1 239], [rv_r 109], []), [48], 39, [], [])]
def n_X8_does_0_3 : List rv_N := [
  (47, ([rv_r 80, rv_full, rv_i 0 238, rv_i 1 239], [(1, 0, 0, 238, [(.inl 2, 0)], []), rv_r 109], []), [49], 38, [], []),
  (48, ([rv_r 80, rv_full, rv_i 0 238, rv_i 1 239], [rv_r 80, (1, 0, 0, 238, [(.inl 2, 0)], []), rv_r 109], []), [50], 37, [], []),
  (49, ([rv_r 80, rv_full, rv_i 0 238, rv_i 1 239], [rv_r 109, (1, 0, 0, 238, [(.inl 2, 0)], []), rv_r 109], []), [51], 36, [], []),
  (50, ([rv_r 80, rv_full, rv_i 0 238, rv_i 1 239], [(1, 0, 0, 238, [(.inl 2, 0)], []), rv_r 109, (1, 0, 0, 238, [(.inl 2, 0)], []), rv_r 109], []), [52], 35, [], []),
  (51, ([rv_r 80, rv_full, rv_i 0 238, rv_i 1 239], [(1, 0, 0, 1, [(.inr (109, 5002), 0)], []), (1, 0, 0, 238, [(.inl 2, 0)], []), rv_r 109], []), [53, 69], 34, [], []),
  (52, ([rv_r 80, rv_full, rv_i 0 238, rv_i 1 239], [(1, 0, 0, 238, [(.inl 2, 0)], []), rv_r 109], [((109, 5002), 0, 0, [])]), [54], 33, [], []),
  (53, ([rv_r 80, rv_full, rv_i 0 238, rv_i 1 239], [rv_r 80, (1, 0, 0, 238, [(.inl 2, 0)], []), rv_r 109], [((109, 5002), 0, 0, [])]), [55], 32, [], []),
  (54, ([rv_r 80, rv_full, rv_i 0 238, rv_i 1 239], [rv_r 109, (1, 0, 0, 238, [(.inl 2, 0)], []), rv_r 109], [((109, 5002), 0, 0, [])]), [56], 31, [], []),
  (55, ([rv_r 80, rv_full, rv_i 0 238, rv_i 1 239], [(1, 0, 1, 239, [(.inl 3, 0)], []), rv_r 109, (1, 0, 0, 238, [(.inl 2, 0)], []), rv_r 109], [((109, 5002), 0, 0, [])]), [57], 30, [], []),
  (56, ([rv_r 80, rv_full, rv_i 0 238, rv_i 1 239], [(1, 0, 0, 1, [(.inr (109, 5003), 0)], []), (1, 0, 0, 238, [(.inl 2, 0)], []), rv_r 109], [((109, 5002), 0, 0, [])]), [58, 69], 29, [], []),
  (57, ([rv_r 80, rv_full, rv_i 0 238, rv_i 1 239], [(1, 0, 0, 238, [(.inl 2, 0)], []), rv_r 109], [((109, 5002), 0, 0, []), ((109, 5003), 0, 0, [])]), [59], 28, [], []),
  (58, ([rv_r 80, rv_full, rv_i 0 238, rv_i 1 239], [(1, 0, (-2147483648), 2147483647, [(.inl 1, 0)], []), (1, 0, 0, 238, [(.inl 2, 0)], []), rv_r 109], [((109, 5002), 0, 0, []), ((109, 5003), 0, 0, [])]), [60], 27, [], []),
  (59, ([rv_r 80, rv_full, rv_i 0 238, rv_i 1 239], [rv_i 47 47, (1, 0, (-2147483648), 2147483647, [(.inl 1, 0)], []), (1, 0, 0, 238, [(.inl 2, 0)], []), rv_r 109], [((109, 5002), 0, 0, []), ((109, 5003), 0, 0, [])]), [61, 64], 26, [], []),
  (60, ([rv_r 80, rv_full, rv_i 0 238, rv_i 1 239], [(1, 0, 0, 238, [(.inl 2, 0)], []), rv_r 109], [((109, 5002), 0, 0, []), ((109, 5003), 0, 0, [])]), [62], 25, [], []),
  (61, ([rv_r 80, rv_full, rv_i 0 238, rv_i 1 239], [(1, 0, (-2147483648), 2147483647, [(.inl 1, 0)], []), (1, 0, 0, 238, [(.inl 2, 0)], []), rv_r 109], [((109, 5002), 0, 0, []), ((109, 5003), 0, 0, [])]), [63], 24, [], []),
  (62, ([rv_r 80, rv_full, rv_i 0 238, rv_i 1 239], [rv_i 37 37, (1, 0, (-2147483648), 2147483647, [(.inl 1, 0)], []), (1, 0, 0, 238, [(.inl 2, 0)], []), rv_r 109], [((109, 5002), 0, 0, []), ((109, 5003), 0, 0, [])]), [64, 71], 23, [], [])]
def n_X8_does_0_4 : List rv_N := [
  (63, ([rv_r 80, rv_i 37 47, rv_i 0 238, rv_i 1 239], [(1, 0, 0, 238, [(.inl 2, 0)], []), rv_r 109], [((109, 5002), 0, 0, []), ((109, 5003), 0, 0, [])]), [65], 22, [], []),
  (64, ([rv_r 80, rv_i 37 47, rv_i 0 238, rv_i 1 239], [rv_r 80, (1, 0, 0, 238, [(.inl 2, 0)], []), rv_r 109], [((109, 5002), 0, 0, []), ((109, 5003), 0, 0, [])]), [66], 21, [], []),
  (65, ([rv_r 80, rv_i 37 47, rv_i 0 238, rv_i 1 239], [rv_r 108, (1, 0, 0, 238, [(.inl 2, 0)], []), rv_r 109], [((109, 5002), 0, 0, []), ((109, 5003), 0, 0, [])]), [67], 20, [], []),
  (66, ([rv_r 80, rv_i 37 47, rv_i 0 238, rv_i 1 239], [(1, 0, 1, 239, [(.inl 3, 0)], []), rv_r 108, (1, 0, 0, 238, [(.inl 2, 0)], []), rv_r 109], [((109, 5002), 0, 0, []), ((109, 5003), 0, 0, [])]), [68], 19, [], []),
  (67, ([rv_r 80, rv_i 37 47, rv_i 0 238, rv_i 1 239], [(1, 0, (-2147483648), 2147483647, [(.inr (108, 5003), 0)], []), (1, 0, 0, 238, [(.inl 2, 0)], []), rv_r 109], [((109, 5002), 0, 0, []), ((109, 5003), 0, 0, [])]), [69, 71], 18, [], []),
  (68, ([rv_r 80, rv_full, rv_i 0 238, rv_i 1 239], [(1, 0, 0, 238, [(.inl 2, 0)], []), rv_r 109], [((109, 5002), 0, 1, [])]), [70], 17, [], []),
  (69, ([rv_r 80, rv_full, rv_i 0 238, rv_i 1 239], [rv_i 1 1, (1, 0, 0, 238, [(.inl 2, 0)], []), rv_r 109], [((109, 5002), 0, 1, [])]), [73], 16, [], []),
  (70, ([rv_r 80, rv_full, rv_i 0 238, rv_i 1 239], [(1, 0, 0, 238, [(.inl 2, 0)], []), rv_r 109], [((109, 5002), 0, 0, []), ((109, 5003), 0, 0, [])]), [72], 16, [], []),
  (71, ([rv_r 80, rv_full, rv_i 0 238, rv_i 1 239], [rv_i 0 0, (1, 0, 0, 238, [(.inl 2, 0)], []), rv_r 109], [((109, 5002), 0, 0, []), ((109, 5003), 0, 0, [])]), [74], 15, [], []),
  (71, ([rv_r 80, rv_full, rv_i 0 238, rv_i 1 239], [rv_i 1 1, (1, 0, 0, 238, [(.inl 2, 0)], []), rv_r 109], [((109, 5002), 0, 1, [])]), [74], 15, [], []),
  (72, ([rv_r 80, rv_full, rv_i 0 238, rv_i 1 239], [], []), [75], 14, [], []),
  (73, ([rv_r 80, rv_full, rv_i 0 238, rv_i 1 239], [rv_r 80], []), [76], 13, [], []),
  (74, ([rv_r 80, rv_full, rv_i 0 238, rv_i 1 239], [rv_r 108], []), [77], 12, [], []),
  (75, ([rv_r 80, rv_full, rv_i 0 238, rv_i 1 239], [(1, 0, 0, 238, [(.inl 2, 0)], []), rv_r 108], []), [78], 11, [], []),
  (76, ([rv_r 80, rv_full, rv_i 0 238, rv_i 1 239], [(1, 0, (-2147483648), 2147483647, [(.inl 1, 0)], []), (1, 0, 0, 238, [(.inl 2, 0)], []), rv_r 108], []), [79], 10, [], []),
  (77, ([rv_r 80, rv_full, rv_i 0 238, rv_i 1 239], [rv_r 80, (1, 0, (-2147483648), 2147483647, [(.inl 1, 0)], []), (1, 0, 0, 238, [(.inl 2, 0)], []), rv_r 108], []), [80], 9, [], [])]
def n_X8_does_0_5 : List rv_N := [
  (78, ([rv_r 80, rv_full, rv_i 0 238, rv_i 1 239], [rv_r 108, (1, 0, (-2147483648), 2147483647, [(.inl 1, 0)], []), (1, 0, 0, 238, [(.inl 2, 0)], []), rv_r 108], []), [81], 8, [], []),
  (79, ([rv_r 80, rv_full, rv_i 0 238, rv_i 1 239], [(1, 0, 0, 238, [(.inl 2, 0)], []), rv_r 108, (1, 0, (-2147483648), 2147483647, [(.inl 1, 0)], []), (1, 0, 0, 238, [(.inl 2, 0)], []), rv_r 108], []), [82], 7, [], []),
  (80, ([rv_r 80, rv_full, rv_i 0 238, rv_i 1 239], [(1, 0, (-2147483648), 2147483647, [(.inr (108, 5002), 0)], []), (1, 0, (-2147483648), 2147483647, [(.inl 1, 0)], []), (1, 0, 0, 238, [(.inl 2, 0)], []), rv_r 108], []), [83], 6, [], []),
  (81, ([rv_r 80, rv_full, rv_i 0 238, rv_i 1 239], [rv_r 80, (1, 0, (-2147483648), 2147483647, [(.inr (108, 5002), 0)], []), (1, 0, (-2147483648), 2147483647, [(.inl 1, 0)], []), (1, 0, 0, 238, [(.inl 2, 0)], []), rv_r 108], []), [84], 5, [], []),
  (82, ([rv_r 80, rv_full, rv_i 0 238, rv_i 1 239], [rv_r 108, (1, 0, (-2147483648), 2147483647, [(.inr (108, 5002), 0)], []), (1, 0, (-2147483648), 2147483647, [(.inl 1, 0)], []), (1, 0, 0, 238, [(.inl 2, 0)], []), rv_r 108], []), [85], 4, [], []),
  (83, ([rv_r 80, rv_full, rv_i 0 238, rv_i 1 239], [(1, 0, 1, 239, [(.inl 3, 0)], []), rv_r 108, (1, 0, (-2147483648), 2147483647, [(.inr (108, 5002), 0)], []), (1, 0, (-2147483648), 2147483647, [(.inl 1, 0)], []), (1, 0, 0, 238, [(.inl 2, 0)], []), rv_r 108], []), [86], 3, [], []),
  (84, ([rv_r 80, rv_full, rv_i 0 238, rv_i 1 239], [(1, 0, (-2147483648), 2147483647, [(.inr (108, 5003), 0)], []), (1, 0, (-2147483648), 2147483647, [(.inr (108, 5002), 0)], []), (1, 0, (-2147483648), 2147483647, [(.inl 1, 0)], []), (1, 0, 0, 238, [(.inl 2, 0)], []), rv_r 108], []), [87], 2, [], [0]),
  (85, ([rv_r 80, rv_full, rv_i 0 238, rv_i 1 239], [rv_full, (1, 0, 0, 238, [(.inl 2, 0)], []), rv_r 108], []), [88], 1, [], []),
  (86, ([rv_r 80, rv_full, rv_i 0 238, rv_i 1 239], [], []), [], 0, [], [])]
def n_X8_does_0 : List rv_N := n_X8_does_0_0 ++ (n_X8_does_0_1 ++ (n_X8_does_0_2 ++ (n_X8_does_0_3 ++ (n_X8_does_0_4 ++ (n_X8_does_0_5)))))
noncomputable def gn_X8_does_0 : Nat → Option rv_N := rv_ap 16 (rv_at n_X8_does_0_0) (rv_ap 16 (rv_at n_X8_does_0_1) (rv_ap 16 (rv_at n_X8_does_0_2) (rv_ap 16 (rv_at n_X8_does_0_3) (rv_ap 16 (rv_at n_X8_does_0_4) (rv_at n_X8_does_0_5)))))
theorem hn_X8_does_0 : ∀ i : Nat, n_X8_does_0[i]? = gn_X8_does_0 i := rv_ap_eq (l := n_X8_does_0_0) (c := 16) (rv_ap_eq (l := n_X8_does_0_1) (c := 16) (rv_ap_eq (l := n_X8_does_0_2) (c := 16) (rv_ap_eq (l := n_X8_does_0_3) (c := 16) (rv_ap_eq (l := n_X8_does_0_4) (c := 16) (rv_at_eq n_X8_does_0_5) rfl) rfl) rfl) rfl) rfl
set_option maxRecDepth 100000 in
theorem a_X8_does_0 : rv_all (fm_tm, flX8, fm_wr, kcX8, klX8, K_X8_does_0.2.2.1, [], 4) ct_X8_does_0 cd_X8_does n_X8_does_0 K_X8_does_0 [] 0 n_X8_does_0 = true := rv_fast hn_X8_does_0 hc_X8_does (by decide +kernel)
theorem m_X8_does_0 {l : Launch} {D : va_G} {ad : Nat → Nat} {cy : Nat → ClassId} {Z : State → Heap → Prop} (hAd : fm_Ad fm_tm ad) (hZ : fm_Zk (fm_A fm_tm ad) Z) : rv_Met l D fm_cl fm_tm ad cy fm_nt Z fm_G yX8_does (.code yX8_does prog_10_method_49_code 4 none :: fm_Ts) { frames := 1, cells := 0, slots := 0, locals := 100 } K_X8_does_0 := rv_met hAd hZ (Or.inl (by decide +kernel)) evX8 dc_X8_does a_X8_does_0 ⟨rfl, rfl, rfl⟩ (by decide +kernel) (by decide +kernel) (by decide) (fm_gm fm_G_gd (by decide +kernel)) (rfl) (fun p e s m args below meth c Q X Y => List.forall_mem_cons.mpr ⟨rv_ctS X Y fm_Ts_good dc_X8_does (pc := 139) (i := 84) (idx := 349) rfl (m_X8_worked_0 hAd hZ) wl_X8_349 wm_X8_worked wy_X8_worked (by decide) rfl, fun _ h => absurd h List.not_mem_nil⟩) (fun _ _ _ _ _ _ _ _ _ _ _ _ _ _ _ _ h => absurd h List.not_mem_nil)
def cd_X8_isOfYard : List (Nat × Instr × Nat) := [(0, .iload_n 0, 1), (1, .bipush 121, 2), (3, .if_icmp .eq 33, 3), (6, .iload_n 0, 1), (7, .bipush 100, 2), (9, .if_icmp .eq 27, 3), (12, .iload_n 0, 1), (13, .bipush 119, 2), (15, .if_icmp .eq 21, 3), (18, .iload_n 0, 1), (19, .bipush 99, 2), (21, .if_icmp .eq 15, 3), (24, .iload_n 0, 1), (25, .bipush 114, 2), (27, .if_icmp .eq 9, 3), (30, .iload_n 0, 1), (31, .bipush 116, 2), (33, .if_icmp .ne 7, 3), (36, .iconst 1, 1), (37, .goto 4, 3), (40, .iconst 0, 1), (41, .ireturn, 1)]
theorem dc_X8_isOfYard : ∀ q ∈ cd_X8_isOfYard, decode prog_10_method_30_code q.1 = .ok (q.2.1, q.2.2) := by decide +kernel
def K_X8_isOfYard_0 : rv_K := ([rv_full], [], [], [(0, 0, 1)], [(.inl 0, 99, 121)], [])
def ct_X8_isOfYard_0 : List (Nat × rv_K) := []
def n_X8_isOfYard_0_0 : List rv_N := [
  (0, ([rv_full], [], []), [1], 20, [], []),
  (1, ([rv_full], [(1, 0, (-2147483648), 2147483647, [(.inl 0, 0)], [])], []), [2], 19, [], []),
  (2, ([rv_full], [rv_i 121 121, (1, 0, (-2147483648), 2147483647, [(.inl 0, 0)], [])], []), [3, 18], 18, [], []),
  (3, ([rv_full], [], []), [4], 17, [], []),
  (4, ([rv_full], [(1, 0, (-2147483648), 2147483647, [(.inl 0, 0)], [])], []), [5], 16, [], []),
  (5, ([rv_full], [rv_i 100 100, (1, 0, (-2147483648), 2147483647, [(.inl 0, 0)], [])], []), [6, 18], 15, [], []),
  (6, ([rv_full], [], []), [7], 14, [], []),
  (7, ([rv_full], [(1, 0, (-2147483648), 2147483647, [(.inl 0, 0)], [])], []), [8], 13, [], []),
  (8, ([rv_full], [rv_i 119 119, (1, 0, (-2147483648), 2147483647, [(.inl 0, 0)], [])], []), [9, 18], 12, [], []),
  (9, ([rv_full], [], []), [10], 11, [], []),
  (10, ([rv_full], [(1, 0, (-2147483648), 2147483647, [(.inl 0, 0)], [])], []), [11], 10, [], []),
  (11, ([rv_full], [rv_i 99 99, (1, 0, (-2147483648), 2147483647, [(.inl 0, 0)], [])], []), [12, 18], 9, [], []),
  (12, ([rv_full], [], []), [13], 8, [], []),
  (13, ([rv_full], [(1, 0, (-2147483648), 2147483647, [(.inl 0, 0)], [])], []), [14], 7, [], []),
  (14, ([rv_full], [rv_i 114 114, (1, 0, (-2147483648), 2147483647, [(.inl 0, 0)], [])], []), [15, 18], 6, [], []),
  (15, ([rv_full], [], []), [16], 5, [], [])]
def n_X8_isOfYard_0_1 : List rv_N := [
  (16, ([rv_full], [(1, 0, (-2147483648), 2147483647, [(.inl 0, 0)], [])], []), [17], 4, [], []),
  (17, ([rv_full], [rv_i 116 116, (1, 0, (-2147483648), 2147483647, [(.inl 0, 0)], [])], []), [18, 20], 3, [], []),
  (18, ([rv_i 99 121], [], []), [19], 2, [], []),
  (19, ([rv_i 99 121], [rv_i 1 1], []), [22], 1, [], []),
  (20, ([rv_full], [], []), [21], 1, [], []),
  (21, ([rv_full], [rv_i 0 0], []), [], 0, [], []),
  (21, ([rv_i 99 121], [rv_i 1 1], []), [], 0, [], [])]
def n_X8_isOfYard_0 : List rv_N := n_X8_isOfYard_0_0 ++ (n_X8_isOfYard_0_1)
noncomputable def gn_X8_isOfYard_0 : Nat → Option rv_N := rv_ap 16 (rv_at n_X8_isOfYard_0_0) (rv_at n_X8_isOfYard_0_1)
theorem hn_X8_isOfYard_0 : ∀ i : Nat, n_X8_isOfYard_0[i]? = gn_X8_isOfYard_0 i := rv_ap_eq (l := n_X8_isOfYard_0_0) (c := 16) (rv_at_eq n_X8_isOfYard_0_1) rfl
set_option maxRecDepth 100000 in
theorem a_X8_isOfYard_0 : rv_all (fm_tm, flX8, fm_wr, kcX8, klX8, K_X8_isOfYard_0.2.2.1, [0], 1) ct_X8_isOfYard_0 cd_X8_isOfYard n_X8_isOfYard_0 K_X8_isOfYard_0 [] 0 n_X8_isOfYard_0 = true := rv_fast hn_X8_isOfYard_0 (rv_at_eq cd_X8_isOfYard) (by decide +kernel)
theorem m_X8_isOfYard_0 {l : Launch} {D : va_G} {ad : Nat → Nat} {cy : Nat → ClassId} {Z : State → Heap → Prop} (hAd : fm_Ad fm_tm ad) (hZ : fm_Zk (fm_A fm_tm ad) Z) : rv_Met l D fm_cl fm_tm ad cy fm_nt Z fm_G yX8_isOfYard (.code yX8_isOfYard prog_10_method_30_code 1 (some .boolean) :: fm_Ts) { frames := 0, cells := 0, slots := 0, locals := 0 } K_X8_isOfYard_0 := rv_met hAd hZ (Or.inl (by decide +kernel)) evX8 dc_X8_isOfYard a_X8_isOfYard_0 ⟨rfl, rfl, rfl⟩ (by decide +kernel) (by decide +kernel) (by decide) (fm_gm fm_G_gd (by decide +kernel)) (Or.inr ⟨rfl, by decide, by decide⟩) (fun p e s m args below meth c Q X Y => fun _ h => absurd h List.not_mem_nil) (fun _ _ _ _ _ _ _ _ _ _ _ _ _ _ _ _ h => absurd h List.not_mem_nil)
def cd_X8_rainNow : List (Nat × Instr × Nat) := [(0, .aload_n 0, 1), (1, .getfield 321, 3), (4, .bipush 100, 2), (6, .if_icmp .ge 15, 3), (9, .aload_n 0, 1), (10, .getfield 52, 3), (13, .aload_n 0, 1), (14, .getfield 321, 3), (17, .iaload, 1), (18, .goto 4, 3), (21, .iconst 0, 1), (22, .ireturn, 1)]
theorem dc_X8_rainNow : ∀ q ∈ cd_X8_rainNow, decode prog_10_method_43_code q.1 = .ok (q.2.1, q.2.2) := by decide +kernel
def K_X8_rainNow_0 : rv_K := ([rv_r 80], [((80, 2), 0, 2000000000, [])], [], [(0, (-2147483648), 2147483647)], [], [])
def ct_X8_rainNow_0 : List (Nat × rv_K) := []
def n_X8_rainNow_0 : List rv_N := [
  (0, ([rv_r 80], [], [((80, 2), 0, 2000000000, [])]), [1], 10, [], []),
  (1, ([rv_r 80], [rv_r 80], [((80, 2), 0, 2000000000, [])]), [2], 9, [], []),
  (2, ([rv_r 80], [(1, 0, 0, 2000000000, [(.inr (80, 2), 0)], [])], [((80, 2), 0, 2000000000, [])]), [3], 8, [], []),
  (3, ([rv_r 80], [rv_i 100 100, (1, 0, 0, 2000000000, [(.inr (80, 2), 0)], [])], [((80, 2), 0, 2000000000, [])]), [4, 10], 7, [], []),
  (4, ([rv_r 80], [], [((80, 2), 0, 99, [])]), [5], 6, [], []),
  (5, ([rv_r 80], [rv_r 80], [((80, 2), 0, 99, [])]), [6], 5, [], []),
  (6, ([rv_r 80], [rv_r 93], [((80, 2), 0, 99, [])]), [7], 4, [], []),
  (7, ([rv_r 80], [rv_r 80, rv_r 93], [((80, 2), 0, 99, [])]), [8], 3, [], []),
  (8, ([rv_r 80], [(1, 0, 0, 99, [(.inr (80, 2), 0)], []), rv_r 93], [((80, 2), 0, 99, [])]), [9], 2, [], []),
  (9, ([rv_r 80], [rv_full], [((80, 2), 0, 99, [])]), [12], 1, [], []),
  (10, ([rv_r 80], [], [((80, 2), 100, 2000000000, [])]), [11], 1, [], []),
  (11, ([rv_r 80], [rv_i 0 0], [((80, 2), 100, 2000000000, [])]), [], 0, [], []),
  (11, ([rv_r 80], [rv_full], [((80, 2), 0, 99, [])]), [], 0, [], [])]
set_option maxRecDepth 100000 in
theorem a_X8_rainNow_0 : rv_all (fm_tm, flX8, fm_wr, kcX8, klX8, K_X8_rainNow_0.2.2.1, [], 1) ct_X8_rainNow_0 cd_X8_rainNow n_X8_rainNow_0 K_X8_rainNow_0 [] 0 n_X8_rainNow_0 = true := rv_fast (rv_at_eq n_X8_rainNow_0) (rv_at_eq cd_X8_rainNow) (by decide +kernel)
theorem m_X8_rainNow_0 {l : Launch} {D : va_G} {ad : Nat → Nat} {cy : Nat → ClassId} {Z : State → Heap → Prop} (hAd : fm_Ad fm_tm ad) (hZ : fm_Zk (fm_A fm_tm ad) Z) : rv_Met l D fm_cl fm_tm ad cy fm_nt Z fm_G yX8_rainNow (.code yX8_rainNow prog_10_method_43_code 1 (some .int) :: fm_Ts) { frames := 0, cells := 0, slots := 0, locals := 0 } K_X8_rainNow_0 := rv_met hAd hZ (Or.inl (by decide +kernel)) evX8 dc_X8_rainNow a_X8_rainNow_0 ⟨rfl, rfl, rfl⟩ (by decide +kernel) (by decide +kernel) (by decide) (fm_gm fm_G_gd (by decide +kernel)) (Or.inl rfl) (fun p e s m args below meth c Q X Y => fun _ h => absurd h List.not_mem_nil) (fun _ _ _ _ _ _ _ _ _ _ _ _ _ _ _ _ h => absurd h List.not_mem_nil)
def cd_X8_ofYard : List (Nat × Instr × Nat) := [(0, .iload_n 1, 1), (1, .lookupswitch 99 #[(99, 76), (100, 56), (114, 94), (119, 66), (121, 51)], 51), (52, .aload_n 0, 1), (53, .getfield 324, 3), (56, .ireturn, 1), (57, .aload_n 0, 1), (58, .getfield 17, 3), (61, .aload_n 0, 1), (62, .getfield 324, 3), (65, .iaload, 1), (66, .ireturn, 1), (67, .aload_n 0, 1), (68, .getfield 21, 3), (71, .aload_n 0, 1), (72, .getfield 324, 3), (75, .iaload, 1), (76, .ireturn, 1), (77, .aload_n 0, 1), (78, .getfield 24, 3), (81, .aload_n 0, 1), (82, .getfield 324, 3), (85, .baload, 1), (86, .ifCond .eq 7, 3), (89, .iconst 1, 1), (90, .goto 4, 3), (93, .iconst 0, 1), (94, .ireturn, 1), (95, .aload_n 0, 1), (96, .invokevirtual 327, 3), (99, .ireturn, 1), (100, .aload_n 0, 1), (101, .getfield 321, 3), (104, .ireturn, 1)]
theorem dc_X8_ofYard : ∀ q ∈ cd_X8_ofYard, decode prog_10_method_45_code q.1 = .ok (q.2.1, q.2.2) := by decide +kernel
def ch_X8_ofYard_0 : List (Nat × Instr × Nat) := [(0, .iload_n 1, 1), (1, .lookupswitch 99 #[(99, 76), (100, 56), (114, 94), (119, 66), (121, 51)], 51), (52, .aload_n 0, 1), (53, .getfield 324, 3), (56, .ireturn, 1), (57, .aload_n 0, 1), (58, .getfield 17, 3), (61, .aload_n 0, 1), (62, .getfield 324, 3), (65, .iaload, 1), (66, .ireturn, 1), (67, .aload_n 0, 1), (68, .getfield 21, 3), (71, .aload_n 0, 1), (72, .getfield 324, 3), (75, .iaload, 1)]
def ch_X8_ofYard_1 : List (Nat × Instr × Nat) := [(76, .ireturn, 1), (77, .aload_n 0, 1), (78, .getfield 24, 3), (81, .aload_n 0, 1), (82, .getfield 324, 3), (85, .baload, 1), (86, .ifCond .eq 7, 3), (89, .iconst 1, 1), (90, .goto 4, 3), (93, .iconst 0, 1), (94, .ireturn, 1), (95, .aload_n 0, 1), (96, .invokevirtual 327, 3), (99, .ireturn, 1), (100, .aload_n 0, 1), (101, .getfield 321, 3)]
def ch_X8_ofYard_2 : List (Nat × Instr × Nat) := [(104, .ireturn, 1)]
set_option maxRecDepth 100000 in
theorem he_X8_ofYard : cd_X8_ofYard = ch_X8_ofYard_0 ++ (ch_X8_ofYard_1 ++ (ch_X8_ofYard_2)) := rfl
noncomputable def gc_X8_ofYard : Nat → Option (Nat × Instr × Nat) := rv_ap 16 (rv_at ch_X8_ofYard_0) (rv_ap 16 (rv_at ch_X8_ofYard_1) (rv_at ch_X8_ofYard_2))
theorem hc_X8_ofYard : ∀ i : Nat, cd_X8_ofYard[i]? = gc_X8_ofYard i := by
  rw [he_X8_ofYard]
  exact rv_ap_eq (l := ch_X8_ofYard_0) (c := 16) (rv_ap_eq (l := ch_X8_ofYard_1) (c := 16) (rv_at_eq ch_X8_ofYard_2) rfl) rfl
def K_X8_ofYard_0 : rv_K := ([rv_r 80, rv_full], [((80, 2), 0, 2000000000, [])], [], [(0, (-2147483648), 2147483647)], [], [])
def ct_X8_ofYard_0 : List (Nat × rv_K) := [(28, K_X8_rainNow_0)]
def n_X8_ofYard_0_0 : List rv_N := [
  (0, ([rv_r 80, rv_full], [], [((80, 2), 0, 2000000000, [])]), [1], 10, [], []),
  (1, ([rv_r 80, rv_full], [(1, 0, (-2147483648), 2147483647, [(.inl 1, 0)], [])], [((80, 2), 0, 2000000000, [])]), [2, 5, 11, 17, 28, 31], 9, [], []),
  (2, ([rv_r 80, rv_i 121 121], [], [((80, 2), 0, 2000000000, [])]), [3], 2, [], []),
  (3, ([rv_r 80, rv_i 121 121], [rv_r 80], [((80, 2), 0, 2000000000, [])]), [4], 1, [], []),
  (4, ([rv_r 80, rv_i 121 121], [(1, 0, 0, 19, [(.inr (80, 43), 0)], [])], [((80, 2), 0, 2000000000, [])]), [], 0, [], []),
  (5, ([rv_r 80, rv_i 100 100], [], [((80, 2), 0, 2000000000, [])]), [6], 5, [], []),
  (6, ([rv_r 80, rv_i 100 100], [rv_r 80], [((80, 2), 0, 2000000000, [])]), [7], 4, [], []),
  (7, ([rv_r 80, rv_i 100 100], [rv_r 82], [((80, 2), 0, 2000000000, [])]), [8], 3, [], []),
  (8, ([rv_r 80, rv_i 100 100], [rv_r 80, rv_r 82], [((80, 2), 0, 2000000000, [])]), [9], 2, [], []),
  (9, ([rv_r 80, rv_i 100 100], [(1, 0, 0, 19, [(.inr (80, 43), 0)], []), rv_r 82], [((80, 2), 0, 2000000000, [])]), [10], 1, [], []),
  (10, ([rv_r 80, rv_i 100 100], [rv_full], [((80, 2), 0, 2000000000, [])]), [], 0, [], []),
  (11, ([rv_r 80, rv_i 119 119], [], [((80, 2), 0, 2000000000, [])]), [12], 5, [], []),
  (12, ([rv_r 80, rv_i 119 119], [rv_r 80], [((80, 2), 0, 2000000000, [])]), [13], 4, [], []),
  (13, ([rv_r 80, rv_i 119 119], [rv_r 83], [((80, 2), 0, 2000000000, [])]), [14], 3, [], []),
  (14, ([rv_r 80, rv_i 119 119], [rv_r 80, rv_r 83], [((80, 2), 0, 2000000000, [])]), [15], 2, [], []),
  (15, ([rv_r 80, rv_i 119 119], [(1, 0, 0, 19, [(.inr (80, 43), 0)], []), rv_r 83], [((80, 2), 0, 2000000000, [])]), [16], 1, [], [])]
def n_X8_ofYard_0_1 : List rv_N := [
  (16, ([rv_r 80, rv_i 119 119], [rv_full], [((80, 2), 0, 2000000000, [])]), [], 0, [], []),
  (17, ([rv_r 80, rv_i 99 99], [], [((80, 2), 0, 2000000000, [])]), [18], 8, [], []),
  (18, ([rv_r 80, rv_i 99 99], [rv_r 80], [((80, 2), 0, 2000000000, [])]), [19], 7, [], []),
  (19, ([rv_r 80, rv_i 99 99], [rv_r 84], [((80, 2), 0, 2000000000, [])]), [20], 6, [], []),
  (20, ([rv_r 80, rv_i 99 99], [rv_r 80, rv_r 84], [((80, 2), 0, 2000000000, [])]), [21], 5, [], []),
  (21, ([rv_r 80, rv_i 99 99], [(1, 0, 0, 19, [(.inr (80, 43), 0)], []), rv_r 84], [((80, 2), 0, 2000000000, [])]), [22], 4, [], []),
  (22, ([rv_r 80, rv_i 99 99], [rv_i 0 1], [((80, 2), 0, 2000000000, [])]), [23, 25], 3, [], []),
  (23, ([rv_r 80, rv_i 99 99], [], [((80, 2), 0, 2000000000, [])]), [24], 2, [], []),
  (24, ([rv_r 80, rv_i 99 99], [rv_i 1 1], [((80, 2), 0, 2000000000, [])]), [27], 1, [], []),
  (25, ([rv_r 80, rv_i 99 99], [], [((80, 2), 0, 2000000000, [])]), [26], 1, [], []),
  (26, ([rv_r 80, rv_i 99 99], [rv_i 0 0], [((80, 2), 0, 2000000000, [])]), [], 0, [], []),
  (26, ([rv_r 80, rv_i 99 99], [rv_i 1 1], [((80, 2), 0, 2000000000, [])]), [], 0, [], []),
  (27, ([rv_r 80, rv_i 114 114], [], [((80, 2), 0, 2000000000, [])]), [29], 2, [], []),
  (28, ([rv_r 80, rv_i 114 114], [rv_r 80], [((80, 2), 0, 2000000000, [])]), [30], 1, [], [0]),
  (29, ([rv_r 80, rv_i 114 114], [rv_full], [((80, 2), 0, 2000000000, [])]), [], 0, [], []),
  (30, ([rv_r 80, rv_full], [], [((80, 2), 0, 2000000000, [])]), [32], 2, [], [])]
def n_X8_ofYard_0_2 : List rv_N := [
  (31, ([rv_r 80, rv_full], [rv_r 80], [((80, 2), 0, 2000000000, [])]), [33], 1, [], []),
  (32, ([rv_r 80, rv_full], [(1, 0, 0, 2000000000, [(.inr (80, 2), 0)], [])], [((80, 2), 0, 2000000000, [])]), [], 0, [], [])]
def n_X8_ofYard_0 : List rv_N := n_X8_ofYard_0_0 ++ (n_X8_ofYard_0_1 ++ (n_X8_ofYard_0_2))
noncomputable def gn_X8_ofYard_0 : Nat → Option rv_N := rv_ap 16 (rv_at n_X8_ofYard_0_0) (rv_ap 16 (rv_at n_X8_ofYard_0_1) (rv_at n_X8_ofYard_0_2))
theorem hn_X8_ofYard_0 : ∀ i : Nat, n_X8_ofYard_0[i]? = gn_X8_ofYard_0 i := rv_ap_eq (l := n_X8_ofYard_0_0) (c := 16) (rv_ap_eq (l := n_X8_ofYard_0_1) (c := 16) (rv_at_eq n_X8_ofYard_0_2) rfl) rfl
set_option maxRecDepth 100000 in
theorem a_X8_ofYard_0 : rv_all (fm_tm, flX8, fm_wr, kcX8, klX8, K_X8_ofYard_0.2.2.1, [], 2) ct_X8_ofYard_0 cd_X8_ofYard n_X8_ofYard_0 K_X8_ofYard_0 [] 0 n_X8_ofYard_0 = true := rv_fast hn_X8_ofYard_0 hc_X8_ofYard (by decide +kernel)
theorem m_X8_ofYard_0 {l : Launch} {D : va_G} {ad : Nat → Nat} {cy : Nat → ClassId} {Z : State → Heap → Prop} (hAd : fm_Ad fm_tm ad) (hZ : fm_Zk (fm_A fm_tm ad) Z) : rv_Met l D fm_cl fm_tm ad cy fm_nt Z fm_G yX8_ofYard (.code yX8_ofYard prog_10_method_45_code 2 (some .int) :: fm_Ts) { frames := 1, cells := 0, slots := 0, locals := 100 } K_X8_ofYard_0 := rv_met hAd hZ (Or.inl (by decide +kernel)) evX8 dc_X8_ofYard a_X8_ofYard_0 ⟨rfl, rfl, rfl⟩ (by decide +kernel) (by decide +kernel) (by decide) (fm_gm fm_G_gd (by decide +kernel)) (Or.inl rfl) (fun p e s m args below meth c Q X Y => List.forall_mem_cons.mpr ⟨rv_ctV X Y fm_Ts_good dc_X8_ofYard (pc := 96) (i := 28) (idx := 327) rfl (m_X8_rainNow_0 hAd hZ) wl_X8_327 wm_X8_rainNow wy_X8_rainNow (by decide) ⟨rfl, rfl, rfl⟩ ⟨rfl, rfl⟩, fun _ h => absurd h List.not_mem_nil⟩) (fun _ _ _ _ _ _ _ _ _ _ _ _ _ _ _ _ h => absurd h List.not_mem_nil)
def cd_X8_portersAt : List (Nat × Instr × Nat) := [(0, .iconst 0, 1), (1, .istore_n 2, 1), (2, .iconst 0, 1), (3, .istore_n 3, 1), (4, .iload_n 3, 1), (5, .bipush 9, 2), (7, .if_icmp .ge 36, 3), (10, .iload_n 2, 1), (11, .aload_n 0, 1), (12, .getfield 37, 3), (15, .iload_n 3, 1), (16, .baload, 1), (17, .ifCond .eq 17, 3), (20, .aload_n 0, 1), (21, .getfield 40, 3), (24, .iload_n 3, 1), (25, .iaload, 1), (26, .iload_n 1, 1), (27, .if_icmp .ne 7, 3), (30, .iconst 1, 1), (31, .goto 4, 3), (34, .iconst 0, 1), (35, .iadd, 1), (36, .istore_n 2, 1), (37, .iinc 3 1, 3), (40, .goto (-36), 3), (43, .iload_n 2, 1), (44, .ireturn, 1)]
theorem dc_X8_portersAt : ∀ q ∈ cd_X8_portersAt, decode prog_10_method_44_code q.1 = .ok (q.2.1, q.2.2) := by decide +kernel
def K_X8_portersAt_0 : rv_K := ([rv_r 80, rv_full], [], [], [(0, (-2147483648), 2147483647)], [], [])
def ct_X8_portersAt_0 : List (Nat × rv_K) := []
def n_X8_portersAt_0_0 : List rv_N := [
  (0, ([rv_r 80, rv_full, rv_u, rv_u], [], []), [1], 4220, [], []),
  (1, ([rv_r 80, rv_full, rv_u, rv_u], [rv_i 0 0], []), [2], 4219, [], []),
  (2, ([rv_r 80, rv_full, rv_i 0 0, rv_u], [], []), [3], 4218, [], []),
  (3, ([rv_r 80, rv_full, rv_i 0 0, rv_u], [rv_i 0 0], []), [4], 4217, [], []),
  (4, ([rv_r 80, rv_full, rv_full, rv_i 0 9], [], []), [5], 4216, [(3, (-468))], []),
  (5, ([rv_r 80, rv_full, rv_full, rv_i 0 9], [(1, 0, 0, 9, [(.inl 3, 0)], [])], []), [6], 4215, [(3, (-468))], []),
  (6, ([rv_r 80, rv_full, rv_full, rv_i 0 9], [rv_i 9 9, (1, 0, 0, 9, [(.inl 3, 0)], [])], []), [7, 27], 4214, [(3, (-468))], []),
  (7, ([rv_r 80, rv_full, rv_full, rv_i 0 8], [], []), [8], 3766, [(3, (-468))], []),
  (8, ([rv_r 80, rv_full, rv_full, rv_i 0 8], [(1, 0, (-2147483648), 2147483647, [(.inl 2, 0)], [])], []), [9], 3765, [(3, (-468))], []),
  (9, ([rv_r 80, rv_full, rv_full, rv_i 0 8], [rv_r 80, (1, 0, (-2147483648), 2147483647, [(.inl 2, 0)], [])], []), [10], 3764, [(3, (-468))], []),
  (10, ([rv_r 80, rv_full, rv_full, rv_i 0 8], [rv_r 88, (1, 0, (-2147483648), 2147483647, [(.inl 2, 0)], [])], []), [11], 3763, [(3, (-468))], []),
  (11, ([rv_r 80, rv_full, rv_full, rv_i 0 8], [(1, 0, 0, 8, [(.inl 3, 0)], []), rv_r 88, (1, 0, (-2147483648), 2147483647, [(.inl 2, 0)], [])], []), [12], 3762, [(3, (-468))], []),
  (12, ([rv_r 80, rv_full, rv_full, rv_i 0 8], [(1, 0, 0, 1, [(.inr (88, 5003), 0)], []), (1, 0, (-2147483648), 2147483647, [(.inl 2, 0)], [])], []), [13, 21], 3761, [(3, (-468))], []),
  (13, ([rv_r 80, rv_full, rv_full, rv_i 0 8], [(1, 0, (-2147483648), 2147483647, [(.inl 2, 0)], [])], [((88, 5003), 1, 1, [])]), [14], 3760, [(3, (-468))], []),
  (14, ([rv_r 80, rv_full, rv_full, rv_i 0 8], [rv_r 80, (1, 0, (-2147483648), 2147483647, [(.inl 2, 0)], [])], [((88, 5003), 1, 1, [])]), [15], 3759, [(3, (-468))], []),
  (15, ([rv_r 80, rv_full, rv_full, rv_i 0 8], [rv_r 89, (1, 0, (-2147483648), 2147483647, [(.inl 2, 0)], [])], [((88, 5003), 1, 1, [])]), [16], 3758, [(3, (-468))], [])]
def n_X8_portersAt_0_1 : List rv_N := [
  (16, ([rv_r 80, rv_full, rv_full, rv_i 0 8], [(1, 0, 0, 8, [(.inl 3, 0)], []), rv_r 89, (1, 0, (-2147483648), 2147483647, [(.inl 2, 0)], [])], [((88, 5003), 1, 1, [])]), [17], 3757, [(3, (-468))], []),
  (17, ([rv_r 80, rv_full, rv_full, rv_i 0 8], [(1, 0, 0, 20, [(.inr (89, 5003), 0)], []), (1, 0, (-2147483648), 2147483647, [(.inl 2, 0)], [])], [((88, 5003), 1, 1, [])]), [18], 3756, [(3, (-468))], []),
  (18, ([rv_r 80, rv_full, rv_full, rv_i 0 8], [(1, 0, (-2147483648), 2147483647, [(.inl 1, 0)], []), (1, 0, 0, 20, [(.inr (89, 5003), 0)], []), (1, 0, (-2147483648), 2147483647, [(.inl 2, 0)], [])], [((88, 5003), 1, 1, [])]), [19, 21], 3755, [(3, (-468))], []),
  (19, ([rv_r 80, rv_i 0 20, rv_full, rv_i 0 8], [(1, 0, (-2147483648), 2147483647, [(.inl 2, 0)], [])], [((88, 5003), 1, 1, []), ((89, 5003), 0, 20, [])]), [20], 3754, [(3, (-468))], []),
  (20, ([rv_r 80, rv_i 0 20, rv_full, rv_i 0 8], [rv_i 1 1, (1, 0, (-2147483648), 2147483647, [(.inl 2, 0)], [])], [((88, 5003), 1, 1, []), ((89, 5003), 0, 20, [])]), [23], 3753, [(3, (-468))], []),
  (21, ([rv_r 80, rv_full, rv_full, rv_i 0 8], [(1, 0, (-2147483648), 2147483647, [(.inl 2, 0)], [])], [((88, 5003), 0, 1, [])]), [22], 3753, [(3, (-468))], []),
  (22, ([rv_r 80, rv_full, rv_full, rv_i 0 8], [rv_i 0 0, (1, 0, (-2147483648), 2147483647, [(.inl 2, 0)], [])], [((88, 5003), 0, 1, [])]), [24], 3752, [(3, (-468))], []),
  (22, ([rv_r 80, rv_i 0 20, rv_full, rv_i 0 8], [rv_i 1 1, (1, 0, (-2147483648), 2147483647, [(.inl 2, 0)], [])], [((88, 5003), 1, 1, []), ((89, 5003), 0, 20, [])]), [24], 3752, [(3, (-468))], []),
  (23, ([rv_r 80, rv_full, rv_full, rv_i 0 8], [rv_full], [((88, 5003), 0, 1, [])]), [25], 3751, [(3, (-468))], []),
  (24, ([rv_r 80, rv_full, rv_full, rv_i 0 8], [], [((88, 5003), 0, 1, [])]), [26], 3750, [(3, (-468))], []),
  (25, ([rv_r 80, rv_full, rv_full, rv_i 1 9], [], []), [4], 4217, [(3, (-468))], []),
  (26, ([rv_r 80, rv_full, rv_full, rv_i 9 9], [], []), [28], 1, [], []),
  (27, ([rv_r 80, rv_full, rv_full, rv_i 9 9], [(1, 0, (-2147483648), 2147483647, [(.inl 2, 0)], [])], []), [], 0, [], [])]
def n_X8_portersAt_0 : List rv_N := n_X8_portersAt_0_0 ++ (n_X8_portersAt_0_1)
noncomputable def gn_X8_portersAt_0 : Nat → Option rv_N := rv_ap 16 (rv_at n_X8_portersAt_0_0) (rv_at n_X8_portersAt_0_1)
theorem hn_X8_portersAt_0 : ∀ i : Nat, n_X8_portersAt_0[i]? = gn_X8_portersAt_0 i := rv_ap_eq (l := n_X8_portersAt_0_0) (c := 16) (rv_at_eq n_X8_portersAt_0_1) rfl
set_option maxRecDepth 100000 in
theorem a_X8_portersAt_0 : rv_all (fm_tm, flX8, fm_wr, kcX8, klX8, K_X8_portersAt_0.2.2.1, [], 4) ct_X8_portersAt_0 cd_X8_portersAt n_X8_portersAt_0 K_X8_portersAt_0 [] 0 n_X8_portersAt_0 = true := rv_fast hn_X8_portersAt_0 (rv_at_eq cd_X8_portersAt) (by decide +kernel)
theorem m_X8_portersAt_0 {l : Launch} {D : va_G} {ad : Nat → Nat} {cy : Nat → ClassId} {Z : State → Heap → Prop} (hAd : fm_Ad fm_tm ad) (hZ : fm_Zk (fm_A fm_tm ad) Z) : rv_Met l D fm_cl fm_tm ad cy fm_nt Z fm_G yX8_portersAt (.code yX8_portersAt prog_10_method_44_code 4 (some .int) :: fm_Ts) { frames := 0, cells := 0, slots := 0, locals := 0 } K_X8_portersAt_0 := rv_met hAd hZ (Or.inl (by decide +kernel)) evX8 dc_X8_portersAt a_X8_portersAt_0 ⟨rfl, rfl, rfl⟩ (by decide +kernel) (by decide +kernel) (by decide) (fm_gm fm_G_gd (by decide +kernel)) (Or.inl rfl) (fun p e s m args below meth c Q X Y => fun _ h => absurd h List.not_mem_nil) (fun _ _ _ _ _ _ _ _ _ _ _ _ _ _ _ _ h => absurd h List.not_mem_nil)
def cd_X8_ofPorter : List (Nat × Instr × Nat) := [(0, .iload_n 1, 1), (1, .lookupswitch 90 #[(103, 48), (105, 58), (112, 43), (122, 68)], 43), (44, .aload_n 0, 1), (45, .getfield 330, 3), (48, .ireturn, 1), (49, .aload_n 0, 1), (50, .getfield 43, 3), (53, .aload_n 0, 1), (54, .getfield 330, 3), (57, .iaload, 1), (58, .ireturn, 1), (59, .aload_n 0, 1), (60, .getfield 46, 3), (63, .aload_n 0, 1), (64, .getfield 330, 3), (67, .iaload, 1), (68, .ireturn, 1), (69, .aload_n 0, 1), (70, .getfield 49, 3), (73, .aload_n 0, 1), (74, .getfield 330, 3), (77, .iaload, 1), (78, .aload_n 0, 1), (79, .getfield 333, 3), (82, .if_icmp .ne 7, 3), (85, .iconst 1, 1), (86, .goto 4, 3), (89, .iconst 0, 1), (90, .ireturn, 1), (91, .aload_n 0, 1), (92, .aload_n 0, 1), (93, .getfield 324, 3), (96, .invokevirtual 336, 3), (99, .ireturn, 1)]
theorem dc_X8_ofPorter : ∀ q ∈ cd_X8_ofPorter, decode prog_10_method_46_code q.1 = .ok (q.2.1, q.2.2) := by decide +kernel
def ch_X8_ofPorter_0 : List (Nat × Instr × Nat) := [(0, .iload_n 1, 1), (1, .lookupswitch 90 #[(103, 48), (105, 58), (112, 43), (122, 68)], 43), (44, .aload_n 0, 1), (45, .getfield 330, 3), (48, .ireturn, 1), (49, .aload_n 0, 1), (50, .getfield 43, 3), (53, .aload_n 0, 1), (54, .getfield 330, 3), (57, .iaload, 1), (58, .ireturn, 1), (59, .aload_n 0, 1), (60, .getfield 46, 3), (63, .aload_n 0, 1), (64, .getfield 330, 3), (67, .iaload, 1)]
def ch_X8_ofPorter_1 : List (Nat × Instr × Nat) := [(68, .ireturn, 1), (69, .aload_n 0, 1), (70, .getfield 49, 3), (73, .aload_n 0, 1), (74, .getfield 330, 3), (77, .iaload, 1), (78, .aload_n 0, 1), (79, .getfield 333, 3), (82, .if_icmp .ne 7, 3), (85, .iconst 1, 1), (86, .goto 4, 3), (89, .iconst 0, 1), (90, .ireturn, 1), (91, .aload_n 0, 1), (92, .aload_n 0, 1), (93, .getfield 324, 3)]
def ch_X8_ofPorter_2 : List (Nat × Instr × Nat) := [(96, .invokevirtual 336, 3), (99, .ireturn, 1)]
set_option maxRecDepth 100000 in
theorem he_X8_ofPorter : cd_X8_ofPorter = ch_X8_ofPorter_0 ++ (ch_X8_ofPorter_1 ++ (ch_X8_ofPorter_2)) := rfl
noncomputable def gc_X8_ofPorter : Nat → Option (Nat × Instr × Nat) := rv_ap 16 (rv_at ch_X8_ofPorter_0) (rv_ap 16 (rv_at ch_X8_ofPorter_1) (rv_at ch_X8_ofPorter_2))
theorem hc_X8_ofPorter : ∀ i : Nat, cd_X8_ofPorter[i]? = gc_X8_ofPorter i := by
  rw [he_X8_ofPorter]
  exact rv_ap_eq (l := ch_X8_ofPorter_0) (c := 16) (rv_ap_eq (l := ch_X8_ofPorter_1) (c := 16) (rv_at_eq ch_X8_ofPorter_2) rfl) rfl
def K_X8_ofPorter_0 : rv_K := ([rv_r 80, rv_full], [((80, 44), 0, 8, [])], [], [(0, (-2147483648), 2147483647)], [], [])
def ct_X8_ofPorter_0 : List (Nat × rv_K) := [(32, K_X8_portersAt_0)]
def n_X8_ofPorter_0_0 : List rv_N := [
  (0, ([rv_r 80, rv_full], [], [((80, 44), 0, 8, [])]), [1], 12, [], []),
  (1, ([rv_r 80, rv_full], [(1, 0, (-2147483648), 2147483647, [(.inl 1, 0)], [])], [((80, 44), 0, 8, [])]), [2, 5, 11, 17, 30], 11, [], []),
  (2, ([rv_r 80, rv_i 112 112], [], [((80, 44), 0, 8, [])]), [3], 2, [], []),
  (3, ([rv_r 80, rv_i 112 112], [rv_r 80], [((80, 44), 0, 8, [])]), [4], 1, [], []),
  (4, ([rv_r 80, rv_i 112 112], [(1, 0, 0, 8, [(.inr (80, 44), 0)], [])], [((80, 44), 0, 8, [])]), [], 0, [], []),
  (5, ([rv_r 80, rv_i 103 103], [], [((80, 44), 0, 8, [])]), [6], 5, [], []),
  (6, ([rv_r 80, rv_i 103 103], [rv_r 80], [((80, 44), 0, 8, [])]), [7], 4, [], []),
  (7, ([rv_r 80, rv_i 103 103], [rv_r 90], [((80, 44), 0, 8, [])]), [8], 3, [], []),
  (8, ([rv_r 80, rv_i 103 103], [rv_r 80, rv_r 90], [((80, 44), 0, 8, [])]), [9], 2, [], []),
  (9, ([rv_r 80, rv_i 103 103], [(1, 0, 0, 8, [(.inr (80, 44), 0)], []), rv_r 90], [((80, 44), 0, 8, [])]), [10], 1, [], []),
  (10, ([rv_r 80, rv_i 103 103], [rv_full], [((80, 44), 0, 8, [])]), [], 0, [], []),
  (11, ([rv_r 80, rv_i 105 105], [], [((80, 44), 0, 8, [])]), [12], 5, [], []),
  (12, ([rv_r 80, rv_i 105 105], [rv_r 80], [((80, 44), 0, 8, [])]), [13], 4, [], []),
  (13, ([rv_r 80, rv_i 105 105], [rv_r 91], [((80, 44), 0, 8, [])]), [14], 3, [], []),
  (14, ([rv_r 80, rv_i 105 105], [rv_r 80, rv_r 91], [((80, 44), 0, 8, [])]), [15], 2, [], []),
  (15, ([rv_r 80, rv_i 105 105], [(1, 0, 0, 8, [(.inr (80, 44), 0)], []), rv_r 91], [((80, 44), 0, 8, [])]), [16], 1, [], [])]
def n_X8_ofPorter_0_1 : List rv_N := [
  (16, ([rv_r 80, rv_i 105 105], [rv_full], [((80, 44), 0, 8, [])]), [], 0, [], []),
  (17, ([rv_r 80, rv_i 122 122], [], [((80, 44), 0, 8, [])]), [18], 10, [], []),
  (18, ([rv_r 80, rv_i 122 122], [rv_r 80], [((80, 44), 0, 8, [])]), [19], 9, [], []),
  (19, ([rv_r 80, rv_i 122 122], [rv_r 92], [((80, 44), 0, 8, [])]), [20], 8, [], []),
  (20, ([rv_r 80, rv_i 122 122], [rv_r 80, rv_r 92], [((80, 44), 0, 8, [])]), [21], 7, [], []),
  (21, ([rv_r 80, rv_i 122 122], [(1, 0, 0, 8, [(.inr (80, 44), 0)], []), rv_r 92], [((80, 44), 0, 8, [])]), [22], 6, [], []),
  (22, ([rv_r 80, rv_i 122 122], [rv_full], [((80, 44), 0, 8, [])]), [23], 5, [], []),
  (23, ([rv_r 80, rv_i 122 122], [rv_r 80, rv_full], [((80, 44), 0, 8, [])]), [24], 4, [], []),
  (24, ([rv_r 80, rv_i 122 122], [(1, 0, (-2147483648), 2147483647, [(.inr (80, 46), 0)], []), rv_full], [((80, 44), 0, 8, [])]), [25, 27], 3, [], []),
  (25, ([rv_r 80, rv_i 122 122], [], [((80, 44), 0, 8, [])]), [26], 2, [], []),
  (26, ([rv_r 80, rv_i 122 122], [rv_i 1 1], [((80, 44), 0, 8, [])]), [29], 1, [], []),
  (27, ([rv_r 80, rv_i 122 122], [], [((80, 44), 0, 8, [])]), [28], 1, [], []),
  (28, ([rv_r 80, rv_i 122 122], [rv_i 0 0], [((80, 44), 0, 8, [])]), [], 0, [], []),
  (28, ([rv_r 80, rv_i 122 122], [rv_i 1 1], [((80, 44), 0, 8, [])]), [], 0, [], []),
  (29, ([rv_r 80, rv_full], [], [((80, 44), 0, 8, [])]), [31], 4, [], []),
  (30, ([rv_r 80, rv_full], [rv_r 80], [((80, 44), 0, 8, [])]), [32], 3, [], [])]
def n_X8_ofPorter_0_2 : List rv_N := [
  (31, ([rv_r 80, rv_full], [rv_r 80, rv_r 80], [((80, 44), 0, 8, [])]), [33], 2, [], []),
  (32, ([rv_r 80, rv_full], [(1, 0, 0, 19, [(.inr (80, 43), 0)], []), rv_r 80], [((80, 44), 0, 8, [])]), [34], 1, [], [0]),
  (33, ([rv_r 80, rv_full], [rv_full], [((80, 44), 0, 8, [])]), [], 0, [], [])]
def n_X8_ofPorter_0 : List rv_N := n_X8_ofPorter_0_0 ++ (n_X8_ofPorter_0_1 ++ (n_X8_ofPorter_0_2))
noncomputable def gn_X8_ofPorter_0 : Nat → Option rv_N := rv_ap 16 (rv_at n_X8_ofPorter_0_0) (rv_ap 16 (rv_at n_X8_ofPorter_0_1) (rv_at n_X8_ofPorter_0_2))
theorem hn_X8_ofPorter_0 : ∀ i : Nat, n_X8_ofPorter_0[i]? = gn_X8_ofPorter_0 i := rv_ap_eq (l := n_X8_ofPorter_0_0) (c := 16) (rv_ap_eq (l := n_X8_ofPorter_0_1) (c := 16) (rv_at_eq n_X8_ofPorter_0_2) rfl) rfl
set_option maxRecDepth 100000 in
theorem a_X8_ofPorter_0 : rv_all (fm_tm, flX8, fm_wr, kcX8, klX8, K_X8_ofPorter_0.2.2.1, [], 2) ct_X8_ofPorter_0 cd_X8_ofPorter n_X8_ofPorter_0 K_X8_ofPorter_0 [] 0 n_X8_ofPorter_0 = true := rv_fast hn_X8_ofPorter_0 hc_X8_ofPorter (by decide +kernel)
theorem m_X8_ofPorter_0 {l : Launch} {D : va_G} {ad : Nat → Nat} {cy : Nat → ClassId} {Z : State → Heap → Prop} (hAd : fm_Ad fm_tm ad) (hZ : fm_Zk (fm_A fm_tm ad) Z) : rv_Met l D fm_cl fm_tm ad cy fm_nt Z fm_G yX8_ofPorter (.code yX8_ofPorter prog_10_method_46_code 2 (some .int) :: fm_Ts) { frames := 1, cells := 0, slots := 0, locals := 100 } K_X8_ofPorter_0 := rv_met hAd hZ (Or.inl (by decide +kernel)) evX8 dc_X8_ofPorter a_X8_ofPorter_0 ⟨rfl, rfl, rfl⟩ (by decide +kernel) (by decide +kernel) (by decide) (fm_gm fm_G_gd (by decide +kernel)) (Or.inl rfl) (fun p e s m args below meth c Q X Y => List.forall_mem_cons.mpr ⟨rv_ctV X Y fm_Ts_good dc_X8_ofPorter (pc := 96) (i := 32) (idx := 336) rfl (m_X8_portersAt_0 hAd hZ) wl_X8_336 wm_X8_portersAt wy_X8_portersAt (by decide) ⟨rfl, rfl, rfl⟩ ⟨rfl, rfl⟩, fun _ h => absurd h List.not_mem_nil⟩) (fun _ _ _ _ _ _ _ _ _ _ _ _ _ _ _ _ h => absurd h List.not_mem_nil)
def cd_X8_valueOf : List (Nat × Instr × Nat) := [(0, .iload_n 1, 1), (1, .invokestatic 248, 3), (4, .ifCond .eq 9, 3), (7, .aload_n 0, 1), (8, .iload_n 1, 1), (9, .invokevirtual 340, 3), (12, .ireturn, 1), (13, .iload_n 1, 1), (14, .bipush 98, 2), (16, .if_icmp .eq 9, 3), (19, .iload_n 1, 1), (20, .bipush 113, 2), (22, .if_icmp .ne 38, 3), (25, .aload_n 0, 1), (26, .getfield 343, 3), (29, .iconst (-1), 1), (30, .if_icmp .ne 7, 3), (33, .iconst 0, 1), (34, .goto 25, 3), (37, .iload_n 1, 1), (38, .bipush 98, 2), (40, .if_icmp .ne 10, 3), (43, .aload_n 0, 1), (44, .getfield 343, 3), (47, .goto 12, 3), (50, .aload_n 0, 1), (51, .getfield 31, 3), (54, .aload_n 0, 1), (55, .getfield 343, 3), (58, .iaload, 1), (59, .ireturn, 1), (60, .aload_n 0, 1), (61, .getfield 330, 3), (64, .iconst (-1), 1), (65, .if_icmp .ne 7, 3), (68, .iconst 0, 1), (69, .goto 8, 3), (72, .aload_n 0, 1), (73, .iload_n 1, 1), (74, .invokevirtual 346, 3), (77, .ireturn, 1)]
theorem dc_X8_valueOf : ∀ q ∈ cd_X8_valueOf, decode prog_10_method_47_code q.1 = .ok (q.2.1, q.2.2) := by decide +kernel
def ch_X8_valueOf_0 : List (Nat × Instr × Nat) := [(0, .iload_n 1, 1), (1, .invokestatic 248, 3), (4, .ifCond .eq 9, 3), (7, .aload_n 0, 1), (8, .iload_n 1, 1), (9, .invokevirtual 340, 3), (12, .ireturn, 1), (13, .iload_n 1, 1), (14, .bipush 98, 2), (16, .if_icmp .eq 9, 3), (19, .iload_n 1, 1), (20, .bipush 113, 2), (22, .if_icmp .ne 38, 3), (25, .aload_n 0, 1), (26, .getfield 343, 3), (29, .iconst (-1), 1)]
def ch_X8_valueOf_1 : List (Nat × Instr × Nat) := [(30, .if_icmp .ne 7, 3), (33, .iconst 0, 1), (34, .goto 25, 3), (37, .iload_n 1, 1), (38, .bipush 98, 2), (40, .if_icmp .ne 10, 3), (43, .aload_n 0, 1), (44, .getfield 343, 3), (47, .goto 12, 3), (50, .aload_n 0, 1), (51, .getfield 31, 3), (54, .aload_n 0, 1), (55, .getfield 343, 3), (58, .iaload, 1), (59, .ireturn, 1), (60, .aload_n 0, 1)]
def ch_X8_valueOf_2 : List (Nat × Instr × Nat) := [(61, .getfield 330, 3), (64, .iconst (-1), 1), (65, .if_icmp .ne 7, 3), (68, .iconst 0, 1), (69, .goto 8, 3), (72, .aload_n 0, 1), (73, .iload_n 1, 1), (74, .invokevirtual 346, 3), (77, .ireturn, 1)]
set_option maxRecDepth 100000 in
theorem he_X8_valueOf : cd_X8_valueOf = ch_X8_valueOf_0 ++ (ch_X8_valueOf_1 ++ (ch_X8_valueOf_2)) := rfl
noncomputable def gc_X8_valueOf : Nat → Option (Nat × Instr × Nat) := rv_ap 16 (rv_at ch_X8_valueOf_0) (rv_ap 16 (rv_at ch_X8_valueOf_1) (rv_at ch_X8_valueOf_2))
theorem hc_X8_valueOf : ∀ i : Nat, cd_X8_valueOf[i]? = gc_X8_valueOf i := by
  rw [he_X8_valueOf]
  exact rv_ap_eq (l := ch_X8_valueOf_0) (c := 16) (rv_ap_eq (l := ch_X8_valueOf_1) (c := 16) (rv_at_eq ch_X8_valueOf_2) rfl) rfl
def K_X8_valueOf_0 : rv_K := ([rv_r 80, rv_full], [((80, 2), 0, 2000000000, [])], [], [(0, (-2147483648), 2147483647)], [], [])
def ct_X8_valueOf_0 : List (Nat × rv_K) := [(1, K_X8_isOfYard_0), (5, K_X8_ofYard_0), (39, K_X8_ofPorter_0)]
def n_X8_valueOf_0_0 : List rv_N := [
  (0, ([rv_r 80, rv_full], [], [((80, 2), 0, 2000000000, [])]), [1], 21, [], []),
  (1, ([rv_r 80, rv_full], [(1, 0, (-2147483648), 2147483647, [(.inl 1, 0)], [])], [((80, 2), 0, 2000000000, [])]), [2], 20, [], [0]),
  (2, ([rv_r 80, rv_full], [(1, 0, 0, 1, [], [(.inl 1, 99, 121)])], [((80, 2), 0, 2000000000, [])]), [3, 7], 19, [], []),
  (3, ([rv_r 80, rv_i 99 121], [], [((80, 2), 0, 2000000000, [])]), [4], 3, [], []),
  (4, ([rv_r 80, rv_i 99 121], [rv_r 80], [((80, 2), 0, 2000000000, [])]), [5], 2, [], []),
  (5, ([rv_r 80, rv_i 99 121], [(1, 0, 99, 121, [(.inl 1, 0)], []), rv_r 80], [((80, 2), 0, 2000000000, [])]), [6], 1, [], [1]),
  (6, ([rv_r 80, rv_i 99 121], [rv_full], [((80, 2), 0, 2000000000, [])]), [], 0, [], []),
  (7, ([rv_r 80, rv_full], [], [((80, 2), 0, 2000000000, [])]), [8], 18, [], []),
  (8, ([rv_r 80, rv_full], [(1, 0, (-2147483648), 2147483647, [(.inl 1, 0)], [])], [((80, 2), 0, 2000000000, [])]), [9], 17, [], []),
  (9, ([rv_r 80, rv_full], [rv_i 98 98, (1, 0, (-2147483648), 2147483647, [(.inl 1, 0)], [])], [((80, 2), 0, 2000000000, [])]), [10, 13], 16, [], []),
  (10, ([rv_r 80, rv_full], [], [((80, 2), 0, 2000000000, [])]), [11], 15, [], []),
  (11, ([rv_r 80, rv_full], [(1, 0, (-2147483648), 2147483647, [(.inl 1, 0)], [])], [((80, 2), 0, 2000000000, [])]), [12], 14, [], []),
  (12, ([rv_r 80, rv_full], [rv_i 113 113, (1, 0, (-2147483648), 2147483647, [(.inl 1, 0)], [])], [((80, 2), 0, 2000000000, [])]), [13, 32], 13, [], []),
  (13, ([rv_r 80, rv_i 98 113], [], [((80, 2), 0, 2000000000, [])]), [14], 12, [], []),
  (14, ([rv_r 80, rv_i 98 113], [rv_r 80], [((80, 2), 0, 2000000000, [])]), [15], 11, [], []),
  (15, ([rv_r 80, rv_i 98 113], [(1, 0, (-1), 5, [(.inr (80, 45), 0)], [])], [((80, 2), 0, 2000000000, [])]), [16], 10, [], [])]
def n_X8_valueOf_0_1 : List rv_N := [
  (16, ([rv_r 80, rv_i 98 113], [rv_i (-1) (-1), (1, 0, (-1), 5, [(.inr (80, 45), 0)], [])], [((80, 2), 0, 2000000000, [])]), [17, 19], 9, [], []),
  (17, ([rv_r 80, rv_i 98 113], [], [((80, 2), 0, 2000000000, []), ((80, 45), (-1), (-1), [])]), [18], 2, [], []),
  (18, ([rv_r 80, rv_i 98 113], [rv_i 0 0], [((80, 2), 0, 2000000000, []), ((80, 45), (-1), (-1), [])]), [30], 1, [], []),
  (19, ([rv_r 80, rv_i 98 113], [], [((80, 2), 0, 2000000000, []), ((80, 45), 0, 5, [])]), [20], 8, [], []),
  (20, ([rv_r 80, rv_i 98 113], [(1, 0, 98, 113, [(.inl 1, 0)], [])], [((80, 2), 0, 2000000000, []), ((80, 45), 0, 5, [])]), [21], 7, [], []),
  (21, ([rv_r 80, rv_i 98 113], [rv_i 98 98, (1, 0, 98, 113, [(.inl 1, 0)], [])], [((80, 2), 0, 2000000000, []), ((80, 45), 0, 5, [])]), [22, 25], 6, [], []),
  (22, ([rv_r 80, rv_i 98 98], [], [((80, 2), 0, 2000000000, []), ((80, 45), 0, 5, [])]), [23], 3, [], []),
  (23, ([rv_r 80, rv_i 98 98], [rv_r 80], [((80, 2), 0, 2000000000, []), ((80, 45), 0, 5, [])]), [24], 2, [], []),
  (24, ([rv_r 80, rv_i 98 98], [(1, 0, 0, 5, [(.inr (80, 45), 0)], [])], [((80, 2), 0, 2000000000, []), ((80, 45), 0, 5, [])]), [31], 1, [], []),
  (25, ([rv_r 80, rv_i 99 113], [], [((80, 2), 0, 2000000000, []), ((80, 45), 0, 5, [])]), [26], 5, [], []),
  (26, ([rv_r 80, rv_i 99 113], [rv_r 80], [((80, 2), 0, 2000000000, []), ((80, 45), 0, 5, [])]), [27], 4, [], []),
  (27, ([rv_r 80, rv_i 99 113], [rv_r 86], [((80, 2), 0, 2000000000, []), ((80, 45), 0, 5, [])]), [28], 3, [], []),
  (28, ([rv_r 80, rv_i 99 113], [rv_r 80, rv_r 86], [((80, 2), 0, 2000000000, []), ((80, 45), 0, 5, [])]), [29], 2, [], []),
  (29, ([rv_r 80, rv_i 99 113], [(1, 0, 0, 5, [(.inr (80, 45), 0)], []), rv_r 86], [((80, 2), 0, 2000000000, []), ((80, 45), 0, 5, [])]), [31], 1, [], []),
  (30, ([rv_r 80, rv_i 98 113], [rv_i 0 0], [((80, 2), 0, 2000000000, []), ((80, 45), (-1), (-1), [])]), [], 0, [], []),
  (30, ([rv_r 80, rv_i 98 113], [rv_full], [((80, 2), 0, 2000000000, []), ((80, 45), 0, 5, [])]), [], 0, [], [])]
def n_X8_valueOf_0_2 : List rv_N := [
  (31, ([rv_r 80, rv_full], [], [((80, 2), 0, 2000000000, [])]), [33], 7, [], []),
  (32, ([rv_r 80, rv_full], [rv_r 80], [((80, 2), 0, 2000000000, [])]), [34], 6, [], []),
  (33, ([rv_r 80, rv_full], [(1, 0, (-1), 8, [(.inr (80, 44), 0)], [])], [((80, 2), 0, 2000000000, [])]), [35], 5, [], []),
  (34, ([rv_r 80, rv_full], [rv_i (-1) (-1), (1, 0, (-1), 8, [(.inr (80, 44), 0)], [])], [((80, 2), 0, 2000000000, [])]), [36, 38], 4, [], []),
  (35, ([rv_r 80, rv_full], [], [((80, 2), 0, 2000000000, []), ((80, 44), (-1), (-1), [])]), [37], 2, [], []),
  (36, ([rv_r 80, rv_full], [rv_i 0 0], [((80, 2), 0, 2000000000, []), ((80, 44), (-1), (-1), [])]), [41], 1, [], []),
  (37, ([rv_r 80, rv_full], [], [((80, 2), 0, 2000000000, []), ((80, 44), 0, 8, [])]), [39], 3, [], []),
  (38, ([rv_r 80, rv_full], [rv_r 80], [((80, 2), 0, 2000000000, []), ((80, 44), 0, 8, [])]), [40], 2, [], []),
  (39, ([rv_r 80, rv_full], [(1, 0, (-2147483648), 2147483647, [(.inl 1, 0)], []), rv_r 80], [((80, 2), 0, 2000000000, []), ((80, 44), 0, 8, [])]), [42], 1, [], [2]),
  (40, ([rv_r 80, rv_full], [rv_i 0 0], [((80, 2), 0, 2000000000, []), ((80, 44), (-1), (-1), [])]), [], 0, [], []),
  (40, ([rv_r 80, rv_full], [rv_full], [((80, 2), 0, 2000000000, []), ((80, 44), 0, 8, [])]), [], 0, [], [])]
def n_X8_valueOf_0 : List rv_N := n_X8_valueOf_0_0 ++ (n_X8_valueOf_0_1 ++ (n_X8_valueOf_0_2))
noncomputable def gn_X8_valueOf_0 : Nat → Option rv_N := rv_ap 16 (rv_at n_X8_valueOf_0_0) (rv_ap 16 (rv_at n_X8_valueOf_0_1) (rv_at n_X8_valueOf_0_2))
theorem hn_X8_valueOf_0 : ∀ i : Nat, n_X8_valueOf_0[i]? = gn_X8_valueOf_0 i := rv_ap_eq (l := n_X8_valueOf_0_0) (c := 16) (rv_ap_eq (l := n_X8_valueOf_0_1) (c := 16) (rv_at_eq n_X8_valueOf_0_2) rfl) rfl
set_option maxRecDepth 100000 in
theorem a_X8_valueOf_0 : rv_all (fm_tm, flX8, fm_wr, kcX8, klX8, K_X8_valueOf_0.2.2.1, [], 2) ct_X8_valueOf_0 cd_X8_valueOf n_X8_valueOf_0 K_X8_valueOf_0 [] 0 n_X8_valueOf_0 = true := rv_fast hn_X8_valueOf_0 hc_X8_valueOf (by decide +kernel)
theorem m_X8_valueOf_0 {l : Launch} {D : va_G} {ad : Nat → Nat} {cy : Nat → ClassId} {Z : State → Heap → Prop} (hAd : fm_Ad fm_tm ad) (hZ : fm_Zk (fm_A fm_tm ad) Z) : rv_Met l D fm_cl fm_tm ad cy fm_nt Z fm_G yX8_valueOf (.code yX8_valueOf prog_10_method_47_code 2 (some .int) :: fm_Ts) { frames := 2, cells := 0, slots := 0, locals := 200 } K_X8_valueOf_0 := rv_met hAd hZ (Or.inl (by decide +kernel)) evX8 dc_X8_valueOf a_X8_valueOf_0 ⟨rfl, rfl, rfl⟩ (by decide +kernel) (by decide +kernel) (by decide) (fm_gm fm_G_gd (by decide +kernel)) (Or.inl rfl) (fun p e s m args below meth c Q X Y => List.forall_mem_cons.mpr ⟨rv_ctS X Y fm_Ts_good dc_X8_valueOf (pc := 1) (i := 1) (idx := 248) rfl (m_X8_isOfYard_0 hAd hZ) wl_X8_248 wm_X8_isOfYard wy_X8_isOfYard (by decide) rfl, List.forall_mem_cons.mpr ⟨rv_ctV X Y fm_Ts_good dc_X8_valueOf (pc := 9) (i := 5) (idx := 340) rfl (m_X8_ofYard_0 hAd hZ) wl_X8_340 wm_X8_ofYard wy_X8_ofYard (by decide) ⟨rfl, rfl, rfl⟩ ⟨rfl, rfl⟩, List.forall_mem_cons.mpr ⟨rv_ctV X Y fm_Ts_good dc_X8_valueOf (pc := 74) (i := 39) (idx := 346) rfl (m_X8_ofPorter_0 hAd hZ) wl_X8_346 wm_X8_ofPorter wy_X8_ofPorter (by decide) ⟨rfl, rfl, rfl⟩ ⟨rfl, rfl⟩, fun _ h => absurd h List.not_mem_nil⟩⟩⟩) (fun _ _ _ _ _ _ _ _ _ _ _ _ _ _ _ _ h => absurd h List.not_mem_nil)
