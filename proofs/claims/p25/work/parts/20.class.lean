def cd_X7_isYard : List (Nat × Instr × Nat) := [(0, .iload_n 0, 1), (1, .ifCond .lt 13, 3), (4, .iload_n 0, 1), (5, .bipush 20, 2), (7, .if_icmp .ge 7, 3), (10, .iconst 1, 1), (11, .goto 4, 3), (14, .iconst 0, 1), (15, .ireturn, 1)]
theorem dc_X7_isYard : ∀ q ∈ cd_X7_isYard, decode prog_1_method_35_code q.1 = .ok (q.2.1, q.2.2) := by decide +kernel
def K_X7_isYard_0 : rv_K := ([rv_full], [], [], [(0, 0, 1)], [(.inl 0, 0, 19)], [])
def ct_X7_isYard_0 : List (Nat × rv_K) := []
def n_X7_isYard_0 : List rv_N := [
  (0, ([rv_full], [], []), [1], 7, [], []),
  (1, ([rv_full], [(1, 0, (-2147483648), 2147483647, [(.inl 0, 0)], [])], []), [2, 7], 6, [], []),
  (2, ([rv_i 0 2147483647], [], []), [3], 5, [], []),
  (3, ([rv_i 0 2147483647], [(1, 0, 0, 2147483647, [(.inl 0, 0)], [])], []), [4], 4, [], []),
  (4, ([rv_i 0 2147483647], [rv_i 20 20, (1, 0, 0, 2147483647, [(.inl 0, 0)], [])], []), [5, 7], 3, [], []),
  (5, ([rv_i 0 19], [], []), [6], 2, [], []),
  (6, ([rv_i 0 19], [rv_i 1 1], []), [9], 1, [], []),
  (7, ([rv_full], [], []), [8], 1, [], []),
  (8, ([rv_full], [rv_i 0 0], []), [], 0, [], []),
  (8, ([rv_i 0 19], [rv_i 1 1], []), [], 0, [], [])]
set_option maxRecDepth 100000 in
theorem a_X7_isYard_0 : rv_all (fm_tm, flX7, fm_wr, kcX7, klX7, K_X7_isYard_0.2.2.1, [0], 1) ct_X7_isYard_0 cd_X7_isYard n_X7_isYard_0 K_X7_isYard_0 [] 0 n_X7_isYard_0 = true := rv_fast (rv_at_eq n_X7_isYard_0) (rv_at_eq cd_X7_isYard) (by decide +kernel)
theorem m_X7_isYard_0 {l : Launch} {D : va_G} {ad : Nat → Nat} {cy : Nat → ClassId} {Z : State → Heap → Prop} {Gp : fm_V → Prop} (hAd : fm_Ad fm_tm ad) (hZ : fm_Zk (fm_A fm_tm ad) Z) (hGd : fm_Gd Gp) : rv_Met l D fm_cl fm_tm ad cy fm_nt Z Gp yX7_isYard (.code yX7_isYard prog_1_method_35_code 1 (some .boolean) :: fm_Ts) { frames := 0, cells := 0, slots := 0, locals := 0 } K_X7_isYard_0 := rv_met hAd hZ (Or.inl (by decide +kernel)) evX7 dc_X7_isYard a_X7_isYard_0 ⟨rfl, rfl, rfl⟩ (by decide +kernel) (by decide +kernel) (by decide) (fm_gm hGd (by decide +kernel)) (Or.inr ⟨rfl, by decide, by decide⟩) (fun p e s m args below meth c Q X Y => fun _ h => absurd h List.not_mem_nil) (fun _ _ _ _ _ _ _ _ _ _ _ _ _ _ _ _ h => absurd h List.not_mem_nil)
def cd_X7_isWithin : List (Nat × Instr × Nat) := [(0, .iload_n 0, 1), (1, .iload_n 1, 1), (2, .if_icmp .lt 12, 3), (5, .iload_n 0, 1), (6, .iload_n 2, 1), (7, .if_icmp .gt 7, 3), (10, .iconst 1, 1), (11, .goto 4, 3), (14, .iconst 0, 1), (15, .ireturn, 1)]
theorem dc_X7_isWithin : ∀ q ∈ cd_X7_isWithin, decode prog_1_method_34_code q.1 = .ok (q.2.1, q.2.2) := by decide +kernel
def K_X7_isWithin_0 : rv_K := ([rv_full, rv_i 0 0, rv_i 99999 99999], [], [], [(0, 0, 1)], [(.inl 0, 0, 99999)], [])
def ct_X7_isWithin_0 : List (Nat × rv_K) := []
def n_X7_isWithin_0 : List rv_N := [
  (0, ([rv_full, rv_i 0 0, rv_i 99999 99999], [], []), [1], 8, [], []),
  (1, ([rv_full, rv_i 0 0, rv_i 99999 99999], [(1, 0, (-2147483648), 2147483647, [(.inl 0, 0)], [])], []), [2], 7, [], []),
  (2, ([rv_full, rv_i 0 0, rv_i 99999 99999], [(1, 0, 0, 0, [(.inl 1, 0)], []), (1, 0, (-2147483648), 2147483647, [(.inl 0, 0)], [])], []), [3, 8], 6, [], []),
  (3, ([rv_i 0 2147483647, rv_i 0 0, rv_i 99999 99999], [], []), [4], 5, [], []),
  (4, ([rv_i 0 2147483647, rv_i 0 0, rv_i 99999 99999], [(1, 0, 0, 2147483647, [(.inl 0, 0)], [])], []), [5], 4, [], []),
  (5, ([rv_i 0 2147483647, rv_i 0 0, rv_i 99999 99999], [(1, 0, 99999, 99999, [(.inl 2, 0)], []), (1, 0, 0, 2147483647, [(.inl 0, 0)], [])], []), [6, 8], 3, [], []),
  (6, ([rv_i 0 99999, rv_i 0 0, rv_i 99999 99999], [], []), [7], 2, [], []),
  (7, ([rv_i 0 99999, rv_i 0 0, rv_i 99999 99999], [rv_i 1 1], []), [10], 1, [], []),
  (8, ([rv_full, rv_i 0 0, rv_i 99999 99999], [], []), [9], 1, [], []),
  (9, ([rv_full, rv_i 0 0, rv_i 99999 99999], [rv_i 0 0], []), [], 0, [], []),
  (9, ([rv_i 0 99999, rv_i 0 0, rv_i 99999 99999], [rv_i 1 1], []), [], 0, [], [])]
set_option maxRecDepth 100000 in
theorem a_X7_isWithin_0 : rv_all (fm_tm, flX7, fm_wr, kcX7, klX7, K_X7_isWithin_0.2.2.1, [0, 1, 2], 3) ct_X7_isWithin_0 cd_X7_isWithin n_X7_isWithin_0 K_X7_isWithin_0 [] 0 n_X7_isWithin_0 = true := rv_fast (rv_at_eq n_X7_isWithin_0) (rv_at_eq cd_X7_isWithin) (by decide +kernel)
theorem m_X7_isWithin_0 {l : Launch} {D : va_G} {ad : Nat → Nat} {cy : Nat → ClassId} {Z : State → Heap → Prop} {Gp : fm_V → Prop} (hAd : fm_Ad fm_tm ad) (hZ : fm_Zk (fm_A fm_tm ad) Z) (hGd : fm_Gd Gp) : rv_Met l D fm_cl fm_tm ad cy fm_nt Z Gp yX7_isWithin (.code yX7_isWithin prog_1_method_34_code 3 (some .boolean) :: fm_Ts) { frames := 0, cells := 0, slots := 0, locals := 0 } K_X7_isWithin_0 := rv_met hAd hZ (Or.inl (by decide +kernel)) evX7 dc_X7_isWithin a_X7_isWithin_0 ⟨rfl, rfl, rfl⟩ (by decide +kernel) (by decide +kernel) (by decide) (fm_gm hGd (by decide +kernel)) (Or.inr ⟨rfl, by decide, by decide⟩) (fun p e s m args below meth c Q X Y => fun _ h => absurd h List.not_mem_nil) (fun _ _ _ _ _ _ _ _ _ _ _ _ _ _ _ _ h => absurd h List.not_mem_nil)
def K_X7_isWithin_1 : rv_K := ([rv_full, rv_i (-3) (-3), rv_i 3 3], [], [], [(0, 0, 1)], [(.inl 0, (-3), 3)], [])
def ct_X7_isWithin_1 : List (Nat × rv_K) := []
def n_X7_isWithin_1 : List rv_N := [
  (0, ([rv_full, rv_i (-3) (-3), rv_i 3 3], [], []), [1], 8, [], []),
  (1, ([rv_full, rv_i (-3) (-3), rv_i 3 3], [(1, 0, (-2147483648), 2147483647, [(.inl 0, 0)], [])], []), [2], 7, [], []),
  (2, ([rv_full, rv_i (-3) (-3), rv_i 3 3], [(1, 0, (-3), (-3), [(.inl 1, 0)], []), (1, 0, (-2147483648), 2147483647, [(.inl 0, 0)], [])], []), [3, 8], 6, [], []),
  (3, ([rv_i (-3) 2147483647, rv_i (-3) (-3), rv_i 3 3], [], []), [4], 5, [], []),
  (4, ([rv_i (-3) 2147483647, rv_i (-3) (-3), rv_i 3 3], [(1, 0, (-3), 2147483647, [(.inl 0, 0)], [])], []), [5], 4, [], []),
  (5, ([rv_i (-3) 2147483647, rv_i (-3) (-3), rv_i 3 3], [(1, 0, 3, 3, [(.inl 2, 0)], []), (1, 0, (-3), 2147483647, [(.inl 0, 0)], [])], []), [6, 8], 3, [], []),
  (6, ([rv_i (-3) 3, rv_i (-3) (-3), rv_i 3 3], [], []), [7], 2, [], []),
  (7, ([rv_i (-3) 3, rv_i (-3) (-3), rv_i 3 3], [rv_i 1 1], []), [10], 1, [], []),
  (8, ([rv_full, rv_i (-3) (-3), rv_i 3 3], [], []), [9], 1, [], []),
  (9, ([rv_full, rv_i (-3) (-3), rv_i 3 3], [rv_i 0 0], []), [], 0, [], []),
  (9, ([rv_i (-3) 3, rv_i (-3) (-3), rv_i 3 3], [rv_i 1 1], []), [], 0, [], [])]
set_option maxRecDepth 100000 in
theorem a_X7_isWithin_1 : rv_all (fm_tm, flX7, fm_wr, kcX7, klX7, K_X7_isWithin_1.2.2.1, [0, 1, 2], 3) ct_X7_isWithin_1 cd_X7_isWithin n_X7_isWithin_1 K_X7_isWithin_1 [] 0 n_X7_isWithin_1 = true := rv_fast (rv_at_eq n_X7_isWithin_1) (rv_at_eq cd_X7_isWithin) (by decide +kernel)
theorem m_X7_isWithin_1 {l : Launch} {D : va_G} {ad : Nat → Nat} {cy : Nat → ClassId} {Z : State → Heap → Prop} {Gp : fm_V → Prop} (hAd : fm_Ad fm_tm ad) (hZ : fm_Zk (fm_A fm_tm ad) Z) (hGd : fm_Gd Gp) : rv_Met l D fm_cl fm_tm ad cy fm_nt Z Gp yX7_isWithin (.code yX7_isWithin prog_1_method_34_code 3 (some .boolean) :: fm_Ts) { frames := 0, cells := 0, slots := 0, locals := 0 } K_X7_isWithin_1 := rv_met hAd hZ (Or.inl (by decide +kernel)) evX7 dc_X7_isWithin a_X7_isWithin_1 ⟨rfl, rfl, rfl⟩ (by decide +kernel) (by decide +kernel) (by decide) (fm_gm hGd (by decide +kernel)) (Or.inr ⟨rfl, by decide, by decide⟩) (fun p e s m args below meth c Q X Y => fun _ h => absurd h List.not_mem_nil) (fun _ _ _ _ _ _ _ _ _ _ _ _ _ _ _ _ h => absurd h List.not_mem_nil)
def cd_X7_yard : List (Nat × Instr × Nat) := [(0, .iload_n 1, 1), (1, .invokestatic 75, 3), (4, .ifCond .eq 23, 3), (7, .iload_n 2, 1), (8, .iconst 0, 1), (9, .ldc 79, 2), (11, .invokestatic 80, 3), (14, .ifCond .eq 13, 3), (17, .iload_n 3, 1), (18, .bipush (-3), 2), (20, .iconst 3, 1), (21, .invokestatic 80, 3), (24, .ifCond .ne 5, 3), (27, .iconst 0, 1), (28, .ireturn, 1), (29, .aload_n 0, 1), (30, .getfield 38, 3), (33, .getfield 84, 3), (36, .iload_n 1, 1), (37, .iload_n 2, 1), (38, .iastore, 1), (39, .aload_n 0, 1), (40, .getfield 38, 3), (43, .getfield 87, 3), (46, .iload_n 1, 1), (47, .iload_n 3, 1), (48, .iastore, 1), (49, .aload_n 0, 1), (50, .getfield 38, 3), (53, .getfield 90, 3), (56, .iload_n 1, 1), (57, .iload 4, 2), (59, .ifCond .eq 7, 3), (62, .iconst 1, 1), (63, .goto 4, 3), (66, .iconst 0, 1), (67, .iastore, 1), (68, .iconst 1, 1), (69, .ireturn, 1)]
theorem dc_X7_yard : ∀ q ∈ cd_X7_yard, decode prog_1_method_2_code q.1 = .ok (q.2.1, q.2.2) := by decide +kernel
def ch_X7_yard_0 : List (Nat × Instr × Nat) := [(0, .iload_n 1, 1), (1, .invokestatic 75, 3), (4, .ifCond .eq 23, 3), (7, .iload_n 2, 1), (8, .iconst 0, 1), (9, .ldc 79, 2), (11, .invokestatic 80, 3), (14, .ifCond .eq 13, 3), (17, .iload_n 3, 1), (18, .bipush (-3), 2), (20, .iconst 3, 1), (21, .invokestatic 80, 3), (24, .ifCond .ne 5, 3), (27, .iconst 0, 1), (28, .ireturn, 1), (29, .aload_n 0, 1)]
def ch_X7_yard_1 : List (Nat × Instr × Nat) := [(30, .getfield 38, 3), (33, .getfield 84, 3), (36, .iload_n 1, 1), (37, .iload_n 2, 1), (38, .iastore, 1), (39, .aload_n 0, 1), (40, .getfield 38, 3), (43, .getfield 87, 3), (46, .iload_n 1, 1), (47, .iload_n 3, 1), (48, .iastore, 1), (49, .aload_n 0, 1), (50, .getfield 38, 3), (53, .getfield 90, 3), (56, .iload_n 1, 1), (57, .iload 4, 2)]
def ch_X7_yard_2 : List (Nat × Instr × Nat) := [(59, .ifCond .eq 7, 3), (62, .iconst 1, 1), (63, .goto 4, 3), (66, .iconst 0, 1), (67, .iastore, 1), (68, .iconst 1, 1), (69, .ireturn, 1)]
set_option maxRecDepth 100000 in
theorem he_X7_yard : cd_X7_yard = ch_X7_yard_0 ++ (ch_X7_yard_1 ++ (ch_X7_yard_2)) := rfl
noncomputable def gc_X7_yard : Nat → Option (Nat × Instr × Nat) := rv_ap 16 (rv_at ch_X7_yard_0) (rv_ap 16 (rv_at ch_X7_yard_1) (rv_at ch_X7_yard_2))
theorem hc_X7_yard : ∀ i : Nat, cd_X7_yard[i]? = gc_X7_yard i := by
  rw [he_X7_yard]
  exact rv_ap_eq (l := ch_X7_yard_0) (c := 16) (rv_ap_eq (l := ch_X7_yard_1) (c := 16) (rv_at_eq ch_X7_yard_2) rfl) rfl
def K_X7_yard_0 : rv_K := ([rv_r 0, rv_full, rv_full, rv_full, rv_i 0 1], [], [(27, 9999), (28, 9999), (29, 9999)], [(0, 0, 1)], [(.inl 1, 0, 19), (.inl 2, 0, 99999), (.inl 3, (-3), 3)], [])
def ct_X7_yard_0 : List (Nat × rv_K) := [(1, K_X7_isYard_0), (6, K_X7_isWithin_0), (11, K_X7_isWithin_1)]
def n_X7_yard_0_0 : List rv_N := [
  (0, ([rv_r 0, rv_full, rv_full, rv_full, rv_i 0 1], [], []), [1], 35, [], []),
  (1, ([rv_r 0, rv_full, rv_full, rv_full, rv_i 0 1], [(1, 0, (-2147483648), 2147483647, [(.inl 1, 0)], [])], []), [2], 34, [], [0]),
  (2, ([rv_r 0, rv_full, rv_full, rv_full, rv_i 0 1], [(1, 0, 0, 1, [], [(.inl 1, 0, 19)])], []), [3, 13], 33, [], []),
  (3, ([rv_r 0, rv_i 0 19, rv_full, rv_full, rv_i 0 1], [], []), [4], 32, [], []),
  (4, ([rv_r 0, rv_i 0 19, rv_full, rv_full, rv_i 0 1], [(1, 0, (-2147483648), 2147483647, [(.inl 2, 0)], [])], []), [5], 31, [], []),
  (5, ([rv_r 0, rv_i 0 19, rv_full, rv_full, rv_i 0 1], [rv_i 0 0, (1, 0, (-2147483648), 2147483647, [(.inl 2, 0)], [])], []), [6], 30, [], []),
  (6, ([rv_r 0, rv_i 0 19, rv_full, rv_full, rv_i 0 1], [rv_i 99999 99999, rv_i 0 0, (1, 0, (-2147483648), 2147483647, [(.inl 2, 0)], [])], []), [7], 29, [], [1]),
  (7, ([rv_r 0, rv_i 0 19, rv_full, rv_full, rv_i 0 1], [(1, 0, 0, 1, [], [(.inl 2, 0, 99999)])], []), [8, 13], 28, [], []),
  (8, ([rv_r 0, rv_i 0 19, rv_i 0 99999, rv_full, rv_i 0 1], [], []), [9], 27, [], []),
  (9, ([rv_r 0, rv_i 0 19, rv_i 0 99999, rv_full, rv_i 0 1], [(1, 0, (-2147483648), 2147483647, [(.inl 3, 0)], [])], []), [10], 26, [], []),
  (10, ([rv_r 0, rv_i 0 19, rv_i 0 99999, rv_full, rv_i 0 1], [rv_i (-3) (-3), (1, 0, (-2147483648), 2147483647, [(.inl 3, 0)], [])], []), [11], 25, [], []),
  (11, ([rv_r 0, rv_i 0 19, rv_i 0 99999, rv_full, rv_i 0 1], [rv_i 3 3, rv_i (-3) (-3), (1, 0, (-2147483648), 2147483647, [(.inl 3, 0)], [])], []), [12], 24, [], [2]),
  (12, ([rv_r 0, rv_i 0 19, rv_i 0 99999, rv_full, rv_i 0 1], [(1, 0, 0, 1, [], [(.inl 3, (-3), 3)])], []), [13, 15], 23, [], []),
  (13, ([rv_r 0, rv_full, rv_full, rv_full, rv_i 0 1], [], []), [14], 1, [], []),
  (14, ([rv_r 0, rv_full, rv_full, rv_full, rv_i 0 1], [rv_i 0 0], []), [], 0, [], []),
  (15, ([rv_r 0, rv_i 0 19, rv_i 0 99999, rv_i (-3) 3, rv_i 0 1], [], []), [16], 22, [], [])]
def n_X7_yard_0_1 : List rv_N := [
  (16, ([rv_r 0, rv_i 0 19, rv_i 0 99999, rv_i (-3) 3, rv_i 0 1], [rv_r 0], []), [17], 21, [], []),
  (17, ([rv_r 0, rv_i 0 19, rv_i 0 99999, rv_i (-3) 3, rv_i 0 1], [rv_r 26], []), [18], 20, [], []),
  (18, ([rv_r 0, rv_i 0 19, rv_i 0 99999, rv_i (-3) 3, rv_i 0 1], [rv_r 27], []), [19], 19, [], []),
  (19, ([rv_r 0, rv_i 0 19, rv_i 0 99999, rv_i (-3) 3, rv_i 0 1], [(1, 0, 0, 19, [(.inl 1, 0)], []), rv_r 27], []), [20], 18, [], []),
  (20, ([rv_r 0, rv_i 0 19, rv_i 0 99999, rv_i (-3) 3, rv_i 0 1], [(1, 0, 0, 99999, [(.inl 2, 0)], []), (1, 0, 0, 19, [(.inl 1, 0)], []), rv_r 27], []), [21], 17, [], []),
  (21, ([rv_r 0, rv_i 0 19, rv_i 0 99999, rv_i (-3) 3, rv_i 0 1], [], []), [22], 16, [], []),
  (22, ([rv_r 0, rv_i 0 19, rv_i 0 99999, rv_i (-3) 3, rv_i 0 1], [rv_r 0], []), [23], 15, [], []),
  (23, ([rv_r 0, rv_i 0 19, rv_i 0 99999, rv_i (-3) 3, rv_i 0 1], [rv_r 26], []), [24], 14, [], []),
  (24, ([rv_r 0, rv_i 0 19, rv_i 0 99999, rv_i (-3) 3, rv_i 0 1], [rv_r 28], []), [25], 13, [], []),
  (25, ([rv_r 0, rv_i 0 19, rv_i 0 99999, rv_i (-3) 3, rv_i 0 1], [(1, 0, 0, 19, [(.inl 1, 0)], []), rv_r 28], []), [26], 12, [], []),
  (26, ([rv_r 0, rv_i 0 19, rv_i 0 99999, rv_i (-3) 3, rv_i 0 1], [(1, 0, (-3), 3, [(.inl 3, 0)], []), (1, 0, 0, 19, [(.inl 1, 0)], []), rv_r 28], []), [27], 11, [], []),
  (27, ([rv_r 0, rv_i 0 19, rv_i 0 99999, rv_i (-3) 3, rv_i 0 1], [], []), [28], 10, [], []),
  (28, ([rv_r 0, rv_i 0 19, rv_i 0 99999, rv_i (-3) 3, rv_i 0 1], [rv_r 0], []), [29], 9, [], []),
  (29, ([rv_r 0, rv_i 0 19, rv_i 0 99999, rv_i (-3) 3, rv_i 0 1], [rv_r 26], []), [30], 8, [], []),
  (30, ([rv_r 0, rv_i 0 19, rv_i 0 99999, rv_i (-3) 3, rv_i 0 1], [rv_r 29], []), [31], 7, [], []),
  (31, ([rv_r 0, rv_i 0 19, rv_i 0 99999, rv_i (-3) 3, rv_i 0 1], [(1, 0, 0, 19, [(.inl 1, 0)], []), rv_r 29], []), [32], 6, [], [])]
def n_X7_yard_0_2 : List rv_N := [
  (32, ([rv_r 0, rv_i 0 19, rv_i 0 99999, rv_i (-3) 3, rv_i 0 1], [(1, 0, 0, 1, [(.inl 4, 0)], []), (1, 0, 0, 19, [(.inl 1, 0)], []), rv_r 29], []), [33, 35], 5, [], []),
  (33, ([rv_r 0, rv_i 0 19, rv_i 0 99999, rv_i (-3) 3, (1, 1, 1, 1, [], [])], [(1, 0, 0, 19, [(.inl 1, 0)], []), rv_r 29], []), [34], 4, [], []),
  (34, ([rv_r 0, rv_i 0 19, rv_i 0 99999, rv_i (-3) 3, (1, 1, 1, 1, [], [])], [rv_i 1 1, (1, 0, 0, 19, [(.inl 1, 0)], []), rv_r 29], []), [37], 3, [], []),
  (35, ([rv_r 0, rv_i 0 19, rv_i 0 99999, rv_i (-3) 3, rv_i 0 0], [(1, 0, 0, 19, [(.inl 1, 0)], []), rv_r 29], []), [36], 3, [], []),
  (36, ([rv_r 0, rv_i 0 19, rv_i 0 99999, rv_i (-3) 3, rv_i 0 0], [rv_i 0 0, (1, 0, 0, 19, [(.inl 1, 0)], []), rv_r 29], []), [38], 2, [], []),
  (36, ([rv_r 0, rv_i 0 19, rv_i 0 99999, rv_i (-3) 3, (1, 1, 1, 1, [], [])], [rv_i 1 1, (1, 0, 0, 19, [(.inl 1, 0)], []), rv_r 29], []), [38], 2, [], []),
  (37, ([rv_r 0, rv_i 0 19, rv_i 0 99999, rv_i (-3) 3, rv_i 0 1], [], []), [39], 1, [], []),
  (38, ([rv_r 0, rv_i 0 19, rv_i 0 99999, rv_i (-3) 3, rv_i 0 1], [rv_i 1 1], []), [], 0, [], [])]
def n_X7_yard_0 : List rv_N := n_X7_yard_0_0 ++ (n_X7_yard_0_1 ++ (n_X7_yard_0_2))
noncomputable def gn_X7_yard_0 : Nat → Option rv_N := rv_ap 16 (rv_at n_X7_yard_0_0) (rv_ap 16 (rv_at n_X7_yard_0_1) (rv_at n_X7_yard_0_2))
theorem hn_X7_yard_0 : ∀ i : Nat, n_X7_yard_0[i]? = gn_X7_yard_0 i := rv_ap_eq (l := n_X7_yard_0_0) (c := 16) (rv_ap_eq (l := n_X7_yard_0_1) (c := 16) (rv_at_eq n_X7_yard_0_2) rfl) rfl
set_option maxRecDepth 100000 in
theorem a_X7_yard_0 : rv_all (fm_tm, flX7, fm_wr, kcX7, klX7, K_X7_yard_0.2.2.1, [1, 2, 3, 4], 5) ct_X7_yard_0 cd_X7_yard n_X7_yard_0 K_X7_yard_0 [] 0 n_X7_yard_0 = true := rv_fast hn_X7_yard_0 hc_X7_yard (by decide +kernel)
theorem m_X7_yard_0 {l : Launch} {D : va_G} {ad : Nat → Nat} {cy : Nat → ClassId} {Z : State → Heap → Prop} {Gp : fm_V → Prop} (hAd : fm_Ad fm_tm ad) (hZ : fm_Zk (fm_A fm_tm ad) Z) (hGd : fm_Gd Gp) : rv_Met l D fm_cl fm_tm ad cy fm_nt Z Gp yX7_yard (.code yX7_yard prog_1_method_2_code 5 (some .boolean) :: fm_Ts) { frames := 1, cells := 0, slots := 0, locals := 100 } K_X7_yard_0 := rv_met hAd hZ (Or.inl (by decide +kernel)) evX7 dc_X7_yard a_X7_yard_0 ⟨rfl, rfl, rfl⟩ (by decide +kernel) (by decide +kernel) (by decide) (fm_gm hGd (by decide +kernel)) (Or.inr ⟨rfl, by decide, by decide⟩) (fun p e s m args below meth c Q X Y => List.forall_mem_cons.mpr ⟨rv_ctS X Y fm_Ts_good dc_X7_yard (pc := 1) (i := 1) (idx := 75) rfl (m_X7_isYard_0 hAd hZ hGd) wl_X7_75 wm_X7_isYard wy_X7_isYard (by decide) rfl, List.forall_mem_cons.mpr ⟨rv_ctS X Y fm_Ts_good dc_X7_yard (pc := 11) (i := 6) (idx := 80) rfl (m_X7_isWithin_0 hAd hZ hGd) wl_X7_80 wm_X7_isWithin wy_X7_isWithin (by decide) rfl, List.forall_mem_cons.mpr ⟨rv_ctS X Y fm_Ts_good dc_X7_yard (pc := 21) (i := 11) (idx := 80) rfl (m_X7_isWithin_1 hAd hZ hGd) wl_X7_80 wm_X7_isWithin wy_X7_isWithin (by decide) rfl, fun _ h => absurd h List.not_mem_nil⟩⟩⟩) (fun _ _ _ _ _ _ _ _ _ _ _ _ _ _ _ _ h => absurd h List.not_mem_nil)
def K_X7_isWithin_2 : rv_K := ([rv_full, rv_i 0 0, rv_i 99 99], [], [], [(0, 0, 1)], [(.inl 0, 0, 99)], [])
def ct_X7_isWithin_2 : List (Nat × rv_K) := []
def n_X7_isWithin_2 : List rv_N := [
  (0, ([rv_full, rv_i 0 0, rv_i 99 99], [], []), [1], 8, [], []),
  (1, ([rv_full, rv_i 0 0, rv_i 99 99], [(1, 0, (-2147483648), 2147483647, [(.inl 0, 0)], [])], []), [2], 7, [], []),
  (2, ([rv_full, rv_i 0 0, rv_i 99 99], [(1, 0, 0, 0, [(.inl 1, 0)], []), (1, 0, (-2147483648), 2147483647, [(.inl 0, 0)], [])], []), [3, 8], 6, [], []),
  (3, ([rv_i 0 2147483647, rv_i 0 0, rv_i 99 99], [], []), [4], 5, [], []),
  (4, ([rv_i 0 2147483647, rv_i 0 0, rv_i 99 99], [(1, 0, 0, 2147483647, [(.inl 0, 0)], [])], []), [5], 4, [], []),
  (5, ([rv_i 0 2147483647, rv_i 0 0, rv_i 99 99], [(1, 0, 99, 99, [(.inl 2, 0)], []), (1, 0, 0, 2147483647, [(.inl 0, 0)], [])], []), [6, 8], 3, [], []),
  (6, ([rv_i 0 99, rv_i 0 0, rv_i 99 99], [], []), [7], 2, [], []),
  (7, ([rv_i 0 99, rv_i 0 0, rv_i 99 99], [rv_i 1 1], []), [10], 1, [], []),
  (8, ([rv_full, rv_i 0 0, rv_i 99 99], [], []), [9], 1, [], []),
  (9, ([rv_full, rv_i 0 0, rv_i 99 99], [rv_i 0 0], []), [], 0, [], []),
  (9, ([rv_i 0 99, rv_i 0 0, rv_i 99 99], [rv_i 1 1], []), [], 0, [], [])]
set_option maxRecDepth 100000 in
theorem a_X7_isWithin_2 : rv_all (fm_tm, flX7, fm_wr, kcX7, klX7, K_X7_isWithin_2.2.2.1, [0, 1, 2], 3) ct_X7_isWithin_2 cd_X7_isWithin n_X7_isWithin_2 K_X7_isWithin_2 [] 0 n_X7_isWithin_2 = true := rv_fast (rv_at_eq n_X7_isWithin_2) (rv_at_eq cd_X7_isWithin) (by decide +kernel)
theorem m_X7_isWithin_2 {l : Launch} {D : va_G} {ad : Nat → Nat} {cy : Nat → ClassId} {Z : State → Heap → Prop} {Gp : fm_V → Prop} (hAd : fm_Ad fm_tm ad) (hZ : fm_Zk (fm_A fm_tm ad) Z) (hGd : fm_Gd Gp) : rv_Met l D fm_cl fm_tm ad cy fm_nt Z Gp yX7_isWithin (.code yX7_isWithin prog_1_method_34_code 3 (some .boolean) :: fm_Ts) { frames := 0, cells := 0, slots := 0, locals := 0 } K_X7_isWithin_2 := rv_met hAd hZ (Or.inl (by decide +kernel)) evX7 dc_X7_isWithin a_X7_isWithin_2 ⟨rfl, rfl, rfl⟩ (by decide +kernel) (by decide +kernel) (by decide) (fm_gm hGd (by decide +kernel)) (Or.inr ⟨rfl, by decide, by decide⟩) (fun p e s m args below meth c Q X Y => fun _ h => absurd h List.not_mem_nil) (fun _ _ _ _ _ _ _ _ _ _ _ _ _ _ _ _ h => absurd h List.not_mem_nil)
def K_X7_isWithin_3 : rv_K := ([rv_full, rv_i 0 0, rv_i 9 9], [], [], [(0, 0, 1)], [(.inl 0, 0, 9)], [])
def ct_X7_isWithin_3 : List (Nat × rv_K) := []
def n_X7_isWithin_3 : List rv_N := [
  (0, ([rv_full, rv_i 0 0, rv_i 9 9], [], []), [1], 8, [], []),
  (1, ([rv_full, rv_i 0 0, rv_i 9 9], [(1, 0, (-2147483648), 2147483647, [(.inl 0, 0)], [])], []), [2], 7, [], []),
  (2, ([rv_full, rv_i 0 0, rv_i 9 9], [(1, 0, 0, 0, [(.inl 1, 0)], []), (1, 0, (-2147483648), 2147483647, [(.inl 0, 0)], [])], []), [3, 8], 6, [], []),
  (3, ([rv_i 0 2147483647, rv_i 0 0, rv_i 9 9], [], []), [4], 5, [], []),
  (4, ([rv_i 0 2147483647, rv_i 0 0, rv_i 9 9], [(1, 0, 0, 2147483647, [(.inl 0, 0)], [])], []), [5], 4, [], []),
  (5, ([rv_i 0 2147483647, rv_i 0 0, rv_i 9 9], [(1, 0, 9, 9, [(.inl 2, 0)], []), (1, 0, 0, 2147483647, [(.inl 0, 0)], [])], []), [6, 8], 3, [], []),
  (6, ([rv_i 0 9, rv_i 0 0, rv_i 9 9], [], []), [7], 2, [], []),
  (7, ([rv_i 0 9, rv_i 0 0, rv_i 9 9], [rv_i 1 1], []), [10], 1, [], []),
  (8, ([rv_full, rv_i 0 0, rv_i 9 9], [], []), [9], 1, [], []),
  (9, ([rv_full, rv_i 0 0, rv_i 9 9], [rv_i 0 0], []), [], 0, [], []),
  (9, ([rv_i 0 9, rv_i 0 0, rv_i 9 9], [rv_i 1 1], []), [], 0, [], [])]
set_option maxRecDepth 100000 in
theorem a_X7_isWithin_3 : rv_all (fm_tm, flX7, fm_wr, kcX7, klX7, K_X7_isWithin_3.2.2.1, [0, 1, 2], 3) ct_X7_isWithin_3 cd_X7_isWithin n_X7_isWithin_3 K_X7_isWithin_3 [] 0 n_X7_isWithin_3 = true := rv_fast (rv_at_eq n_X7_isWithin_3) (rv_at_eq cd_X7_isWithin) (by decide +kernel)
theorem m_X7_isWithin_3 {l : Launch} {D : va_G} {ad : Nat → Nat} {cy : Nat → ClassId} {Z : State → Heap → Prop} {Gp : fm_V → Prop} (hAd : fm_Ad fm_tm ad) (hZ : fm_Zk (fm_A fm_tm ad) Z) (hGd : fm_Gd Gp) : rv_Met l D fm_cl fm_tm ad cy fm_nt Z Gp yX7_isWithin (.code yX7_isWithin prog_1_method_34_code 3 (some .boolean) :: fm_Ts) { frames := 0, cells := 0, slots := 0, locals := 0 } K_X7_isWithin_3 := rv_met hAd hZ (Or.inl (by decide +kernel)) evX7 dc_X7_isWithin a_X7_isWithin_3 ⟨rfl, rfl, rfl⟩ (by decide +kernel) (by decide +kernel) (by decide) (fm_gm hGd (by decide +kernel)) (Or.inr ⟨rfl, by decide, by decide⟩) (fun p e s m args below meth c Q X Y => fun _ h => absurd h List.not_mem_nil) (fun _ _ _ _ _ _ _ _ _ _ _ _ _ _ _ _ h => absurd h List.not_mem_nil)
def cd_X7_rain : List (Nat × Instr × Nat) := [(0, .iload_n 1, 1), (1, .iconst 0, 1), (2, .bipush 99, 2), (4, .invokestatic 80, 3), (7, .ifCond .eq 13, 3), (10, .iload_n 2, 1), (11, .iconst 0, 1), (12, .bipush 9, 2), (14, .invokestatic 80, 3), (17, .ifCond .ne 5, 3), (20, .iconst 0, 1), (21, .ireturn, 1), (22, .aload_n 0, 1), (23, .getfield 38, 3), (26, .getfield 93, 3), (29, .iload_n 1, 1), (30, .iload_n 2, 1), (31, .iastore, 1), (32, .iconst 1, 1), (33, .ireturn, 1)]
theorem dc_X7_rain : ∀ q ∈ cd_X7_rain, decode prog_1_method_3_code q.1 = .ok (q.2.1, q.2.2) := by decide +kernel
def K_X7_rain_0 : rv_K := ([rv_r 0, rv_full, rv_full], [], [(33, 9999)], [(0, 0, 1)], [(.inl 1, 0, 99), (.inl 2, 0, 9)], [])
def ct_X7_rain_0 : List (Nat × rv_K) := [(3, K_X7_isWithin_2), (8, K_X7_isWithin_3)]
def n_X7_rain_0_0 : List rv_N := [
  (0, ([rv_r 0, rv_full, rv_full], [], []), [1], 17, [], []),
  (1, ([rv_r 0, rv_full, rv_full], [(1, 0, (-2147483648), 2147483647, [(.inl 1, 0)], [])], []), [2], 16, [], []),
  (2, ([rv_r 0, rv_full, rv_full], [rv_i 0 0, (1, 0, (-2147483648), 2147483647, [(.inl 1, 0)], [])], []), [3], 15, [], []),
  (3, ([rv_r 0, rv_full, rv_full], [rv_i 99 99, rv_i 0 0, (1, 0, (-2147483648), 2147483647, [(.inl 1, 0)], [])], []), [4], 14, [], [0]),
  (4, ([rv_r 0, rv_full, rv_full], [(1, 0, 0, 1, [], [(.inl 1, 0, 99)])], []), [5, 10], 13, [], []),
  (5, ([rv_r 0, rv_i 0 99, rv_full], [], []), [6], 12, [], []),
  (6, ([rv_r 0, rv_i 0 99, rv_full], [(1, 0, (-2147483648), 2147483647, [(.inl 2, 0)], [])], []), [7], 11, [], []),
  (7, ([rv_r 0, rv_i 0 99, rv_full], [rv_i 0 0, (1, 0, (-2147483648), 2147483647, [(.inl 2, 0)], [])], []), [8], 10, [], []),
  (8, ([rv_r 0, rv_i 0 99, rv_full], [rv_i 9 9, rv_i 0 0, (1, 0, (-2147483648), 2147483647, [(.inl 2, 0)], [])], []), [9], 9, [], [1]),
  (9, ([rv_r 0, rv_i 0 99, rv_full], [(1, 0, 0, 1, [], [(.inl 2, 0, 9)])], []), [10, 12], 8, [], []),
  (10, ([rv_r 0, rv_full, rv_full], [], []), [11], 1, [], []),
  (11, ([rv_r 0, rv_full, rv_full], [rv_i 0 0], []), [], 0, [], []),
  (12, ([rv_r 0, rv_i 0 99, rv_i 0 9], [], []), [13], 7, [], []),
  (13, ([rv_r 0, rv_i 0 99, rv_i 0 9], [rv_r 0], []), [14], 6, [], []),
  (14, ([rv_r 0, rv_i 0 99, rv_i 0 9], [rv_r 26], []), [15], 5, [], []),
  (15, ([rv_r 0, rv_i 0 99, rv_i 0 9], [rv_r 33], []), [16], 4, [], [])]
def n_X7_rain_0_1 : List rv_N := [
  (16, ([rv_r 0, rv_i 0 99, rv_i 0 9], [(1, 0, 0, 99, [(.inl 1, 0)], []), rv_r 33], []), [17], 3, [], []),
  (17, ([rv_r 0, rv_i 0 99, rv_i 0 9], [(1, 0, 0, 9, [(.inl 2, 0)], []), (1, 0, 0, 99, [(.inl 1, 0)], []), rv_r 33], []), [18], 2, [], []),
  (18, ([rv_r 0, rv_i 0 99, rv_i 0 9], [], []), [19], 1, [], []),
  (19, ([rv_r 0, rv_i 0 99, rv_i 0 9], [rv_i 1 1], []), [], 0, [], [])]
def n_X7_rain_0 : List rv_N := n_X7_rain_0_0 ++ (n_X7_rain_0_1)
noncomputable def gn_X7_rain_0 : Nat → Option rv_N := rv_ap 16 (rv_at n_X7_rain_0_0) (rv_at n_X7_rain_0_1)
theorem hn_X7_rain_0 : ∀ i : Nat, n_X7_rain_0[i]? = gn_X7_rain_0 i := rv_ap_eq (l := n_X7_rain_0_0) (c := 16) (rv_at_eq n_X7_rain_0_1) rfl
set_option maxRecDepth 100000 in
theorem a_X7_rain_0 : rv_all (fm_tm, flX7, fm_wr, kcX7, klX7, K_X7_rain_0.2.2.1, [1, 2], 3) ct_X7_rain_0 cd_X7_rain n_X7_rain_0 K_X7_rain_0 [] 0 n_X7_rain_0 = true := rv_fast hn_X7_rain_0 (rv_at_eq cd_X7_rain) (by decide +kernel)
theorem m_X7_rain_0 {l : Launch} {D : va_G} {ad : Nat → Nat} {cy : Nat → ClassId} {Z : State → Heap → Prop} {Gp : fm_V → Prop} (hAd : fm_Ad fm_tm ad) (hZ : fm_Zk (fm_A fm_tm ad) Z) (hGd : fm_Gd Gp) : rv_Met l D fm_cl fm_tm ad cy fm_nt Z Gp yX7_rain (.code yX7_rain prog_1_method_3_code 3 (some .boolean) :: fm_Ts) { frames := 1, cells := 0, slots := 0, locals := 100 } K_X7_rain_0 := rv_met hAd hZ (Or.inl (by decide +kernel)) evX7 dc_X7_rain a_X7_rain_0 ⟨rfl, rfl, rfl⟩ (by decide +kernel) (by decide +kernel) (by decide) (fm_gm hGd (by decide +kernel)) (Or.inr ⟨rfl, by decide, by decide⟩) (fun p e s m args below meth c Q X Y => List.forall_mem_cons.mpr ⟨rv_ctS X Y fm_Ts_good dc_X7_rain (pc := 4) (i := 3) (idx := 80) rfl (m_X7_isWithin_2 hAd hZ hGd) wl_X7_80 wm_X7_isWithin wy_X7_isWithin (by decide) rfl, List.forall_mem_cons.mpr ⟨rv_ctS X Y fm_Ts_good dc_X7_rain (pc := 14) (i := 8) (idx := 80) rfl (m_X7_isWithin_3 hAd hZ hGd) wl_X7_80 wm_X7_isWithin wy_X7_isWithin (by decide) rfl, fun _ h => absurd h List.not_mem_nil⟩⟩) (fun _ _ _ _ _ _ _ _ _ _ _ _ _ _ _ _ h => absurd h List.not_mem_nil)
def cd_X7_isPorter : List (Nat × Instr × Nat) := [(0, .iload_n 0, 1), (1, .ifCond .lt 13, 3), (4, .iload_n 0, 1), (5, .bipush 9, 2), (7, .if_icmp .ge 7, 3), (10, .iconst 1, 1), (11, .goto 4, 3), (14, .iconst 0, 1), (15, .ireturn, 1)]
theorem dc_X7_isPorter : ∀ q ∈ cd_X7_isPorter, decode prog_1_method_36_code q.1 = .ok (q.2.1, q.2.2) := by decide +kernel
def K_X7_isPorter_0 : rv_K := ([rv_full], [], [], [(0, 0, 1)], [(.inl 0, 0, 8)], [])
def ct_X7_isPorter_0 : List (Nat × rv_K) := []
def n_X7_isPorter_0 : List rv_N := [
  (0, ([rv_full], [], []), [1], 7, [], []),
  (1, ([rv_full], [(1, 0, (-2147483648), 2147483647, [(.inl 0, 0)], [])], []), [2, 7], 6, [], []),
  (2, ([rv_i 0 2147483647], [], []), [3], 5, [], []),
  (3, ([rv_i 0 2147483647], [(1, 0, 0, 2147483647, [(.inl 0, 0)], [])], []), [4], 4, [], []),
  (4, ([rv_i 0 2147483647], [rv_i 9 9, (1, 0, 0, 2147483647, [(.inl 0, 0)], [])], []), [5, 7], 3, [], []),
  (5, ([rv_i 0 8], [], []), [6], 2, [], []),
  (6, ([rv_i 0 8], [rv_i 1 1], []), [9], 1, [], []),
  (7, ([rv_full], [], []), [8], 1, [], []),
  (8, ([rv_full], [rv_i 0 0], []), [], 0, [], []),
  (8, ([rv_i 0 8], [rv_i 1 1], []), [], 0, [], [])]
set_option maxRecDepth 100000 in
theorem a_X7_isPorter_0 : rv_all (fm_tm, flX7, fm_wr, kcX7, klX7, K_X7_isPorter_0.2.2.1, [0], 1) ct_X7_isPorter_0 cd_X7_isPorter n_X7_isPorter_0 K_X7_isPorter_0 [] 0 n_X7_isPorter_0 = true := rv_fast (rv_at_eq n_X7_isPorter_0) (rv_at_eq cd_X7_isPorter) (by decide +kernel)
theorem m_X7_isPorter_0 {l : Launch} {D : va_G} {ad : Nat → Nat} {cy : Nat → ClassId} {Z : State → Heap → Prop} {Gp : fm_V → Prop} (hAd : fm_Ad fm_tm ad) (hZ : fm_Zk (fm_A fm_tm ad) Z) (hGd : fm_Gd Gp) : rv_Met l D fm_cl fm_tm ad cy fm_nt Z Gp yX7_isPorter (.code yX7_isPorter prog_1_method_36_code 1 (some .boolean) :: fm_Ts) { frames := 0, cells := 0, slots := 0, locals := 0 } K_X7_isPorter_0 := rv_met hAd hZ (Or.inl (by decide +kernel)) evX7 dc_X7_isPorter a_X7_isPorter_0 ⟨rfl, rfl, rfl⟩ (by decide +kernel) (by decide +kernel) (by decide) (fm_gm hGd (by decide +kernel)) (Or.inr ⟨rfl, by decide, by decide⟩) (fun p e s m args below meth c Q X Y => fun _ h => absurd h List.not_mem_nil) (fun _ _ _ _ _ _ _ _ _ _ _ _ _ _ _ _ h => absurd h List.not_mem_nil)
def K_X7_isWithin_4 : rv_K := ([rv_full, rv_i 0 0, rv_i 9999 9999], [], [], [(0, 0, 1)], [(.inl 0, 0, 9999)], [])
def ct_X7_isWithin_4 : List (Nat × rv_K) := []
def n_X7_isWithin_4 : List rv_N := [
  (0, ([rv_full, rv_i 0 0, rv_i 9999 9999], [], []), [1], 8, [], []),
  (1, ([rv_full, rv_i 0 0, rv_i 9999 9999], [(1, 0, (-2147483648), 2147483647, [(.inl 0, 0)], [])], []), [2], 7, [], []),
  (2, ([rv_full, rv_i 0 0, rv_i 9999 9999], [(1, 0, 0, 0, [(.inl 1, 0)], []), (1, 0, (-2147483648), 2147483647, [(.inl 0, 0)], [])], []), [3, 8], 6, [], []),
  (3, ([rv_i 0 2147483647, rv_i 0 0, rv_i 9999 9999], [], []), [4], 5, [], []),
  (4, ([rv_i 0 2147483647, rv_i 0 0, rv_i 9999 9999], [(1, 0, 0, 2147483647, [(.inl 0, 0)], [])], []), [5], 4, [], []),
  (5, ([rv_i 0 2147483647, rv_i 0 0, rv_i 9999 9999], [(1, 0, 9999, 9999, [(.inl 2, 0)], []), (1, 0, 0, 2147483647, [(.inl 0, 0)], [])], []), [6, 8], 3, [], []),
  (6, ([rv_i 0 9999, rv_i 0 0, rv_i 9999 9999], [], []), [7], 2, [], []),
  (7, ([rv_i 0 9999, rv_i 0 0, rv_i 9999 9999], [rv_i 1 1], []), [10], 1, [], []),
  (8, ([rv_full, rv_i 0 0, rv_i 9999 9999], [], []), [9], 1, [], []),
  (9, ([rv_full, rv_i 0 0, rv_i 9999 9999], [rv_i 0 0], []), [], 0, [], []),
  (9, ([rv_i 0 9999, rv_i 0 0, rv_i 9999 9999], [rv_i 1 1], []), [], 0, [], [])]
set_option maxRecDepth 100000 in
theorem a_X7_isWithin_4 : rv_all (fm_tm, flX7, fm_wr, kcX7, klX7, K_X7_isWithin_4.2.2.1, [0, 1, 2], 3) ct_X7_isWithin_4 cd_X7_isWithin n_X7_isWithin_4 K_X7_isWithin_4 [] 0 n_X7_isWithin_4 = true := rv_fast (rv_at_eq n_X7_isWithin_4) (rv_at_eq cd_X7_isWithin) (by decide +kernel)
theorem m_X7_isWithin_4 {l : Launch} {D : va_G} {ad : Nat → Nat} {cy : Nat → ClassId} {Z : State → Heap → Prop} {Gp : fm_V → Prop} (hAd : fm_Ad fm_tm ad) (hZ : fm_Zk (fm_A fm_tm ad) Z) (hGd : fm_Gd Gp) : rv_Met l D fm_cl fm_tm ad cy fm_nt Z Gp yX7_isWithin (.code yX7_isWithin prog_1_method_34_code 3 (some .boolean) :: fm_Ts) { frames := 0, cells := 0, slots := 0, locals := 0 } K_X7_isWithin_4 := rv_met hAd hZ (Or.inl (by decide +kernel)) evX7 dc_X7_isWithin a_X7_isWithin_4 ⟨rfl, rfl, rfl⟩ (by decide +kernel) (by decide +kernel) (by decide) (fm_gm hGd (by decide +kernel)) (Or.inr ⟨rfl, by decide, by decide⟩) (fun p e s m args below meth c Q X Y => fun _ h => absurd h List.not_mem_nil) (fun _ _ _ _ _ _ _ _ _ _ _ _ _ _ _ _ h => absurd h List.not_mem_nil)
def cd_X7_porter : List (Nat × Instr × Nat) := [(0, .iload_n 1, 1), (1, .invokestatic 96, 3), (4, .ifCond .eq 21, 3), (7, .iload_n 2, 1), (8, .invokestatic 75, 3), (11, .ifCond .eq 14, 3), (14, .iload_n 3, 1), (15, .iconst 0, 1), (16, .sipush 9999, 3), (19, .invokestatic 80, 3), (22, .ifCond .ne 5, 3), (25, .iconst 0, 1), (26, .ireturn, 1), (27, .iload 4, 2), (29, .iconst 0, 1), (30, .bipush 9, 2), (32, .invokestatic 80, 3), (35, .ifCond .eq 14, 3), (38, .iload 5, 2), (40, .iconst 0, 1), (41, .bipush 9, 2), (43, .invokestatic 80, 3), (46, .ifCond .ne 5, 3), (49, .iconst 0, 1), (50, .ireturn, 1), (51, .aload_n 0, 1), (52, .getfield 38, 3), (55, .getfield 99, 3), (58, .dup, 1), (59, .getfield 103, 3), (62, .iconst 1, 1), (63, .iload_n 1, 1), (64, .ishl, 1), (65, .ior, 1), (66, .putfield 103, 3), (69, .aload_n 0, 1), (70, .getfield 38, 3), (73, .getfield 99, 3), (76, .getfield 109, 3), (79, .iload_n 1, 1), (80, .iload_n 2, 1), (81, .iastore, 1), (82, .aload_n 0, 1), (83, .getfield 38, 3), (86, .getfield 99, 3), (89, .getfield 112, 3), (92, .iload_n 1, 1), (93, .iload_n 3, 1), (94, .iastore, 1), (95, .aload_n 0, 1), (96, .getfield 38, 3), (99, .getfield 99, 3), (102, .getfield 115, 3), (105, .iload_n 1, 1), (106, .iload 4, 2), (108, .iastore, 1), (109, .aload_n 0, 1), (110, .getfield 38, 3), (113, .getfield 99, 3), (116, .getfield 118, 3), (119, .iload_n 1, 1), (120, .iload 5, 2), (122, .iastore, 1), (123, .iconst 1, 1), (124, .ireturn, 1)]
theorem dc_X7_porter : ∀ q ∈ cd_X7_porter, decode prog_1_method_4_code q.1 = .ok (q.2.1, q.2.2) := by decide +kernel
def ch_X7_porter_0 : List (Nat × Instr × Nat) := [(0, .iload_n 1, 1), (1, .invokestatic 96, 3), (4, .ifCond .eq 21, 3), (7, .iload_n 2, 1), (8, .invokestatic 75, 3), (11, .ifCond .eq 14, 3), (14, .iload_n 3, 1), (15, .iconst 0, 1), (16, .sipush 9999, 3), (19, .invokestatic 80, 3), (22, .ifCond .ne 5, 3), (25, .iconst 0, 1), (26, .ireturn, 1), (27, .iload 4, 2), (29, .iconst 0, 1), (30, .bipush 9, 2)]
def ch_X7_porter_1 : List (Nat × Instr × Nat) := [(32, .invokestatic 80, 3), (35, .ifCond .eq 14, 3), (38, .iload 5, 2), (40, .iconst 0, 1), (41, .bipush 9, 2), (43, .invokestatic 80, 3), (46, .ifCond .ne 5, 3), (49, .iconst 0, 1), (50, .ireturn, 1), (51, .aload_n 0, 1), (52, .getfield 38, 3), (55, .getfield 99, 3), (58, .dup, 1), (59, .getfield 103, 3), (62, .iconst 1, 1), (63, .iload_n 1, 1)]
def ch_X7_porter_2 : List (Nat × Instr × Nat) := [(64, .ishl, 1), (65, .ior, 1), (66, .putfield 103, 3), (69, .aload_n 0, 1), (70, .getfield 38, 3), (73, .getfield 99, 3), (76, .getfield 109, 3), (79, .iload_n 1, 1), (80, .iload_n 2, 1), (81, .iastore, 1), (82, .aload_n 0, 1), (83, .getfield 38, 3), (86, .getfield 99, 3), (89, .getfield 112, 3), (92, .iload_n 1, 1), (93, .iload_n 3, 1)]
def ch_X7_porter_3 : List (Nat × Instr × Nat) := [(94, .iastore, 1), (95, .aload_n 0, 1), (96, .getfield 38, 3), (99, .getfield 99, 3), (102, .getfield 115, 3), (105, .iload_n 1, 1), (106, .iload 4, 2), (108, .iastore, 1), (109, .aload_n 0, 1), (110, .getfield 38, 3), (113, .getfield 99, 3), (116, .getfield 118, 3), (119, .iload_n 1, 1), (120, .iload 5, 2), (122, .iastore, 1), (123, .iconst 1, 1)]
def ch_X7_porter_4 : List (Nat × Instr × Nat) := [(124, .ireturn, 1)]
set_option maxRecDepth 100000 in
theorem he_X7_porter : cd_X7_porter = ch_X7_porter_0 ++ (ch_X7_porter_1 ++ (ch_X7_porter_2 ++ (ch_X7_porter_3 ++ (ch_X7_porter_4)))) := rfl
noncomputable def gc_X7_porter : Nat → Option (Nat × Instr × Nat) := rv_ap 16 (rv_at ch_X7_porter_0) (rv_ap 16 (rv_at ch_X7_porter_1) (rv_ap 16 (rv_at ch_X7_porter_2) (rv_ap 16 (rv_at ch_X7_porter_3) (rv_at ch_X7_porter_4))))
theorem hc_X7_porter : ∀ i : Nat, cd_X7_porter[i]? = gc_X7_porter i := by
  rw [he_X7_porter]
  exact rv_ap_eq (l := ch_X7_porter_0) (c := 16) (rv_ap_eq (l := ch_X7_porter_1) (c := 16) (rv_ap_eq (l := ch_X7_porter_2) (c := 16) (rv_ap_eq (l := ch_X7_porter_3) (c := 16) (rv_at_eq ch_X7_porter_4) rfl) rfl) rfl) rfl
def K_X7_porter_0 : rv_K := ([rv_r 0, rv_full, rv_full, rv_full, rv_full, rv_full], [], [(36, 0), (37, 9999), (38, 9999), (39, 9999), (40, 9999)], [(0, 0, 1)], [(.inl 1, 0, 8), (.inl 2, 0, 19), (.inl 3, 0, 9999), (.inl 4, 0, 9), (.inl 5, 0, 9)], [])
def ct_X7_porter_0 : List (Nat × rv_K) := [(1, K_X7_isPorter_0), (4, K_X7_isYard_0), (9, K_X7_isWithin_4), (16, K_X7_isWithin_3), (21, K_X7_isWithin_3)]
def n_X7_porter_0_0 : List rv_N := [
  (0, ([rv_r 0, rv_full, rv_full, rv_full, rv_full, rv_full], [], []), [1], 60, [], []),
  (1, ([rv_r 0, rv_full, rv_full, rv_full, rv_full, rv_full], [(1, 0, (-2147483648), 2147483647, [(.inl 1, 0)], [])], []), [2], 59, [], [0]),
  (2, ([rv_r 0, rv_full, rv_full, rv_full, rv_full, rv_full], [(1, 0, 0, 1, [], [(.inl 1, 0, 8)])], []), [3, 11], 58, [], []),
  (3, ([rv_r 0, rv_i 0 8, rv_full, rv_full, rv_full, rv_full], [], []), [4], 57, [], []),
  (4, ([rv_r 0, rv_i 0 8, rv_full, rv_full, rv_full, rv_full], [(1, 0, (-2147483648), 2147483647, [(.inl 2, 0)], [])], []), [5], 56, [], [1]),
  (5, ([rv_r 0, rv_i 0 8, rv_full, rv_full, rv_full, rv_full], [(1, 0, 0, 1, [], [(.inl 2, 0, 19)])], []), [6, 11], 55, [], []),
  (6, ([rv_r 0, rv_i 0 8, rv_i 0 19, rv_full, rv_full, rv_full], [], []), [7], 54, [], []),
  (7, ([rv_r 0, rv_i 0 8, rv_i 0 19, rv_full, rv_full, rv_full], [(1, 0, (-2147483648), 2147483647, [(.inl 3, 0)], [])], []), [8], 53, [], []),
  (8, ([rv_r 0, rv_i 0 8, rv_i 0 19, rv_full, rv_full, rv_full], [rv_i 0 0, (1, 0, (-2147483648), 2147483647, [(.inl 3, 0)], [])], []), [9], 52, [], []),
  (9, ([rv_r 0, rv_i 0 8, rv_i 0 19, rv_full, rv_full, rv_full], [rv_i 9999 9999, rv_i 0 0, (1, 0, (-2147483648), 2147483647, [(.inl 3, 0)], [])], []), [10], 51, [], [2]),
  (10, ([rv_r 0, rv_i 0 8, rv_i 0 19, rv_full, rv_full, rv_full], [(1, 0, 0, 1, [], [(.inl 3, 0, 9999)])], []), [11, 13], 50, [], []),
  (11, ([rv_r 0, rv_full, rv_full, rv_full, rv_full, rv_full], [], []), [12], 1, [], []),
  (12, ([rv_r 0, rv_full, rv_full, rv_full, rv_full, rv_full], [rv_i 0 0], []), [], 0, [], []),
  (13, ([rv_r 0, rv_i 0 8, rv_i 0 19, rv_i 0 9999, rv_full, rv_full], [], []), [14], 49, [], []),
  (14, ([rv_r 0, rv_i 0 8, rv_i 0 19, rv_i 0 9999, rv_full, rv_full], [(1, 0, (-2147483648), 2147483647, [(.inl 4, 0)], [])], []), [15], 48, [], []),
  (15, ([rv_r 0, rv_i 0 8, rv_i 0 19, rv_i 0 9999, rv_full, rv_full], [rv_i 0 0, (1, 0, (-2147483648), 2147483647, [(.inl 4, 0)], [])], []), [16], 47, [], [])]
def n_X7_porter_0_1 : List rv_N := [
  (16, ([rv_r 0, rv_i 0 8, rv_i 0 19, rv_i 0 9999, rv_full, rv_full], [rv_i 9 9, rv_i 0 0, (1, 0, (-2147483648), 2147483647, [(.inl 4, 0)], [])], []), [17], 46, [], [3]),
  (17, ([rv_r 0, rv_i 0 8, rv_i 0 19, rv_i 0 9999, rv_full, rv_full], [(1, 0, 0, 1, [], [(.inl 4, 0, 9)])], []), [18, 23], 45, [], []),
  (18, ([rv_r 0, rv_i 0 8, rv_i 0 19, rv_i 0 9999, rv_i 0 9, rv_full], [], []), [19], 44, [], []),
  (19, ([rv_r 0, rv_i 0 8, rv_i 0 19, rv_i 0 9999, rv_i 0 9, rv_full], [(1, 0, (-2147483648), 2147483647, [(.inl 5, 0)], [])], []), [20], 43, [], []),
  (20, ([rv_r 0, rv_i 0 8, rv_i 0 19, rv_i 0 9999, rv_i 0 9, rv_full], [rv_i 0 0, (1, 0, (-2147483648), 2147483647, [(.inl 5, 0)], [])], []), [21], 42, [], []),
  (21, ([rv_r 0, rv_i 0 8, rv_i 0 19, rv_i 0 9999, rv_i 0 9, rv_full], [rv_i 9 9, rv_i 0 0, (1, 0, (-2147483648), 2147483647, [(.inl 5, 0)], [])], []), [22], 41, [], [4]),
  (22, ([rv_r 0, rv_i 0 8, rv_i 0 19, rv_i 0 9999, rv_i 0 9, rv_full], [(1, 0, 0, 1, [], [(.inl 5, 0, 9)])], []), [23, 25], 40, [], []),
  (23, ([rv_r 0, rv_i 0 8, rv_i 0 19, rv_i 0 9999, rv_full, rv_full], [], []), [24], 1, [], []),
  (24, ([rv_r 0, rv_i 0 8, rv_i 0 19, rv_i 0 9999, rv_full, rv_full], [rv_i 0 0], []), [], 0, [], []),
  (25, ([rv_r 0, rv_i 0 8, rv_i 0 19, rv_i 0 9999, rv_i 0 9, rv_i 0 9], [], []), [26], 39, [], []),
  (26, ([rv_r 0, rv_i 0 8, rv_i 0 19, rv_i 0 9999, rv_i 0 9, rv_i 0 9], [rv_r 0], []), [27], 38, [], []),
  (27, ([rv_r 0, rv_i 0 8, rv_i 0 19, rv_i 0 9999, rv_i 0 9, rv_i 0 9], [rv_r 26], []), [28], 37, [], []),
  (28, ([rv_r 0, rv_i 0 8, rv_i 0 19, rv_i 0 9999, rv_i 0 9, rv_i 0 9], [rv_r 36], []), [29], 36, [], []),
  (29, ([rv_r 0, rv_i 0 8, rv_i 0 19, rv_i 0 9999, rv_i 0 9, rv_i 0 9], [rv_r 36, rv_r 36], []), [30], 35, [], []),
  (30, ([rv_r 0, rv_i 0 8, rv_i 0 19, rv_i 0 9999, rv_i 0 9, rv_i 0 9], [(1, 0, (-2147483648), 2147483647, [(.inr (36, 0), 0)], []), rv_r 36], []), [31], 34, [], []),
  (31, ([rv_r 0, rv_i 0 8, rv_i 0 19, rv_i 0 9999, rv_i 0 9, rv_i 0 9], [rv_i 1 1, (1, 0, (-2147483648), 2147483647, [(.inr (36, 0), 0)], []), rv_r 36], []), [32], 33, [], [])]
def n_X7_porter_0_2 : List rv_N := [
  (32, ([rv_r 0, rv_i 0 8, rv_i 0 19, rv_i 0 9999, rv_i 0 9, rv_i 0 9], [(1, 0, 0, 8, [(.inl 1, 0)], []), rv_i 1 1, (1, 0, (-2147483648), 2147483647, [(.inr (36, 0), 0)], []), rv_r 36], []), [33], 32, [], []),
  (33, ([rv_r 0, rv_i 0 8, rv_i 0 19, rv_i 0 9999, rv_i 0 9, rv_i 0 9], [rv_full, (1, 0, (-2147483648), 2147483647, [(.inr (36, 0), 0)], []), rv_r 36], []), [34], 31, [], []),
  (34, ([rv_r 0, rv_i 0 8, rv_i 0 19, rv_i 0 9999, rv_i 0 9, rv_i 0 9], [rv_full, rv_r 36], []), [35], 30, [], []),
  (35, ([rv_r 0, rv_i 0 8, rv_i 0 19, rv_i 0 9999, rv_i 0 9, rv_i 0 9], [], []), [36], 29, [], []),
  (36, ([rv_r 0, rv_i 0 8, rv_i 0 19, rv_i 0 9999, rv_i 0 9, rv_i 0 9], [rv_r 0], []), [37], 28, [], []),
  (37, ([rv_r 0, rv_i 0 8, rv_i 0 19, rv_i 0 9999, rv_i 0 9, rv_i 0 9], [rv_r 26], []), [38], 27, [], []),
  (38, ([rv_r 0, rv_i 0 8, rv_i 0 19, rv_i 0 9999, rv_i 0 9, rv_i 0 9], [rv_r 36], []), [39], 26, [], []),
  (39, ([rv_r 0, rv_i 0 8, rv_i 0 19, rv_i 0 9999, rv_i 0 9, rv_i 0 9], [rv_r 37], []), [40], 25, [], []),
  (40, ([rv_r 0, rv_i 0 8, rv_i 0 19, rv_i 0 9999, rv_i 0 9, rv_i 0 9], [(1, 0, 0, 8, [(.inl 1, 0)], []), rv_r 37], []), [41], 24, [], []),
  (41, ([rv_r 0, rv_i 0 8, rv_i 0 19, rv_i 0 9999, rv_i 0 9, rv_i 0 9], [(1, 0, 0, 19, [(.inl 2, 0)], []), (1, 0, 0, 8, [(.inl 1, 0)], []), rv_r 37], []), [42], 23, [], []),
  (42, ([rv_r 0, rv_i 0 8, rv_i 0 19, rv_i 0 9999, rv_i 0 9, rv_i 0 9], [], []), [43], 22, [], []),
  (43, ([rv_r 0, rv_i 0 8, rv_i 0 19, rv_i 0 9999, rv_i 0 9, rv_i 0 9], [rv_r 0], []), [44], 21, [], []),
  (44, ([rv_r 0, rv_i 0 8, rv_i 0 19, rv_i 0 9999, rv_i 0 9, rv_i 0 9], [rv_r 26], []), [45], 20, [], []),
  (45, ([rv_r 0, rv_i 0 8, rv_i 0 19, rv_i 0 9999, rv_i 0 9, rv_i 0 9], [rv_r 36], []), [46], 19, [], []),
  (46, ([rv_r 0, rv_i 0 8, rv_i 0 19, rv_i 0 9999, rv_i 0 9, rv_i 0 9], [rv_r 38], []), [47], 18, [], []),
  (47, ([rv_r 0, rv_i 0 8, rv_i 0 19, rv_i 0 9999, rv_i 0 9, rv_i 0 9], [(1, 0, 0, 8, [(.inl 1, 0)], []), rv_r 38], []), [48], 17, [], [])]
def n_X7_porter_0_3 : List rv_N := [
  (48, ([rv_r 0, rv_i 0 8, rv_i 0 19, rv_i 0 9999, rv_i 0 9, rv_i 0 9], [(1, 0, 0, 9999, [(.inl 3, 0)], []), (1, 0, 0, 8, [(.inl 1, 0)], []), rv_r 38], []), [49], 16, [], []),
  (49, ([rv_r 0, rv_i 0 8, rv_i 0 19, rv_i 0 9999, rv_i 0 9, rv_i 0 9], [], []), [50], 15, [], []),
  (50, ([rv_r 0, rv_i 0 8, rv_i 0 19, rv_i 0 9999, rv_i 0 9, rv_i 0 9], [rv_r 0], []), [51], 14, [], []),
  (51, ([rv_r 0, rv_i 0 8, rv_i 0 19, rv_i 0 9999, rv_i 0 9, rv_i 0 9], [rv_r 26], []), [52], 13, [], []),
  (52, ([rv_r 0, rv_i 0 8, rv_i 0 19, rv_i 0 9999, rv_i 0 9, rv_i 0 9], [rv_r 36], []), [53], 12, [], []),
  (53, ([rv_r 0, rv_i 0 8, rv_i 0 19, rv_i 0 9999, rv_i 0 9, rv_i 0 9], [rv_r 39], []), [54], 11, [], []),
  (54, ([rv_r 0, rv_i 0 8, rv_i 0 19, rv_i 0 9999, rv_i 0 9, rv_i 0 9], [(1, 0, 0, 8, [(.inl 1, 0)], []), rv_r 39], []), [55], 10, [], []),
  (55, ([rv_r 0, rv_i 0 8, rv_i 0 19, rv_i 0 9999, rv_i 0 9, rv_i 0 9], [(1, 0, 0, 9, [(.inl 4, 0)], []), (1, 0, 0, 8, [(.inl 1, 0)], []), rv_r 39], []), [56], 9, [], []),
  (56, ([rv_r 0, rv_i 0 8, rv_i 0 19, rv_i 0 9999, rv_i 0 9, rv_i 0 9], [], []), [57], 8, [], []),
  (57, ([rv_r 0, rv_i 0 8, rv_i 0 19, rv_i 0 9999, rv_i 0 9, rv_i 0 9], [rv_r 0], []), [58], 7, [], []),
  (58, ([rv_r 0, rv_i 0 8, rv_i 0 19, rv_i 0 9999, rv_i 0 9, rv_i 0 9], [rv_r 26], []), [59], 6, [], []),
  (59, ([rv_r 0, rv_i 0 8, rv_i 0 19, rv_i 0 9999, rv_i 0 9, rv_i 0 9], [rv_r 36], []), [60], 5, [], []),
  (60, ([rv_r 0, rv_i 0 8, rv_i 0 19, rv_i 0 9999, rv_i 0 9, rv_i 0 9], [rv_r 40], []), [61], 4, [], []),
  (61, ([rv_r 0, rv_i 0 8, rv_i 0 19, rv_i 0 9999, rv_i 0 9, rv_i 0 9], [(1, 0, 0, 8, [(.inl 1, 0)], []), rv_r 40], []), [62], 3, [], []),
  (62, ([rv_r 0, rv_i 0 8, rv_i 0 19, rv_i 0 9999, rv_i 0 9, rv_i 0 9], [(1, 0, 0, 9, [(.inl 5, 0)], []), (1, 0, 0, 8, [(.inl 1, 0)], []), rv_r 40], []), [63], 2, [], []),
  (63, ([rv_r 0, rv_i 0 8, rv_i 0 19, rv_i 0 9999, rv_i 0 9, rv_i 0 9], [], []), [64], 1, [], [])]
def n_X7_porter_0_4 : List rv_N := [
  (64, ([rv_r 0, rv_i 0 8, rv_i 0 19, rv_i 0 9999, rv_i 0 9, rv_i 0 9], [rv_i 1 1], []), [], 0, [], [])]
def n_X7_porter_0 : List rv_N := n_X7_porter_0_0 ++ (n_X7_porter_0_1 ++ (n_X7_porter_0_2 ++ (n_X7_porter_0_3 ++ (n_X7_porter_0_4))))
noncomputable def gn_X7_porter_0 : Nat → Option rv_N := rv_ap 16 (rv_at n_X7_porter_0_0) (rv_ap 16 (rv_at n_X7_porter_0_1) (rv_ap 16 (rv_at n_X7_porter_0_2) (rv_ap 16 (rv_at n_X7_porter_0_3) (rv_at n_X7_porter_0_4))))
theorem hn_X7_porter_0 : ∀ i : Nat, n_X7_porter_0[i]? = gn_X7_porter_0 i := rv_ap_eq (l := n_X7_porter_0_0) (c := 16) (rv_ap_eq (l := n_X7_porter_0_1) (c := 16) (rv_ap_eq (l := n_X7_porter_0_2) (c := 16) (rv_ap_eq (l := n_X7_porter_0_3) (c := 16) (rv_at_eq n_X7_porter_0_4) rfl) rfl) rfl) rfl
set_option maxRecDepth 100000 in
theorem a_X7_porter_0 : rv_all (fm_tm, flX7, fm_wr, kcX7, klX7, K_X7_porter_0.2.2.1, [1, 2, 3, 4, 5], 6) ct_X7_porter_0 cd_X7_porter n_X7_porter_0 K_X7_porter_0 [] 0 n_X7_porter_0 = true := rv_fast hn_X7_porter_0 hc_X7_porter (by decide +kernel)
theorem m_X7_porter_0 {l : Launch} {D : va_G} {ad : Nat → Nat} {cy : Nat → ClassId} {Z : State → Heap → Prop} {Gp : fm_V → Prop} (hAd : fm_Ad fm_tm ad) (hZ : fm_Zk (fm_A fm_tm ad) Z) (hGd : fm_Gd Gp) : rv_Met l D fm_cl fm_tm ad cy fm_nt Z Gp yX7_porter (.code yX7_porter prog_1_method_4_code 6 (some .boolean) :: fm_Ts) { frames := 1, cells := 0, slots := 0, locals := 100 } K_X7_porter_0 := rv_met hAd hZ (Or.inl (by decide +kernel)) evX7 dc_X7_porter a_X7_porter_0 ⟨rfl, rfl, rfl⟩ (by decide +kernel) (by decide +kernel) (by decide) (fm_gm hGd (by decide +kernel)) (Or.inr ⟨rfl, by decide, by decide⟩) (fun p e s m args below meth c Q X Y => List.forall_mem_cons.mpr ⟨rv_ctS X Y fm_Ts_good dc_X7_porter (pc := 1) (i := 1) (idx := 96) rfl (m_X7_isPorter_0 hAd hZ hGd) wl_X7_96 wm_X7_isPorter wy_X7_isPorter (by decide) rfl, List.forall_mem_cons.mpr ⟨rv_ctS X Y fm_Ts_good dc_X7_porter (pc := 8) (i := 4) (idx := 75) rfl (m_X7_isYard_0 hAd hZ hGd) wl_X7_75 wm_X7_isYard wy_X7_isYard (by decide) rfl, List.forall_mem_cons.mpr ⟨rv_ctS X Y fm_Ts_good dc_X7_porter (pc := 19) (i := 9) (idx := 80) rfl (m_X7_isWithin_4 hAd hZ hGd) wl_X7_80 wm_X7_isWithin wy_X7_isWithin (by decide) rfl, List.forall_mem_cons.mpr ⟨rv_ctS X Y fm_Ts_good dc_X7_porter (pc := 32) (i := 16) (idx := 80) rfl (m_X7_isWithin_3 hAd hZ hGd) wl_X7_80 wm_X7_isWithin wy_X7_isWithin (by decide) rfl, List.forall_mem_cons.mpr ⟨rv_ctS X Y fm_Ts_good dc_X7_porter (pc := 43) (i := 21) (idx := 80) rfl (m_X7_isWithin_3 hAd hZ hGd) wl_X7_80 wm_X7_isWithin wy_X7_isWithin (by decide) rfl, fun _ h => absurd h List.not_mem_nil⟩⟩⟩⟩⟩) (fun _ _ _ _ _ _ _ _ _ _ _ _ _ _ _ _ h => absurd h List.not_mem_nil)
def K_X7_isWithin_5 : rv_K := ([rv_full, rv_i (-1) (-1), rv_i 5 5], [], [], [(0, 0, 1)], [(.inl 0, (-1), 5)], [])
def ct_X7_isWithin_5 : List (Nat × rv_K) := []
def n_X7_isWithin_5 : List rv_N := [
  (0, ([rv_full, rv_i (-1) (-1), rv_i 5 5], [], []), [1], 8, [], []),
  (1, ([rv_full, rv_i (-1) (-1), rv_i 5 5], [(1, 0, (-2147483648), 2147483647, [(.inl 0, 0)], [])], []), [2], 7, [], []),
  (2, ([rv_full, rv_i (-1) (-1), rv_i 5 5], [(1, 0, (-1), (-1), [(.inl 1, 0)], []), (1, 0, (-2147483648), 2147483647, [(.inl 0, 0)], [])], []), [3, 8], 6, [], []),
  (3, ([rv_i (-1) 2147483647, rv_i (-1) (-1), rv_i 5 5], [], []), [4], 5, [], []),
  (4, ([rv_i (-1) 2147483647, rv_i (-1) (-1), rv_i 5 5], [(1, 0, (-1), 2147483647, [(.inl 0, 0)], [])], []), [5], 4, [], []),
  (5, ([rv_i (-1) 2147483647, rv_i (-1) (-1), rv_i 5 5], [(1, 0, 5, 5, [(.inl 2, 0)], []), (1, 0, (-1), 2147483647, [(.inl 0, 0)], [])], []), [6, 8], 3, [], []),
  (6, ([rv_i (-1) 5, rv_i (-1) (-1), rv_i 5 5], [], []), [7], 2, [], []),
  (7, ([rv_i (-1) 5, rv_i (-1) (-1), rv_i 5 5], [rv_i 1 1], []), [10], 1, [], []),
  (8, ([rv_full, rv_i (-1) (-1), rv_i 5 5], [], []), [9], 1, [], []),
  (9, ([rv_full, rv_i (-1) (-1), rv_i 5 5], [rv_i 0 0], []), [], 0, [], []),
  (9, ([rv_i (-1) 5, rv_i (-1) (-1), rv_i 5 5], [rv_i 1 1], []), [], 0, [], [])]
set_option maxRecDepth 100000 in
theorem a_X7_isWithin_5 : rv_all (fm_tm, flX7, fm_wr, kcX7, klX7, K_X7_isWithin_5.2.2.1, [0, 1, 2], 3) ct_X7_isWithin_5 cd_X7_isWithin n_X7_isWithin_5 K_X7_isWithin_5 [] 0 n_X7_isWithin_5 = true := rv_fast (rv_at_eq n_X7_isWithin_5) (rv_at_eq cd_X7_isWithin) (by decide +kernel)
theorem m_X7_isWithin_5 {l : Launch} {D : va_G} {ad : Nat → Nat} {cy : Nat → ClassId} {Z : State → Heap → Prop} {Gp : fm_V → Prop} (hAd : fm_Ad fm_tm ad) (hZ : fm_Zk (fm_A fm_tm ad) Z) (hGd : fm_Gd Gp) : rv_Met l D fm_cl fm_tm ad cy fm_nt Z Gp yX7_isWithin (.code yX7_isWithin prog_1_method_34_code 3 (some .boolean) :: fm_Ts) { frames := 0, cells := 0, slots := 0, locals := 0 } K_X7_isWithin_5 := rv_met hAd hZ (Or.inl (by decide +kernel)) evX7 dc_X7_isWithin a_X7_isWithin_5 ⟨rfl, rfl, rfl⟩ (by decide +kernel) (by decide +kernel) (by decide) (fm_gm hGd (by decide +kernel)) (Or.inr ⟨rfl, by decide, by decide⟩) (fun p e s m args below meth c Q X Y => fun _ h => absurd h List.not_mem_nil) (fun _ _ _ _ _ _ _ _ _ _ _ _ _ _ _ _ h => absurd h List.not_mem_nil)
def cd_X7_licence : List (Nat × Instr × Nat) := [(0, .iload_n 1, 1), (1, .invokestatic 75, 3), (4, .ifCond .eq 12, 3), (7, .iload_n 2, 1), (8, .iconst (-1), 1), (9, .iconst 5, 1), (10, .invokestatic 80, 3), (13, .ifCond .ne 5, 3), (16, .iconst 0, 1), (17, .ireturn, 1), (18, .aload_n 0, 1), (19, .getfield 38, 3), (22, .getfield 121, 3), (25, .iload_n 1, 1), (26, .iload_n 2, 1), (27, .iconst (-1), 1), (28, .if_icmp .ne 8, 3), (31, .bipush 6, 2), (33, .goto 4, 3), (36, .iload_n 2, 1), (37, .iastore, 1), (38, .iconst 1, 1), (39, .ireturn, 1)]
theorem dc_X7_licence : ∀ q ∈ cd_X7_licence, decode prog_1_method_5_code q.1 = .ok (q.2.1, q.2.2) := by decide +kernel
def K_X7_licence_0 : rv_K := ([rv_r 0, rv_full, rv_full], [], [(30, 9999)], [(0, 0, 1)], [(.inl 1, 0, 19), (.inl 2, (-1), 5)], [])
def ct_X7_licence_0 : List (Nat × rv_K) := [(1, K_X7_isYard_0), (6, K_X7_isWithin_5)]
def n_X7_licence_0_0 : List rv_N := [
  (0, ([rv_r 0, rv_full, rv_full], [], []), [1], 19, [], []),
  (1, ([rv_r 0, rv_full, rv_full], [(1, 0, (-2147483648), 2147483647, [(.inl 1, 0)], [])], []), [2], 18, [], [0]),
  (2, ([rv_r 0, rv_full, rv_full], [(1, 0, 0, 1, [], [(.inl 1, 0, 19)])], []), [3, 8], 17, [], []),
  (3, ([rv_r 0, rv_i 0 19, rv_full], [], []), [4], 16, [], []),
  (4, ([rv_r 0, rv_i 0 19, rv_full], [(1, 0, (-2147483648), 2147483647, [(.inl 2, 0)], [])], []), [5], 15, [], []),
  (5, ([rv_r 0, rv_i 0 19, rv_full], [rv_i (-1) (-1), (1, 0, (-2147483648), 2147483647, [(.inl 2, 0)], [])], []), [6], 14, [], []),
  (6, ([rv_r 0, rv_i 0 19, rv_full], [rv_i 5 5, rv_i (-1) (-1), (1, 0, (-2147483648), 2147483647, [(.inl 2, 0)], [])], []), [7], 13, [], [1]),
  (7, ([rv_r 0, rv_i 0 19, rv_full], [(1, 0, 0, 1, [], [(.inl 2, (-1), 5)])], []), [8, 10], 12, [], []),
  (8, ([rv_r 0, rv_full, rv_full], [], []), [9], 1, [], []),
  (9, ([rv_r 0, rv_full, rv_full], [rv_i 0 0], []), [], 0, [], []),
  (10, ([rv_r 0, rv_i 0 19, rv_i (-1) 5], [], []), [11], 11, [], []),
  (11, ([rv_r 0, rv_i 0 19, rv_i (-1) 5], [rv_r 0], []), [12], 10, [], []),
  (12, ([rv_r 0, rv_i 0 19, rv_i (-1) 5], [rv_r 26], []), [13], 9, [], []),
  (13, ([rv_r 0, rv_i 0 19, rv_i (-1) 5], [rv_r 30], []), [14], 8, [], []),
  (14, ([rv_r 0, rv_i 0 19, rv_i (-1) 5], [(1, 0, 0, 19, [(.inl 1, 0)], []), rv_r 30], []), [15], 7, [], []),
  (15, ([rv_r 0, rv_i 0 19, rv_i (-1) 5], [(1, 0, (-1), 5, [(.inl 2, 0)], []), (1, 0, 0, 19, [(.inl 1, 0)], []), rv_r 30], []), [16], 6, [], [])]
def n_X7_licence_0_1 : List rv_N := [
  (16, ([rv_r 0, rv_i 0 19, rv_i (-1) 5], [rv_i (-1) (-1), (1, 0, (-1), 5, [(.inl 2, 0)], []), (1, 0, 0, 19, [(.inl 1, 0)], []), rv_r 30], []), [17, 19], 5, [], []),
  (17, ([rv_r 0, rv_i 0 19, rv_i (-1) (-1)], [(1, 0, 0, 19, [(.inl 1, 0)], []), rv_r 30], []), [18], 4, [], []),
  (18, ([rv_r 0, rv_i 0 19, rv_i (-1) (-1)], [rv_i 6 6, (1, 0, 0, 19, [(.inl 1, 0)], []), rv_r 30], []), [20], 3, [], []),
  (19, ([rv_r 0, rv_i 0 19, rv_i 0 5], [(1, 0, 0, 19, [(.inl 1, 0)], []), rv_r 30], []), [21], 3, [], []),
  (20, ([rv_r 0, rv_i 0 19, rv_i (-1) (-1)], [rv_i 6 6, (1, 0, 0, 19, [(.inl 1, 0)], []), rv_r 30], []), [22], 2, [], []),
  (20, ([rv_r 0, rv_i 0 19, rv_i 0 5], [(1, 0, 0, 5, [(.inl 2, 0)], []), (1, 0, 0, 19, [(.inl 1, 0)], []), rv_r 30], []), [22], 2, [], []),
  (21, ([rv_r 0, rv_i 0 19, rv_i (-1) 5], [], []), [23], 1, [], []),
  (22, ([rv_r 0, rv_i 0 19, rv_i (-1) 5], [rv_i 1 1], []), [], 0, [], [])]
def n_X7_licence_0 : List rv_N := n_X7_licence_0_0 ++ (n_X7_licence_0_1)
noncomputable def gn_X7_licence_0 : Nat → Option rv_N := rv_ap 16 (rv_at n_X7_licence_0_0) (rv_at n_X7_licence_0_1)
theorem hn_X7_licence_0 : ∀ i : Nat, n_X7_licence_0[i]? = gn_X7_licence_0 i := rv_ap_eq (l := n_X7_licence_0_0) (c := 16) (rv_at_eq n_X7_licence_0_1) rfl
set_option maxRecDepth 100000 in
theorem a_X7_licence_0 : rv_all (fm_tm, flX7, fm_wr, kcX7, klX7, K_X7_licence_0.2.2.1, [1, 2], 3) ct_X7_licence_0 cd_X7_licence n_X7_licence_0 K_X7_licence_0 [] 0 n_X7_licence_0 = true := rv_fast hn_X7_licence_0 (rv_at_eq cd_X7_licence) (by decide +kernel)
theorem m_X7_licence_0 {l : Launch} {D : va_G} {ad : Nat → Nat} {cy : Nat → ClassId} {Z : State → Heap → Prop} {Gp : fm_V → Prop} (hAd : fm_Ad fm_tm ad) (hZ : fm_Zk (fm_A fm_tm ad) Z) (hGd : fm_Gd Gp) : rv_Met l D fm_cl fm_tm ad cy fm_nt Z Gp yX7_licence (.code yX7_licence prog_1_method_5_code 3 (some .boolean) :: fm_Ts) { frames := 1, cells := 0, slots := 0, locals := 100 } K_X7_licence_0 := rv_met hAd hZ (Or.inl (by decide +kernel)) evX7 dc_X7_licence a_X7_licence_0 ⟨rfl, rfl, rfl⟩ (by decide +kernel) (by decide +kernel) (by decide) (fm_gm hGd (by decide +kernel)) (Or.inr ⟨rfl, by decide, by decide⟩) (fun p e s m args below meth c Q X Y => List.forall_mem_cons.mpr ⟨rv_ctS X Y fm_Ts_good dc_X7_licence (pc := 1) (i := 1) (idx := 75) rfl (m_X7_isYard_0 hAd hZ hGd) wl_X7_75 wm_X7_isYard wy_X7_isYard (by decide) rfl, List.forall_mem_cons.mpr ⟨rv_ctS X Y fm_Ts_good dc_X7_licence (pc := 10) (i := 6) (idx := 80) rfl (m_X7_isWithin_5 hAd hZ hGd) wl_X7_80 wm_X7_isWithin wy_X7_isWithin (by decide) rfl, fun _ h => absurd h List.not_mem_nil⟩⟩) (fun _ _ _ _ _ _ _ _ _ _ _ _ _ _ _ _ h => absurd h List.not_mem_nil)
def cd_X7_isBeggar : List (Nat × Instr × Nat) := [(0, .iload_n 0, 1), (1, .ifCond .lt 13, 3), (4, .iload_n 0, 1), (5, .bipush 6, 2), (7, .if_icmp .ge 7, 3), (10, .iconst 1, 1), (11, .goto 4, 3), (14, .iconst 0, 1), (15, .ireturn, 1)]
theorem dc_X7_isBeggar : ∀ q ∈ cd_X7_isBeggar, decode prog_1_method_37_code q.1 = .ok (q.2.1, q.2.2) := by decide +kernel
def K_X7_isBeggar_0 : rv_K := ([rv_full], [], [], [(0, 0, 1)], [(.inl 0, 0, 5)], [])
def ct_X7_isBeggar_0 : List (Nat × rv_K) := []
def n_X7_isBeggar_0 : List rv_N := [
  (0, ([rv_full], [], []), [1], 7, [], []),
  (1, ([rv_full], [(1, 0, (-2147483648), 2147483647, [(.inl 0, 0)], [])], []), [2, 7], 6, [], []),
  (2, ([rv_i 0 2147483647], [], []), [3], 5, [], []),
  (3, ([rv_i 0 2147483647], [(1, 0, 0, 2147483647, [(.inl 0, 0)], [])], []), [4], 4, [], []),
  (4, ([rv_i 0 2147483647], [rv_i 6 6, (1, 0, 0, 2147483647, [(.inl 0, 0)], [])], []), [5, 7], 3, [], []),
  (5, ([rv_i 0 5], [], []), [6], 2, [], []),
  (6, ([rv_i 0 5], [rv_i 1 1], []), [9], 1, [], []),
  (7, ([rv_full], [], []), [8], 1, [], []),
  (8, ([rv_full], [rv_i 0 0], []), [], 0, [], []),
  (8, ([rv_i 0 5], [rv_i 1 1], []), [], 0, [], [])]
set_option maxRecDepth 100000 in
theorem a_X7_isBeggar_0 : rv_all (fm_tm, flX7, fm_wr, kcX7, klX7, K_X7_isBeggar_0.2.2.1, [0], 1) ct_X7_isBeggar_0 cd_X7_isBeggar n_X7_isBeggar_0 K_X7_isBeggar_0 [] 0 n_X7_isBeggar_0 = true := rv_fast (rv_at_eq n_X7_isBeggar_0) (rv_at_eq cd_X7_isBeggar) (by decide +kernel)
theorem m_X7_isBeggar_0 {l : Launch} {D : va_G} {ad : Nat → Nat} {cy : Nat → ClassId} {Z : State → Heap → Prop} {Gp : fm_V → Prop} (hAd : fm_Ad fm_tm ad) (hZ : fm_Zk (fm_A fm_tm ad) Z) (hGd : fm_Gd Gp) : rv_Met l D fm_cl fm_tm ad cy fm_nt Z Gp yX7_isBeggar (.code yX7_isBeggar prog_1_method_37_code 1 (some .boolean) :: fm_Ts) { frames := 0, cells := 0, slots := 0, locals := 0 } K_X7_isBeggar_0 := rv_met hAd hZ (Or.inl (by decide +kernel)) evX7 dc_X7_isBeggar a_X7_isBeggar_0 ⟨rfl, rfl, rfl⟩ (by decide +kernel) (by decide +kernel) (by decide) (fm_gm hGd (by decide +kernel)) (Or.inr ⟨rfl, by decide, by decide⟩) (fun p e s m args below meth c Q X Y => fun _ h => absurd h List.not_mem_nil) (fun _ _ _ _ _ _ _ _ _ _ _ _ _ _ _ _ h => absurd h List.not_mem_nil)
def cd_X7_skill : List (Nat × Instr × Nat) := [(0, .iload_n 1, 1), (1, .invokestatic 124, 3), (4, .ifCond .eq 13, 3), (7, .iload_n 2, 1), (8, .iconst 0, 1), (9, .bipush 9, 2), (11, .invokestatic 80, 3), (14, .ifCond .ne 5, 3), (17, .iconst 0, 1), (18, .ireturn, 1), (19, .aload_n 0, 1), (20, .getfield 38, 3), (23, .getfield 127, 3), (26, .iload_n 1, 1), (27, .iload_n 2, 1), (28, .iastore, 1), (29, .iconst 1, 1), (30, .ireturn, 1)]
theorem dc_X7_skill : ∀ q ∈ cd_X7_skill, decode prog_1_method_6_code q.1 = .ok (q.2.1, q.2.2) := by decide +kernel
def K_X7_skill_0 : rv_K := ([rv_r 0, rv_full, rv_full], [], [(31, 9999)], [(0, 0, 1)], [(.inl 1, 0, 5), (.inl 2, 0, 9)], [])
def ct_X7_skill_0 : List (Nat × rv_K) := [(1, K_X7_isBeggar_0), (6, K_X7_isWithin_3)]
def n_X7_skill_0_0 : List rv_N := [
  (0, ([rv_r 0, rv_full, rv_full], [], []), [1], 15, [], []),
  (1, ([rv_r 0, rv_full, rv_full], [(1, 0, (-2147483648), 2147483647, [(.inl 1, 0)], [])], []), [2], 14, [], [0]),
  (2, ([rv_r 0, rv_full, rv_full], [(1, 0, 0, 1, [], [(.inl 1, 0, 5)])], []), [3, 8], 13, [], []),
  (3, ([rv_r 0, rv_i 0 5, rv_full], [], []), [4], 12, [], []),
  (4, ([rv_r 0, rv_i 0 5, rv_full], [(1, 0, (-2147483648), 2147483647, [(.inl 2, 0)], [])], []), [5], 11, [], []),
  (5, ([rv_r 0, rv_i 0 5, rv_full], [rv_i 0 0, (1, 0, (-2147483648), 2147483647, [(.inl 2, 0)], [])], []), [6], 10, [], []),
  (6, ([rv_r 0, rv_i 0 5, rv_full], [rv_i 9 9, rv_i 0 0, (1, 0, (-2147483648), 2147483647, [(.inl 2, 0)], [])], []), [7], 9, [], [1]),
  (7, ([rv_r 0, rv_i 0 5, rv_full], [(1, 0, 0, 1, [], [(.inl 2, 0, 9)])], []), [8, 10], 8, [], []),
  (8, ([rv_r 0, rv_full, rv_full], [], []), [9], 1, [], []),
  (9, ([rv_r 0, rv_full, rv_full], [rv_i 0 0], []), [], 0, [], []),
  (10, ([rv_r 0, rv_i 0 5, rv_i 0 9], [], []), [11], 7, [], []),
  (11, ([rv_r 0, rv_i 0 5, rv_i 0 9], [rv_r 0], []), [12], 6, [], []),
  (12, ([rv_r 0, rv_i 0 5, rv_i 0 9], [rv_r 26], []), [13], 5, [], []),
  (13, ([rv_r 0, rv_i 0 5, rv_i 0 9], [rv_r 31], []), [14], 4, [], []),
  (14, ([rv_r 0, rv_i 0 5, rv_i 0 9], [(1, 0, 0, 5, [(.inl 1, 0)], []), rv_r 31], []), [15], 3, [], []),
  (15, ([rv_r 0, rv_i 0 5, rv_i 0 9], [(1, 0, 0, 9, [(.inl 2, 0)], []), (1, 0, 0, 5, [(.inl 1, 0)], []), rv_r 31], []), [16], 2, [], [])]
def n_X7_skill_0_1 : List rv_N := [
  (16, ([rv_r 0, rv_i 0 5, rv_i 0 9], [], []), [17], 1, [], []),
  (17, ([rv_r 0, rv_i 0 5, rv_i 0 9], [rv_i 1 1], []), [], 0, [], [])]
def n_X7_skill_0 : List rv_N := n_X7_skill_0_0 ++ (n_X7_skill_0_1)
noncomputable def gn_X7_skill_0 : Nat → Option rv_N := rv_ap 16 (rv_at n_X7_skill_0_0) (rv_at n_X7_skill_0_1)
theorem hn_X7_skill_0 : ∀ i : Nat, n_X7_skill_0[i]? = gn_X7_skill_0 i := rv_ap_eq (l := n_X7_skill_0_0) (c := 16) (rv_at_eq n_X7_skill_0_1) rfl
set_option maxRecDepth 100000 in
theorem a_X7_skill_0 : rv_all (fm_tm, flX7, fm_wr, kcX7, klX7, K_X7_skill_0.2.2.1, [1, 2], 3) ct_X7_skill_0 cd_X7_skill n_X7_skill_0 K_X7_skill_0 [] 0 n_X7_skill_0 = true := rv_fast hn_X7_skill_0 (rv_at_eq cd_X7_skill) (by decide +kernel)
theorem m_X7_skill_0 {l : Launch} {D : va_G} {ad : Nat → Nat} {cy : Nat → ClassId} {Z : State → Heap → Prop} {Gp : fm_V → Prop} (hAd : fm_Ad fm_tm ad) (hZ : fm_Zk (fm_A fm_tm ad) Z) (hGd : fm_Gd Gp) : rv_Met l D fm_cl fm_tm ad cy fm_nt Z Gp yX7_skill (.code yX7_skill prog_1_method_6_code 3 (some .boolean) :: fm_Ts) { frames := 1, cells := 0, slots := 0, locals := 100 } K_X7_skill_0 := rv_met hAd hZ (Or.inl (by decide +kernel)) evX7 dc_X7_skill a_X7_skill_0 ⟨rfl, rfl, rfl⟩ (by decide +kernel) (by decide +kernel) (by decide) (fm_gm hGd (by decide +kernel)) (Or.inr ⟨rfl, by decide, by decide⟩) (fun p e s m args below meth c Q X Y => List.forall_mem_cons.mpr ⟨rv_ctS X Y fm_Ts_good dc_X7_skill (pc := 1) (i := 1) (idx := 124) rfl (m_X7_isBeggar_0 hAd hZ hGd) wl_X7_124 wm_X7_isBeggar wy_X7_isBeggar (by decide) rfl, List.forall_mem_cons.mpr ⟨rv_ctS X Y fm_Ts_good dc_X7_skill (pc := 11) (i := 6) (idx := 80) rfl (m_X7_isWithin_3 hAd hZ hGd) wl_X7_80 wm_X7_isWithin wy_X7_isWithin (by decide) rfl, fun _ h => absurd h List.not_mem_nil⟩⟩) (fun _ _ _ _ _ _ _ _ _ _ _ _ _ _ _ _ h => absurd h List.not_mem_nil)
def cd_X6_hasRoom : List (Nat × Instr × Nat) := [(0, .aload_n 0, 1), (1, .getfield 15, 3), (4, .iload_n 1, 1), (5, .iadd, 1), (6, .sipush 220, 3), (9, .if_icmp .gt 7, 3), (12, .iconst 1, 1), (13, .goto 4, 3), (16, .iconst 0, 1), (17, .ireturn, 1)]
theorem dc_X6_hasRoom : ∀ q ∈ cd_X6_hasRoom, decode prog_8_method_2_code q.1 = .ok (q.2.1, q.2.2) := by decide +kernel
def K_X6_hasRoom_0 : rv_K := ([rv_r 3, rv_full], [], [], [(0, 0, 1)], [], [])
def ct_X6_hasRoom_0 : List (Nat × rv_K) := []
def n_X6_hasRoom_0 : List rv_N := [
  (0, ([rv_r 3, rv_full], [], []), [1], 8, [], []),
  (1, ([rv_r 3, rv_full], [rv_r 3], []), [2], 7, [], []),
  (2, ([rv_r 3, rv_full], [(1, 0, (-2147483648), 2147483647, [(.inr (3, 1), 0)], [])], []), [3], 6, [], []),
  (3, ([rv_r 3, rv_full], [(1, 0, (-2147483648), 2147483647, [(.inl 1, 0)], []), (1, 0, (-2147483648), 2147483647, [(.inr (3, 1), 0)], [])], []), [4], 5, [], []),
  (4, ([rv_r 3, rv_full], [rv_full], []), [5], 4, [], []),
  (5, ([rv_r 3, rv_full], [rv_i 220 220, rv_full], []), [6, 8], 3, [], []),
  (6, ([rv_r 3, rv_full], [], []), [7], 2, [], []),
  (7, ([rv_r 3, rv_full], [rv_i 1 1], []), [10], 1, [], []),
  (8, ([rv_r 3, rv_full], [], []), [9], 1, [], []),
  (9, ([rv_r 3, rv_full], [rv_i 0 0], []), [], 0, [], []),
  (9, ([rv_r 3, rv_full], [rv_i 1 1], []), [], 0, [], [])]
set_option maxRecDepth 100000 in
theorem a_X6_hasRoom_0 : rv_all (fm_tm, flX6, fm_wr, kcX6, klX6, K_X6_hasRoom_0.2.2.1, [], 2) ct_X6_hasRoom_0 cd_X6_hasRoom n_X6_hasRoom_0 K_X6_hasRoom_0 [] 0 n_X6_hasRoom_0 = true := rv_fast (rv_at_eq n_X6_hasRoom_0) (rv_at_eq cd_X6_hasRoom) (by decide +kernel)
theorem m_X6_hasRoom_0 {l : Launch} {D : va_G} {ad : Nat → Nat} {cy : Nat → ClassId} {Z : State → Heap → Prop} {Gp : fm_V → Prop} (hAd : fm_Ad fm_tm ad) (hZ : fm_Zk (fm_A fm_tm ad) Z) (hGd : fm_Gd Gp) : rv_Met l D fm_cl fm_tm ad cy fm_nt Z Gp yX6_hasRoom (.code yX6_hasRoom prog_8_method_2_code 2 (some .boolean) :: fm_Ts) { frames := 0, cells := 0, slots := 0, locals := 0 } K_X6_hasRoom_0 := rv_met hAd hZ (Or.inl (by decide +kernel)) evX6 dc_X6_hasRoom a_X6_hasRoom_0 ⟨rfl, rfl, rfl⟩ (by decide +kernel) (by decide +kernel) (by decide) (fm_gm hGd (by decide +kernel)) (Or.inr ⟨rfl, by decide, by decide⟩) (fun p e s m args below meth c Q X Y => fun _ h => absurd h List.not_mem_nil) (fun _ _ _ _ _ _ _ _ _ _ _ _ _ _ _ _ h => absurd h List.not_mem_nil)
def cd_X6_putNumber : List (Nat × Instr × Nat) := [(0, .bipush 24, 2), (2, .istore_n 2, 1), (3, .iload_n 2, 1), (4, .ifCond .lt 52, 3), (7, .aload_n 0, 1), (8, .getfield 15, 3), (11, .ifCond .lt 39, 3), (14, .aload_n 0, 1), (15, .getfield 15, 3), (18, .sipush 220, 3), (21, .if_icmp .ge 29, 3), (24, .aload_n 0, 1), (25, .getfield 9, 3), (28, .aload_n 0, 1), (29, .getfield 15, 3), (32, .iload_n 1, 1), (33, .iload_n 2, 1), (34, .ishr, 1), (35, .sipush 255, 3), (38, .iand, 1), (39, .iastore, 1), (40, .aload_n 0, 1), (41, .dup, 1), (42, .getfield 15, 3), (45, .iconst 1, 1), (46, .iadd, 1), (47, .putfield 15, 3), (50, .iinc 2 (-8), 3), (53, .goto (-50), 3), (56, .return_, 1)]
theorem dc_X6_putNumber : ∀ q ∈ cd_X6_putNumber, decode prog_8_method_3_code q.1 = .ok (q.2.1, q.2.2) := by decide +kernel
def K_X6_putNumber_0 : rv_K := ([rv_r 3, rv_full], [], [(3, 1), (4, 9999)], [], [], [])
def ct_X6_putNumber_0 : List (Nat × rv_K) := []
def n_X6_putNumber_0_0 : List rv_N := [
  (0, ([rv_r 3, rv_full, rv_u], [], []), [1], 44804, [], []),
  (1, ([rv_r 3, rv_full, rv_u], [rv_i 24 24], []), [2], 44803, [], []),
  (2, ([rv_r 3, rv_full, rv_i (-8) 24], [], []), [3], 11202, [(2, 1400)], []),
  (3, ([rv_r 3, rv_full, rv_i (-8) 24], [(1, 0, (-8), 24, [(.inl 2, 0)], [])], []), [4, 29], 11201, [(2, 1400)], []),
  (4, ([rv_r 3, rv_full, rv_i 0 24], [], []), [5], 27, [(2, 1400)], []),
  (5, ([rv_r 3, rv_full, rv_i 0 24], [rv_r 3], []), [6], 26, [(2, 1400)], []),
  (6, ([rv_r 3, rv_full, rv_i 0 24], [(1, 0, (-2147483648), 2147483647, [(.inr (3, 1), 0)], [])], []), [7, 27], 25, [(2, 1400)], []),
  (7, ([rv_r 3, rv_full, rv_i 0 24], [], [((3, 1), 0, 2147483647, [])]), [8], 24, [(2, 1400)], []),
  (8, ([rv_r 3, rv_full, rv_i 0 24], [rv_r 3], [((3, 1), 0, 2147483647, [])]), [9], 23, [(2, 1400)], []),
  (9, ([rv_r 3, rv_full, rv_i 0 24], [(1, 0, 0, 2147483647, [(.inr (3, 1), 0)], [])], [((3, 1), 0, 2147483647, [])]), [10], 22, [(2, 1400)], []),
  (10, ([rv_r 3, rv_full, rv_i 0 24], [rv_i 220 220, (1, 0, 0, 2147483647, [(.inr (3, 1), 0)], [])], [((3, 1), 0, 2147483647, [])]), [11, 27], 21, [(2, 1400)], []),
  (11, ([rv_r 3, rv_full, rv_i 0 24], [], [((3, 1), 0, 219, [])]), [12], 20, [(2, 1400)], []),
  (12, ([rv_r 3, rv_full, rv_i 0 24], [rv_r 3], [((3, 1), 0, 219, [])]), [13], 19, [(2, 1400)], []),
  (13, ([rv_r 3, rv_full, rv_i 0 24], [rv_r 4], [((3, 1), 0, 219, [])]), [14], 18, [(2, 1400)], []),
  (14, ([rv_r 3, rv_full, rv_i 0 24], [rv_r 3, rv_r 4], [((3, 1), 0, 219, [])]), [15], 17, [(2, 1400)], []),
  (15, ([rv_r 3, rv_full, rv_i 0 24], [(1, 0, 0, 219, [(.inr (3, 1), 0)], []), rv_r 4], [((3, 1), 0, 219, [])]), [16], 16, [(2, 1400)], [])]
def n_X6_putNumber_0_1 : List rv_N := [
  (16, ([rv_r 3, rv_full, rv_i 0 24], [(1, 0, (-2147483648), 2147483647, [(.inl 1, 0)], []), (1, 0, 0, 219, [(.inr (3, 1), 0)], []), rv_r 4], [((3, 1), 0, 219, [])]), [17], 15, [(2, 1400)], []),
  (17, ([rv_r 3, rv_full, rv_i 0 24], [(1, 0, 0, 24, [(.inl 2, 0)], []), (1, 0, (-2147483648), 2147483647, [(.inl 1, 0)], []), (1, 0, 0, 219, [(.inr (3, 1), 0)], []), rv_r 4], [((3, 1), 0, 219, [])]), [18], 14, [(2, 1400)], []),
  (18, ([rv_r 3, rv_full, rv_i 0 24], [rv_full, (1, 0, 0, 219, [(.inr (3, 1), 0)], []), rv_r 4], [((3, 1), 0, 219, [])]), [19], 13, [(2, 1400)], []),
  (19, ([rv_r 3, rv_full, rv_i 0 24], [rv_i 255 255, rv_full, (1, 0, 0, 219, [(.inr (3, 1), 0)], []), rv_r 4], [((3, 1), 0, 219, [])]), [20], 12, [(2, 1400)], []),
  (20, ([rv_r 3, rv_full, rv_i 0 24], [rv_i 0 255, (1, 0, 0, 219, [(.inr (3, 1), 0)], []), rv_r 4], [((3, 1), 0, 219, [])]), [21], 11, [(2, 1400)], []),
  (21, ([rv_r 3, rv_full, rv_i 0 24], [], [((3, 1), 0, 219, [])]), [22], 10, [(2, 1400)], []),
  (22, ([rv_r 3, rv_full, rv_i 0 24], [rv_r 3], [((3, 1), 0, 219, [])]), [23], 9, [(2, 1400)], []),
  (23, ([rv_r 3, rv_full, rv_i 0 24], [rv_r 3, rv_r 3], [((3, 1), 0, 219, [])]), [24], 8, [(2, 1400)], []),
  (24, ([rv_r 3, rv_full, rv_i 0 24], [(1, 0, 0, 219, [(.inr (3, 1), 0)], []), rv_r 3], [((3, 1), 0, 219, [])]), [25], 7, [(2, 1400)], []),
  (25, ([rv_r 3, rv_full, rv_i 0 24], [rv_i 1 1, (1, 0, 0, 219, [(.inr (3, 1), 0)], []), rv_r 3], [((3, 1), 0, 219, [])]), [26], 6, [(2, 1400)], []),
  (26, ([rv_r 3, rv_full, rv_i 0 24], [(1, 0, 1, 220, [(.inr (3, 1), 1)], []), rv_r 3], [((3, 1), 0, 219, [])]), [27], 5, [(2, 1400)], []),
  (27, ([rv_r 3, rv_full, rv_i 0 24], [], []), [28], 4, [(2, 1400)], []),
  (28, ([rv_r 3, rv_full, rv_i (-8) 16], [], []), [2], 11203, [(2, 1400)], []),
  (29, ([rv_r 3, rv_full, rv_i (-8) (-1)], [], []), [], 0, [], [])]
def n_X6_putNumber_0 : List rv_N := n_X6_putNumber_0_0 ++ (n_X6_putNumber_0_1)
noncomputable def gn_X6_putNumber_0 : Nat → Option rv_N := rv_ap 16 (rv_at n_X6_putNumber_0_0) (rv_at n_X6_putNumber_0_1)
theorem hn_X6_putNumber_0 : ∀ i : Nat, n_X6_putNumber_0[i]? = gn_X6_putNumber_0 i := rv_ap_eq (l := n_X6_putNumber_0_0) (c := 16) (rv_at_eq n_X6_putNumber_0_1) rfl
set_option maxRecDepth 100000 in
theorem a_X6_putNumber_0 : rv_all (fm_tm, flX6, fm_wr, kcX6, klX6, K_X6_putNumber_0.2.2.1, [], 3) ct_X6_putNumber_0 cd_X6_putNumber n_X6_putNumber_0 K_X6_putNumber_0 [] 0 n_X6_putNumber_0 = true := rv_fast hn_X6_putNumber_0 (rv_at_eq cd_X6_putNumber) (by decide +kernel)
theorem m_X6_putNumber_0 {l : Launch} {D : va_G} {ad : Nat → Nat} {cy : Nat → ClassId} {Z : State → Heap → Prop} {Gp : fm_V → Prop} (hAd : fm_Ad fm_tm ad) (hZ : fm_Zk (fm_A fm_tm ad) Z) (hGd : fm_Gd Gp) : rv_Met l D fm_cl fm_tm ad cy fm_nt Z Gp yX6_putNumber (.code yX6_putNumber prog_8_method_3_code 3 none :: fm_Ts) { frames := 0, cells := 0, slots := 0, locals := 0 } K_X6_putNumber_0 := rv_met hAd hZ (Or.inl (by decide +kernel)) evX6 dc_X6_putNumber a_X6_putNumber_0 ⟨rfl, rfl, rfl⟩ (by decide +kernel) (by decide +kernel) (by decide) (fm_gm hGd (by decide +kernel)) (rfl) (fun p e s m args below meth c Q X Y => fun _ h => absurd h List.not_mem_nil) (fun _ _ _ _ _ _ _ _ _ _ _ _ _ _ _ _ h => absurd h List.not_mem_nil)
def cd_X7_feed : List (Nat × Instr × Nat) := [(0, .aload_n 0, 1), (1, .getfield 12, 3), (4, .bipush 20, 2), (6, .invokevirtual 130, 3), (9, .ifCond .ne 5, 3), (12, .iconst (-1), 1), (13, .ireturn, 1), (14, .aload_n 0, 1), (15, .getfield 12, 3), (18, .iload_n 1, 1), (19, .invokevirtual 133, 3), (22, .aload_n 0, 1), (23, .getfield 12, 3), (26, .iload_n 2, 1), (27, .invokevirtual 133, 3), (30, .aload_n 0, 1), (31, .getfield 12, 3), (34, .iload_n 3, 1), (35, .invokevirtual 133, 3), (38, .aload_n 0, 1), (39, .getfield 12, 3), (42, .iload 4, 2), (44, .invokevirtual 133, 3), (47, .aload_n 0, 1), (48, .getfield 12, 3), (51, .iload 5, 2), (53, .invokevirtual 133, 3), (56, .aload_n 0, 1), (57, .getfield 12, 3), (60, .getfield 137, 3), (63, .ireturn, 1)]
theorem dc_X7_feed : ∀ q ∈ cd_X7_feed, decode prog_1_method_7_code q.1 = .ok (q.2.1, q.2.2) := by decide +kernel
def K_X7_feed_0 : rv_K := ([rv_r 0, rv_full, rv_full, rv_full, rv_full, rv_full], [], [(3, 1), (4, 9999)], [(0, (-2147483648), 2147483647)], [], [])
def ct_X7_feed_0 : List (Nat × rv_K) := [(3, K_X6_hasRoom_0), (10, K_X6_putNumber_0), (14, K_X6_putNumber_0), (18, K_X6_putNumber_0), (22, K_X6_putNumber_0), (26, K_X6_putNumber_0)]
def n_X7_feed_0_0 : List rv_N := [
  (0, ([rv_r 0, rv_full, rv_full, rv_full, rv_full, rv_full], [], []), [1], 28, [], []),
  (1, ([rv_r 0, rv_full, rv_full, rv_full, rv_full, rv_full], [rv_r 0], []), [2], 27, [], []),
  (2, ([rv_r 0, rv_full, rv_full, rv_full, rv_full, rv_full], [rv_r 3], []), [3], 26, [], []),
  (3, ([rv_r 0, rv_full, rv_full, rv_full, rv_full, rv_full], [rv_i 20 20, rv_r 3], []), [4], 25, [], [0]),
  (4, ([rv_r 0, rv_full, rv_full, rv_full, rv_full, rv_full], [rv_i 0 1], []), [5, 7], 24, [], []),
  (5, ([rv_r 0, rv_full, rv_full, rv_full, rv_full, rv_full], [], []), [6], 1, [], []),
  (6, ([rv_r 0, rv_full, rv_full, rv_full, rv_full, rv_full], [rv_i (-1) (-1)], []), [], 0, [], []),
  (7, ([rv_r 0, rv_full, rv_full, rv_full, rv_full, rv_full], [], []), [8], 23, [], []),
  (8, ([rv_r 0, rv_full, rv_full, rv_full, rv_full, rv_full], [rv_r 0], []), [9], 22, [], []),
  (9, ([rv_r 0, rv_full, rv_full, rv_full, rv_full, rv_full], [rv_r 3], []), [10], 21, [], []),
  (10, ([rv_r 0, rv_full, rv_full, rv_full, rv_full, rv_full], [(1, 0, (-2147483648), 2147483647, [(.inl 1, 0)], []), rv_r 3], []), [11], 20, [], [1]),
  (11, ([rv_r 0, rv_full, rv_full, rv_full, rv_full, rv_full], [], []), [12], 19, [], []),
  (12, ([rv_r 0, rv_full, rv_full, rv_full, rv_full, rv_full], [rv_r 0], []), [13], 18, [], []),
  (13, ([rv_r 0, rv_full, rv_full, rv_full, rv_full, rv_full], [rv_r 3], []), [14], 17, [], []),
  (14, ([rv_r 0, rv_full, rv_full, rv_full, rv_full, rv_full], [(1, 0, (-2147483648), 2147483647, [(.inl 2, 0)], []), rv_r 3], []), [15], 16, [], [2]),
  (15, ([rv_r 0, rv_full, rv_full, rv_full, rv_full, rv_full], [], []), [16], 15, [], [])]
def n_X7_feed_0_1 : List rv_N := [
  (16, ([rv_r 0, rv_full, rv_full, rv_full, rv_full, rv_full], [rv_r 0], []), [17], 14, [], []),
  (17, ([rv_r 0, rv_full, rv_full, rv_full, rv_full, rv_full], [rv_r 3], []), [18], 13, [], []),
  (18, ([rv_r 0, rv_full, rv_full, rv_full, rv_full, rv_full], [(1, 0, (-2147483648), 2147483647, [(.inl 3, 0)], []), rv_r 3], []), [19], 12, [], [3]),
  (19, ([rv_r 0, rv_full, rv_full, rv_full, rv_full, rv_full], [], []), [20], 11, [], []),
  (20, ([rv_r 0, rv_full, rv_full, rv_full, rv_full, rv_full], [rv_r 0], []), [21], 10, [], []),
  (21, ([rv_r 0, rv_full, rv_full, rv_full, rv_full, rv_full], [rv_r 3], []), [22], 9, [], []),
  (22, ([rv_r 0, rv_full, rv_full, rv_full, rv_full, rv_full], [(1, 0, (-2147483648), 2147483647, [(.inl 4, 0)], []), rv_r 3], []), [23], 8, [], [4]),
  (23, ([rv_r 0, rv_full, rv_full, rv_full, rv_full, rv_full], [], []), [24], 7, [], []),
  (24, ([rv_r 0, rv_full, rv_full, rv_full, rv_full, rv_full], [rv_r 0], []), [25], 6, [], []),
  (25, ([rv_r 0, rv_full, rv_full, rv_full, rv_full, rv_full], [rv_r 3], []), [26], 5, [], []),
  (26, ([rv_r 0, rv_full, rv_full, rv_full, rv_full, rv_full], [(1, 0, (-2147483648), 2147483647, [(.inl 5, 0)], []), rv_r 3], []), [27], 4, [], [5]),
  (27, ([rv_r 0, rv_full, rv_full, rv_full, rv_full, rv_full], [], []), [28], 3, [], []),
  (28, ([rv_r 0, rv_full, rv_full, rv_full, rv_full, rv_full], [rv_r 0], []), [29], 2, [], []),
  (29, ([rv_r 0, rv_full, rv_full, rv_full, rv_full, rv_full], [rv_r 3], []), [30], 1, [], []),
  (30, ([rv_r 0, rv_full, rv_full, rv_full, rv_full, rv_full], [(1, 0, (-2147483648), 2147483647, [(.inr (3, 1), 0)], [])], []), [], 0, [], [])]
def n_X7_feed_0 : List rv_N := n_X7_feed_0_0 ++ (n_X7_feed_0_1)
noncomputable def gn_X7_feed_0 : Nat → Option rv_N := rv_ap 16 (rv_at n_X7_feed_0_0) (rv_at n_X7_feed_0_1)
theorem hn_X7_feed_0 : ∀ i : Nat, n_X7_feed_0[i]? = gn_X7_feed_0 i := rv_ap_eq (l := n_X7_feed_0_0) (c := 16) (rv_at_eq n_X7_feed_0_1) rfl
set_option maxRecDepth 100000 in
theorem a_X7_feed_0 : rv_all (fm_tm, flX7, fm_wr, kcX7, klX7, K_X7_feed_0.2.2.1, [], 6) ct_X7_feed_0 cd_X7_feed n_X7_feed_0 K_X7_feed_0 [] 0 n_X7_feed_0 = true := rv_fast hn_X7_feed_0 (rv_at_eq cd_X7_feed) (by decide +kernel)
theorem m_X7_feed_0 {l : Launch} {D : va_G} {ad : Nat → Nat} {cy : Nat → ClassId} {Z : State → Heap → Prop} {Gp : fm_V → Prop} (hAd : fm_Ad fm_tm ad) (hZ : fm_Zk (fm_A fm_tm ad) Z) (hGd : fm_Gd Gp) : rv_Met l D fm_cl fm_tm ad cy fm_nt Z Gp yX7_feed (.code yX7_feed prog_1_method_7_code 6 (some .int) :: fm_Ts) { frames := 1, cells := 0, slots := 0, locals := 100 } K_X7_feed_0 := rv_met hAd hZ (Or.inl (by decide +kernel)) evX7 dc_X7_feed a_X7_feed_0 ⟨rfl, rfl, rfl⟩ (by decide +kernel) (by decide +kernel) (by decide) (fm_gm hGd (by decide +kernel)) (Or.inl rfl) (fun p e s m args below meth c Q X Y => List.forall_mem_cons.mpr ⟨rv_ctV X Y fm_Ts_good dc_X7_feed (pc := 6) (i := 3) (idx := 130) rfl (m_X6_hasRoom_0 hAd hZ hGd) wl_X7_130 wm_X6_hasRoom wy_X6_hasRoom (by decide) ⟨rfl, rfl, rfl⟩ ⟨rfl, rfl⟩, List.forall_mem_cons.mpr ⟨rv_ctV X Y fm_Ts_good dc_X7_feed (pc := 19) (i := 10) (idx := 133) rfl (m_X6_putNumber_0 hAd hZ hGd) wl_X7_133 wm_X6_putNumber wy_X6_putNumber (by decide) ⟨rfl, rfl, rfl⟩ ⟨rfl, rfl⟩, List.forall_mem_cons.mpr ⟨rv_ctV X Y fm_Ts_good dc_X7_feed (pc := 27) (i := 14) (idx := 133) rfl (m_X6_putNumber_0 hAd hZ hGd) wl_X7_133 wm_X6_putNumber wy_X6_putNumber (by decide) ⟨rfl, rfl, rfl⟩ ⟨rfl, rfl⟩, List.forall_mem_cons.mpr ⟨rv_ctV X Y fm_Ts_good dc_X7_feed (pc := 35) (i := 18) (idx := 133) rfl (m_X6_putNumber_0 hAd hZ hGd) wl_X7_133 wm_X6_putNumber wy_X6_putNumber (by decide) ⟨rfl, rfl, rfl⟩ ⟨rfl, rfl⟩, List.forall_mem_cons.mpr ⟨rv_ctV X Y fm_Ts_good dc_X7_feed (pc := 44) (i := 22) (idx := 133) rfl (m_X6_putNumber_0 hAd hZ hGd) wl_X7_133 wm_X6_putNumber wy_X6_putNumber (by decide) ⟨rfl, rfl, rfl⟩ ⟨rfl, rfl⟩, List.forall_mem_cons.mpr ⟨rv_ctV X Y fm_Ts_good dc_X7_feed (pc := 53) (i := 26) (idx := 133) rfl (m_X6_putNumber_0 hAd hZ hGd) wl_X7_133 wm_X6_putNumber wy_X6_putNumber (by decide) ⟨rfl, rfl, rfl⟩ ⟨rfl, rfl⟩, fun _ h => absurd h List.not_mem_nil⟩⟩⟩⟩⟩⟩) (fun _ _ _ _ _ _ _ _ _ _ _ _ _ _ _ _ h => absurd h List.not_mem_nil)
def K_X7_isWithin_6 : rv_K := ([rv_full, rv_i 1 1, rv_i 200 200], [], [], [(0, 0, 1)], [(.inl 0, 1, 200)], [])
def ct_X7_isWithin_6 : List (Nat × rv_K) := []
def n_X7_isWithin_6 : List rv_N := [
  (0, ([rv_full, rv_i 1 1, rv_i 200 200], [], []), [1], 8, [], []),
  (1, ([rv_full, rv_i 1 1, rv_i 200 200], [(1, 0, (-2147483648), 2147483647, [(.inl 0, 0)], [])], []), [2], 7, [], []),
  (2, ([rv_full, rv_i 1 1, rv_i 200 200], [(1, 0, 1, 1, [(.inl 1, 0)], []), (1, 0, (-2147483648), 2147483647, [(.inl 0, 0)], [])], []), [3, 8], 6, [], []),
  (3, ([rv_i 1 2147483647, rv_i 1 1, rv_i 200 200], [], []), [4], 5, [], []),
  (4, ([rv_i 1 2147483647, rv_i 1 1, rv_i 200 200], [(1, 0, 1, 2147483647, [(.inl 0, 0)], [])], []), [5], 4, [], []),
  (5, ([rv_i 1 2147483647, rv_i 1 1, rv_i 200 200], [(1, 0, 200, 200, [(.inl 2, 0)], []), (1, 0, 1, 2147483647, [(.inl 0, 0)], [])], []), [6, 8], 3, [], []),
  (6, ([rv_i 1 200, rv_i 1 1, rv_i 200 200], [], []), [7], 2, [], []),
  (7, ([rv_i 1 200, rv_i 1 1, rv_i 200 200], [rv_i 1 1], []), [10], 1, [], []),
  (8, ([rv_full, rv_i 1 1, rv_i 200 200], [], []), [9], 1, [], []),
  (9, ([rv_full, rv_i 1 1, rv_i 200 200], [rv_i 0 0], []), [], 0, [], []),
  (9, ([rv_i 1 200, rv_i 1 1, rv_i 200 200], [rv_i 1 1], []), [], 0, [], [])]
set_option maxRecDepth 100000 in
theorem a_X7_isWithin_6 : rv_all (fm_tm, flX7, fm_wr, kcX7, klX7, K_X7_isWithin_6.2.2.1, [0, 1, 2], 3) ct_X7_isWithin_6 cd_X7_isWithin n_X7_isWithin_6 K_X7_isWithin_6 [] 0 n_X7_isWithin_6 = true := rv_fast (rv_at_eq n_X7_isWithin_6) (rv_at_eq cd_X7_isWithin) (by decide +kernel)
theorem m_X7_isWithin_6 {l : Launch} {D : va_G} {ad : Nat → Nat} {cy : Nat → ClassId} {Z : State → Heap → Prop} {Gp : fm_V → Prop} (hAd : fm_Ad fm_tm ad) (hZ : fm_Zk (fm_A fm_tm ad) Z) (hGd : fm_Gd Gp) : rv_Met l D fm_cl fm_tm ad cy fm_nt Z Gp yX7_isWithin (.code yX7_isWithin prog_1_method_34_code 3 (some .boolean) :: fm_Ts) { frames := 0, cells := 0, slots := 0, locals := 0 } K_X7_isWithin_6 := rv_met hAd hZ (Or.inl (by decide +kernel)) evX7 dc_X7_isWithin a_X7_isWithin_6 ⟨rfl, rfl, rfl⟩ (by decide +kernel) (by decide +kernel) (by decide) (fm_gm hGd (by decide +kernel)) (Or.inr ⟨rfl, by decide, by decide⟩) (fun p e s m args below meth c Q X Y => fun _ h => absurd h List.not_mem_nil) (fun _ _ _ _ _ _ _ _ _ _ _ _ _ _ _ _ h => absurd h List.not_mem_nil)
def cd_X1_clear : List (Nat × Instr × Nat) := [(0, .aload_n 0, 1), (1, .iconst 0, 1), (2, .putfield 18, 3), (5, .aload_n 0, 1), (6, .iconst 0, 1), (7, .putfield 34, 3), (10, .aload_n 0, 1), (11, .iconst 0, 1), (12, .putfield 37, 3), (15, .return_, 1)]
theorem dc_X1_clear : ∀ q ∈ cd_X1_clear, decode prog_3_method_3_code q.1 = .ok (q.2.1, q.2.2) := by decide +kernel
def K_X1_clear_0 : rv_K := ([rv_r 17], [], [(17, 2), (17, 7), (17, 8)], [], [], [])
def ct_X1_clear_0 : List (Nat × rv_K) := []
def n_X1_clear_0 : List rv_N := [
  (0, ([rv_r 17], [], []), [1], 9, [], []),
  (1, ([rv_r 17], [rv_r 17], []), [2], 8, [], []),
  (2, ([rv_r 17], [rv_i 0 0, rv_r 17], []), [3], 7, [], []),
  (3, ([rv_r 17], [], [((17, 2), 0, 0, [])]), [4], 6, [], []),
  (4, ([rv_r 17], [rv_r 17], [((17, 2), 0, 0, [])]), [5], 5, [], []),
  (5, ([rv_r 17], [rv_i 0 0, rv_r 17], [((17, 2), 0, 0, [])]), [6], 4, [], []),
  (6, ([rv_r 17], [], [((17, 2), 0, 0, []), ((17, 7), 0, 0, [])]), [7], 3, [], []),
  (7, ([rv_r 17], [rv_r 17], [((17, 2), 0, 0, []), ((17, 7), 0, 0, [])]), [8], 2, [], []),
  (8, ([rv_r 17], [rv_i 0 0, rv_r 17], [((17, 2), 0, 0, []), ((17, 7), 0, 0, [])]), [9], 1, [], []),
  (9, ([rv_r 17], [], [((17, 2), 0, 0, []), ((17, 7), 0, 0, []), ((17, 8), 0, 0, [])]), [], 0, [], [])]
set_option maxRecDepth 100000 in
theorem a_X1_clear_0 : rv_all (fm_tm, flX1, fm_wr, kcX1, klX1, K_X1_clear_0.2.2.1, [], 1) ct_X1_clear_0 cd_X1_clear n_X1_clear_0 K_X1_clear_0 [] 0 n_X1_clear_0 = true := rv_fast (rv_at_eq n_X1_clear_0) (rv_at_eq cd_X1_clear) (by decide +kernel)
theorem m_X1_clear_0 {l : Launch} {D : va_G} {ad : Nat → Nat} {cy : Nat → ClassId} {Z : State → Heap → Prop} {Gp : fm_V → Prop} (hAd : fm_Ad fm_tm ad) (hZ : fm_Zk (fm_A fm_tm ad) Z) (hGd : fm_Gd Gp) : rv_Met l D fm_cl fm_tm ad cy fm_nt Z Gp yX1_clear (.code yX1_clear prog_3_method_3_code 1 none :: fm_Ts) { frames := 0, cells := 0, slots := 0, locals := 0 } K_X1_clear_0 := rv_met hAd hZ (Or.inl (by decide +kernel)) evX1 dc_X1_clear a_X1_clear_0 ⟨rfl, rfl, rfl⟩ (by decide +kernel) (by decide +kernel) (by decide) (fm_gm hGd (by decide +kernel)) (rfl) (fun p e s m args below meth c Q X Y => fun _ h => absurd h List.not_mem_nil) (fun _ _ _ _ _ _ _ _ _ _ _ _ _ _ _ _ h => absurd h List.not_mem_nil)
def cd_X3_next : List (Nat × Instr × Nat) := [(0, .aload_n 0, 1), (1, .getfield 22, 3), (4, .ifCond .lt 39, 3), (7, .aload_n 0, 1), (8, .getfield 22, 3), (11, .aload_n 0, 1), (12, .getfield 18, 3), (15, .if_icmp .ge 28, 3), (18, .aload_n 0, 1), (19, .getfield 22, 3), (22, .sipush 220, 3), (25, .if_icmp .ge 18, 3), (28, .aload_n 0, 1), (29, .getfield 28, 3), (32, .getfield 50, 3), (35, .aload_n 0, 1), (36, .getfield 22, 3), (39, .iaload, 1), (40, .goto 4, 3), (43, .iconst (-1), 1), (44, .ireturn, 1)]
theorem dc_X3_next : ∀ q ∈ cd_X3_next, decode prog_5_method_3_code q.1 = .ok (q.2.1, q.2.2) := by decide +kernel
def K_X3_next_0 : rv_K := ([rv_r 16], [], [], [(0, (-1), 255)], [], [])
def ct_X3_next_0 : List (Nat × rv_K) := []
def n_X3_next_0_0 : List rv_N := [
  (0, ([rv_r 16], [], []), [1], 19, [], []),
  (1, ([rv_r 16], [rv_r 16], []), [2], 18, [], []),
  (2, ([rv_r 16], [(1, 0, (-2147483648), 2147483647, [(.inr (16, 3), 0)], [])], []), [3, 19], 17, [], []),
  (3, ([rv_r 16], [], [((16, 3), 0, 2147483647, [])]), [4], 16, [], []),
  (4, ([rv_r 16], [rv_r 16], [((16, 3), 0, 2147483647, [])]), [5], 15, [], []),
  (5, ([rv_r 16], [(1, 0, 0, 2147483647, [(.inr (16, 3), 0)], [])], [((16, 3), 0, 2147483647, [])]), [6], 14, [], []),
  (6, ([rv_r 16], [rv_r 16, (1, 0, 0, 2147483647, [(.inr (16, 3), 0)], [])], [((16, 3), 0, 2147483647, [])]), [7], 13, [], []),
  (7, ([rv_r 16], [(1, 0, (-2147483648), 2147483647, [(.inr (16, 2), 0)], []), (1, 0, 0, 2147483647, [(.inr (16, 3), 0)], [])], [((16, 3), 0, 2147483647, [])]), [8, 19], 12, [], []),
  (8, ([rv_r 16], [], [((16, 2), 1, 2147483647, []), ((16, 3), 0, 2147483646, [])]), [9], 11, [], []),
  (9, ([rv_r 16], [rv_r 16], [((16, 2), 1, 2147483647, []), ((16, 3), 0, 2147483646, [])]), [10], 10, [], []),
  (10, ([rv_r 16], [(1, 0, 0, 2147483646, [(.inr (16, 3), 0)], [])], [((16, 2), 1, 2147483647, []), ((16, 3), 0, 2147483646, [])]), [11], 9, [], []),
  (11, ([rv_r 16], [rv_i 220 220, (1, 0, 0, 2147483646, [(.inr (16, 3), 0)], [])], [((16, 2), 1, 2147483647, []), ((16, 3), 0, 2147483646, [])]), [12, 19], 8, [], []),
  (12, ([rv_r 16], [], [((16, 2), 1, 2147483647, []), ((16, 3), 0, 219, [])]), [13], 7, [], []),
  (13, ([rv_r 16], [rv_r 16], [((16, 2), 1, 2147483647, []), ((16, 3), 0, 219, [])]), [14], 6, [], []),
  (14, ([rv_r 16], [rv_r 3], [((16, 2), 1, 2147483647, []), ((16, 3), 0, 219, [])]), [15], 5, [], []),
  (15, ([rv_r 16], [rv_r 4], [((16, 2), 1, 2147483647, []), ((16, 3), 0, 219, [])]), [16], 4, [], [])]
def n_X3_next_0_1 : List rv_N := [
  (16, ([rv_r 16], [rv_r 16, rv_r 4], [((16, 2), 1, 2147483647, []), ((16, 3), 0, 219, [])]), [17], 3, [], []),
  (17, ([rv_r 16], [(1, 0, 0, 219, [(.inr (16, 3), 0)], []), rv_r 4], [((16, 2), 1, 2147483647, []), ((16, 3), 0, 219, [])]), [18], 2, [], []),
  (18, ([rv_r 16], [rv_i 0 255], [((16, 2), 1, 2147483647, []), ((16, 3), 0, 219, [])]), [21], 1, [], []),
  (19, ([rv_r 16], [], []), [20], 1, [], []),
  (20, ([rv_r 16], [rv_i (-1) (-1)], []), [], 0, [], []),
  (20, ([rv_r 16], [rv_i 0 255], [((16, 2), 1, 2147483647, []), ((16, 3), 0, 219, [])]), [], 0, [], [])]
def n_X3_next_0 : List rv_N := n_X3_next_0_0 ++ (n_X3_next_0_1)
noncomputable def gn_X3_next_0 : Nat → Option rv_N := rv_ap 16 (rv_at n_X3_next_0_0) (rv_at n_X3_next_0_1)
theorem hn_X3_next_0 : ∀ i : Nat, n_X3_next_0[i]? = gn_X3_next_0 i := rv_ap_eq (l := n_X3_next_0_0) (c := 16) (rv_at_eq n_X3_next_0_1) rfl
set_option maxRecDepth 100000 in
theorem a_X3_next_0 : rv_all (fm_tm, flX3, fm_wr, kcX3, klX3, K_X3_next_0.2.2.1, [], 1) ct_X3_next_0 cd_X3_next n_X3_next_0 K_X3_next_0 [] 0 n_X3_next_0 = true := rv_fast hn_X3_next_0 (rv_at_eq cd_X3_next) (by decide +kernel)
theorem m_X3_next_0 {l : Launch} {D : va_G} {ad : Nat → Nat} {cy : Nat → ClassId} {Z : State → Heap → Prop} {Gp : fm_V → Prop} (hAd : fm_Ad fm_tm ad) (hZ : fm_Zk (fm_A fm_tm ad) Z) (hGd : fm_Gd Gp) : rv_Met l D fm_cl fm_tm ad cy fm_nt Z Gp yX3_next (.code yX3_next prog_5_method_3_code 1 (some .int) :: fm_Ts) { frames := 0, cells := 0, slots := 0, locals := 0 } K_X3_next_0 := rv_met hAd hZ (Or.inl (by decide +kernel)) evX3 dc_X3_next a_X3_next_0 ⟨rfl, rfl, rfl⟩ (by decide +kernel) (by decide +kernel) (by decide) (fm_gm hGd (by decide +kernel)) (Or.inl rfl) (fun p e s m args below meth c Q X Y => fun _ h => absurd h List.not_mem_nil) (fun _ _ _ _ _ _ _ _ _ _ _ _ _ _ _ _ h => absurd h List.not_mem_nil)
def cd_X3_fail : List (Nat × Instr × Nat) := [(0, .aload_n 0, 1), (1, .sipush (-1000), 3), (4, .iload_n 1, 1), (5, .imul, 1), (6, .aload_n 0, 1), (7, .getfield 22, 3), (10, .isub, 1), (11, .putfield 25, 3), (14, .iconst 0, 1), (15, .ireturn, 1)]
theorem dc_X3_fail : ∀ q ∈ cd_X3_fail, decode prog_5_method_4_code q.1 = .ok (q.2.1, q.2.2) := by decide +kernel
def K_X3_fail_0 : rv_K := ([rv_r 16, rv_full], [], [(16, 4)], [(0, 0, 0)], [], [])
def ct_X3_fail_0 : List (Nat × rv_K) := []
def n_X3_fail_0 : List rv_N := [
  (0, ([rv_r 16, rv_full], [], []), [1], 9, [], []),
  (1, ([rv_r 16, rv_full], [rv_r 16], []), [2], 8, [], []),
  (2, ([rv_r 16, rv_full], [rv_i (-1000) (-1000), rv_r 16], []), [3], 7, [], []),
  (3, ([rv_r 16, rv_full], [(1, 0, (-2147483648), 2147483647, [(.inl 1, 0)], []), rv_i (-1000) (-1000), rv_r 16], []), [4], 6, [], []),
  (4, ([rv_r 16, rv_full], [rv_full, rv_r 16], []), [5], 5, [], []),
  (5, ([rv_r 16, rv_full], [rv_r 16, rv_full, rv_r 16], []), [6], 4, [], []),
  (6, ([rv_r 16, rv_full], [(1, 0, (-2147483648), 2147483647, [(.inr (16, 3), 0)], []), rv_full, rv_r 16], []), [7], 3, [], []),
  (7, ([rv_r 16, rv_full], [rv_full, rv_r 16], []), [8], 2, [], []),
  (8, ([rv_r 16, rv_full], [], []), [9], 1, [], []),
  (9, ([rv_r 16, rv_full], [rv_i 0 0], []), [], 0, [], [])]
set_option maxRecDepth 100000 in
theorem a_X3_fail_0 : rv_all (fm_tm, flX3, fm_wr, kcX3, klX3, K_X3_fail_0.2.2.1, [], 2) ct_X3_fail_0 cd_X3_fail n_X3_fail_0 K_X3_fail_0 [] 0 n_X3_fail_0 = true := rv_fast (rv_at_eq n_X3_fail_0) (rv_at_eq cd_X3_fail) (by decide +kernel)
theorem m_X3_fail_0 {l : Launch} {D : va_G} {ad : Nat → Nat} {cy : Nat → ClassId} {Z : State → Heap → Prop} {Gp : fm_V → Prop} (hAd : fm_Ad fm_tm ad) (hZ : fm_Zk (fm_A fm_tm ad) Z) (hGd : fm_Gd Gp) : rv_Met l D fm_cl fm_tm ad cy fm_nt Z Gp yX3_fail (.code yX3_fail prog_5_method_4_code 2 (some .boolean) :: fm_Ts) { frames := 0, cells := 0, slots := 0, locals := 0 } K_X3_fail_0 := rv_met hAd hZ (Or.inl (by decide +kernel)) evX3 dc_X3_fail a_X3_fail_0 ⟨rfl, rfl, rfl⟩ (by decide +kernel) (by decide +kernel) (by decide) (fm_gm hGd (by decide +kernel)) (Or.inr ⟨rfl, by decide, by decide⟩) (fun p e s m args below meth c Q X Y => fun _ h => absurd h List.not_mem_nil) (fun _ _ _ _ _ _ _ _ _ _ _ _ _ _ _ _ h => absurd h List.not_mem_nil)
def cd_X3_open : List (Nat × Instr × Nat) := [(0, .aload_n 0, 1), (1, .invokevirtual 39, 3), (4, .iload_n 1, 1), (5, .if_icmp .eq 9, 3), (8, .aload_n 0, 1), (9, .iconst 1, 1), (10, .invokevirtual 43, 3), (13, .ireturn, 1), (14, .iload_n 2, 1), (15, .bipush 6, 2), (17, .if_icmp .lt 9, 3), (20, .aload_n 0, 1), (21, .iconst 5, 1), (22, .invokevirtual 43, 3), (25, .ireturn, 1), (26, .aload_n 0, 1), (27, .dup, 1), (28, .getfield 22, 3), (31, .iconst 1, 1), (32, .iadd, 1), (33, .putfield 22, 3), (36, .iconst 1, 1), (37, .ireturn, 1)]
theorem dc_X3_open : ∀ q ∈ cd_X3_open, decode prog_5_method_6_code q.1 = .ok (q.2.1, q.2.2) := by decide +kernel
def K_X3_open_0 : rv_K := ([rv_r 16, rv_full, rv_full], [], [(16, 3), (16, 4)], [(0, 0, 1)], [(.inl 1, (-1), 255), (.inl 2, (-2147483648), 5)], [])
def ct_X3_open_0 : List (Nat × rv_K) := [(1, K_X3_next_0), (6, K_X3_fail_0), (13, K_X3_fail_0)]
def n_X3_open_0_0 : List rv_N := [
  (0, ([rv_r 16, rv_full, rv_full], [], []), [1], 14, [], []),
  (1, ([rv_r 16, rv_full, rv_full], [rv_r 16], []), [2], 13, [], [0]),
  (2, ([rv_r 16, rv_full, rv_full], [rv_i (-1) 255], []), [3], 12, [], []),
  (3, ([rv_r 16, rv_full, rv_full], [(1, 0, (-2147483648), 2147483647, [(.inl 1, 0)], []), rv_i (-1) 255], []), [4, 8], 11, [], []),
  (4, ([rv_r 16, rv_full, rv_full], [], []), [5], 3, [], []),
  (5, ([rv_r 16, rv_full, rv_full], [rv_r 16], []), [6], 2, [], []),
  (6, ([rv_r 16, rv_full, rv_full], [rv_i 1 1, rv_r 16], []), [7], 1, [], [1]),
  (7, ([rv_r 16, rv_full, rv_full], [rv_i 0 0], []), [], 0, [], []),
  (8, ([rv_r 16, rv_i (-1) 255, rv_full], [], []), [9], 10, [], []),
  (9, ([rv_r 16, rv_i (-1) 255, rv_full], [(1, 0, (-2147483648), 2147483647, [(.inl 2, 0)], [])], []), [10], 9, [], []),
  (10, ([rv_r 16, rv_i (-1) 255, rv_full], [rv_i 6 6, (1, 0, (-2147483648), 2147483647, [(.inl 2, 0)], [])], []), [11, 15], 8, [], []),
  (11, ([rv_r 16, rv_i (-1) 255, rv_i 6 2147483647], [], []), [12], 3, [], []),
  (12, ([rv_r 16, rv_i (-1) 255, rv_i 6 2147483647], [rv_r 16], []), [13], 2, [], []),
  (13, ([rv_r 16, rv_i (-1) 255, rv_i 6 2147483647], [rv_i 5 5, rv_r 16], []), [14], 1, [], [2]),
  (14, ([rv_r 16, rv_i (-1) 255, rv_i 6 2147483647], [rv_i 0 0], []), [], 0, [], []),
  (15, ([rv_r 16, rv_i (-1) 255, rv_i (-2147483648) 5], [], []), [16], 7, [], [])]
def n_X3_open_0_1 : List rv_N := [
  (16, ([rv_r 16, rv_i (-1) 255, rv_i (-2147483648) 5], [rv_r 16], []), [17], 6, [], []),
  (17, ([rv_r 16, rv_i (-1) 255, rv_i (-2147483648) 5], [rv_r 16, rv_r 16], []), [18], 5, [], []),
  (18, ([rv_r 16, rv_i (-1) 255, rv_i (-2147483648) 5], [(1, 0, (-2147483648), 2147483647, [(.inr (16, 3), 0)], []), rv_r 16], []), [19], 4, [], []),
  (19, ([rv_r 16, rv_i (-1) 255, rv_i (-2147483648) 5], [rv_i 1 1, (1, 0, (-2147483648), 2147483647, [(.inr (16, 3), 0)], []), rv_r 16], []), [20], 3, [], []),
  (20, ([rv_r 16, rv_i (-1) 255, rv_i (-2147483648) 5], [(1, 0, (-2147483648), 2147483647, [(.inr (16, 3), 1)], []), rv_r 16], []), [21], 2, [], []),
  (21, ([rv_r 16, rv_i (-1) 255, rv_i (-2147483648) 5], [], []), [22], 1, [], []),
  (22, ([rv_r 16, rv_i (-1) 255, rv_i (-2147483648) 5], [rv_i 1 1], []), [], 0, [], [])]
def n_X3_open_0 : List rv_N := n_X3_open_0_0 ++ (n_X3_open_0_1)
noncomputable def gn_X3_open_0 : Nat → Option rv_N := rv_ap 16 (rv_at n_X3_open_0_0) (rv_at n_X3_open_0_1)
theorem hn_X3_open_0 : ∀ i : Nat, n_X3_open_0[i]? = gn_X3_open_0 i := rv_ap_eq (l := n_X3_open_0_0) (c := 16) (rv_at_eq n_X3_open_0_1) rfl
set_option maxRecDepth 100000 in
theorem a_X3_open_0 : rv_all (fm_tm, flX3, fm_wr, kcX3, klX3, K_X3_open_0.2.2.1, [1, 2], 3) ct_X3_open_0 cd_X3_open n_X3_open_0 K_X3_open_0 [] 0 n_X3_open_0 = true := rv_fast hn_X3_open_0 (rv_at_eq cd_X3_open) (by decide +kernel)
theorem m_X3_open_0 {l : Launch} {D : va_G} {ad : Nat → Nat} {cy : Nat → ClassId} {Z : State → Heap → Prop} {Gp : fm_V → Prop} (hAd : fm_Ad fm_tm ad) (hZ : fm_Zk (fm_A fm_tm ad) Z) (hGd : fm_Gd Gp) : rv_Met l D fm_cl fm_tm ad cy fm_nt Z Gp yX3_open (.code yX3_open prog_5_method_6_code 3 (some .boolean) :: fm_Ts) { frames := 1, cells := 0, slots := 0, locals := 100 } K_X3_open_0 := rv_met hAd hZ (Or.inl (by decide +kernel)) evX3 dc_X3_open a_X3_open_0 ⟨rfl, rfl, rfl⟩ (by decide +kernel) (by decide +kernel) (by decide) (fm_gm hGd (by decide +kernel)) (Or.inr ⟨rfl, by decide, by decide⟩) (fun p e s m args below meth c Q X Y => List.forall_mem_cons.mpr ⟨rv_ctV X Y fm_Ts_good dc_X3_open (pc := 1) (i := 1) (idx := 39) rfl (m_X3_next_0 hAd hZ hGd) wl_X3_39 wm_X3_next wy_X3_next (by decide) ⟨rfl, rfl, rfl⟩ ⟨rfl, rfl⟩, List.forall_mem_cons.mpr ⟨rv_ctV X Y fm_Ts_good dc_X3_open (pc := 10) (i := 6) (idx := 43) rfl (m_X3_fail_0 hAd hZ hGd) wl_X3_43 wm_X3_fail wy_X3_fail (by decide) ⟨rfl, rfl, rfl⟩ ⟨rfl, rfl⟩, List.forall_mem_cons.mpr ⟨rv_ctV X Y fm_Ts_good dc_X3_open (pc := 22) (i := 13) (idx := 43) rfl (m_X3_fail_0 hAd hZ hGd) wl_X3_43 wm_X3_fail wy_X3_fail (by decide) ⟨rfl, rfl, rfl⟩ ⟨rfl, rfl⟩, fun _ h => absurd h List.not_mem_nil⟩⟩⟩) (fun _ _ _ _ _ _ _ _ _ _ _ _ _ _ _ _ h => absurd h List.not_mem_nil)
def cd_X3_isDigit : List (Nat × Instr × Nat) := [(0, .iload_n 0, 1), (1, .bipush 48, 2), (3, .if_icmp .lt 13, 3), (6, .iload_n 0, 1), (7, .bipush 57, 2), (9, .if_icmp .gt 7, 3), (12, .iconst 1, 1), (13, .goto 4, 3), (16, .iconst 0, 1), (17, .ireturn, 1)]
theorem dc_X3_isDigit : ∀ q ∈ cd_X3_isDigit, decode prog_5_method_16_code q.1 = .ok (q.2.1, q.2.2) := by decide +kernel
def K_X3_isDigit_0 : rv_K := ([rv_full], [], [], [(0, 0, 1)], [(.inl 0, 48, 57)], [])
def ct_X3_isDigit_0 : List (Nat × rv_K) := []
def n_X3_isDigit_0 : List rv_N := [
  (0, ([rv_full], [], []), [1], 8, [], []),
  (1, ([rv_full], [(1, 0, (-2147483648), 2147483647, [(.inl 0, 0)], [])], []), [2], 7, [], []),
  (2, ([rv_full], [rv_i 48 48, (1, 0, (-2147483648), 2147483647, [(.inl 0, 0)], [])], []), [3, 8], 6, [], []),
  (3, ([rv_i 48 2147483647], [], []), [4], 5, [], []),
  (4, ([rv_i 48 2147483647], [(1, 0, 48, 2147483647, [(.inl 0, 0)], [])], []), [5], 4, [], []),
  (5, ([rv_i 48 2147483647], [rv_i 57 57, (1, 0, 48, 2147483647, [(.inl 0, 0)], [])], []), [6, 8], 3, [], []),
  (6, ([rv_i 48 57], [], []), [7], 2, [], []),
  (7, ([rv_i 48 57], [rv_i 1 1], []), [10], 1, [], []),
  (8, ([rv_full], [], []), [9], 1, [], []),
  (9, ([rv_full], [rv_i 0 0], []), [], 0, [], []),
  (9, ([rv_i 48 57], [rv_i 1 1], []), [], 0, [], [])]
set_option maxRecDepth 100000 in
theorem a_X3_isDigit_0 : rv_all (fm_tm, flX3, fm_wr, kcX3, klX3, K_X3_isDigit_0.2.2.1, [0], 1) ct_X3_isDigit_0 cd_X3_isDigit n_X3_isDigit_0 K_X3_isDigit_0 [] 0 n_X3_isDigit_0 = true := rv_fast (rv_at_eq n_X3_isDigit_0) (rv_at_eq cd_X3_isDigit) (by decide +kernel)
theorem m_X3_isDigit_0 {l : Launch} {D : va_G} {ad : Nat → Nat} {cy : Nat → ClassId} {Z : State → Heap → Prop} {Gp : fm_V → Prop} (hAd : fm_Ad fm_tm ad) (hZ : fm_Zk (fm_A fm_tm ad) Z) (hGd : fm_Gd Gp) : rv_Met l D fm_cl fm_tm ad cy fm_nt Z Gp yX3_isDigit (.code yX3_isDigit prog_5_method_16_code 1 (some .boolean) :: fm_Ts) { frames := 0, cells := 0, slots := 0, locals := 0 } K_X3_isDigit_0 := rv_met hAd hZ (Or.inl (by decide +kernel)) evX3 dc_X3_isDigit a_X3_isDigit_0 ⟨rfl, rfl, rfl⟩ (by decide +kernel) (by decide +kernel) (by decide) (fm_gm hGd (by decide +kernel)) (Or.inr ⟨rfl, by decide, by decide⟩) (fun p e s m args below meth c Q X Y => fun _ h => absurd h List.not_mem_nil) (fun _ _ _ _ _ _ _ _ _ _ _ _ _ _ _ _ h => absurd h List.not_mem_nil)
def cd_X1_putStep : List (Nat × Instr × Nat) := [(0, .aload_n 0, 1), (1, .getfield 18, 3), (4, .ifCond .lt 13, 3), (7, .aload_n 0, 1), (8, .getfield 18, 3), (11, .sipush 200, 3), (14, .if_icmp .lt 5, 3), (17, .iconst (-1), 1), (18, .ireturn, 1), (19, .aload_n 0, 1), (20, .getfield 9, 3), (23, .aload_n 0, 1), (24, .getfield 18, 3), (27, .iload_n 1, 1), (28, .iastore, 1), (29, .aload_n 0, 1), (30, .getfield 15, 3), (33, .aload_n 0, 1), (34, .getfield 18, 3), (37, .iload_n 2, 1), (38, .iastore, 1), (39, .aload_n 0, 1), (40, .dup, 1), (41, .getfield 18, 3), (44, .iconst 1, 1), (45, .iadd, 1), (46, .putfield 18, 3), (49, .aload_n 0, 1), (50, .getfield 18, 3), (53, .iconst 1, 1), (54, .isub, 1), (55, .ireturn, 1)]
theorem dc_X1_putStep : ∀ q ∈ cd_X1_putStep, decode prog_3_method_4_code q.1 = .ok (q.2.1, q.2.2) := by decide +kernel
def K_X1_putStep_0 : rv_K := ([rv_r 17, rv_full, rv_i (-10000000) 10000000], [], [(17, 2), (18, 9999), (19, 9999)], [(0, (-1), 199)], [], [])
def ct_X1_putStep_0 : List (Nat × rv_K) := []
def n_X1_putStep_0_0 : List rv_N := [
  (0, ([rv_r 17, rv_full, rv_i (-10000000) 10000000], [], []), [1], 29, [], []),
  (1, ([rv_r 17, rv_full, rv_i (-10000000) 10000000], [rv_r 17], []), [2], 28, [], []),
  (2, ([rv_r 17, rv_full, rv_i (-10000000) 10000000], [(1, 0, 0, 200, [(.inr (17, 2), 0)], [])], []), [3], 27, [], []),
  (3, ([rv_r 17, rv_full, rv_i (-10000000) 10000000], [], []), [4], 26, [], []),
  (4, ([rv_r 17, rv_full, rv_i (-10000000) 10000000], [rv_r 17], []), [5], 25, [], []),
  (5, ([rv_r 17, rv_full, rv_i (-10000000) 10000000], [(1, 0, 0, 200, [(.inr (17, 2), 0)], [])], []), [6], 24, [], []),
  (6, ([rv_r 17, rv_full, rv_i (-10000000) 10000000], [rv_i 200 200, (1, 0, 0, 200, [(.inr (17, 2), 0)], [])], []), [7, 9], 23, [], []),
  (7, ([rv_r 17, rv_full, rv_i (-10000000) 10000000], [], [((17, 2), 200, 200, [])]), [8], 1, [], []),
  (8, ([rv_r 17, rv_full, rv_i (-10000000) 10000000], [rv_i (-1) (-1)], [((17, 2), 200, 200, [])]), [], 0, [], []),
  (9, ([rv_r 17, rv_full, rv_i (-10000000) 10000000], [], [((17, 2), 0, 199, [])]), [10], 22, [], []),
  (10, ([rv_r 17, rv_full, rv_i (-10000000) 10000000], [rv_r 17], [((17, 2), 0, 199, [])]), [11], 21, [], []),
  (11, ([rv_r 17, rv_full, rv_i (-10000000) 10000000], [rv_r 18], [((17, 2), 0, 199, [])]), [12], 20, [], []),
  (12, ([rv_r 17, rv_full, rv_i (-10000000) 10000000], [rv_r 17, rv_r 18], [((17, 2), 0, 199, [])]), [13], 19, [], []),
  (13, ([rv_r 17, rv_full, rv_i (-10000000) 10000000], [(1, 0, 0, 199, [(.inr (17, 2), 0)], []), rv_r 18], [((17, 2), 0, 199, [])]), [14], 18, [], []),
  (14, ([rv_r 17, rv_full, rv_i (-10000000) 10000000], [(1, 0, (-2147483648), 2147483647, [(.inl 1, 0)], []), (1, 0, 0, 199, [(.inr (17, 2), 0)], []), rv_r 18], [((17, 2), 0, 199, [])]), [15], 17, [], []),
  (15, ([rv_r 17, rv_full, rv_i (-10000000) 10000000], [], [((17, 2), 0, 199, [])]), [16], 16, [], [])]
def n_X1_putStep_0_1 : List rv_N := [
  (16, ([rv_r 17, rv_full, rv_i (-10000000) 10000000], [rv_r 17], [((17, 2), 0, 199, [])]), [17], 15, [], []),
  (17, ([rv_r 17, rv_full, rv_i (-10000000) 10000000], [rv_r 19], [((17, 2), 0, 199, [])]), [18], 14, [], []),
  (18, ([rv_r 17, rv_full, rv_i (-10000000) 10000000], [rv_r 17, rv_r 19], [((17, 2), 0, 199, [])]), [19], 13, [], []),
  (19, ([rv_r 17, rv_full, rv_i (-10000000) 10000000], [(1, 0, 0, 199, [(.inr (17, 2), 0)], []), rv_r 19], [((17, 2), 0, 199, [])]), [20], 12, [], []),
  (20, ([rv_r 17, rv_full, rv_i (-10000000) 10000000], [(1, 0, (-10000000), 10000000, [(.inl 2, 0)], []), (1, 0, 0, 199, [(.inr (17, 2), 0)], []), rv_r 19], [((17, 2), 0, 199, [])]), [21], 11, [], []),
  (21, ([rv_r 17, rv_full, rv_i (-10000000) 10000000], [], [((17, 2), 0, 199, [])]), [22], 10, [], []),
  (22, ([rv_r 17, rv_full, rv_i (-10000000) 10000000], [rv_r 17], [((17, 2), 0, 199, [])]), [23], 9, [], []),
  (23, ([rv_r 17, rv_full, rv_i (-10000000) 10000000], [rv_r 17, rv_r 17], [((17, 2), 0, 199, [])]), [24], 8, [], []),
  (24, ([rv_r 17, rv_full, rv_i (-10000000) 10000000], [(1, 0, 0, 199, [(.inr (17, 2), 0)], []), rv_r 17], [((17, 2), 0, 199, [])]), [25], 7, [], []),
  (25, ([rv_r 17, rv_full, rv_i (-10000000) 10000000], [rv_i 1 1, (1, 0, 0, 199, [(.inr (17, 2), 0)], []), rv_r 17], [((17, 2), 0, 199, [])]), [26], 6, [], []),
  (26, ([rv_r 17, rv_full, rv_i (-10000000) 10000000], [(1, 0, 1, 200, [(.inr (17, 2), 1)], []), rv_r 17], [((17, 2), 0, 199, [])]), [27], 5, [], []),
  (27, ([rv_r 17, rv_full, rv_i (-10000000) 10000000], [], [((17, 2), 1, 200, [])]), [28], 4, [], []),
  (28, ([rv_r 17, rv_full, rv_i (-10000000) 10000000], [rv_r 17], [((17, 2), 1, 200, [])]), [29], 3, [], []),
  (29, ([rv_r 17, rv_full, rv_i (-10000000) 10000000], [(1, 0, 1, 200, [(.inr (17, 2), 0)], [])], [((17, 2), 1, 200, [])]), [30], 2, [], []),
  (30, ([rv_r 17, rv_full, rv_i (-10000000) 10000000], [rv_i 1 1, (1, 0, 1, 200, [(.inr (17, 2), 0)], [])], [((17, 2), 1, 200, [])]), [31], 1, [], []),
  (31, ([rv_r 17, rv_full, rv_i (-10000000) 10000000], [(1, 0, 0, 199, [(.inr (17, 2), (-1))], [])], [((17, 2), 1, 200, [])]), [], 0, [], [])]
def n_X1_putStep_0 : List rv_N := n_X1_putStep_0_0 ++ (n_X1_putStep_0_1)
noncomputable def gn_X1_putStep_0 : Nat → Option rv_N := rv_ap 16 (rv_at n_X1_putStep_0_0) (rv_at n_X1_putStep_0_1)
theorem hn_X1_putStep_0 : ∀ i : Nat, n_X1_putStep_0[i]? = gn_X1_putStep_0 i := rv_ap_eq (l := n_X1_putStep_0_0) (c := 16) (rv_at_eq n_X1_putStep_0_1) rfl
set_option maxRecDepth 100000 in
theorem a_X1_putStep_0 : rv_all (fm_tm, flX1, fm_wr, kcX1, klX1, K_X1_putStep_0.2.2.1, [], 3) ct_X1_putStep_0 cd_X1_putStep n_X1_putStep_0 K_X1_putStep_0 [] 0 n_X1_putStep_0 = true := rv_fast hn_X1_putStep_0 (rv_at_eq cd_X1_putStep) (by decide +kernel)
theorem m_X1_putStep_0 {l : Launch} {D : va_G} {ad : Nat → Nat} {cy : Nat → ClassId} {Z : State → Heap → Prop} {Gp : fm_V → Prop} (hAd : fm_Ad fm_tm ad) (hZ : fm_Zk (fm_A fm_tm ad) Z) (hGd : fm_Gd Gp) : rv_Met l D fm_cl fm_tm ad cy fm_nt Z Gp yX1_putStep (.code yX1_putStep prog_3_method_4_code 3 (some .int) :: fm_Ts) { frames := 0, cells := 0, slots := 0, locals := 0 } K_X1_putStep_0 := rv_met hAd hZ (Or.inl (by decide +kernel)) evX1 dc_X1_putStep a_X1_putStep_0 ⟨rfl, rfl, rfl⟩ (by decide +kernel) (by decide +kernel) (by decide) (fm_gm hGd (by decide +kernel)) (Or.inl rfl) (fun p e s m args below meth c Q X Y => fun _ h => absurd h List.not_mem_nil) (fun _ _ _ _ _ _ _ _ _ _ _ _ _ _ _ _ h => absurd h List.not_mem_nil)
def cd_X3_readNumber : List (Nat × Instr × Nat) := [(0, .iconst 0, 1), (1, .istore_n 1, 1), (2, .iconst 0, 1), (3, .istore_n 2, 1), (4, .iload_n 2, 1), (5, .iconst 5, 1), (6, .if_icmp .ge 42, 3), (9, .aload_n 0, 1), (10, .invokevirtual 39, 3), (13, .invokestatic 125, 3), (16, .ifCond .eq 32, 3), (19, .bipush 10, 2), (21, .iload_n 1, 1), (22, .imul, 1), (23, .aload_n 0, 1), (24, .invokevirtual 39, 3), (27, .iadd, 1), (28, .bipush 48, 2), (30, .isub, 1), (31, .istore_n 1, 1), (32, .aload_n 0, 1), (33, .dup, 1), (34, .getfield 22, 3), (37, .iconst 1, 1), (38, .iadd, 1), (39, .putfield 22, 3), (42, .iinc 2 1, 3), (45, .goto (-41), 3), (48, .aload_n 0, 1), (49, .invokevirtual 39, 3), (52, .invokestatic 125, 3), (55, .ifCond .eq 9, 3), (58, .aload_n 0, 1), (59, .iconst 2, 1), (60, .invokevirtual 43, 3), (63, .ireturn, 1), (64, .aload_n 0, 1), (65, .getfield 12, 3), (68, .iconst 0, 1), (69, .iload_n 1, 1), (70, .invokevirtual 108, 3), (73, .pop, 1), (74, .iconst 1, 1), (75, .ireturn, 1)]
theorem dc_X3_readNumber : ∀ q ∈ cd_X3_readNumber, decode prog_5_method_15_code q.1 = .ok (q.2.1, q.2.2) := by decide +kernel
def ch_X3_readNumber_0 : List (Nat × Instr × Nat) := [(0, .iconst 0, 1), (1, .istore_n 1, 1), (2, .iconst 0, 1), (3, .istore_n 2, 1), (4, .iload_n 2, 1), (5, .iconst 5, 1), (6, .if_icmp .ge 42, 3), (9, .aload_n 0, 1), (10, .invokevirtual 39, 3), (13, .invokestatic 125, 3), (16, .ifCond .eq 32, 3), (19, .bipush 10, 2), (21, .iload_n 1, 1), (22, .imul, 1), (23, .aload_n 0, 1), (24, .invokevirtual 39, 3)]
def ch_X3_readNumber_1 : List (Nat × Instr × Nat) := [(27, .iadd, 1), (28, .bipush 48, 2), (30, .isub, 1), (31, .istore_n 1, 1), (32, .aload_n 0, 1), (33, .dup, 1), (34, .getfield 22, 3), (37, .iconst 1, 1), (38, .iadd, 1), (39, .putfield 22, 3), (42, .iinc 2 1, 3), (45, .goto (-41), 3), (48, .aload_n 0, 1), (49, .invokevirtual 39, 3), (52, .invokestatic 125, 3), (55, .ifCond .eq 9, 3)]
def ch_X3_readNumber_2 : List (Nat × Instr × Nat) := [(58, .aload_n 0, 1), (59, .iconst 2, 1), (60, .invokevirtual 43, 3), (63, .ireturn, 1), (64, .aload_n 0, 1), (65, .getfield 12, 3), (68, .iconst 0, 1), (69, .iload_n 1, 1), (70, .invokevirtual 108, 3), (73, .pop, 1), (74, .iconst 1, 1), (75, .ireturn, 1)]
set_option maxRecDepth 100000 in
theorem he_X3_readNumber : cd_X3_readNumber = ch_X3_readNumber_0 ++ (ch_X3_readNumber_1 ++ (ch_X3_readNumber_2)) := rfl
noncomputable def gc_X3_readNumber : Nat → Option (Nat × Instr × Nat) := rv_ap 16 (rv_at ch_X3_readNumber_0) (rv_ap 16 (rv_at ch_X3_readNumber_1) (rv_at ch_X3_readNumber_2))
theorem hc_X3_readNumber : ∀ i : Nat, cd_X3_readNumber[i]? = gc_X3_readNumber i := by
  rw [he_X3_readNumber]
  exact rv_ap_eq (l := ch_X3_readNumber_0) (c := 16) (rv_ap_eq (l := ch_X3_readNumber_1) (c := 16) (rv_at_eq ch_X3_readNumber_2) rfl) rfl
def K_X3_readNumber_0 : rv_K := ([rv_r 16], [], [(16, 3), (16, 4), (17, 2), (18, 9999), (19, 9999)], [(0, 0, 1)], [], [])
def ct_X3_readNumber_0 : List (Nat × rv_K) := [(8, K_X3_next_0), (9, K_X3_isDigit_0), (15, K_X3_next_0), (29, K_X3_next_0), (30, K_X3_isDigit_0), (34, K_X3_fail_0), (40, K_X1_putStep_0)]
def n_X3_readNumber_0_0 : List rv_N := [
  (0, ([rv_r 16, rv_u, rv_u], [], []), [1], 138, [], []),
  (1, ([rv_r 16, rv_u, rv_u], [rv_i 0 0], []), [2], 137, [], []),
  (2, ([rv_r 16, rv_i 0 0, rv_u], [], []), [3], 136, [], []),
  (3, ([rv_r 16, rv_i 0 0, rv_u], [rv_i 0 0], []), [4], 135, [], []),
  (4, ([rv_r 16, rv_i 0 0, rv_i 0 0], [], []), [10], 134, [], []),
  (4, ([rv_r 16, rv_i (-49) 207, rv_i 1 1], [], []), [11], 110, [], []),
  (4, ([rv_r 16, rv_i (-539) 2277, rv_i 2 2], [], []), [12], 86, [], []),
  (4, ([rv_r 16, rv_i (-5439) 22977, rv_i 3 3], [], []), [13], 62, [], []),
  (4, ([rv_r 16, rv_i (-54439) 229977, rv_i 4 4], [], []), [14], 38, [], []),
  (4, ([rv_r 16, rv_i (-544439) 2299977, rv_i 5 5], [], []), [15], 14, [], []),
  (5, ([rv_r 16, rv_i 0 0, rv_i 0 0], [(1, 0, 0, 0, [(.inl 2, 0)], [])], []), [16], 133, [], []),
  (5, ([rv_r 16, rv_i (-49) 207, rv_i 1 1], [(1, 0, 1, 1, [(.inl 2, 0)], [])], []), [17], 109, [], []),
  (5, ([rv_r 16, rv_i (-539) 2277, rv_i 2 2], [(1, 0, 2, 2, [(.inl 2, 0)], [])], []), [18], 85, [], []),
  (5, ([rv_r 16, rv_i (-5439) 22977, rv_i 3 3], [(1, 0, 3, 3, [(.inl 2, 0)], [])], []), [19], 61, [], []),
  (5, ([rv_r 16, rv_i (-54439) 229977, rv_i 4 4], [(1, 0, 4, 4, [(.inl 2, 0)], [])], []), [20], 37, [], []),
  (5, ([rv_r 16, rv_i (-544439) 2299977, rv_i 5 5], [(1, 0, 5, 5, [(.inl 2, 0)], [])], []), [21], 13, [], [])]
def n_X3_readNumber_0_1 : List rv_N := [
  (6, ([rv_r 16, rv_i 0 0, rv_i 0 0], [rv_i 5 5, (1, 0, 0, 0, [(.inl 2, 0)], [])], []), [22], 132, [], []),
  (6, ([rv_r 16, rv_i (-49) 207, rv_i 1 1], [rv_i 5 5, (1, 0, 1, 1, [(.inl 2, 0)], [])], []), [23], 108, [], []),
  (6, ([rv_r 16, rv_i (-539) 2277, rv_i 2 2], [rv_i 5 5, (1, 0, 2, 2, [(.inl 2, 0)], [])], []), [24], 84, [], []),
  (6, ([rv_r 16, rv_i (-5439) 22977, rv_i 3 3], [rv_i 5 5, (1, 0, 3, 3, [(.inl 2, 0)], [])], []), [25], 60, [], []),
  (6, ([rv_r 16, rv_i (-54439) 229977, rv_i 4 4], [rv_i 5 5, (1, 0, 4, 4, [(.inl 2, 0)], [])], []), [26], 36, [], []),
  (6, ([rv_r 16, rv_i (-544439) 2299977, rv_i 5 5], [rv_i 5 5, (1, 0, 5, 5, [(.inl 2, 0)], [])], []), [132], 12, [], []),
  (7, ([rv_r 16, rv_i 0 0, rv_i 0 0], [], []), [27], 131, [], []),
  (7, ([rv_r 16, rv_i (-49) 207, rv_i 1 1], [], []), [28], 107, [], []),
  (7, ([rv_r 16, rv_i (-539) 2277, rv_i 2 2], [], []), [29], 83, [], []),
  (7, ([rv_r 16, rv_i (-5439) 22977, rv_i 3 3], [], []), [30], 59, [], []),
  (7, ([rv_r 16, rv_i (-54439) 229977, rv_i 4 4], [], []), [31], 35, [], []),
  (8, ([rv_r 16, rv_i 0 0, rv_i 0 0], [rv_r 16], []), [32], 130, [], [0]),
  (8, ([rv_r 16, rv_i (-49) 207, rv_i 1 1], [rv_r 16], []), [33], 106, [], [0]),
  (8, ([rv_r 16, rv_i (-539) 2277, rv_i 2 2], [rv_r 16], []), [34], 82, [], [0]),
  (8, ([rv_r 16, rv_i (-5439) 22977, rv_i 3 3], [rv_r 16], []), [35], 58, [], [0]),
  (8, ([rv_r 16, rv_i (-54439) 229977, rv_i 4 4], [rv_r 16], []), [36], 34, [], [0])]
def n_X3_readNumber_0_2 : List rv_N := [
  (9, ([rv_r 16, rv_i 0 0, rv_i 0 0], [rv_i (-1) 255], []), [37], 129, [], [1]),
  (9, ([rv_r 16, rv_i (-49) 207, rv_i 1 1], [rv_i (-1) 255], []), [38], 105, [], [1]),
  (9, ([rv_r 16, rv_i (-539) 2277, rv_i 2 2], [rv_i (-1) 255], []), [39], 81, [], [1]),
  (9, ([rv_r 16, rv_i (-5439) 22977, rv_i 3 3], [rv_i (-1) 255], []), [40], 57, [], [1]),
  (9, ([rv_r 16, rv_i (-54439) 229977, rv_i 4 4], [rv_i (-1) 255], []), [41], 33, [], [1]),
  (10, ([rv_r 16, rv_i 0 0, rv_i 0 0], [rv_i 0 1], []), [42, 127], 128, [], []),
  (10, ([rv_r 16, rv_i (-49) 207, rv_i 1 1], [rv_i 0 1], []), [43, 128], 104, [], []),
  (10, ([rv_r 16, rv_i (-539) 2277, rv_i 2 2], [rv_i 0 1], []), [44, 129], 80, [], []),
  (10, ([rv_r 16, rv_i (-5439) 22977, rv_i 3 3], [rv_i 0 1], []), [45, 130], 56, [], []),
  (10, ([rv_r 16, rv_i (-54439) 229977, rv_i 4 4], [rv_i 0 1], []), [46, 131], 32, [], []),
  (11, ([rv_r 16, rv_i 0 0, rv_i 0 0], [], []), [47], 127, [], []),
  (11, ([rv_r 16, rv_i (-49) 207, rv_i 1 1], [], []), [48], 103, [], []),
  (11, ([rv_r 16, rv_i (-539) 2277, rv_i 2 2], [], []), [49], 79, [], []),
  (11, ([rv_r 16, rv_i (-5439) 22977, rv_i 3 3], [], []), [50], 55, [], []),
  (11, ([rv_r 16, rv_i (-54439) 229977, rv_i 4 4], [], []), [51], 31, [], []),
  (12, ([rv_r 16, rv_i 0 0, rv_i 0 0], [rv_i 10 10], []), [52], 126, [], [])]
def n_X3_readNumber_0_3 : List rv_N := [
  (12, ([rv_r 16, rv_i (-49) 207, rv_i 1 1], [rv_i 10 10], []), [53], 102, [], []),
  (12, ([rv_r 16, rv_i (-539) 2277, rv_i 2 2], [rv_i 10 10], []), [54], 78, [], []),
  (12, ([rv_r 16, rv_i (-5439) 22977, rv_i 3 3], [rv_i 10 10], []), [55], 54, [], []),
  (12, ([rv_r 16, rv_i (-54439) 229977, rv_i 4 4], [rv_i 10 10], []), [56], 30, [], []),
  (13, ([rv_r 16, rv_i 0 0, rv_i 0 0], [(1, 0, 0, 0, [(.inl 1, 0)], []), rv_i 10 10], []), [57], 125, [], []),
  (13, ([rv_r 16, rv_i (-49) 207, rv_i 1 1], [(1, 0, (-49), 207, [(.inl 1, 0)], []), rv_i 10 10], []), [58], 101, [], []),
  (13, ([rv_r 16, rv_i (-539) 2277, rv_i 2 2], [(1, 0, (-539), 2277, [(.inl 1, 0)], []), rv_i 10 10], []), [59], 77, [], []),
  (13, ([rv_r 16, rv_i (-5439) 22977, rv_i 3 3], [(1, 0, (-5439), 22977, [(.inl 1, 0)], []), rv_i 10 10], []), [60], 53, [], []),
  (13, ([rv_r 16, rv_i (-54439) 229977, rv_i 4 4], [(1, 0, (-54439), 229977, [(.inl 1, 0)], []), rv_i 10 10], []), [61], 29, [], []),
  (14, ([rv_r 16, rv_i 0 0, rv_i 0 0], [rv_i 0 0], []), [62], 124, [], []),
  (14, ([rv_r 16, rv_i (-49) 207, rv_i 1 1], [rv_i (-490) 2070], []), [63], 100, [], []),
  (14, ([rv_r 16, rv_i (-539) 2277, rv_i 2 2], [rv_i (-5390) 22770], []), [64], 76, [], []),
  (14, ([rv_r 16, rv_i (-5439) 22977, rv_i 3 3], [rv_i (-54390) 229770], []), [65], 52, [], []),
  (14, ([rv_r 16, rv_i (-54439) 229977, rv_i 4 4], [rv_i (-544390) 2299770], []), [66], 28, [], []),
  (15, ([rv_r 16, rv_i 0 0, rv_i 0 0], [rv_r 16, rv_i 0 0], []), [67], 123, [], [2]),
  (15, ([rv_r 16, rv_i (-49) 207, rv_i 1 1], [rv_r 16, rv_i (-490) 2070], []), [68], 99, [], [2])]
def n_X3_readNumber_0_4 : List rv_N := [
  (15, ([rv_r 16, rv_i (-539) 2277, rv_i 2 2], [rv_r 16, rv_i (-5390) 22770], []), [69], 75, [], [2]),
  (15, ([rv_r 16, rv_i (-5439) 22977, rv_i 3 3], [rv_r 16, rv_i (-54390) 229770], []), [70], 51, [], [2]),
  (15, ([rv_r 16, rv_i (-54439) 229977, rv_i 4 4], [rv_r 16, rv_i (-544390) 2299770], []), [71], 27, [], [2]),
  (16, ([rv_r 16, rv_i 0 0, rv_i 0 0], [rv_i (-1) 255, rv_i 0 0], []), [72], 122, [], []),
  (16, ([rv_r 16, rv_i (-49) 207, rv_i 1 1], [rv_i (-1) 255, rv_i (-490) 2070], []), [73], 98, [], []),
  (16, ([rv_r 16, rv_i (-539) 2277, rv_i 2 2], [rv_i (-1) 255, rv_i (-5390) 22770], []), [74], 74, [], []),
  (16, ([rv_r 16, rv_i (-5439) 22977, rv_i 3 3], [rv_i (-1) 255, rv_i (-54390) 229770], []), [75], 50, [], []),
  (16, ([rv_r 16, rv_i (-54439) 229977, rv_i 4 4], [rv_i (-1) 255, rv_i (-544390) 2299770], []), [76], 26, [], []),
  (17, ([rv_r 16, rv_i 0 0, rv_i 0 0], [rv_i (-1) 255], []), [77], 121, [], []),
  (17, ([rv_r 16, rv_i (-49) 207, rv_i 1 1], [rv_i (-491) 2325], []), [78], 97, [], []),
  (17, ([rv_r 16, rv_i (-539) 2277, rv_i 2 2], [rv_i (-5391) 23025], []), [79], 73, [], []),
  (17, ([rv_r 16, rv_i (-5439) 22977, rv_i 3 3], [rv_i (-54391) 230025], []), [80], 49, [], []),
  (17, ([rv_r 16, rv_i (-54439) 229977, rv_i 4 4], [rv_i (-544391) 2300025], []), [81], 25, [], []),
  (18, ([rv_r 16, rv_i 0 0, rv_i 0 0], [rv_i 48 48, rv_i (-1) 255], []), [82], 120, [], []),
  (18, ([rv_r 16, rv_i (-49) 207, rv_i 1 1], [rv_i 48 48, rv_i (-491) 2325], []), [83], 96, [], []),
  (18, ([rv_r 16, rv_i (-539) 2277, rv_i 2 2], [rv_i 48 48, rv_i (-5391) 23025], []), [84], 72, [], [])]
def n_X3_readNumber_0_5 : List rv_N := [
  (18, ([rv_r 16, rv_i (-5439) 22977, rv_i 3 3], [rv_i 48 48, rv_i (-54391) 230025], []), [85], 48, [], []),
  (18, ([rv_r 16, rv_i (-54439) 229977, rv_i 4 4], [rv_i 48 48, rv_i (-544391) 2300025], []), [86], 24, [], []),
  (19, ([rv_r 16, rv_i 0 0, rv_i 0 0], [rv_i (-49) 207], []), [87], 119, [], []),
  (19, ([rv_r 16, rv_i (-49) 207, rv_i 1 1], [rv_i (-539) 2277], []), [88], 95, [], []),
  (19, ([rv_r 16, rv_i (-539) 2277, rv_i 2 2], [rv_i (-5439) 22977], []), [89], 71, [], []),
  (19, ([rv_r 16, rv_i (-5439) 22977, rv_i 3 3], [rv_i (-54439) 229977], []), [90], 47, [], []),
  (19, ([rv_r 16, rv_i (-54439) 229977, rv_i 4 4], [rv_i (-544439) 2299977], []), [91], 23, [], []),
  (20, ([rv_r 16, rv_i (-49) 207, rv_i 0 0], [], []), [92], 118, [], []),
  (20, ([rv_r 16, rv_i (-539) 2277, rv_i 1 1], [], []), [93], 94, [], []),
  (20, ([rv_r 16, rv_i (-5439) 22977, rv_i 2 2], [], []), [94], 70, [], []),
  (20, ([rv_r 16, rv_i (-54439) 229977, rv_i 3 3], [], []), [95], 46, [], []),
  (20, ([rv_r 16, rv_i (-544439) 2299977, rv_i 4 4], [], []), [96], 22, [], []),
  (21, ([rv_r 16, rv_i (-49) 207, rv_i 0 0], [rv_r 16], []), [97], 117, [], []),
  (21, ([rv_r 16, rv_i (-539) 2277, rv_i 1 1], [rv_r 16], []), [98], 93, [], []),
  (21, ([rv_r 16, rv_i (-5439) 22977, rv_i 2 2], [rv_r 16], []), [99], 69, [], []),
  (21, ([rv_r 16, rv_i (-54439) 229977, rv_i 3 3], [rv_r 16], []), [100], 45, [], [])]
def n_X3_readNumber_0_6 : List rv_N := [
  (21, ([rv_r 16, rv_i (-544439) 2299977, rv_i 4 4], [rv_r 16], []), [101], 21, [], []),
  (22, ([rv_r 16, rv_i (-49) 207, rv_i 0 0], [rv_r 16, rv_r 16], []), [102], 116, [], []),
  (22, ([rv_r 16, rv_i (-539) 2277, rv_i 1 1], [rv_r 16, rv_r 16], []), [103], 92, [], []),
  (22, ([rv_r 16, rv_i (-5439) 22977, rv_i 2 2], [rv_r 16, rv_r 16], []), [104], 68, [], []),
  (22, ([rv_r 16, rv_i (-54439) 229977, rv_i 3 3], [rv_r 16, rv_r 16], []), [105], 44, [], []),
  (22, ([rv_r 16, rv_i (-544439) 2299977, rv_i 4 4], [rv_r 16, rv_r 16], []), [106], 20, [], []),
  (23, ([rv_r 16, rv_i (-49) 207, rv_i 0 0], [(1, 0, (-2147483648), 2147483647, [(.inr (16, 3), 0)], []), rv_r 16], []), [107], 115, [], []),
  (23, ([rv_r 16, rv_i (-539) 2277, rv_i 1 1], [(1, 0, (-2147483648), 2147483647, [(.inr (16, 3), 0)], []), rv_r 16], []), [108], 91, [], []),
  (23, ([rv_r 16, rv_i (-5439) 22977, rv_i 2 2], [(1, 0, (-2147483648), 2147483647, [(.inr (16, 3), 0)], []), rv_r 16], []), [109], 67, [], []),
  (23, ([rv_r 16, rv_i (-54439) 229977, rv_i 3 3], [(1, 0, (-2147483648), 2147483647, [(.inr (16, 3), 0)], []), rv_r 16], []), [110], 43, [], []),
  (23, ([rv_r 16, rv_i (-544439) 2299977, rv_i 4 4], [(1, 0, (-2147483648), 2147483647, [(.inr (16, 3), 0)], []), rv_r 16], []), [111], 19, [], []),
  (24, ([rv_r 16, rv_i (-49) 207, rv_i 0 0], [rv_i 1 1, (1, 0, (-2147483648), 2147483647, [(.inr (16, 3), 0)], []), rv_r 16], []), [112], 114, [], []),
  (24, ([rv_r 16, rv_i (-539) 2277, rv_i 1 1], [rv_i 1 1, (1, 0, (-2147483648), 2147483647, [(.inr (16, 3), 0)], []), rv_r 16], []), [113], 90, [], []),
  (24, ([rv_r 16, rv_i (-5439) 22977, rv_i 2 2], [rv_i 1 1, (1, 0, (-2147483648), 2147483647, [(.inr (16, 3), 0)], []), rv_r 16], []), [114], 66, [], []),
  (24, ([rv_r 16, rv_i (-54439) 229977, rv_i 3 3], [rv_i 1 1, (1, 0, (-2147483648), 2147483647, [(.inr (16, 3), 0)], []), rv_r 16], []), [115], 42, [], []),
  (24, ([rv_r 16, rv_i (-544439) 2299977, rv_i 4 4], [rv_i 1 1, (1, 0, (-2147483648), 2147483647, [(.inr (16, 3), 0)], []), rv_r 16], []), [116], 18, [], [])]
def n_X3_readNumber_0_7 : List rv_N := [
  (25, ([rv_r 16, rv_i (-49) 207, rv_i 0 0], [(1, 0, (-2147483648), 2147483647, [(.inr (16, 3), 1)], []), rv_r 16], []), [117], 113, [], []),
  (25, ([rv_r 16, rv_i (-539) 2277, rv_i 1 1], [(1, 0, (-2147483648), 2147483647, [(.inr (16, 3), 1)], []), rv_r 16], []), [118], 89, [], []),
  (25, ([rv_r 16, rv_i (-5439) 22977, rv_i 2 2], [(1, 0, (-2147483648), 2147483647, [(.inr (16, 3), 1)], []), rv_r 16], []), [119], 65, [], []),
  (25, ([rv_r 16, rv_i (-54439) 229977, rv_i 3 3], [(1, 0, (-2147483648), 2147483647, [(.inr (16, 3), 1)], []), rv_r 16], []), [120], 41, [], []),
  (25, ([rv_r 16, rv_i (-544439) 2299977, rv_i 4 4], [(1, 0, (-2147483648), 2147483647, [(.inr (16, 3), 1)], []), rv_r 16], []), [121], 17, [], []),
  (26, ([rv_r 16, rv_i (-49) 207, rv_i 0 0], [], []), [122], 112, [], []),
  (26, ([rv_r 16, rv_i (-539) 2277, rv_i 1 1], [], []), [123], 88, [], []),
  (26, ([rv_r 16, rv_i (-5439) 22977, rv_i 2 2], [], []), [124], 64, [], []),
  (26, ([rv_r 16, rv_i (-54439) 229977, rv_i 3 3], [], []), [125], 40, [], []),
  (26, ([rv_r 16, rv_i (-544439) 2299977, rv_i 4 4], [], []), [126], 16, [], []),
  (27, ([rv_r 16, rv_i (-49) 207, rv_i 1 1], [], []), [5], 111, [], []),
  (27, ([rv_r 16, rv_i (-539) 2277, rv_i 2 2], [], []), [6], 87, [], []),
  (27, ([rv_r 16, rv_i (-5439) 22977, rv_i 3 3], [], []), [7], 63, [], []),
  (27, ([rv_r 16, rv_i (-54439) 229977, rv_i 4 4], [], []), [8], 39, [], []),
  (27, ([rv_r 16, rv_i (-544439) 2299977, rv_i 5 5], [], []), [9], 15, [], []),
  (28, ([rv_r 16, rv_i 0 0, rv_i 0 0], [], []), [133], 11, [], [])]
def n_X3_readNumber_0_8 : List rv_N := [
  (28, ([rv_r 16, rv_i (-49) 207, rv_i 1 1], [], []), [134], 11, [], []),
  (28, ([rv_r 16, rv_i (-539) 2277, rv_i 2 2], [], []), [135], 11, [], []),
  (28, ([rv_r 16, rv_i (-5439) 22977, rv_i 3 3], [], []), [136], 11, [], []),
  (28, ([rv_r 16, rv_i (-54439) 229977, rv_i 4 4], [], []), [137], 11, [], []),
  (28, ([rv_r 16, rv_i (-544439) 2299977, rv_i 5 5], [], []), [138], 11, [], []),
  (29, ([rv_r 16, rv_i 0 0, rv_i 0 0], [rv_r 16], []), [139], 10, [], [3]),
  (29, ([rv_r 16, rv_i (-49) 207, rv_i 1 1], [rv_r 16], []), [140], 10, [], [3]),
  (29, ([rv_r 16, rv_i (-539) 2277, rv_i 2 2], [rv_r 16], []), [141], 10, [], [3]),
  (29, ([rv_r 16, rv_i (-5439) 22977, rv_i 3 3], [rv_r 16], []), [142], 10, [], [3]),
  (29, ([rv_r 16, rv_i (-54439) 229977, rv_i 4 4], [rv_r 16], []), [143], 10, [], [3]),
  (29, ([rv_r 16, rv_i (-544439) 2299977, rv_i 5 5], [rv_r 16], []), [144], 10, [], [3]),
  (30, ([rv_r 16, rv_i 0 0, rv_i 0 0], [rv_i (-1) 255], []), [145], 9, [], [4]),
  (30, ([rv_r 16, rv_i (-49) 207, rv_i 1 1], [rv_i (-1) 255], []), [146], 9, [], [4]),
  (30, ([rv_r 16, rv_i (-539) 2277, rv_i 2 2], [rv_i (-1) 255], []), [147], 9, [], [4]),
  (30, ([rv_r 16, rv_i (-5439) 22977, rv_i 3 3], [rv_i (-1) 255], []), [148], 9, [], [4]),
  (30, ([rv_r 16, rv_i (-54439) 229977, rv_i 4 4], [rv_i (-1) 255], []), [149], 9, [], [4])]
def n_X3_readNumber_0_9 : List rv_N := [
  (30, ([rv_r 16, rv_i (-544439) 2299977, rv_i 5 5], [rv_i (-1) 255], []), [150], 9, [], [4]),
  (31, ([rv_r 16, rv_i 0 0, rv_i 0 0], [rv_i 0 1], []), [151, 175], 8, [], []),
  (31, ([rv_r 16, rv_i (-49) 207, rv_i 1 1], [rv_i 0 1], []), [152, 176], 8, [], []),
  (31, ([rv_r 16, rv_i (-539) 2277, rv_i 2 2], [rv_i 0 1], []), [153, 177], 8, [], []),
  (31, ([rv_r 16, rv_i (-5439) 22977, rv_i 3 3], [rv_i 0 1], []), [154, 178], 8, [], []),
  (31, ([rv_r 16, rv_i (-54439) 229977, rv_i 4 4], [rv_i 0 1], []), [155, 179], 8, [], []),
  (31, ([rv_r 16, rv_i (-544439) 2299977, rv_i 5 5], [rv_i 0 1], []), [156, 180], 8, [], []),
  (32, ([rv_r 16, rv_i 0 0, rv_i 0 0], [], []), [157], 3, [], []),
  (32, ([rv_r 16, rv_i (-49) 207, rv_i 1 1], [], []), [158], 3, [], []),
  (32, ([rv_r 16, rv_i (-539) 2277, rv_i 2 2], [], []), [159], 3, [], []),
  (32, ([rv_r 16, rv_i (-5439) 22977, rv_i 3 3], [], []), [160], 3, [], []),
  (32, ([rv_r 16, rv_i (-54439) 229977, rv_i 4 4], [], []), [161], 3, [], []),
  (32, ([rv_r 16, rv_i (-544439) 2299977, rv_i 5 5], [], []), [162], 3, [], []),
  (33, ([rv_r 16, rv_i 0 0, rv_i 0 0], [rv_r 16], []), [163], 2, [], []),
  (33, ([rv_r 16, rv_i (-49) 207, rv_i 1 1], [rv_r 16], []), [164], 2, [], []),
  (33, ([rv_r 16, rv_i (-539) 2277, rv_i 2 2], [rv_r 16], []), [165], 2, [], [])]
def n_X3_readNumber_0_10 : List rv_N := [
  (33, ([rv_r 16, rv_i (-5439) 22977, rv_i 3 3], [rv_r 16], []), [166], 2, [], []),
  (33, ([rv_r 16, rv_i (-54439) 229977, rv_i 4 4], [rv_r 16], []), [167], 2, [], []),
  (33, ([rv_r 16, rv_i (-544439) 2299977, rv_i 5 5], [rv_r 16], []), [168], 2, [], []),
  (34, ([rv_r 16, rv_i 0 0, rv_i 0 0], [rv_i 2 2, rv_r 16], []), [169], 1, [], [5]),
  (34, ([rv_r 16, rv_i (-49) 207, rv_i 1 1], [rv_i 2 2, rv_r 16], []), [170], 1, [], [5]),
  (34, ([rv_r 16, rv_i (-539) 2277, rv_i 2 2], [rv_i 2 2, rv_r 16], []), [171], 1, [], [5]),
  (34, ([rv_r 16, rv_i (-5439) 22977, rv_i 3 3], [rv_i 2 2, rv_r 16], []), [172], 1, [], [5]),
  (34, ([rv_r 16, rv_i (-54439) 229977, rv_i 4 4], [rv_i 2 2, rv_r 16], []), [173], 1, [], [5]),
  (34, ([rv_r 16, rv_i (-544439) 2299977, rv_i 5 5], [rv_i 2 2, rv_r 16], []), [174], 1, [], [5]),
  (35, ([rv_r 16, rv_i 0 0, rv_i 0 0], [rv_i 0 0], []), [], 0, [], []),
  (35, ([rv_r 16, rv_i (-49) 207, rv_i 1 1], [rv_i 0 0], []), [], 0, [], []),
  (35, ([rv_r 16, rv_i (-539) 2277, rv_i 2 2], [rv_i 0 0], []), [], 0, [], []),
  (35, ([rv_r 16, rv_i (-5439) 22977, rv_i 3 3], [rv_i 0 0], []), [], 0, [], []),
  (35, ([rv_r 16, rv_i (-54439) 229977, rv_i 4 4], [rv_i 0 0], []), [], 0, [], []),
  (35, ([rv_r 16, rv_i (-544439) 2299977, rv_i 5 5], [rv_i 0 0], []), [], 0, [], []),
  (36, ([rv_r 16, rv_i 0 0, rv_i 0 0], [], []), [181], 7, [], [])]
def n_X3_readNumber_0_11 : List rv_N := [
  (36, ([rv_r 16, rv_i (-49) 207, rv_i 1 1], [], []), [182], 7, [], []),
  (36, ([rv_r 16, rv_i (-539) 2277, rv_i 2 2], [], []), [183], 7, [], []),
  (36, ([rv_r 16, rv_i (-5439) 22977, rv_i 3 3], [], []), [184], 7, [], []),
  (36, ([rv_r 16, rv_i (-54439) 229977, rv_i 4 4], [], []), [185], 7, [], []),
  (36, ([rv_r 16, rv_i (-544439) 2299977, rv_i 5 5], [], []), [186], 7, [], []),
  (37, ([rv_r 16, rv_i 0 0, rv_i 0 0], [rv_r 16], []), [187], 6, [], []),
  (37, ([rv_r 16, rv_i (-49) 207, rv_i 1 1], [rv_r 16], []), [188], 6, [], []),
  (37, ([rv_r 16, rv_i (-539) 2277, rv_i 2 2], [rv_r 16], []), [189], 6, [], []),
  (37, ([rv_r 16, rv_i (-5439) 22977, rv_i 3 3], [rv_r 16], []), [190], 6, [], []),
  (37, ([rv_r 16, rv_i (-54439) 229977, rv_i 4 4], [rv_r 16], []), [191], 6, [], []),
  (37, ([rv_r 16, rv_i (-544439) 2299977, rv_i 5 5], [rv_r 16], []), [192], 6, [], []),
  (38, ([rv_r 16, rv_i 0 0, rv_i 0 0], [rv_r 17], []), [193], 5, [], []),
  (38, ([rv_r 16, rv_i (-49) 207, rv_i 1 1], [rv_r 17], []), [194], 5, [], []),
  (38, ([rv_r 16, rv_i (-539) 2277, rv_i 2 2], [rv_r 17], []), [195], 5, [], []),
  (38, ([rv_r 16, rv_i (-5439) 22977, rv_i 3 3], [rv_r 17], []), [196], 5, [], []),
  (38, ([rv_r 16, rv_i (-54439) 229977, rv_i 4 4], [rv_r 17], []), [197], 5, [], [])]
def n_X3_readNumber_0_12 : List rv_N := [
  (38, ([rv_r 16, rv_i (-544439) 2299977, rv_i 5 5], [rv_r 17], []), [198], 5, [], []),
  (39, ([rv_r 16, rv_i 0 0, rv_i 0 0], [rv_i 0 0, rv_r 17], []), [199], 4, [], []),
  (39, ([rv_r 16, rv_i (-49) 207, rv_i 1 1], [rv_i 0 0, rv_r 17], []), [200], 4, [], []),
  (39, ([rv_r 16, rv_i (-539) 2277, rv_i 2 2], [rv_i 0 0, rv_r 17], []), [201], 4, [], []),
  (39, ([rv_r 16, rv_i (-5439) 22977, rv_i 3 3], [rv_i 0 0, rv_r 17], []), [202], 4, [], []),
  (39, ([rv_r 16, rv_i (-54439) 229977, rv_i 4 4], [rv_i 0 0, rv_r 17], []), [203], 4, [], []),
  (39, ([rv_r 16, rv_i (-544439) 2299977, rv_i 5 5], [rv_i 0 0, rv_r 17], []), [204], 4, [], []),
  (40, ([rv_r 16, rv_i 0 0, rv_i 0 0], [(1, 0, 0, 0, [(.inl 1, 0)], []), rv_i 0 0, rv_r 17], []), [205], 3, [], [6]),
  (40, ([rv_r 16, rv_i (-49) 207, rv_i 1 1], [(1, 0, (-49), 207, [(.inl 1, 0)], []), rv_i 0 0, rv_r 17], []), [206], 3, [], [6]),
  (40, ([rv_r 16, rv_i (-539) 2277, rv_i 2 2], [(1, 0, (-539), 2277, [(.inl 1, 0)], []), rv_i 0 0, rv_r 17], []), [207], 3, [], [6]),
  (40, ([rv_r 16, rv_i (-5439) 22977, rv_i 3 3], [(1, 0, (-5439), 22977, [(.inl 1, 0)], []), rv_i 0 0, rv_r 17], []), [208], 3, [], [6]),
  (40, ([rv_r 16, rv_i (-54439) 229977, rv_i 4 4], [(1, 0, (-54439), 229977, [(.inl 1, 0)], []), rv_i 0 0, rv_r 17], []), [209], 3, [], [6]),
  (40, ([rv_r 16, rv_i (-544439) 2299977, rv_i 5 5], [(1, 0, (-544439), 2299977, [(.inl 1, 0)], []), rv_i 0 0, rv_r 17], []), [210], 3, [], [6]),
  (41, ([rv_r 16, rv_i 0 0, rv_i 0 0], [rv_i (-1) 199], []), [211], 2, [], []),
  (41, ([rv_r 16, rv_i (-49) 207, rv_i 1 1], [rv_i (-1) 199], []), [212], 2, [], []),
  (41, ([rv_r 16, rv_i (-539) 2277, rv_i 2 2], [rv_i (-1) 199], []), [213], 2, [], [])]
def n_X3_readNumber_0_13 : List rv_N := [
  (41, ([rv_r 16, rv_i (-5439) 22977, rv_i 3 3], [rv_i (-1) 199], []), [214], 2, [], []),
  (41, ([rv_r 16, rv_i (-54439) 229977, rv_i 4 4], [rv_i (-1) 199], []), [215], 2, [], []),
  (41, ([rv_r 16, rv_i (-544439) 2299977, rv_i 5 5], [rv_i (-1) 199], []), [216], 2, [], []),
  (42, ([rv_r 16, rv_i 0 0, rv_i 0 0], [], []), [217], 1, [], []),
  (42, ([rv_r 16, rv_i (-49) 207, rv_i 1 1], [], []), [218], 1, [], []),
  (42, ([rv_r 16, rv_i (-539) 2277, rv_i 2 2], [], []), [219], 1, [], []),
  (42, ([rv_r 16, rv_i (-5439) 22977, rv_i 3 3], [], []), [220], 1, [], []),
  (42, ([rv_r 16, rv_i (-54439) 229977, rv_i 4 4], [], []), [221], 1, [], []),
  (42, ([rv_r 16, rv_i (-544439) 2299977, rv_i 5 5], [], []), [222], 1, [], []),
  (43, ([rv_r 16, rv_i 0 0, rv_i 0 0], [rv_i 1 1], []), [], 0, [], []),
  (43, ([rv_r 16, rv_i (-49) 207, rv_i 1 1], [rv_i 1 1], []), [], 0, [], []),
  (43, ([rv_r 16, rv_i (-539) 2277, rv_i 2 2], [rv_i 1 1], []), [], 0, [], []),
  (43, ([rv_r 16, rv_i (-5439) 22977, rv_i 3 3], [rv_i 1 1], []), [], 0, [], []),
  (43, ([rv_r 16, rv_i (-54439) 229977, rv_i 4 4], [rv_i 1 1], []), [], 0, [], []),
  (43, ([rv_r 16, rv_i (-544439) 2299977, rv_i 5 5], [rv_i 1 1], []), [], 0, [], [])]
def n_X3_readNumber_0 : List rv_N := n_X3_readNumber_0_0 ++ (n_X3_readNumber_0_1 ++ (n_X3_readNumber_0_2 ++ (n_X3_readNumber_0_3 ++ (n_X3_readNumber_0_4 ++ (n_X3_readNumber_0_5 ++ (n_X3_readNumber_0_6 ++ (n_X3_readNumber_0_7 ++ (n_X3_readNumber_0_8 ++ (n_X3_readNumber_0_9 ++ (n_X3_readNumber_0_10 ++ (n_X3_readNumber_0_11 ++ (n_X3_readNumber_0_12 ++ (n_X3_readNumber_0_13)))))))))))))
noncomputable def gn_X3_readNumber_0 : Nat → Option rv_N := rv_ap 16 (rv_at n_X3_readNumber_0_0) (rv_ap 16 (rv_at n_X3_readNumber_0_1) (rv_ap 16 (rv_at n_X3_readNumber_0_2) (rv_ap 16 (rv_at n_X3_readNumber_0_3) (rv_ap 16 (rv_at n_X3_readNumber_0_4) (rv_ap 16 (rv_at n_X3_readNumber_0_5) (rv_ap 16 (rv_at n_X3_readNumber_0_6) (rv_ap 16 (rv_at n_X3_readNumber_0_7) (rv_ap 16 (rv_at n_X3_readNumber_0_8) (rv_ap 16 (rv_at n_X3_readNumber_0_9) (rv_ap 16 (rv_at n_X3_readNumber_0_10) (rv_ap 16 (rv_at n_X3_readNumber_0_11) (rv_ap 16 (rv_at n_X3_readNumber_0_12) (rv_at n_X3_readNumber_0_13)))))))))))))
theorem hn_X3_readNumber_0 : ∀ i : Nat, n_X3_readNumber_0[i]? = gn_X3_readNumber_0 i := rv_ap_eq (l := n_X3_readNumber_0_0) (c := 16) (rv_ap_eq (l := n_X3_readNumber_0_1) (c := 16) (rv_ap_eq (l := n_X3_readNumber_0_2) (c := 16) (rv_ap_eq (l := n_X3_readNumber_0_3) (c := 16) (rv_ap_eq (l := n_X3_readNumber_0_4) (c := 16) (rv_ap_eq (l := n_X3_readNumber_0_5) (c := 16) (rv_ap_eq (l := n_X3_readNumber_0_6) (c := 16) (rv_ap_eq (l := n_X3_readNumber_0_7) (c := 16) (rv_ap_eq (l := n_X3_readNumber_0_8) (c := 16) (rv_ap_eq (l := n_X3_readNumber_0_9) (c := 16) (rv_ap_eq (l := n_X3_readNumber_0_10) (c := 16) (rv_ap_eq (l := n_X3_readNumber_0_11) (c := 16) (rv_ap_eq (l := n_X3_readNumber_0_12) (c := 16) (rv_at_eq n_X3_readNumber_0_13) rfl) rfl) rfl) rfl) rfl) rfl) rfl) rfl) rfl) rfl) rfl) rfl) rfl
set_option maxRecDepth 100000 in
theorem a_X3_readNumber_0 : rv_all (fm_tm, flX3, fm_wr, kcX3, klX3, K_X3_readNumber_0.2.2.1, [], 3) ct_X3_readNumber_0 cd_X3_readNumber n_X3_readNumber_0 K_X3_readNumber_0 [] 0 n_X3_readNumber_0 = true := rv_fast hn_X3_readNumber_0 hc_X3_readNumber (by decide +kernel)
theorem m_X3_readNumber_0 {l : Launch} {D : va_G} {ad : Nat → Nat} {cy : Nat → ClassId} {Z : State → Heap → Prop} {Gp : fm_V → Prop} (hAd : fm_Ad fm_tm ad) (hZ : fm_Zk (fm_A fm_tm ad) Z) (hGd : fm_Gd Gp) : rv_Met l D fm_cl fm_tm ad cy fm_nt Z Gp yX3_readNumber (.code yX3_readNumber prog_5_method_15_code 3 (some .boolean) :: fm_Ts) { frames := 1, cells := 0, slots := 0, locals := 100 } K_X3_readNumber_0 := rv_met hAd hZ (Or.inl (by decide +kernel)) evX3 dc_X3_readNumber a_X3_readNumber_0 ⟨rfl, rfl, rfl⟩ (by decide +kernel) (by decide +kernel) (by decide) (fm_gm hGd (by decide +kernel)) (Or.inr ⟨rfl, by decide, by decide⟩) (fun p e s m args below meth c Q X Y => List.forall_mem_cons.mpr ⟨rv_ctV X Y fm_Ts_good dc_X3_readNumber (pc := 10) (i := 8) (idx := 39) rfl (m_X3_next_0 hAd hZ hGd) wl_X3_39 wm_X3_next wy_X3_next (by decide) ⟨rfl, rfl, rfl⟩ ⟨rfl, rfl⟩, List.forall_mem_cons.mpr ⟨rv_ctS X Y fm_Ts_good dc_X3_readNumber (pc := 13) (i := 9) (idx := 125) rfl (m_X3_isDigit_0 hAd hZ hGd) wl_X3_125 wm_X3_isDigit wy_X3_isDigit (by decide) rfl, List.forall_mem_cons.mpr ⟨rv_ctV X Y fm_Ts_good dc_X3_readNumber (pc := 24) (i := 15) (idx := 39) rfl (m_X3_next_0 hAd hZ hGd) wl_X3_39 wm_X3_next wy_X3_next (by decide) ⟨rfl, rfl, rfl⟩ ⟨rfl, rfl⟩, List.forall_mem_cons.mpr ⟨rv_ctV X Y fm_Ts_good dc_X3_readNumber (pc := 49) (i := 29) (idx := 39) rfl (m_X3_next_0 hAd hZ hGd) wl_X3_39 wm_X3_next wy_X3_next (by decide) ⟨rfl, rfl, rfl⟩ ⟨rfl, rfl⟩, List.forall_mem_cons.mpr ⟨rv_ctS X Y fm_Ts_good dc_X3_readNumber (pc := 52) (i := 30) (idx := 125) rfl (m_X3_isDigit_0 hAd hZ hGd) wl_X3_125 wm_X3_isDigit wy_X3_isDigit (by decide) rfl, List.forall_mem_cons.mpr ⟨rv_ctV X Y fm_Ts_good dc_X3_readNumber (pc := 60) (i := 34) (idx := 43) rfl (m_X3_fail_0 hAd hZ hGd) wl_X3_43 wm_X3_fail wy_X3_fail (by decide) ⟨rfl, rfl, rfl⟩ ⟨rfl, rfl⟩, List.forall_mem_cons.mpr ⟨rv_ctV X Y fm_Ts_good dc_X3_readNumber (pc := 70) (i := 40) (idx := 108) rfl (m_X1_putStep_0 hAd hZ hGd) wl_X3_108 wm_X1_putStep wy_X1_putStep (by decide) ⟨rfl, rfl, rfl⟩ ⟨rfl, rfl⟩, fun _ h => absurd h List.not_mem_nil⟩⟩⟩⟩⟩⟩⟩) (fun _ _ _ _ _ _ _ _ _ _ _ _ _ _ _ _ h => absurd h List.not_mem_nil)
def cd_X3_readFactor : List (Nat × Instr × Nat) := [(0, .aload_n 0, 1), (1, .invokevirtual 39, 3), (4, .istore_n 2, 1), (5, .iload_n 2, 1), (6, .bipush 91, 2), (8, .if_icmp .ne 38, 3), (11, .aload_n 0, 1), (12, .bipush 91, 2), (14, .iload_n 1, 1), (15, .invokevirtual 79, 3), (18, .ifCond .eq 26, 3), (21, .aload_n 0, 1), (22, .iload_n 1, 1), (23, .iconst 1, 1), (24, .iadd, 1), (25, .invokevirtual 73, 3), (28, .ifCond .eq 16, 3), (31, .aload_n 0, 1), (32, .bipush 93, 2), (34, .invokevirtual 86, 3), (37, .ifCond .eq 7, 3), (40, .iconst 1, 1), (41, .goto 4, 3), (44, .iconst 0, 1), (45, .ireturn, 1), (46, .iload_n 2, 1), (47, .invokestatic 125, 3), (50, .ifCond .eq 8, 3), (53, .aload_n 0, 1), (54, .invokevirtual 128, 3), (57, .ireturn, 1), (58, .iload_n 2, 1), (59, .ifCond .ge 7, 3), (62, .iconst (-1), 1), (63, .goto 10, 3), (66, .ldc 131, 2), (68, .iload_n 2, 1), (69, .i2c, 1), (70, .invokevirtual 58, 3), (73, .istore_n 3, 1), (74, .iload_n 3, 1), (75, .ifCond .ge 9, 3), (78, .aload_n 0, 1), (79, .iconst 1, 1), (80, .invokevirtual 43, 3), (83, .ireturn, 1), (84, .aload_n 0, 1), (85, .dup, 1), (86, .getfield 22, 3), (89, .iconst 1, 1), (90, .iadd, 1), (91, .putfield 22, 3), (94, .aload_n 0, 1), (95, .getfield 12, 3), (98, .iconst 1, 1), (99, .iload_n 3, 1), (100, .invokevirtual 108, 3), (103, .pop, 1), (104, .iconst 1, 1), (105, .ireturn, 1)]
theorem dc_X3_readFactor : ∀ q ∈ cd_X3_readFactor, decode prog_5_method_14_code q.1 = .ok (q.2.1, q.2.2) := by decide +kernel
def ch_X3_readFactor_0 : List (Nat × Instr × Nat) := [(0, .aload_n 0, 1), (1, .invokevirtual 39, 3), (4, .istore_n 2, 1), (5, .iload_n 2, 1), (6, .bipush 91, 2), (8, .if_icmp .ne 38, 3), (11, .aload_n 0, 1), (12, .bipush 91, 2), (14, .iload_n 1, 1), (15, .invokevirtual 79, 3), (18, .ifCond .eq 26, 3), (21, .aload_n 0, 1), (22, .iload_n 1, 1), (23, .iconst 1, 1), (24, .iadd, 1), (25, .invokevirtual 73, 3)]
def ch_X3_readFactor_1 : List (Nat × Instr × Nat) := [(28, .ifCond .eq 16, 3), (31, .aload_n 0, 1), (32, .bipush 93, 2), (34, .invokevirtual 86, 3), (37, .ifCond .eq 7, 3), (40, .iconst 1, 1), (41, .goto 4, 3), (44, .iconst 0, 1), (45, .ireturn, 1), (46, .iload_n 2, 1), (47, .invokestatic 125, 3), (50, .ifCond .eq 8, 3), (53, .aload_n 0, 1), (54, .invokevirtual 128, 3), (57, .ireturn, 1), (58, .iload_n 2, 1)]
def ch_X3_readFactor_2 : List (Nat × Instr × Nat) := [(59, .ifCond .ge 7, 3), (62, .iconst (-1), 1), (63, .goto 10, 3), (66, .ldc 131, 2), (68, .iload_n 2, 1), (69, .i2c, 1), (70, .invokevirtual 58, 3), (73, .istore_n 3, 1), (74, .iload_n 3, 1), (75, .ifCond .ge 9, 3), (78, .aload_n 0, 1), (79, .iconst 1, 1), (80, .invokevirtual 43, 3), (83, .ireturn, 1), (84, .aload_n 0, 1), (85, .dup, 1)]
def ch_X3_readFactor_3 : List (Nat × Instr × Nat) := [(86, .getfield 22, 3), (89, .iconst 1, 1), (90, .iadd, 1), (91, .putfield 22, 3), (94, .aload_n 0, 1), (95, .getfield 12, 3), (98, .iconst 1, 1), (99, .iload_n 3, 1), (100, .invokevirtual 108, 3), (103, .pop, 1), (104, .iconst 1, 1), (105, .ireturn, 1)]
set_option maxRecDepth 100000 in
theorem he_X3_readFactor : cd_X3_readFactor = ch_X3_readFactor_0 ++ (ch_X3_readFactor_1 ++ (ch_X3_readFactor_2 ++ (ch_X3_readFactor_3))) := rfl
noncomputable def gc_X3_readFactor : Nat → Option (Nat × Instr × Nat) := rv_ap 16 (rv_at ch_X3_readFactor_0) (rv_ap 16 (rv_at ch_X3_readFactor_1) (rv_ap 16 (rv_at ch_X3_readFactor_2) (rv_at ch_X3_readFactor_3)))
theorem hc_X3_readFactor : ∀ i : Nat, cd_X3_readFactor[i]? = gc_X3_readFactor i := by
  rw [he_X3_readFactor]
  exact rv_ap_eq (l := ch_X3_readFactor_0) (c := 16) (rv_ap_eq (l := ch_X3_readFactor_1) (c := 16) (rv_ap_eq (l := ch_X3_readFactor_2) (c := 16) (rv_at_eq ch_X3_readFactor_3) rfl) rfl) rfl
def K_X3_readFactor_6 : rv_K := ([rv_r 16, rv_i 6 6], [], [(16, 3), (16, 4), (17, 2), (18, 9999), (19, 9999)], [(0, 0, 1)], [], [])
def ct_X3_readFactor_6 : List (Nat × rv_K) := [(1, K_X3_next_0), (9, K_X3_open_0), (26, K_X3_isDigit_0), (29, K_X3_readNumber_0), (44, K_X3_fail_0), (56, K_X1_putStep_0)]
def n_X3_readFactor_6_0 : List rv_N := [
  (0, ([rv_r 16, rv_i 6 6, rv_u, rv_u], [], []), [1], 29, [], []),
  (1, ([rv_r 16, rv_i 6 6, rv_u, rv_u], [rv_r 16], []), [2], 28, [], [0]),
  (2, ([rv_r 16, rv_i 6 6, rv_u, rv_u], [rv_i (-1) 255], []), [3], 27, [], []),
  (3, ([rv_r 16, rv_i 6 6, rv_i (-1) 255, rv_u], [], []), [4], 26, [], []),
  (4, ([rv_r 16, rv_i 6 6, rv_i (-1) 255, rv_u], [(1, 0, (-1), 255, [(.inl 2, 0)], [])], []), [5], 25, [], []),
  (5, ([rv_r 16, rv_i 6 6, rv_i (-1) 255, rv_u], [rv_i 91 91, (1, 0, (-1), 255, [(.inl 2, 0)], [])], []), [6, 13], 24, [], []),
  (6, ([rv_r 16, rv_i 6 6, rv_i 91 91, rv_u], [], []), [7], 6, [], []),
  (7, ([rv_r 16, rv_i 6 6, rv_i 91 91, rv_u], [rv_r 16], []), [8], 5, [], []),
  (8, ([rv_r 16, rv_i 6 6, rv_i 91 91, rv_u], [rv_i 91 91, rv_r 16], []), [9], 4, [], []),
  (9, ([rv_r 16, rv_i 6 6, rv_i 91 91, rv_u], [(1, 0, 6, 6, [(.inl 1, 0)], []), rv_i 91 91, rv_r 16], []), [10], 3, [], [1]),
  (10, ([rv_r 16, rv_i 6 6, rv_i 91 91, rv_u], [(1, 0, 0, 1, [], [(.inl 1, (-2147483648), 5)])], []), [11], 2, [], []),
  (23, ([rv_r 16, rv_i 6 6, rv_i 91 91, rv_u], [], []), [12], 1, [], []),
  (24, ([rv_r 16, rv_i 6 6, rv_i 91 91, rv_u], [rv_i 0 0], []), [], 0, [], []),
  (25, ([rv_r 16, rv_i 6 6, rv_i (-1) 255, rv_u], [], []), [14], 23, [], []),
  (26, ([rv_r 16, rv_i 6 6, rv_i (-1) 255, rv_u], [(1, 0, (-1), 255, [(.inl 2, 0)], [])], []), [15], 22, [], [2]),
  (27, ([rv_r 16, rv_i 6 6, rv_i (-1) 255, rv_u], [(1, 0, 0, 1, [], [(.inl 2, 48, 57)])], []), [16, 19], 21, [], [])]
def n_X3_readFactor_6_1 : List rv_N := [
  (28, ([rv_r 16, rv_i 6 6, rv_i 48 57, rv_u], [], []), [17], 2, [], []),
  (29, ([rv_r 16, rv_i 6 6, rv_i 48 57, rv_u], [rv_r 16], []), [18], 1, [], [3]),
  (30, ([rv_r 16, rv_i 6 6, rv_i 48 57, rv_u], [rv_i 0 1], []), [], 0, [], []),
  (31, ([rv_r 16, rv_i 6 6, rv_i (-1) 255, rv_u], [], []), [20], 20, [], []),
  (32, ([rv_r 16, rv_i 6 6, rv_i (-1) 255, rv_u], [(1, 0, (-1), 255, [(.inl 2, 0)], [])], []), [21, 23], 19, [], []),
  (33, ([rv_r 16, rv_i 6 6, rv_i (-1) (-1), rv_u], [], []), [22], 18, [], []),
  (34, ([rv_r 16, rv_i 6 6, rv_i (-1) (-1), rv_u], [rv_i (-1) (-1)], []), [24], 17, [], []),
  (35, ([rv_r 16, rv_i 6 6, rv_i 0 255, rv_u], [], []), [25], 17, [], []),
  (39, ([rv_r 16, rv_i 6 6, rv_i (-1) (-1), rv_u], [rv_i (-1) (-1)], []), [26], 16, [], []),
  (39, ([rv_r 16, rv_i 6 6, rv_i 0 255, rv_u], [rv_i (-1) 12], []), [26], 16, [], []),
  (40, ([rv_r 16, rv_i 6 6, rv_i (-1) 255, rv_i (-1) 12], [], []), [27], 15, [], []),
  (41, ([rv_r 16, rv_i 6 6, rv_i (-1) 255, rv_i (-1) 12], [(1, 0, (-1), 12, [(.inl 3, 0)], [])], []), [28, 32], 14, [], []),
  (42, ([rv_r 16, rv_i 6 6, rv_i (-1) 255, rv_i (-1) (-1)], [], []), [29], 3, [], []),
  (43, ([rv_r 16, rv_i 6 6, rv_i (-1) 255, rv_i (-1) (-1)], [rv_r 16], []), [30], 2, [], []),
  (44, ([rv_r 16, rv_i 6 6, rv_i (-1) 255, rv_i (-1) (-1)], [rv_i 1 1, rv_r 16], []), [31], 1, [], [4]),
  (45, ([rv_r 16, rv_i 6 6, rv_i (-1) 255, rv_i (-1) (-1)], [rv_i 0 0], []), [], 0, [], [])]
def n_X3_readFactor_6_2 : List rv_N := [
  (46, ([rv_r 16, rv_i 6 6, rv_i (-1) 255, rv_i 0 12], [], []), [33], 13, [], []),
  (47, ([rv_r 16, rv_i 6 6, rv_i (-1) 255, rv_i 0 12], [rv_r 16], []), [34], 12, [], []),
  (48, ([rv_r 16, rv_i 6 6, rv_i (-1) 255, rv_i 0 12], [rv_r 16, rv_r 16], []), [35], 11, [], []),
  (49, ([rv_r 16, rv_i 6 6, rv_i (-1) 255, rv_i 0 12], [(1, 0, (-2147483648), 2147483647, [(.inr (16, 3), 0)], []), rv_r 16], []), [36], 10, [], []),
  (50, ([rv_r 16, rv_i 6 6, rv_i (-1) 255, rv_i 0 12], [rv_i 1 1, (1, 0, (-2147483648), 2147483647, [(.inr (16, 3), 0)], []), rv_r 16], []), [37], 9, [], []),
  (51, ([rv_r 16, rv_i 6 6, rv_i (-1) 255, rv_i 0 12], [(1, 0, (-2147483648), 2147483647, [(.inr (16, 3), 1)], []), rv_r 16], []), [38], 8, [], []),
  (52, ([rv_r 16, rv_i 6 6, rv_i (-1) 255, rv_i 0 12], [], []), [39], 7, [], []),
  (53, ([rv_r 16, rv_i 6 6, rv_i (-1) 255, rv_i 0 12], [rv_r 16], []), [40], 6, [], []),
  (54, ([rv_r 16, rv_i 6 6, rv_i (-1) 255, rv_i 0 12], [rv_r 17], []), [41], 5, [], []),
  (55, ([rv_r 16, rv_i 6 6, rv_i (-1) 255, rv_i 0 12], [rv_i 1 1, rv_r 17], []), [42], 4, [], []),
  (56, ([rv_r 16, rv_i 6 6, rv_i (-1) 255, rv_i 0 12], [(1, 0, 0, 12, [(.inl 3, 0)], []), rv_i 1 1, rv_r 17], []), [43], 3, [], [5]),
  (57, ([rv_r 16, rv_i 6 6, rv_i (-1) 255, rv_i 0 12], [rv_i (-1) 199], []), [44], 2, [], []),
  (58, ([rv_r 16, rv_i 6 6, rv_i (-1) 255, rv_i 0 12], [], []), [45], 1, [], []),
  (59, ([rv_r 16, rv_i 6 6, rv_i (-1) 255, rv_i 0 12], [rv_i 1 1], []), [], 0, [], [])]
def n_X3_readFactor_6 : List rv_N := n_X3_readFactor_6_0 ++ (n_X3_readFactor_6_1 ++ (n_X3_readFactor_6_2))
noncomputable def gn_X3_readFactor_6 : Nat → Option rv_N := rv_ap 16 (rv_at n_X3_readFactor_6_0) (rv_ap 16 (rv_at n_X3_readFactor_6_1) (rv_at n_X3_readFactor_6_2))
theorem hn_X3_readFactor_6 : ∀ i : Nat, n_X3_readFactor_6[i]? = gn_X3_readFactor_6 i := rv_ap_eq (l := n_X3_readFactor_6_0) (c := 16) (rv_ap_eq (l := n_X3_readFactor_6_1) (c := 16) (rv_at_eq n_X3_readFactor_6_2) rfl) rfl
set_option maxRecDepth 100000 in
theorem a_X3_readFactor_6 : rv_all (fm_tm, flX3, fm_wr, kcX3, klX3, K_X3_readFactor_6.2.2.1, [], 4) ct_X3_readFactor_6 cd_X3_readFactor n_X3_readFactor_6 K_X3_readFactor_6 [23] 0 n_X3_readFactor_6 = true := rv_fast hn_X3_readFactor_6 hc_X3_readFactor (by decide +kernel)
theorem m_X3_readFactor_6 {l : Launch} {D : va_G} {ad : Nat → Nat} {cy : Nat → ClassId} {Z : State → Heap → Prop} {Gp : fm_V → Prop} (hAd : fm_Ad fm_tm ad) (hZ : fm_Zk (fm_A fm_tm ad) Z) (hGd : fm_Gd Gp) : rv_Met l D fm_cl fm_tm ad cy fm_nt Z Gp yX3_readFactor (.code yX3_readFactor prog_5_method_14_code 4 (some .boolean) :: fm_Ts) { frames := 4, cells := 0, slots := 0, locals := 400 } K_X3_readFactor_6 := rv_met hAd hZ (Or.inl (by decide +kernel)) evX3 dc_X3_readFactor a_X3_readFactor_6 ⟨rfl, rfl, rfl⟩ (by decide +kernel) (by decide +kernel) (by decide) (fm_gm hGd (by decide +kernel)) (Or.inr ⟨rfl, by decide, by decide⟩) (fun p e s m args below meth c Q X Y => List.forall_mem_cons.mpr ⟨rv_ctV X Y fm_Ts_good dc_X3_readFactor (pc := 1) (i := 1) (idx := 39) rfl (m_X3_next_0 hAd hZ hGd) wl_X3_39 wm_X3_next wy_X3_next (by decide) ⟨rfl, rfl, rfl⟩ ⟨rfl, rfl⟩, List.forall_mem_cons.mpr ⟨rv_ctV X Y fm_Ts_good dc_X3_readFactor (pc := 15) (i := 9) (idx := 79) rfl (m_X3_open_0 hAd hZ hGd) wl_X3_79 wm_X3_open wy_X3_open (by decide) ⟨rfl, rfl, rfl⟩ ⟨rfl, rfl⟩, List.forall_mem_cons.mpr ⟨rv_ctS X Y fm_Ts_good dc_X3_readFactor (pc := 47) (i := 26) (idx := 125) rfl (m_X3_isDigit_0 hAd hZ hGd) wl_X3_125 wm_X3_isDigit wy_X3_isDigit (by decide) rfl, List.forall_mem_cons.mpr ⟨rv_ctV X Y fm_Ts_good dc_X3_readFactor (pc := 54) (i := 29) (idx := 128) rfl (m_X3_readNumber_0 hAd hZ hGd) wl_X3_128 wm_X3_readNumber wy_X3_readNumber (by decide) ⟨rfl, rfl, rfl⟩ ⟨rfl, rfl⟩, List.forall_mem_cons.mpr ⟨rv_ctV X Y fm_Ts_good dc_X3_readFactor (pc := 80) (i := 44) (idx := 43) rfl (m_X3_fail_0 hAd hZ hGd) wl_X3_43 wm_X3_fail wy_X3_fail (by decide) ⟨rfl, rfl, rfl⟩ ⟨rfl, rfl⟩, List.forall_mem_cons.mpr ⟨rv_ctV X Y fm_Ts_good dc_X3_readFactor (pc := 100) (i := 56) (idx := 108) rfl (m_X1_putStep_0 hAd hZ hGd) wl_X3_108 wm_X1_putStep wy_X1_putStep (by decide) ⟨rfl, rfl, rfl⟩ ⟨rfl, rfl⟩, fun _ h => absurd h List.not_mem_nil⟩⟩⟩⟩⟩⟩) (fun p e s m args below meth c V0 avs hpre hr hlk X Y id hid n hn q hq V ls st hI hG ih => by
  obtain rfl := List.mem_singleton.mp hid
  obtain rfl : _ = n := Option.some.inj ((show n_X3_readFactor_6[23]? = some (35, ([rv_r 16, rv_i 6 6, rv_i 0 255, rv_u], [], []), [25], 17, [], []) from rfl).symm.trans hn)
  obtain rfl : _ = q := Option.some.inj ((show cd_X3_readFactor[35]? = some (66, .ldc 131, 2) from rfl).symm.trans hq)
  obtain rfl : st = [] := rv_sk_nil hG.2.1
  obtain ⟨x, hlx, -, -, -⟩ := rv_lokI rfl (hG.1 2 _ rfl)
  refine fs_index hAd X Y rfl (i := 1) (by decide) (fun adK adV h => h.2.2.2) rfl hlx hI.2.2.1 (by decide) (dc_X3_readFactor (66, .ldc 131, 2) (List.mem_of_getElem? (i := 35) rfl)) (dc_X3_readFactor (68, .iload_n 2, 1) (List.mem_of_getElem? (i := 36) rfl)) (dc_X3_readFactor (69, .i2c, 1) (List.mem_of_getElem? (i := 37) rfl)) (dc_X3_readFactor (70, .invokevirtual 58, 3) (List.mem_of_getElem? (i := 38) rfl)) (fun z z1 z2 => ?_)
  exact ih 25 (39, ([rv_r 16, rv_i 6 6, rv_i 0 255, rv_u], [rv_i (-1) 12], []), [26], 16, [], []) (73, .istore_n 3, 1) rfl rfl V ls [.int z] hI ⟨hG.1, ⟨rv_okB z1 z2, trivial⟩, hG.2.2⟩ (by show ((16 : Int) + 0 + 1).toNat < ((17 : Int) + 0 + 1).toNat; decide))
def cd_X3_readTerm : List (Nat × Instr × Nat) := [(0, .aload_n 0, 1), (1, .iload_n 1, 1), (2, .invokevirtual 122, 3), (5, .ifCond .ne 5, 3), (8, .iconst 0, 1), (9, .ireturn, 1), (10, .iconst 0, 1), (11, .istore_n 2, 1), (12, .iload_n 2, 1), (13, .sipush 200, 3), (16, .if_icmp .ge 71, 3), (19, .aload_n 0, 1), (20, .invokevirtual 39, 3), (23, .bipush 42, 2), (25, .if_icmp .eq 21, 3), (28, .aload_n 0, 1), (29, .invokevirtual 39, 3), (32, .bipush 47, 2), (34, .if_icmp .eq 12, 3), (37, .aload_n 0, 1), (38, .invokevirtual 39, 3), (41, .bipush 37, 2), (43, .if_icmp .ne 44, 3), (46, .aload_n 0, 1), (47, .invokevirtual 39, 3), (50, .istore_n 3, 1), (51, .aload_n 0, 1), (52, .dup, 1), (53, .getfield 22, 3), (56, .iconst 1, 1), (57, .iadd, 1), (58, .putfield 22, 3), (61, .aload_n 0, 1), (62, .iload_n 1, 1), (63, .invokevirtual 122, 3), (66, .ifCond .ne 5, 3), (69, .iconst 0, 1), (70, .ireturn, 1), (71, .aload_n 0, 1), (72, .getfield 12, 3), (75, .iload_n 3, 1), (76, .iconst 0, 1), (77, .invokevirtual 108, 3), (80, .pop, 1), (81, .iinc 2 1, 3), (84, .goto (-72), 3), (87, .iconst 1, 1), (88, .ireturn, 1)]
theorem dc_X3_readTerm : ∀ q ∈ cd_X3_readTerm, decode prog_5_method_13_code q.1 = .ok (q.2.1, q.2.2) := by decide +kernel
def ch_X3_readTerm_0 : List (Nat × Instr × Nat) := [(0, .aload_n 0, 1), (1, .iload_n 1, 1), (2, .invokevirtual 122, 3), (5, .ifCond .ne 5, 3), (8, .iconst 0, 1), (9, .ireturn, 1), (10, .iconst 0, 1), (11, .istore_n 2, 1), (12, .iload_n 2, 1), (13, .sipush 200, 3), (16, .if_icmp .ge 71, 3), (19, .aload_n 0, 1), (20, .invokevirtual 39, 3), (23, .bipush 42, 2), (25, .if_icmp .eq 21, 3), (28, .aload_n 0, 1)]
def ch_X3_readTerm_1 : List (Nat × Instr × Nat) := [(29, .invokevirtual 39, 3), (32, .bipush 47, 2), (34, .if_icmp .eq 12, 3), (37, .aload_n 0, 1), (38, .invokevirtual 39, 3), (41, .bipush 37, 2), (43, .if_icmp .ne 44, 3), (46, .aload_n 0, 1), (47, .invokevirtual 39, 3), (50, .istore_n 3, 1), (51, .aload_n 0, 1), (52, .dup, 1), (53, .getfield 22, 3), (56, .iconst 1, 1), (57, .iadd, 1), (58, .putfield 22, 3)]
def ch_X3_readTerm_2 : List (Nat × Instr × Nat) := [(61, .aload_n 0, 1), (62, .iload_n 1, 1), (63, .invokevirtual 122, 3), (66, .ifCond .ne 5, 3), (69, .iconst 0, 1), (70, .ireturn, 1), (71, .aload_n 0, 1), (72, .getfield 12, 3), (75, .iload_n 3, 1), (76, .iconst 0, 1), (77, .invokevirtual 108, 3), (80, .pop, 1), (81, .iinc 2 1, 3), (84, .goto (-72), 3), (87, .iconst 1, 1), (88, .ireturn, 1)]
set_option maxRecDepth 100000 in
theorem he_X3_readTerm : cd_X3_readTerm = ch_X3_readTerm_0 ++ (ch_X3_readTerm_1 ++ (ch_X3_readTerm_2)) := rfl
noncomputable def gc_X3_readTerm : Nat → Option (Nat × Instr × Nat) := rv_ap 16 (rv_at ch_X3_readTerm_0) (rv_ap 16 (rv_at ch_X3_readTerm_1) (rv_at ch_X3_readTerm_2))
theorem hc_X3_readTerm : ∀ i : Nat, cd_X3_readTerm[i]? = gc_X3_readTerm i := by
  rw [he_X3_readTerm]
  exact rv_ap_eq (l := ch_X3_readTerm_0) (c := 16) (rv_ap_eq (l := ch_X3_readTerm_1) (c := 16) (rv_at_eq ch_X3_readTerm_2) rfl) rfl
def K_X3_readTerm_6 : rv_K := ([rv_r 16, rv_i 6 6], [], [(16, 3), (16, 4), (17, 2), (18, 9999), (19, 9999)], [(0, 0, 1)], [], [])
def ct_X3_readTerm_6 : List (Nat × rv_K) := [(2, K_X3_readFactor_6), (12, K_X3_next_0), (16, K_X3_next_0), (20, K_X3_next_0), (24, K_X3_next_0), (34, K_X3_readFactor_6), (42, K_X1_putStep_0)]
def n_X3_readTerm_6_0 : List rv_N := [
  (0, ([rv_r 16, rv_i 6 6, rv_u, rv_u], [], []), [1], 2354810, [], []),
  (1, ([rv_r 16, rv_i 6 6, rv_u, rv_u], [rv_r 16], []), [2], 2354809, [], []),
  (2, ([rv_r 16, rv_i 6 6, rv_u, rv_u], [(1, 0, 6, 6, [(.inl 1, 0)], []), rv_r 16], []), [3], 2354808, [], [0]),
  (3, ([rv_r 16, rv_i 6 6, rv_u, rv_u], [rv_i 0 1], []), [4, 6], 2354807, [], []),
  (4, ([rv_r 16, rv_i 6 6, rv_u, rv_u], [], []), [5], 1, [], []),
  (5, ([rv_r 16, rv_i 6 6, rv_u, rv_u], [rv_i 0 0], []), [], 0, [], []),
  (6, ([rv_r 16, rv_i 6 6, rv_u, rv_u], [], []), [7], 2354806, [], []),
  (7, ([rv_r 16, rv_i 6 6, rv_u, rv_u], [rv_i 0 0], []), [8], 2354805, [], []),
  (8, ([rv_r 16, rv_i 6 6, rv_i 0 200, rv_u], [], []), [9], 2354804, [(2, (-11774))], []),
  (9, ([rv_r 16, rv_i 6 6, rv_i 0 200, rv_u], [(1, 0, 0, 200, [(.inl 2, 0)], [])], []), [10], 2354803, [(2, (-11774))], []),
  (10, ([rv_r 16, rv_i 6 6, rv_i 0 200, rv_u], [rv_i 200 200, (1, 0, 0, 200, [(.inl 2, 0)], [])], []), [11, 46], 2354802, [(2, (-11774))], []),
  (11, ([rv_r 16, rv_i 6 6, rv_i 0 199, rv_u], [], []), [12], 2343063, [(2, (-11774))], []),
  (12, ([rv_r 16, rv_i 6 6, rv_i 0 199, rv_u], [rv_r 16], []), [13], 2343062, [(2, (-11774))], [1]),
  (13, ([rv_r 16, rv_i 6 6, rv_i 0 199, rv_u], [rv_i (-1) 255], []), [14], 2343061, [(2, (-11774))], []),
  (14, ([rv_r 16, rv_i 6 6, rv_i 0 199, rv_u], [rv_i 42 42, rv_i (-1) 255], []), [15, 23], 2343060, [(2, (-11774))], []),
  (15, ([rv_r 16, rv_i 6 6, rv_i 0 199, rv_u], [], []), [16], 2343059, [(2, (-11774))], [])]
def n_X3_readTerm_6_1 : List rv_N := [
  (16, ([rv_r 16, rv_i 6 6, rv_i 0 199, rv_u], [rv_r 16], []), [17], 2343058, [(2, (-11774))], [2]),
  (17, ([rv_r 16, rv_i 6 6, rv_i 0 199, rv_u], [rv_i (-1) 255], []), [18], 2343057, [(2, (-11774))], []),
  (18, ([rv_r 16, rv_i 6 6, rv_i 0 199, rv_u], [rv_i 47 47, rv_i (-1) 255], []), [19, 23], 2343056, [(2, (-11774))], []),
  (19, ([rv_r 16, rv_i 6 6, rv_i 0 199, rv_u], [], []), [20], 2343055, [(2, (-11774))], []),
  (20, ([rv_r 16, rv_i 6 6, rv_i 0 199, rv_u], [rv_r 16], []), [21], 2343054, [(2, (-11774))], [3]),
  (21, ([rv_r 16, rv_i 6 6, rv_i 0 199, rv_u], [rv_i (-1) 255], []), [22], 2343053, [(2, (-11774))], []),
  (22, ([rv_r 16, rv_i 6 6, rv_i 0 199, rv_u], [rv_i 37 37, rv_i (-1) 255], []), [23, 46], 2343052, [(2, (-11774))], []),
  (23, ([rv_r 16, rv_i 6 6, rv_i 0 199, rv_u], [], []), [24], 2343051, [(2, (-11774))], []),
  (24, ([rv_r 16, rv_i 6 6, rv_i 0 199, rv_u], [rv_r 16], []), [25], 2343050, [(2, (-11774))], [4]),
  (25, ([rv_r 16, rv_i 6 6, rv_i 0 199, rv_u], [rv_i (-1) 255], []), [26], 2343049, [(2, (-11774))], []),
  (26, ([rv_r 16, rv_i 6 6, rv_i 0 199, rv_i (-1) 255], [], []), [27], 2343048, [(2, (-11774))], []),
  (27, ([rv_r 16, rv_i 6 6, rv_i 0 199, rv_i (-1) 255], [rv_r 16], []), [28], 2343047, [(2, (-11774))], []),
  (28, ([rv_r 16, rv_i 6 6, rv_i 0 199, rv_i (-1) 255], [rv_r 16, rv_r 16], []), [29], 2343046, [(2, (-11774))], []),
  (29, ([rv_r 16, rv_i 6 6, rv_i 0 199, rv_i (-1) 255], [(1, 0, (-2147483648), 2147483647, [(.inr (16, 3), 0)], []), rv_r 16], []), [30], 2343045, [(2, (-11774))], []),
  (30, ([rv_r 16, rv_i 6 6, rv_i 0 199, rv_i (-1) 255], [rv_i 1 1, (1, 0, (-2147483648), 2147483647, [(.inr (16, 3), 0)], []), rv_r 16], []), [31], 2343044, [(2, (-11774))], []),
  (31, ([rv_r 16, rv_i 6 6, rv_i 0 199, rv_i (-1) 255], [(1, 0, (-2147483648), 2147483647, [(.inr (16, 3), 1)], []), rv_r 16], []), [32], 2343043, [(2, (-11774))], [])]
def n_X3_readTerm_6_2 : List rv_N := [
  (32, ([rv_r 16, rv_i 6 6, rv_i 0 199, rv_i (-1) 255], [], []), [33], 2343042, [(2, (-11774))], []),
  (33, ([rv_r 16, rv_i 6 6, rv_i 0 199, rv_i (-1) 255], [rv_r 16], []), [34], 2343041, [(2, (-11774))], []),
  (34, ([rv_r 16, rv_i 6 6, rv_i 0 199, rv_i (-1) 255], [(1, 0, 6, 6, [(.inl 1, 0)], []), rv_r 16], []), [35], 2343040, [(2, (-11774))], [5]),
  (35, ([rv_r 16, rv_i 6 6, rv_i 0 199, rv_i (-1) 255], [rv_i 0 1], []), [36, 38], 2343039, [(2, (-11774))], []),
  (36, ([rv_r 16, rv_i 6 6, rv_i 0 199, rv_i (-1) 255], [], []), [37], 1, [], []),
  (37, ([rv_r 16, rv_i 6 6, rv_i 0 199, rv_i (-1) 255], [rv_i 0 0], []), [], 0, [], []),
  (38, ([rv_r 16, rv_i 6 6, rv_i 0 199, rv_i (-1) 255], [], []), [39], 2343038, [(2, (-11774))], []),
  (39, ([rv_r 16, rv_i 6 6, rv_i 0 199, rv_i (-1) 255], [rv_r 16], []), [40], 2343037, [(2, (-11774))], []),
  (40, ([rv_r 16, rv_i 6 6, rv_i 0 199, rv_i (-1) 255], [rv_r 17], []), [41], 2343036, [(2, (-11774))], []),
  (41, ([rv_r 16, rv_i 6 6, rv_i 0 199, rv_i (-1) 255], [(1, 0, (-1), 255, [(.inl 3, 0)], []), rv_r 17], []), [42], 2343035, [(2, (-11774))], []),
  (42, ([rv_r 16, rv_i 6 6, rv_i 0 199, rv_i (-1) 255], [rv_i 0 0, (1, 0, (-1), 255, [(.inl 3, 0)], []), rv_r 17], []), [43], 2343034, [(2, (-11774))], [6]),
  (43, ([rv_r 16, rv_i 6 6, rv_i 0 199, rv_i (-1) 255], [rv_i (-1) 199], []), [44], 2343033, [(2, (-11774))], []),
  (44, ([rv_r 16, rv_i 6 6, rv_i 0 199, rv_i (-1) 255], [], []), [45], 2343032, [(2, (-11774))], []),
  (45, ([rv_r 16, rv_i 6 6, rv_i 1 200, rv_i (-1) 255], [], []), [8], 2354805, [(2, (-11774))], []),
  (46, ([rv_r 16, rv_i 6 6, rv_i 0 200, rv_u], [], []), [47], 1, [], []),
  (47, ([rv_r 16, rv_i 6 6, rv_i 0 200, rv_u], [rv_i 1 1], []), [], 0, [], [])]
def n_X3_readTerm_6 : List rv_N := n_X3_readTerm_6_0 ++ (n_X3_readTerm_6_1 ++ (n_X3_readTerm_6_2))
noncomputable def gn_X3_readTerm_6 : Nat → Option rv_N := rv_ap 16 (rv_at n_X3_readTerm_6_0) (rv_ap 16 (rv_at n_X3_readTerm_6_1) (rv_at n_X3_readTerm_6_2))
theorem hn_X3_readTerm_6 : ∀ i : Nat, n_X3_readTerm_6[i]? = gn_X3_readTerm_6 i := rv_ap_eq (l := n_X3_readTerm_6_0) (c := 16) (rv_ap_eq (l := n_X3_readTerm_6_1) (c := 16) (rv_at_eq n_X3_readTerm_6_2) rfl) rfl
set_option maxRecDepth 100000 in
theorem a_X3_readTerm_6 : rv_all (fm_tm, flX3, fm_wr, kcX3, klX3, K_X3_readTerm_6.2.2.1, [], 4) ct_X3_readTerm_6 cd_X3_readTerm n_X3_readTerm_6 K_X3_readTerm_6 [] 0 n_X3_readTerm_6 = true := rv_fast hn_X3_readTerm_6 hc_X3_readTerm (by decide +kernel)
theorem m_X3_readTerm_6 {l : Launch} {D : va_G} {ad : Nat → Nat} {cy : Nat → ClassId} {Z : State → Heap → Prop} {Gp : fm_V → Prop} (hAd : fm_Ad fm_tm ad) (hZ : fm_Zk (fm_A fm_tm ad) Z) (hGd : fm_Gd Gp) : rv_Met l D fm_cl fm_tm ad cy fm_nt Z Gp yX3_readTerm (.code yX3_readTerm prog_5_method_13_code 4 (some .boolean) :: fm_Ts) { frames := 5, cells := 0, slots := 0, locals := 500 } K_X3_readTerm_6 := rv_met hAd hZ (Or.inl (by decide +kernel)) evX3 dc_X3_readTerm a_X3_readTerm_6 ⟨rfl, rfl, rfl⟩ (by decide +kernel) (by decide +kernel) (by decide) (fm_gm hGd (by decide +kernel)) (Or.inr ⟨rfl, by decide, by decide⟩) (fun p e s m args below meth c Q X Y => List.forall_mem_cons.mpr ⟨rv_ctV X Y fm_Ts_good dc_X3_readTerm (pc := 2) (i := 2) (idx := 122) rfl (m_X3_readFactor_6 hAd hZ hGd) wl_X3_122 wm_X3_readFactor wy_X3_readFactor (by decide) ⟨rfl, rfl, rfl⟩ ⟨rfl, rfl⟩, List.forall_mem_cons.mpr ⟨rv_ctV X Y fm_Ts_good dc_X3_readTerm (pc := 20) (i := 12) (idx := 39) rfl (m_X3_next_0 hAd hZ hGd) wl_X3_39 wm_X3_next wy_X3_next (by decide) ⟨rfl, rfl, rfl⟩ ⟨rfl, rfl⟩, List.forall_mem_cons.mpr ⟨rv_ctV X Y fm_Ts_good dc_X3_readTerm (pc := 29) (i := 16) (idx := 39) rfl (m_X3_next_0 hAd hZ hGd) wl_X3_39 wm_X3_next wy_X3_next (by decide) ⟨rfl, rfl, rfl⟩ ⟨rfl, rfl⟩, List.forall_mem_cons.mpr ⟨rv_ctV X Y fm_Ts_good dc_X3_readTerm (pc := 38) (i := 20) (idx := 39) rfl (m_X3_next_0 hAd hZ hGd) wl_X3_39 wm_X3_next wy_X3_next (by decide) ⟨rfl, rfl, rfl⟩ ⟨rfl, rfl⟩, List.forall_mem_cons.mpr ⟨rv_ctV X Y fm_Ts_good dc_X3_readTerm (pc := 47) (i := 24) (idx := 39) rfl (m_X3_next_0 hAd hZ hGd) wl_X3_39 wm_X3_next wy_X3_next (by decide) ⟨rfl, rfl, rfl⟩ ⟨rfl, rfl⟩, List.forall_mem_cons.mpr ⟨rv_ctV X Y fm_Ts_good dc_X3_readTerm (pc := 63) (i := 34) (idx := 122) rfl (m_X3_readFactor_6 hAd hZ hGd) wl_X3_122 wm_X3_readFactor wy_X3_readFactor (by decide) ⟨rfl, rfl, rfl⟩ ⟨rfl, rfl⟩, List.forall_mem_cons.mpr ⟨rv_ctV X Y fm_Ts_good dc_X3_readTerm (pc := 77) (i := 42) (idx := 108) rfl (m_X1_putStep_0 hAd hZ hGd) wl_X3_108 wm_X1_putStep wy_X1_putStep (by decide) ⟨rfl, rfl, rfl⟩ ⟨rfl, rfl⟩, fun _ h => absurd h List.not_mem_nil⟩⟩⟩⟩⟩⟩⟩) (fun _ _ _ _ _ _ _ _ _ _ _ _ _ _ _ _ h => absurd h List.not_mem_nil)
def cd_X3_readSum : List (Nat × Instr × Nat) := [(0, .aload_n 0, 1), (1, .iload_n 1, 1), (2, .invokevirtual 119, 3), (5, .ifCond .ne 5, 3), (8, .iconst 0, 1), (9, .ireturn, 1), (10, .iconst 0, 1), (11, .istore_n 2, 1), (12, .iload_n 2, 1), (13, .sipush 200, 3), (16, .if_icmp .ge 62, 3), (19, .aload_n 0, 1), (20, .invokevirtual 39, 3), (23, .bipush 43, 2), (25, .if_icmp .eq 12, 3), (28, .aload_n 0, 1), (29, .invokevirtual 39, 3), (32, .bipush 45, 2), (34, .if_icmp .ne 44, 3), (37, .aload_n 0, 1), (38, .invokevirtual 39, 3), (41, .istore_n 3, 1), (42, .aload_n 0, 1), (43, .dup, 1), (44, .getfield 22, 3), (47, .iconst 1, 1), (48, .iadd, 1), (49, .putfield 22, 3), (52, .aload_n 0, 1), (53, .iload_n 1, 1), (54, .invokevirtual 119, 3), (57, .ifCond .ne 5, 3), (60, .iconst 0, 1), (61, .ireturn, 1), (62, .aload_n 0, 1), (63, .getfield 12, 3), (66, .iload_n 3, 1), (67, .iconst 0, 1), (68, .invokevirtual 108, 3), (71, .pop, 1), (72, .iinc 2 1, 3), (75, .goto (-63), 3), (78, .iconst 1, 1), (79, .ireturn, 1)]
theorem dc_X3_readSum : ∀ q ∈ cd_X3_readSum, decode prog_5_method_12_code q.1 = .ok (q.2.1, q.2.2) := by decide +kernel
def ch_X3_readSum_0 : List (Nat × Instr × Nat) := [(0, .aload_n 0, 1), (1, .iload_n 1, 1), (2, .invokevirtual 119, 3), (5, .ifCond .ne 5, 3), (8, .iconst 0, 1), (9, .ireturn, 1), (10, .iconst 0, 1), (11, .istore_n 2, 1), (12, .iload_n 2, 1), (13, .sipush 200, 3), (16, .if_icmp .ge 62, 3), (19, .aload_n 0, 1), (20, .invokevirtual 39, 3), (23, .bipush 43, 2), (25, .if_icmp .eq 12, 3), (28, .aload_n 0, 1)]
def ch_X3_readSum_1 : List (Nat × Instr × Nat) := [(29, .invokevirtual 39, 3), (32, .bipush 45, 2), (34, .if_icmp .ne 44, 3), (37, .aload_n 0, 1), (38, .invokevirtual 39, 3), (41, .istore_n 3, 1), (42, .aload_n 0, 1), (43, .dup, 1), (44, .getfield 22, 3), (47, .iconst 1, 1), (48, .iadd, 1), (49, .putfield 22, 3), (52, .aload_n 0, 1), (53, .iload_n 1, 1), (54, .invokevirtual 119, 3), (57, .ifCond .ne 5, 3)]
def ch_X3_readSum_2 : List (Nat × Instr × Nat) := [(60, .iconst 0, 1), (61, .ireturn, 1), (62, .aload_n 0, 1), (63, .getfield 12, 3), (66, .iload_n 3, 1), (67, .iconst 0, 1), (68, .invokevirtual 108, 3), (71, .pop, 1), (72, .iinc 2 1, 3), (75, .goto (-63), 3), (78, .iconst 1, 1), (79, .ireturn, 1)]
set_option maxRecDepth 100000 in
theorem he_X3_readSum : cd_X3_readSum = ch_X3_readSum_0 ++ (ch_X3_readSum_1 ++ (ch_X3_readSum_2)) := rfl
noncomputable def gc_X3_readSum : Nat → Option (Nat × Instr × Nat) := rv_ap 16 (rv_at ch_X3_readSum_0) (rv_ap 16 (rv_at ch_X3_readSum_1) (rv_at ch_X3_readSum_2))
theorem hc_X3_readSum : ∀ i : Nat, cd_X3_readSum[i]? = gc_X3_readSum i := by
  rw [he_X3_readSum]
  exact rv_ap_eq (l := ch_X3_readSum_0) (c := 16) (rv_ap_eq (l := ch_X3_readSum_1) (c := 16) (rv_at_eq ch_X3_readSum_2) rfl) rfl
def K_X3_readSum_6 : rv_K := ([rv_r 16, rv_i 6 6], [], [(16, 3), (16, 4), (17, 2), (18, 9999), (19, 9999)], [(0, 0, 1)], [], [])
def ct_X3_readSum_6 : List (Nat × rv_K) := [(2, K_X3_readTerm_6), (12, K_X3_next_0), (16, K_X3_next_0), (20, K_X3_next_0), (30, K_X3_readTerm_6), (38, K_X1_putStep_0)]
def n_X3_readSum_6_0 : List rv_N := [
  (0, ([rv_r 16, rv_i 6 6, rv_u, rv_u], [], []), [1], 2192410, [], []),
  (1, ([rv_r 16, rv_i 6 6, rv_u, rv_u], [rv_r 16], []), [2], 2192409, [], []),
  (2, ([rv_r 16, rv_i 6 6, rv_u, rv_u], [(1, 0, 6, 6, [(.inl 1, 0)], []), rv_r 16], []), [3], 2192408, [], [0]),
  (3, ([rv_r 16, rv_i 6 6, rv_u, rv_u], [rv_i 0 1], []), [4, 6], 2192407, [], []),
  (4, ([rv_r 16, rv_i 6 6, rv_u, rv_u], [], []), [5], 1, [], []),
  (5, ([rv_r 16, rv_i 6 6, rv_u, rv_u], [rv_i 0 0], []), [], 0, [], []),
  (6, ([rv_r 16, rv_i 6 6, rv_u, rv_u], [], []), [7], 2192406, [], []),
  (7, ([rv_r 16, rv_i 6 6, rv_u, rv_u], [rv_i 0 0], []), [8], 2192405, [], []),
  (8, ([rv_r 16, rv_i 6 6, rv_i 0 200, rv_u], [], []), [9], 2192404, [(2, (-10962))], []),
  (9, ([rv_r 16, rv_i 6 6, rv_i 0 200, rv_u], [(1, 0, 0, 200, [(.inl 2, 0)], [])], []), [10], 2192403, [(2, (-10962))], []),
  (10, ([rv_r 16, rv_i 6 6, rv_i 0 200, rv_u], [rv_i 200 200, (1, 0, 0, 200, [(.inl 2, 0)], [])], []), [11, 42], 2192402, [(2, (-10962))], []),
  (11, ([rv_r 16, rv_i 6 6, rv_i 0 199, rv_u], [], []), [12], 2181471, [(2, (-10962))], []),
  (12, ([rv_r 16, rv_i 6 6, rv_i 0 199, rv_u], [rv_r 16], []), [13], 2181470, [(2, (-10962))], [1]),
  (13, ([rv_r 16, rv_i 6 6, rv_i 0 199, rv_u], [rv_i (-1) 255], []), [14], 2181469, [(2, (-10962))], []),
  (14, ([rv_r 16, rv_i 6 6, rv_i 0 199, rv_u], [rv_i 43 43, rv_i (-1) 255], []), [15, 19], 2181468, [(2, (-10962))], []),
  (15, ([rv_r 16, rv_i 6 6, rv_i 0 199, rv_u], [], []), [16], 2181467, [(2, (-10962))], [])]
def n_X3_readSum_6_1 : List rv_N := [
  (16, ([rv_r 16, rv_i 6 6, rv_i 0 199, rv_u], [rv_r 16], []), [17], 2181466, [(2, (-10962))], [2]),
  (17, ([rv_r 16, rv_i 6 6, rv_i 0 199, rv_u], [rv_i (-1) 255], []), [18], 2181465, [(2, (-10962))], []),
  (18, ([rv_r 16, rv_i 6 6, rv_i 0 199, rv_u], [rv_i 45 45, rv_i (-1) 255], []), [19, 42], 2181464, [(2, (-10962))], []),
  (19, ([rv_r 16, rv_i 6 6, rv_i 0 199, rv_u], [], []), [20], 2181463, [(2, (-10962))], []),
  (20, ([rv_r 16, rv_i 6 6, rv_i 0 199, rv_u], [rv_r 16], []), [21], 2181462, [(2, (-10962))], [3]),
  (21, ([rv_r 16, rv_i 6 6, rv_i 0 199, rv_u], [rv_i (-1) 255], []), [22], 2181461, [(2, (-10962))], []),
  (22, ([rv_r 16, rv_i 6 6, rv_i 0 199, rv_i (-1) 255], [], []), [23], 2181460, [(2, (-10962))], []),
  (23, ([rv_r 16, rv_i 6 6, rv_i 0 199, rv_i (-1) 255], [rv_r 16], []), [24], 2181459, [(2, (-10962))], []),
  (24, ([rv_r 16, rv_i 6 6, rv_i 0 199, rv_i (-1) 255], [rv_r 16, rv_r 16], []), [25], 2181458, [(2, (-10962))], []),
  (25, ([rv_r 16, rv_i 6 6, rv_i 0 199, rv_i (-1) 255], [(1, 0, (-2147483648), 2147483647, [(.inr (16, 3), 0)], []), rv_r 16], []), [26], 2181457, [(2, (-10962))], []),
  (26, ([rv_r 16, rv_i 6 6, rv_i 0 199, rv_i (-1) 255], [rv_i 1 1, (1, 0, (-2147483648), 2147483647, [(.inr (16, 3), 0)], []), rv_r 16], []), [27], 2181456, [(2, (-10962))], []),
  (27, ([rv_r 16, rv_i 6 6, rv_i 0 199, rv_i (-1) 255], [(1, 0, (-2147483648), 2147483647, [(.inr (16, 3), 1)], []), rv_r 16], []), [28], 2181455, [(2, (-10962))], []),
  (28, ([rv_r 16, rv_i 6 6, rv_i 0 199, rv_i (-1) 255], [], []), [29], 2181454, [(2, (-10962))], []),
  (29, ([rv_r 16, rv_i 6 6, rv_i 0 199, rv_i (-1) 255], [rv_r 16], []), [30], 2181453, [(2, (-10962))], []),
  (30, ([rv_r 16, rv_i 6 6, rv_i 0 199, rv_i (-1) 255], [(1, 0, 6, 6, [(.inl 1, 0)], []), rv_r 16], []), [31], 2181452, [(2, (-10962))], [4]),
  (31, ([rv_r 16, rv_i 6 6, rv_i 0 199, rv_i (-1) 255], [rv_i 0 1], []), [32, 34], 2181451, [(2, (-10962))], [])]
def n_X3_readSum_6_2 : List rv_N := [
  (32, ([rv_r 16, rv_i 6 6, rv_i 0 199, rv_i (-1) 255], [], []), [33], 1, [], []),
  (33, ([rv_r 16, rv_i 6 6, rv_i 0 199, rv_i (-1) 255], [rv_i 0 0], []), [], 0, [], []),
  (34, ([rv_r 16, rv_i 6 6, rv_i 0 199, rv_i (-1) 255], [], []), [35], 2181450, [(2, (-10962))], []),
  (35, ([rv_r 16, rv_i 6 6, rv_i 0 199, rv_i (-1) 255], [rv_r 16], []), [36], 2181449, [(2, (-10962))], []),
  (36, ([rv_r 16, rv_i 6 6, rv_i 0 199, rv_i (-1) 255], [rv_r 17], []), [37], 2181448, [(2, (-10962))], []),
  (37, ([rv_r 16, rv_i 6 6, rv_i 0 199, rv_i (-1) 255], [(1, 0, (-1), 255, [(.inl 3, 0)], []), rv_r 17], []), [38], 2181447, [(2, (-10962))], []),
  (38, ([rv_r 16, rv_i 6 6, rv_i 0 199, rv_i (-1) 255], [rv_i 0 0, (1, 0, (-1), 255, [(.inl 3, 0)], []), rv_r 17], []), [39], 2181446, [(2, (-10962))], [5]),
  (39, ([rv_r 16, rv_i 6 6, rv_i 0 199, rv_i (-1) 255], [rv_i (-1) 199], []), [40], 2181445, [(2, (-10962))], []),
  (40, ([rv_r 16, rv_i 6 6, rv_i 0 199, rv_i (-1) 255], [], []), [41], 2181444, [(2, (-10962))], []),
  (41, ([rv_r 16, rv_i 6 6, rv_i 1 200, rv_i (-1) 255], [], []), [8], 2192405, [(2, (-10962))], []),
  (42, ([rv_r 16, rv_i 6 6, rv_i 0 200, rv_u], [], []), [43], 1, [], []),
  (43, ([rv_r 16, rv_i 6 6, rv_i 0 200, rv_u], [rv_i 1 1], []), [], 0, [], [])]
def n_X3_readSum_6 : List rv_N := n_X3_readSum_6_0 ++ (n_X3_readSum_6_1 ++ (n_X3_readSum_6_2))
noncomputable def gn_X3_readSum_6 : Nat → Option rv_N := rv_ap 16 (rv_at n_X3_readSum_6_0) (rv_ap 16 (rv_at n_X3_readSum_6_1) (rv_at n_X3_readSum_6_2))
theorem hn_X3_readSum_6 : ∀ i : Nat, n_X3_readSum_6[i]? = gn_X3_readSum_6 i := rv_ap_eq (l := n_X3_readSum_6_0) (c := 16) (rv_ap_eq (l := n_X3_readSum_6_1) (c := 16) (rv_at_eq n_X3_readSum_6_2) rfl) rfl
set_option maxRecDepth 100000 in
theorem a_X3_readSum_6 : rv_all (fm_tm, flX3, fm_wr, kcX3, klX3, K_X3_readSum_6.2.2.1, [], 4) ct_X3_readSum_6 cd_X3_readSum n_X3_readSum_6 K_X3_readSum_6 [] 0 n_X3_readSum_6 = true := rv_fast hn_X3_readSum_6 hc_X3_readSum (by decide +kernel)
theorem m_X3_readSum_6 {l : Launch} {D : va_G} {ad : Nat → Nat} {cy : Nat → ClassId} {Z : State → Heap → Prop} {Gp : fm_V → Prop} (hAd : fm_Ad fm_tm ad) (hZ : fm_Zk (fm_A fm_tm ad) Z) (hGd : fm_Gd Gp) : rv_Met l D fm_cl fm_tm ad cy fm_nt Z Gp yX3_readSum (.code yX3_readSum prog_5_method_12_code 4 (some .boolean) :: fm_Ts) { frames := 6, cells := 0, slots := 0, locals := 600 } K_X3_readSum_6 := rv_met hAd hZ (Or.inl (by decide +kernel)) evX3 dc_X3_readSum a_X3_readSum_6 ⟨rfl, rfl, rfl⟩ (by decide +kernel) (by decide +kernel) (by decide) (fm_gm hGd (by decide +kernel)) (Or.inr ⟨rfl, by decide, by decide⟩) (fun p e s m args below meth c Q X Y => List.forall_mem_cons.mpr ⟨rv_ctV X Y fm_Ts_good dc_X3_readSum (pc := 2) (i := 2) (idx := 119) rfl (m_X3_readTerm_6 hAd hZ hGd) wl_X3_119 wm_X3_readTerm wy_X3_readTerm (by decide) ⟨rfl, rfl, rfl⟩ ⟨rfl, rfl⟩, List.forall_mem_cons.mpr ⟨rv_ctV X Y fm_Ts_good dc_X3_readSum (pc := 20) (i := 12) (idx := 39) rfl (m_X3_next_0 hAd hZ hGd) wl_X3_39 wm_X3_next wy_X3_next (by decide) ⟨rfl, rfl, rfl⟩ ⟨rfl, rfl⟩, List.forall_mem_cons.mpr ⟨rv_ctV X Y fm_Ts_good dc_X3_readSum (pc := 29) (i := 16) (idx := 39) rfl (m_X3_next_0 hAd hZ hGd) wl_X3_39 wm_X3_next wy_X3_next (by decide) ⟨rfl, rfl, rfl⟩ ⟨rfl, rfl⟩, List.forall_mem_cons.mpr ⟨rv_ctV X Y fm_Ts_good dc_X3_readSum (pc := 38) (i := 20) (idx := 39) rfl (m_X3_next_0 hAd hZ hGd) wl_X3_39 wm_X3_next wy_X3_next (by decide) ⟨rfl, rfl, rfl⟩ ⟨rfl, rfl⟩, List.forall_mem_cons.mpr ⟨rv_ctV X Y fm_Ts_good dc_X3_readSum (pc := 54) (i := 30) (idx := 119) rfl (m_X3_readTerm_6 hAd hZ hGd) wl_X3_119 wm_X3_readTerm wy_X3_readTerm (by decide) ⟨rfl, rfl, rfl⟩ ⟨rfl, rfl⟩, List.forall_mem_cons.mpr ⟨rv_ctV X Y fm_Ts_good dc_X3_readSum (pc := 68) (i := 38) (idx := 108) rfl (m_X1_putStep_0 hAd hZ hGd) wl_X3_108 wm_X1_putStep wy_X1_putStep (by decide) ⟨rfl, rfl, rfl⟩ ⟨rfl, rfl⟩, fun _ h => absurd h List.not_mem_nil⟩⟩⟩⟩⟩⟩) (fun _ _ _ _ _ _ _ _ _ _ _ _ _ _ _ _ h => absurd h List.not_mem_nil)
def cd_X3_close : List (Nat × Instr × Nat) := [(0, .aload_n 0, 1), (1, .invokevirtual 39, 3), (4, .iload_n 1, 1), (5, .if_icmp .eq 9, 3), (8, .aload_n 0, 1), (9, .iconst 1, 1), (10, .invokevirtual 43, 3), (13, .ireturn, 1), (14, .aload_n 0, 1), (15, .dup, 1), (16, .getfield 22, 3), (19, .iconst 1, 1), (20, .iadd, 1), (21, .putfield 22, 3), (24, .iconst 1, 1), (25, .ireturn, 1)]
theorem dc_X3_close : ∀ q ∈ cd_X3_close, decode prog_5_method_5_code q.1 = .ok (q.2.1, q.2.2) := by decide +kernel
def K_X3_close_0 : rv_K := ([rv_r 16, rv_full], [], [(16, 3), (16, 4)], [(0, 0, 1)], [(.inl 1, (-1), 255)], [])
def ct_X3_close_0 : List (Nat × rv_K) := [(1, K_X3_next_0), (6, K_X3_fail_0)]
def n_X3_close_0 : List rv_N := [
  (0, ([rv_r 16, rv_full], [], []), [1], 11, [], []),
  (1, ([rv_r 16, rv_full], [rv_r 16], []), [2], 10, [], [0]),
  (2, ([rv_r 16, rv_full], [rv_i (-1) 255], []), [3], 9, [], []),
  (3, ([rv_r 16, rv_full], [(1, 0, (-2147483648), 2147483647, [(.inl 1, 0)], []), rv_i (-1) 255], []), [4, 8], 8, [], []),
  (4, ([rv_r 16, rv_full], [], []), [5], 3, [], []),
  (5, ([rv_r 16, rv_full], [rv_r 16], []), [6], 2, [], []),
  (6, ([rv_r 16, rv_full], [rv_i 1 1, rv_r 16], []), [7], 1, [], [1]),
  (7, ([rv_r 16, rv_full], [rv_i 0 0], []), [], 0, [], []),
  (8, ([rv_r 16, rv_i (-1) 255], [], []), [9], 7, [], []),
  (9, ([rv_r 16, rv_i (-1) 255], [rv_r 16], []), [10], 6, [], []),
  (10, ([rv_r 16, rv_i (-1) 255], [rv_r 16, rv_r 16], []), [11], 5, [], []),
  (11, ([rv_r 16, rv_i (-1) 255], [(1, 0, (-2147483648), 2147483647, [(.inr (16, 3), 0)], []), rv_r 16], []), [12], 4, [], []),
  (12, ([rv_r 16, rv_i (-1) 255], [rv_i 1 1, (1, 0, (-2147483648), 2147483647, [(.inr (16, 3), 0)], []), rv_r 16], []), [13], 3, [], []),
  (13, ([rv_r 16, rv_i (-1) 255], [(1, 0, (-2147483648), 2147483647, [(.inr (16, 3), 1)], []), rv_r 16], []), [14], 2, [], []),
  (14, ([rv_r 16, rv_i (-1) 255], [], []), [15], 1, [], []),
  (15, ([rv_r 16, rv_i (-1) 255], [rv_i 1 1], []), [], 0, [], [])]
set_option maxRecDepth 100000 in
theorem a_X3_close_0 : rv_all (fm_tm, flX3, fm_wr, kcX3, klX3, K_X3_close_0.2.2.1, [1], 2) ct_X3_close_0 cd_X3_close n_X3_close_0 K_X3_close_0 [] 0 n_X3_close_0 = true := rv_fast (rv_at_eq n_X3_close_0) (rv_at_eq cd_X3_close) (by decide +kernel)
theorem m_X3_close_0 {l : Launch} {D : va_G} {ad : Nat → Nat} {cy : Nat → ClassId} {Z : State → Heap → Prop} {Gp : fm_V → Prop} (hAd : fm_Ad fm_tm ad) (hZ : fm_Zk (fm_A fm_tm ad) Z) (hGd : fm_Gd Gp) : rv_Met l D fm_cl fm_tm ad cy fm_nt Z Gp yX3_close (.code yX3_close prog_5_method_5_code 2 (some .boolean) :: fm_Ts) { frames := 1, cells := 0, slots := 0, locals := 100 } K_X3_close_0 := rv_met hAd hZ (Or.inl (by decide +kernel)) evX3 dc_X3_close a_X3_close_0 ⟨rfl, rfl, rfl⟩ (by decide +kernel) (by decide +kernel) (by decide) (fm_gm hGd (by decide +kernel)) (Or.inr ⟨rfl, by decide, by decide⟩) (fun p e s m args below meth c Q X Y => List.forall_mem_cons.mpr ⟨rv_ctV X Y fm_Ts_good dc_X3_close (pc := 1) (i := 1) (idx := 39) rfl (m_X3_next_0 hAd hZ hGd) wl_X3_39 wm_X3_next wy_X3_next (by decide) ⟨rfl, rfl, rfl⟩ ⟨rfl, rfl⟩, List.forall_mem_cons.mpr ⟨rv_ctV X Y fm_Ts_good dc_X3_close (pc := 10) (i := 6) (idx := 43) rfl (m_X3_fail_0 hAd hZ hGd) wl_X3_43 wm_X3_fail wy_X3_fail (by decide) ⟨rfl, rfl, rfl⟩ ⟨rfl, rfl⟩, fun _ h => absurd h List.not_mem_nil⟩⟩) (fun _ _ _ _ _ _ _ _ _ _ _ _ _ _ _ _ h => absurd h List.not_mem_nil)
def K_X3_readFactor_5 : rv_K := ([rv_r 16, rv_i 5 5], [], [(16, 3), (16, 4), (17, 2), (18, 9999), (19, 9999)], [(0, 0, 1)], [], [])
def ct_X3_readFactor_5 : List (Nat × rv_K) := [(1, K_X3_next_0), (9, K_X3_open_0), (15, K_X3_readSum_6), (19, K_X3_close_0), (26, K_X3_isDigit_0), (29, K_X3_readNumber_0), (44, K_X3_fail_0), (56, K_X1_putStep_0)]
def n_X3_readFactor_5_0 : List rv_N := [
  (0, ([rv_r 16, rv_i 5 5, rv_u, rv_u], [], []), [1], 29, [], []),
  (1, ([rv_r 16, rv_i 5 5, rv_u, rv_u], [rv_r 16], []), [2], 28, [], [0]),
  (2, ([rv_r 16, rv_i 5 5, rv_u, rv_u], [rv_i (-1) 255], []), [3], 27, [], []),
  (3, ([rv_r 16, rv_i 5 5, rv_i (-1) 255, rv_u], [], []), [4], 26, [], []),
  (4, ([rv_r 16, rv_i 5 5, rv_i (-1) 255, rv_u], [(1, 0, (-1), 255, [(.inl 2, 0)], [])], []), [5], 25, [], []),
  (5, ([rv_r 16, rv_i 5 5, rv_i (-1) 255, rv_u], [rv_i 91 91, (1, 0, (-1), 255, [(.inl 2, 0)], [])], []), [6, 26], 24, [], []),
  (6, ([rv_r 16, rv_i 5 5, rv_i 91 91, rv_u], [], []), [7], 17, [], []),
  (7, ([rv_r 16, rv_i 5 5, rv_i 91 91, rv_u], [rv_r 16], []), [8], 16, [], []),
  (8, ([rv_r 16, rv_i 5 5, rv_i 91 91, rv_u], [rv_i 91 91, rv_r 16], []), [9], 15, [], []),
  (9, ([rv_r 16, rv_i 5 5, rv_i 91 91, rv_u], [(1, 0, 5, 5, [(.inl 1, 0)], []), rv_i 91 91, rv_r 16], []), [10], 14, [], [1]),
  (10, ([rv_r 16, rv_i 5 5, rv_i 91 91, rv_u], [(1, 0, 0, 1, [], [(.inl 1, (-2147483648), 5)])], []), [11, 23], 13, [], []),
  (11, ([rv_r 16, rv_i 5 5, rv_i 91 91, rv_u], [], []), [12], 12, [], []),
  (12, ([rv_r 16, rv_i 5 5, rv_i 91 91, rv_u], [rv_r 16], []), [13], 11, [], []),
  (13, ([rv_r 16, rv_i 5 5, rv_i 91 91, rv_u], [(1, 0, 5, 5, [(.inl 1, 0)], []), rv_r 16], []), [14], 10, [], []),
  (14, ([rv_r 16, rv_i 5 5, rv_i 91 91, rv_u], [rv_i 1 1, (1, 0, 5, 5, [(.inl 1, 0)], []), rv_r 16], []), [15], 9, [], []),
  (15, ([rv_r 16, rv_i 5 5, rv_i 91 91, rv_u], [(1, 0, 6, 6, [(.inl 1, 1)], []), rv_r 16], []), [16], 8, [], [2])]
def n_X3_readFactor_5_1 : List rv_N := [
  (16, ([rv_r 16, rv_i 5 5, rv_i 91 91, rv_u], [rv_i 0 1], []), [17, 23], 7, [], []),
  (17, ([rv_r 16, rv_i 5 5, rv_i 91 91, rv_u], [], []), [18], 6, [], []),
  (18, ([rv_r 16, rv_i 5 5, rv_i 91 91, rv_u], [rv_r 16], []), [19], 5, [], []),
  (19, ([rv_r 16, rv_i 5 5, rv_i 91 91, rv_u], [rv_i 93 93, rv_r 16], []), [20], 4, [], [3]),
  (20, ([rv_r 16, rv_i 5 5, rv_i 91 91, rv_u], [rv_i 0 1], []), [21, 23], 3, [], []),
  (21, ([rv_r 16, rv_i 5 5, rv_i 91 91, rv_u], [], []), [22], 2, [], []),
  (22, ([rv_r 16, rv_i 5 5, rv_i 91 91, rv_u], [rv_i 1 1], []), [25], 1, [], []),
  (23, ([rv_r 16, rv_i 5 5, rv_i 91 91, rv_u], [], []), [24], 1, [], []),
  (24, ([rv_r 16, rv_i 5 5, rv_i 91 91, rv_u], [rv_i 0 0], []), [], 0, [], []),
  (24, ([rv_r 16, rv_i 5 5, rv_i 91 91, rv_u], [rv_i 1 1], []), [], 0, [], []),
  (25, ([rv_r 16, rv_i 5 5, rv_i (-1) 255, rv_u], [], []), [27], 23, [], []),
  (26, ([rv_r 16, rv_i 5 5, rv_i (-1) 255, rv_u], [(1, 0, (-1), 255, [(.inl 2, 0)], [])], []), [28], 22, [], [4]),
  (27, ([rv_r 16, rv_i 5 5, rv_i (-1) 255, rv_u], [(1, 0, 0, 1, [], [(.inl 2, 48, 57)])], []), [29, 32], 21, [], []),
  (28, ([rv_r 16, rv_i 5 5, rv_i 48 57, rv_u], [], []), [30], 2, [], []),
  (29, ([rv_r 16, rv_i 5 5, rv_i 48 57, rv_u], [rv_r 16], []), [31], 1, [], [5]),
  (30, ([rv_r 16, rv_i 5 5, rv_i 48 57, rv_u], [rv_i 0 1], []), [], 0, [], [])]
def n_X3_readFactor_5_2 : List rv_N := [
  (31, ([rv_r 16, rv_i 5 5, rv_i (-1) 255, rv_u], [], []), [33], 20, [], []),
  (32, ([rv_r 16, rv_i 5 5, rv_i (-1) 255, rv_u], [(1, 0, (-1), 255, [(.inl 2, 0)], [])], []), [34, 36], 19, [], []),
  (33, ([rv_r 16, rv_i 5 5, rv_i (-1) (-1), rv_u], [], []), [35], 18, [], []),
  (34, ([rv_r 16, rv_i 5 5, rv_i (-1) (-1), rv_u], [rv_i (-1) (-1)], []), [37], 17, [], []),
  (35, ([rv_r 16, rv_i 5 5, rv_i 0 255, rv_u], [], []), [38], 17, [], []),
  (39, ([rv_r 16, rv_i 5 5, rv_i (-1) (-1), rv_u], [rv_i (-1) (-1)], []), [39], 16, [], []),
  (39, ([rv_r 16, rv_i 5 5, rv_i 0 255, rv_u], [rv_i (-1) 12], []), [39], 16, [], []),
  (40, ([rv_r 16, rv_i 5 5, rv_i (-1) 255, rv_i (-1) 12], [], []), [40], 15, [], []),
  (41, ([rv_r 16, rv_i 5 5, rv_i (-1) 255, rv_i (-1) 12], [(1, 0, (-1), 12, [(.inl 3, 0)], [])], []), [41, 45], 14, [], []),
  (42, ([rv_r 16, rv_i 5 5, rv_i (-1) 255, rv_i (-1) (-1)], [], []), [42], 3, [], []),
  (43, ([rv_r 16, rv_i 5 5, rv_i (-1) 255, rv_i (-1) (-1)], [rv_r 16], []), [43], 2, [], []),
  (44, ([rv_r 16, rv_i 5 5, rv_i (-1) 255, rv_i (-1) (-1)], [rv_i 1 1, rv_r 16], []), [44], 1, [], [6]),
  (45, ([rv_r 16, rv_i 5 5, rv_i (-1) 255, rv_i (-1) (-1)], [rv_i 0 0], []), [], 0, [], []),
  (46, ([rv_r 16, rv_i 5 5, rv_i (-1) 255, rv_i 0 12], [], []), [46], 13, [], []),
  (47, ([rv_r 16, rv_i 5 5, rv_i (-1) 255, rv_i 0 12], [rv_r 16], []), [47], 12, [], []),
  (48, ([rv_r 16, rv_i 5 5, rv_i (-1) 255, rv_i 0 12], [rv_r 16, rv_r 16], []), [48], 11, [], [])]
def n_X3_readFactor_5_3 : List rv_N := [
  (49, ([rv_r 16, rv_i 5 5, rv_i (-1) 255, rv_i 0 12], [(1, 0, (-2147483648), 2147483647, [(.inr (16, 3), 0)], []), rv_r 16], []), [49], 10, [], []),
  (50, ([rv_r 16, rv_i 5 5, rv_i (-1) 255, rv_i 0 12], [rv_i 1 1, (1, 0, (-2147483648), 2147483647, [(.inr (16, 3), 0)], []), rv_r 16], []), [50], 9, [], []),
  (51, ([rv_r 16, rv_i 5 5, rv_i (-1) 255, rv_i 0 12], [(1, 0, (-2147483648), 2147483647, [(.inr (16, 3), 1)], []), rv_r 16], []), [51], 8, [], []),
  (52, ([rv_r 16, rv_i 5 5, rv_i (-1) 255, rv_i 0 12], [], []), [52], 7, [], []),
  (53, ([rv_r 16, rv_i 5 5, rv_i (-1) 255, rv_i 0 12], [rv_r 16], []), [53], 6, [], []),
  (54, ([rv_r 16, rv_i 5 5, rv_i (-1) 255, rv_i 0 12], [rv_r 17], []), [54], 5, [], []),
  (55, ([rv_r 16, rv_i 5 5, rv_i (-1) 255, rv_i 0 12], [rv_i 1 1, rv_r 17], []), [55], 4, [], []),
  (56, ([rv_r 16, rv_i 5 5, rv_i (-1) 255, rv_i 0 12], [(1, 0, 0, 12, [(.inl 3, 0)], []), rv_i 1 1, rv_r 17], []), [56], 3, [], [7]),
  (57, ([rv_r 16, rv_i 5 5, rv_i (-1) 255, rv_i 0 12], [rv_i (-1) 199], []), [57], 2, [], []),
  (58, ([rv_r 16, rv_i 5 5, rv_i (-1) 255, rv_i 0 12], [], []), [58], 1, [], []),
  (59, ([rv_r 16, rv_i 5 5, rv_i (-1) 255, rv_i 0 12], [rv_i 1 1], []), [], 0, [], [])]
def n_X3_readFactor_5 : List rv_N := n_X3_readFactor_5_0 ++ (n_X3_readFactor_5_1 ++ (n_X3_readFactor_5_2 ++ (n_X3_readFactor_5_3)))
noncomputable def gn_X3_readFactor_5 : Nat → Option rv_N := rv_ap 16 (rv_at n_X3_readFactor_5_0) (rv_ap 16 (rv_at n_X3_readFactor_5_1) (rv_ap 16 (rv_at n_X3_readFactor_5_2) (rv_at n_X3_readFactor_5_3)))
theorem hn_X3_readFactor_5 : ∀ i : Nat, n_X3_readFactor_5[i]? = gn_X3_readFactor_5 i := rv_ap_eq (l := n_X3_readFactor_5_0) (c := 16) (rv_ap_eq (l := n_X3_readFactor_5_1) (c := 16) (rv_ap_eq (l := n_X3_readFactor_5_2) (c := 16) (rv_at_eq n_X3_readFactor_5_3) rfl) rfl) rfl
set_option maxRecDepth 100000 in
theorem a_X3_readFactor_5 : rv_all (fm_tm, flX3, fm_wr, kcX3, klX3, K_X3_readFactor_5.2.2.1, [], 4) ct_X3_readFactor_5 cd_X3_readFactor n_X3_readFactor_5 K_X3_readFactor_5 [36] 0 n_X3_readFactor_5 = true := rv_fast hn_X3_readFactor_5 hc_X3_readFactor (by decide +kernel)
theorem m_X3_readFactor_5 {l : Launch} {D : va_G} {ad : Nat → Nat} {cy : Nat → ClassId} {Z : State → Heap → Prop} {Gp : fm_V → Prop} (hAd : fm_Ad fm_tm ad) (hZ : fm_Zk (fm_A fm_tm ad) Z) (hGd : fm_Gd Gp) : rv_Met l D fm_cl fm_tm ad cy fm_nt Z Gp yX3_readFactor (.code yX3_readFactor prog_5_method_14_code 4 (some .boolean) :: fm_Ts) { frames := 7, cells := 0, slots := 0, locals := 700 } K_X3_readFactor_5 := rv_met hAd hZ (Or.inl (by decide +kernel)) evX3 dc_X3_readFactor a_X3_readFactor_5 ⟨rfl, rfl, rfl⟩ (by decide +kernel) (by decide +kernel) (by decide) (fm_gm hGd (by decide +kernel)) (Or.inr ⟨rfl, by decide, by decide⟩) (fun p e s m args below meth c Q X Y => List.forall_mem_cons.mpr ⟨rv_ctV X Y fm_Ts_good dc_X3_readFactor (pc := 1) (i := 1) (idx := 39) rfl (m_X3_next_0 hAd hZ hGd) wl_X3_39 wm_X3_next wy_X3_next (by decide) ⟨rfl, rfl, rfl⟩ ⟨rfl, rfl⟩, List.forall_mem_cons.mpr ⟨rv_ctV X Y fm_Ts_good dc_X3_readFactor (pc := 15) (i := 9) (idx := 79) rfl (m_X3_open_0 hAd hZ hGd) wl_X3_79 wm_X3_open wy_X3_open (by decide) ⟨rfl, rfl, rfl⟩ ⟨rfl, rfl⟩, List.forall_mem_cons.mpr ⟨rv_ctV X Y fm_Ts_good dc_X3_readFactor (pc := 25) (i := 15) (idx := 73) rfl (m_X3_readSum_6 hAd hZ hGd) wl_X3_73 wm_X3_readSum wy_X3_readSum (by decide) ⟨rfl, rfl, rfl⟩ ⟨rfl, rfl⟩, List.forall_mem_cons.mpr ⟨rv_ctV X Y fm_Ts_good dc_X3_readFactor (pc := 34) (i := 19) (idx := 86) rfl (m_X3_close_0 hAd hZ hGd) wl_X3_86 wm_X3_close wy_X3_close (by decide) ⟨rfl, rfl, rfl⟩ ⟨rfl, rfl⟩, List.forall_mem_cons.mpr ⟨rv_ctS X Y fm_Ts_good dc_X3_readFactor (pc := 47) (i := 26) (idx := 125) rfl (m_X3_isDigit_0 hAd hZ hGd) wl_X3_125 wm_X3_isDigit wy_X3_isDigit (by decide) rfl, List.forall_mem_cons.mpr ⟨rv_ctV X Y fm_Ts_good dc_X3_readFactor (pc := 54) (i := 29) (idx := 128) rfl (m_X3_readNumber_0 hAd hZ hGd) wl_X3_128 wm_X3_readNumber wy_X3_readNumber (by decide) ⟨rfl, rfl, rfl⟩ ⟨rfl, rfl⟩, List.forall_mem_cons.mpr ⟨rv_ctV X Y fm_Ts_good dc_X3_readFactor (pc := 80) (i := 44) (idx := 43) rfl (m_X3_fail_0 hAd hZ hGd) wl_X3_43 wm_X3_fail wy_X3_fail (by decide) ⟨rfl, rfl, rfl⟩ ⟨rfl, rfl⟩, List.forall_mem_cons.mpr ⟨rv_ctV X Y fm_Ts_good dc_X3_readFactor (pc := 100) (i := 56) (idx := 108) rfl (m_X1_putStep_0 hAd hZ hGd) wl_X3_108 wm_X1_putStep wy_X1_putStep (by decide) ⟨rfl, rfl, rfl⟩ ⟨rfl, rfl⟩, fun _ h => absurd h List.not_mem_nil⟩⟩⟩⟩⟩⟩⟩⟩) (fun p e s m args below meth c V0 avs hpre hr hlk X Y id hid n hn q hq V ls st hI hG ih => by
  obtain rfl := List.mem_singleton.mp hid
  obtain rfl : _ = n := Option.some.inj ((show n_X3_readFactor_5[36]? = some (35, ([rv_r 16, rv_i 5 5, rv_i 0 255, rv_u], [], []), [38], 17, [], []) from rfl).symm.trans hn)
  obtain rfl : _ = q := Option.some.inj ((show cd_X3_readFactor[35]? = some (66, .ldc 131, 2) from rfl).symm.trans hq)
  obtain rfl : st = [] := rv_sk_nil hG.2.1
  obtain ⟨x, hlx, -, -, -⟩ := rv_lokI rfl (hG.1 2 _ rfl)
  refine fs_index hAd X Y rfl (i := 1) (by decide) (fun adK adV h => h.2.2.2) rfl hlx hI.2.2.1 (by decide) (dc_X3_readFactor (66, .ldc 131, 2) (List.mem_of_getElem? (i := 35) rfl)) (dc_X3_readFactor (68, .iload_n 2, 1) (List.mem_of_getElem? (i := 36) rfl)) (dc_X3_readFactor (69, .i2c, 1) (List.mem_of_getElem? (i := 37) rfl)) (dc_X3_readFactor (70, .invokevirtual 58, 3) (List.mem_of_getElem? (i := 38) rfl)) (fun z z1 z2 => ?_)
  exact ih 38 (39, ([rv_r 16, rv_i 5 5, rv_i 0 255, rv_u], [rv_i (-1) 12], []), [39], 16, [], []) (73, .istore_n 3, 1) rfl rfl V ls [.int z] hI ⟨hG.1, ⟨rv_okB z1 z2, trivial⟩, hG.2.2⟩ (by show ((16 : Int) + 0 + 1).toNat < ((17 : Int) + 0 + 1).toNat; decide))
def K_X3_readTerm_5 : rv_K := ([rv_r 16, rv_i 5 5], [], [(16, 3), (16, 4), (17, 2), (18, 9999), (19, 9999)], [(0, 0, 1)], [], [])
def ct_X3_readTerm_5 : List (Nat × rv_K) := [(2, K_X3_readFactor_5), (12, K_X3_next_0), (16, K_X3_next_0), (20, K_X3_next_0), (24, K_X3_next_0), (34, K_X3_readFactor_5), (42, K_X1_putStep_0)]
def n_X3_readTerm_5_0 : List rv_N := [
  (0, ([rv_r 16, rv_i 5 5, rv_u, rv_u], [], []), [1], 2354810, [], []),
  (1, ([rv_r 16, rv_i 5 5, rv_u, rv_u], [rv_r 16], []), [2], 2354809, [], []),
  (2, ([rv_r 16, rv_i 5 5, rv_u, rv_u], [(1, 0, 5, 5, [(.inl 1, 0)], []), rv_r 16], []), [3], 2354808, [], [0]),
  (3, ([rv_r 16, rv_i 5 5, rv_u, rv_u], [rv_i 0 1], []), [4, 6], 2354807, [], []),
  (4, ([rv_r 16, rv_i 5 5, rv_u, rv_u], [], []), [5], 1, [], []),
  (5, ([rv_r 16, rv_i 5 5, rv_u, rv_u], [rv_i 0 0], []), [], 0, [], []),
  (6, ([rv_r 16, rv_i 5 5, rv_u, rv_u], [], []), [7], 2354806, [], []),
  (7, ([rv_r 16, rv_i 5 5, rv_u, rv_u], [rv_i 0 0], []), [8], 2354805, [], []),
  (8, ([rv_r 16, rv_i 5 5, rv_i 0 200, rv_u], [], []), [9], 2354804, [(2, (-11774))], []),
  (9, ([rv_r 16, rv_i 5 5, rv_i 0 200, rv_u], [(1, 0, 0, 200, [(.inl 2, 0)], [])], []), [10], 2354803, [(2, (-11774))], []),
  (10, ([rv_r 16, rv_i 5 5, rv_i 0 200, rv_u], [rv_i 200 200, (1, 0, 0, 200, [(.inl 2, 0)], [])], []), [11, 46], 2354802, [(2, (-11774))], []),
  (11, ([rv_r 16, rv_i 5 5, rv_i 0 199, rv_u], [], []), [12], 2343063, [(2, (-11774))], []),
  (12, ([rv_r 16, rv_i 5 5, rv_i 0 199, rv_u], [rv_r 16], []), [13], 2343062, [(2, (-11774))], [1]),
  (13, ([rv_r 16, rv_i 5 5, rv_i 0 199, rv_u], [rv_i (-1) 255], []), [14], 2343061, [(2, (-11774))], []),
  (14, ([rv_r 16, rv_i 5 5, rv_i 0 199, rv_u], [rv_i 42 42, rv_i (-1) 255], []), [15, 23], 2343060, [(2, (-11774))], []),
  (15, ([rv_r 16, rv_i 5 5, rv_i 0 199, rv_u], [], []), [16], 2343059, [(2, (-11774))], [])]
def n_X3_readTerm_5_1 : List rv_N := [
  (16, ([rv_r 16, rv_i 5 5, rv_i 0 199, rv_u], [rv_r 16], []), [17], 2343058, [(2, (-11774))], [2]),
  (17, ([rv_r 16, rv_i 5 5, rv_i 0 199, rv_u], [rv_i (-1) 255], []), [18], 2343057, [(2, (-11774))], []),
  (18, ([rv_r 16, rv_i 5 5, rv_i 0 199, rv_u], [rv_i 47 47, rv_i (-1) 255], []), [19, 23], 2343056, [(2, (-11774))], []),
  (19, ([rv_r 16, rv_i 5 5, rv_i 0 199, rv_u], [], []), [20], 2343055, [(2, (-11774))], []),
  (20, ([rv_r 16, rv_i 5 5, rv_i 0 199, rv_u], [rv_r 16], []), [21], 2343054, [(2, (-11774))], [3]),
  (21, ([rv_r 16, rv_i 5 5, rv_i 0 199, rv_u], [rv_i (-1) 255], []), [22], 2343053, [(2, (-11774))], []),
  (22, ([rv_r 16, rv_i 5 5, rv_i 0 199, rv_u], [rv_i 37 37, rv_i (-1) 255], []), [23, 46], 2343052, [(2, (-11774))], []),
  (23, ([rv_r 16, rv_i 5 5, rv_i 0 199, rv_u], [], []), [24], 2343051, [(2, (-11774))], []),
  (24, ([rv_r 16, rv_i 5 5, rv_i 0 199, rv_u], [rv_r 16], []), [25], 2343050, [(2, (-11774))], [4]),
  (25, ([rv_r 16, rv_i 5 5, rv_i 0 199, rv_u], [rv_i (-1) 255], []), [26], 2343049, [(2, (-11774))], []),
  (26, ([rv_r 16, rv_i 5 5, rv_i 0 199, rv_i (-1) 255], [], []), [27], 2343048, [(2, (-11774))], []),
  (27, ([rv_r 16, rv_i 5 5, rv_i 0 199, rv_i (-1) 255], [rv_r 16], []), [28], 2343047, [(2, (-11774))], []),
  (28, ([rv_r 16, rv_i 5 5, rv_i 0 199, rv_i (-1) 255], [rv_r 16, rv_r 16], []), [29], 2343046, [(2, (-11774))], []),
  (29, ([rv_r 16, rv_i 5 5, rv_i 0 199, rv_i (-1) 255], [(1, 0, (-2147483648), 2147483647, [(.inr (16, 3), 0)], []), rv_r 16], []), [30], 2343045, [(2, (-11774))], []),
  (30, ([rv_r 16, rv_i 5 5, rv_i 0 199, rv_i (-1) 255], [rv_i 1 1, (1, 0, (-2147483648), 2147483647, [(.inr (16, 3), 0)], []), rv_r 16], []), [31], 2343044, [(2, (-11774))], []),
  (31, ([rv_r 16, rv_i 5 5, rv_i 0 199, rv_i (-1) 255], [(1, 0, (-2147483648), 2147483647, [(.inr (16, 3), 1)], []), rv_r 16], []), [32], 2343043, [(2, (-11774))], [])]
def n_X3_readTerm_5_2 : List rv_N := [
  (32, ([rv_r 16, rv_i 5 5, rv_i 0 199, rv_i (-1) 255], [], []), [33], 2343042, [(2, (-11774))], []),
  (33, ([rv_r 16, rv_i 5 5, rv_i 0 199, rv_i (-1) 255], [rv_r 16], []), [34], 2343041, [(2, (-11774))], []),
  (34, ([rv_r 16, rv_i 5 5, rv_i 0 199, rv_i (-1) 255], [(1, 0, 5, 5, [(.inl 1, 0)], []), rv_r 16], []), [35], 2343040, [(2, (-11774))], [5]),
  (35, ([rv_r 16, rv_i 5 5, rv_i 0 199, rv_i (-1) 255], [rv_i 0 1], []), [36, 38], 2343039, [(2, (-11774))], []),
  (36, ([rv_r 16, rv_i 5 5, rv_i 0 199, rv_i (-1) 255], [], []), [37], 1, [], []),
  (37, ([rv_r 16, rv_i 5 5, rv_i 0 199, rv_i (-1) 255], [rv_i 0 0], []), [], 0, [], []),
  (38, ([rv_r 16, rv_i 5 5, rv_i 0 199, rv_i (-1) 255], [], []), [39], 2343038, [(2, (-11774))], []),
  (39, ([rv_r 16, rv_i 5 5, rv_i 0 199, rv_i (-1) 255], [rv_r 16], []), [40], 2343037, [(2, (-11774))], []),
  (40, ([rv_r 16, rv_i 5 5, rv_i 0 199, rv_i (-1) 255], [rv_r 17], []), [41], 2343036, [(2, (-11774))], []),
  (41, ([rv_r 16, rv_i 5 5, rv_i 0 199, rv_i (-1) 255], [(1, 0, (-1), 255, [(.inl 3, 0)], []), rv_r 17], []), [42], 2343035, [(2, (-11774))], []),
  (42, ([rv_r 16, rv_i 5 5, rv_i 0 199, rv_i (-1) 255], [rv_i 0 0, (1, 0, (-1), 255, [(.inl 3, 0)], []), rv_r 17], []), [43], 2343034, [(2, (-11774))], [6]),
  (43, ([rv_r 16, rv_i 5 5, rv_i 0 199, rv_i (-1) 255], [rv_i (-1) 199], []), [44], 2343033, [(2, (-11774))], []),
  (44, ([rv_r 16, rv_i 5 5, rv_i 0 199, rv_i (-1) 255], [], []), [45], 2343032, [(2, (-11774))], []),
  (45, ([rv_r 16, rv_i 5 5, rv_i 1 200, rv_i (-1) 255], [], []), [8], 2354805, [(2, (-11774))], []),
  (46, ([rv_r 16, rv_i 5 5, rv_i 0 200, rv_u], [], []), [47], 1, [], []),
  (47, ([rv_r 16, rv_i 5 5, rv_i 0 200, rv_u], [rv_i 1 1], []), [], 0, [], [])]
def n_X3_readTerm_5 : List rv_N := n_X3_readTerm_5_0 ++ (n_X3_readTerm_5_1 ++ (n_X3_readTerm_5_2))
noncomputable def gn_X3_readTerm_5 : Nat → Option rv_N := rv_ap 16 (rv_at n_X3_readTerm_5_0) (rv_ap 16 (rv_at n_X3_readTerm_5_1) (rv_at n_X3_readTerm_5_2))
theorem hn_X3_readTerm_5 : ∀ i : Nat, n_X3_readTerm_5[i]? = gn_X3_readTerm_5 i := rv_ap_eq (l := n_X3_readTerm_5_0) (c := 16) (rv_ap_eq (l := n_X3_readTerm_5_1) (c := 16) (rv_at_eq n_X3_readTerm_5_2) rfl) rfl
set_option maxRecDepth 100000 in
theorem a_X3_readTerm_5 : rv_all (fm_tm, flX3, fm_wr, kcX3, klX3, K_X3_readTerm_5.2.2.1, [], 4) ct_X3_readTerm_5 cd_X3_readTerm n_X3_readTerm_5 K_X3_readTerm_5 [] 0 n_X3_readTerm_5 = true := rv_fast hn_X3_readTerm_5 hc_X3_readTerm (by decide +kernel)
theorem m_X3_readTerm_5 {l : Launch} {D : va_G} {ad : Nat → Nat} {cy : Nat → ClassId} {Z : State → Heap → Prop} {Gp : fm_V → Prop} (hAd : fm_Ad fm_tm ad) (hZ : fm_Zk (fm_A fm_tm ad) Z) (hGd : fm_Gd Gp) : rv_Met l D fm_cl fm_tm ad cy fm_nt Z Gp yX3_readTerm (.code yX3_readTerm prog_5_method_13_code 4 (some .boolean) :: fm_Ts) { frames := 8, cells := 0, slots := 0, locals := 800 } K_X3_readTerm_5 := rv_met hAd hZ (Or.inl (by decide +kernel)) evX3 dc_X3_readTerm a_X3_readTerm_5 ⟨rfl, rfl, rfl⟩ (by decide +kernel) (by decide +kernel) (by decide) (fm_gm hGd (by decide +kernel)) (Or.inr ⟨rfl, by decide, by decide⟩) (fun p e s m args below meth c Q X Y => List.forall_mem_cons.mpr ⟨rv_ctV X Y fm_Ts_good dc_X3_readTerm (pc := 2) (i := 2) (idx := 122) rfl (m_X3_readFactor_5 hAd hZ hGd) wl_X3_122 wm_X3_readFactor wy_X3_readFactor (by decide) ⟨rfl, rfl, rfl⟩ ⟨rfl, rfl⟩, List.forall_mem_cons.mpr ⟨rv_ctV X Y fm_Ts_good dc_X3_readTerm (pc := 20) (i := 12) (idx := 39) rfl (m_X3_next_0 hAd hZ hGd) wl_X3_39 wm_X3_next wy_X3_next (by decide) ⟨rfl, rfl, rfl⟩ ⟨rfl, rfl⟩, List.forall_mem_cons.mpr ⟨rv_ctV X Y fm_Ts_good dc_X3_readTerm (pc := 29) (i := 16) (idx := 39) rfl (m_X3_next_0 hAd hZ hGd) wl_X3_39 wm_X3_next wy_X3_next (by decide) ⟨rfl, rfl, rfl⟩ ⟨rfl, rfl⟩, List.forall_mem_cons.mpr ⟨rv_ctV X Y fm_Ts_good dc_X3_readTerm (pc := 38) (i := 20) (idx := 39) rfl (m_X3_next_0 hAd hZ hGd) wl_X3_39 wm_X3_next wy_X3_next (by decide) ⟨rfl, rfl, rfl⟩ ⟨rfl, rfl⟩, List.forall_mem_cons.mpr ⟨rv_ctV X Y fm_Ts_good dc_X3_readTerm (pc := 47) (i := 24) (idx := 39) rfl (m_X3_next_0 hAd hZ hGd) wl_X3_39 wm_X3_next wy_X3_next (by decide) ⟨rfl, rfl, rfl⟩ ⟨rfl, rfl⟩, List.forall_mem_cons.mpr ⟨rv_ctV X Y fm_Ts_good dc_X3_readTerm (pc := 63) (i := 34) (idx := 122) rfl (m_X3_readFactor_5 hAd hZ hGd) wl_X3_122 wm_X3_readFactor wy_X3_readFactor (by decide) ⟨rfl, rfl, rfl⟩ ⟨rfl, rfl⟩, List.forall_mem_cons.mpr ⟨rv_ctV X Y fm_Ts_good dc_X3_readTerm (pc := 77) (i := 42) (idx := 108) rfl (m_X1_putStep_0 hAd hZ hGd) wl_X3_108 wm_X1_putStep wy_X1_putStep (by decide) ⟨rfl, rfl, rfl⟩ ⟨rfl, rfl⟩, fun _ h => absurd h List.not_mem_nil⟩⟩⟩⟩⟩⟩⟩) (fun _ _ _ _ _ _ _ _ _ _ _ _ _ _ _ _ h => absurd h List.not_mem_nil)
def K_X3_readSum_5 : rv_K := ([rv_r 16, rv_i 5 5], [], [(16, 3), (16, 4), (17, 2), (18, 9999), (19, 9999)], [(0, 0, 1)], [], [])
def ct_X3_readSum_5 : List (Nat × rv_K) := [(2, K_X3_readTerm_5), (12, K_X3_next_0), (16, K_X3_next_0), (20, K_X3_next_0), (30, K_X3_readTerm_5), (38, K_X1_putStep_0)]
def n_X3_readSum_5_0 : List rv_N := [
  (0, ([rv_r 16, rv_i 5 5, rv_u, rv_u], [], []), [1], 2192410, [], []),
  (1, ([rv_r 16, rv_i 5 5, rv_u, rv_u], [rv_r 16], []), [2], 2192409, [], []),
  (2, ([rv_r 16, rv_i 5 5, rv_u, rv_u], [(1, 0, 5, 5, [(.inl 1, 0)], []), rv_r 16], []), [3], 2192408, [], [0]),
  (3, ([rv_r 16, rv_i 5 5, rv_u, rv_u], [rv_i 0 1], []), [4, 6], 2192407, [], []),
  (4, ([rv_r 16, rv_i 5 5, rv_u, rv_u], [], []), [5], 1, [], []),
  (5, ([rv_r 16, rv_i 5 5, rv_u, rv_u], [rv_i 0 0], []), [], 0, [], []),
  (6, ([rv_r 16, rv_i 5 5, rv_u, rv_u], [], []), [7], 2192406, [], []),
  (7, ([rv_r 16, rv_i 5 5, rv_u, rv_u], [rv_i 0 0], []), [8], 2192405, [], []),
  (8, ([rv_r 16, rv_i 5 5, rv_i 0 200, rv_u], [], []), [9], 2192404, [(2, (-10962))], []),
  (9, ([rv_r 16, rv_i 5 5, rv_i 0 200, rv_u], [(1, 0, 0, 200, [(.inl 2, 0)], [])], []), [10], 2192403, [(2, (-10962))], []),
  (10, ([rv_r 16, rv_i 5 5, rv_i 0 200, rv_u], [rv_i 200 200, (1, 0, 0, 200, [(.inl 2, 0)], [])], []), [11, 42], 2192402, [(2, (-10962))], []),
  (11, ([rv_r 16, rv_i 5 5, rv_i 0 199, rv_u], [], []), [12], 2181471, [(2, (-10962))], []),
  (12, ([rv_r 16, rv_i 5 5, rv_i 0 199, rv_u], [rv_r 16], []), [13], 2181470, [(2, (-10962))], [1]),
  (13, ([rv_r 16, rv_i 5 5, rv_i 0 199, rv_u], [rv_i (-1) 255], []), [14], 2181469, [(2, (-10962))], []),
  (14, ([rv_r 16, rv_i 5 5, rv_i 0 199, rv_u], [rv_i 43 43, rv_i (-1) 255], []), [15, 19], 2181468, [(2, (-10962))], []),
  (15, ([rv_r 16, rv_i 5 5, rv_i 0 199, rv_u], [], []), [16], 2181467, [(2, (-10962))], [])]
def n_X3_readSum_5_1 : List rv_N := [
  (16, ([rv_r 16, rv_i 5 5, rv_i 0 199, rv_u], [rv_r 16], []), [17], 2181466, [(2, (-10962))], [2]),
  (17, ([rv_r 16, rv_i 5 5, rv_i 0 199, rv_u], [rv_i (-1) 255], []), [18], 2181465, [(2, (-10962))], []),
  (18, ([rv_r 16, rv_i 5 5, rv_i 0 199, rv_u], [rv_i 45 45, rv_i (-1) 255], []), [19, 42], 2181464, [(2, (-10962))], []),
  (19, ([rv_r 16, rv_i 5 5, rv_i 0 199, rv_u], [], []), [20], 2181463, [(2, (-10962))], []),
  (20, ([rv_r 16, rv_i 5 5, rv_i 0 199, rv_u], [rv_r 16], []), [21], 2181462, [(2, (-10962))], [3]),
  (21, ([rv_r 16, rv_i 5 5, rv_i 0 199, rv_u], [rv_i (-1) 255], []), [22], 2181461, [(2, (-10962))], []),
  (22, ([rv_r 16, rv_i 5 5, rv_i 0 199, rv_i (-1) 255], [], []), [23], 2181460, [(2, (-10962))], []),
  (23, ([rv_r 16, rv_i 5 5, rv_i 0 199, rv_i (-1) 255], [rv_r 16], []), [24], 2181459, [(2, (-10962))], []),
  (24, ([rv_r 16, rv_i 5 5, rv_i 0 199, rv_i (-1) 255], [rv_r 16, rv_r 16], []), [25], 2181458, [(2, (-10962))], []),
  (25, ([rv_r 16, rv_i 5 5, rv_i 0 199, rv_i (-1) 255], [(1, 0, (-2147483648), 2147483647, [(.inr (16, 3), 0)], []), rv_r 16], []), [26], 2181457, [(2, (-10962))], []),
  (26, ([rv_r 16, rv_i 5 5, rv_i 0 199, rv_i (-1) 255], [rv_i 1 1, (1, 0, (-2147483648), 2147483647, [(.inr (16, 3), 0)], []), rv_r 16], []), [27], 2181456, [(2, (-10962))], []),
  (27, ([rv_r 16, rv_i 5 5, rv_i 0 199, rv_i (-1) 255], [(1, 0, (-2147483648), 2147483647, [(.inr (16, 3), 1)], []), rv_r 16], []), [28], 2181455, [(2, (-10962))], []),
  (28, ([rv_r 16, rv_i 5 5, rv_i 0 199, rv_i (-1) 255], [], []), [29], 2181454, [(2, (-10962))], []),
  (29, ([rv_r 16, rv_i 5 5, rv_i 0 199, rv_i (-1) 255], [rv_r 16], []), [30], 2181453, [(2, (-10962))], []),
  (30, ([rv_r 16, rv_i 5 5, rv_i 0 199, rv_i (-1) 255], [(1, 0, 5, 5, [(.inl 1, 0)], []), rv_r 16], []), [31], 2181452, [(2, (-10962))], [4]),
  (31, ([rv_r 16, rv_i 5 5, rv_i 0 199, rv_i (-1) 255], [rv_i 0 1], []), [32, 34], 2181451, [(2, (-10962))], [])]
def n_X3_readSum_5_2 : List rv_N := [
  (32, ([rv_r 16, rv_i 5 5, rv_i 0 199, rv_i (-1) 255], [], []), [33], 1, [], []),
  (33, ([rv_r 16, rv_i 5 5, rv_i 0 199, rv_i (-1) 255], [rv_i 0 0], []), [], 0, [], []),
  (34, ([rv_r 16, rv_i 5 5, rv_i 0 199, rv_i (-1) 255], [], []), [35], 2181450, [(2, (-10962))], []),
  (35, ([rv_r 16, rv_i 5 5, rv_i 0 199, rv_i (-1) 255], [rv_r 16], []), [36], 2181449, [(2, (-10962))], []),
  (36, ([rv_r 16, rv_i 5 5, rv_i 0 199, rv_i (-1) 255], [rv_r 17], []), [37], 2181448, [(2, (-10962))], []),
  (37, ([rv_r 16, rv_i 5 5, rv_i 0 199, rv_i (-1) 255], [(1, 0, (-1), 255, [(.inl 3, 0)], []), rv_r 17], []), [38], 2181447, [(2, (-10962))], []),
  (38, ([rv_r 16, rv_i 5 5, rv_i 0 199, rv_i (-1) 255], [rv_i 0 0, (1, 0, (-1), 255, [(.inl 3, 0)], []), rv_r 17], []), [39], 2181446, [(2, (-10962))], [5]),
  (39, ([rv_r 16, rv_i 5 5, rv_i 0 199, rv_i (-1) 255], [rv_i (-1) 199], []), [40], 2181445, [(2, (-10962))], []),
  (40, ([rv_r 16, rv_i 5 5, rv_i 0 199, rv_i (-1) 255], [], []), [41], 2181444, [(2, (-10962))], []),
  (41, ([rv_r 16, rv_i 5 5, rv_i 1 200, rv_i (-1) 255], [], []), [8], 2192405, [(2, (-10962))], []),
  (42, ([rv_r 16, rv_i 5 5, rv_i 0 200, rv_u], [], []), [43], 1, [], []),
  (43, ([rv_r 16, rv_i 5 5, rv_i 0 200, rv_u], [rv_i 1 1], []), [], 0, [], [])]
def n_X3_readSum_5 : List rv_N := n_X3_readSum_5_0 ++ (n_X3_readSum_5_1 ++ (n_X3_readSum_5_2))
noncomputable def gn_X3_readSum_5 : Nat → Option rv_N := rv_ap 16 (rv_at n_X3_readSum_5_0) (rv_ap 16 (rv_at n_X3_readSum_5_1) (rv_at n_X3_readSum_5_2))
theorem hn_X3_readSum_5 : ∀ i : Nat, n_X3_readSum_5[i]? = gn_X3_readSum_5 i := rv_ap_eq (l := n_X3_readSum_5_0) (c := 16) (rv_ap_eq (l := n_X3_readSum_5_1) (c := 16) (rv_at_eq n_X3_readSum_5_2) rfl) rfl
set_option maxRecDepth 100000 in
theorem a_X3_readSum_5 : rv_all (fm_tm, flX3, fm_wr, kcX3, klX3, K_X3_readSum_5.2.2.1, [], 4) ct_X3_readSum_5 cd_X3_readSum n_X3_readSum_5 K_X3_readSum_5 [] 0 n_X3_readSum_5 = true := rv_fast hn_X3_readSum_5 hc_X3_readSum (by decide +kernel)
theorem m_X3_readSum_5 {l : Launch} {D : va_G} {ad : Nat → Nat} {cy : Nat → ClassId} {Z : State → Heap → Prop} {Gp : fm_V → Prop} (hAd : fm_Ad fm_tm ad) (hZ : fm_Zk (fm_A fm_tm ad) Z) (hGd : fm_Gd Gp) : rv_Met l D fm_cl fm_tm ad cy fm_nt Z Gp yX3_readSum (.code yX3_readSum prog_5_method_12_code 4 (some .boolean) :: fm_Ts) { frames := 9, cells := 0, slots := 0, locals := 900 } K_X3_readSum_5 := rv_met hAd hZ (Or.inl (by decide +kernel)) evX3 dc_X3_readSum a_X3_readSum_5 ⟨rfl, rfl, rfl⟩ (by decide +kernel) (by decide +kernel) (by decide) (fm_gm hGd (by decide +kernel)) (Or.inr ⟨rfl, by decide, by decide⟩) (fun p e s m args below meth c Q X Y => List.forall_mem_cons.mpr ⟨rv_ctV X Y fm_Ts_good dc_X3_readSum (pc := 2) (i := 2) (idx := 119) rfl (m_X3_readTerm_5 hAd hZ hGd) wl_X3_119 wm_X3_readTerm wy_X3_readTerm (by decide) ⟨rfl, rfl, rfl⟩ ⟨rfl, rfl⟩, List.forall_mem_cons.mpr ⟨rv_ctV X Y fm_Ts_good dc_X3_readSum (pc := 20) (i := 12) (idx := 39) rfl (m_X3_next_0 hAd hZ hGd) wl_X3_39 wm_X3_next wy_X3_next (by decide) ⟨rfl, rfl, rfl⟩ ⟨rfl, rfl⟩, List.forall_mem_cons.mpr ⟨rv_ctV X Y fm_Ts_good dc_X3_readSum (pc := 29) (i := 16) (idx := 39) rfl (m_X3_next_0 hAd hZ hGd) wl_X3_39 wm_X3_next wy_X3_next (by decide) ⟨rfl, rfl, rfl⟩ ⟨rfl, rfl⟩, List.forall_mem_cons.mpr ⟨rv_ctV X Y fm_Ts_good dc_X3_readSum (pc := 38) (i := 20) (idx := 39) rfl (m_X3_next_0 hAd hZ hGd) wl_X3_39 wm_X3_next wy_X3_next (by decide) ⟨rfl, rfl, rfl⟩ ⟨rfl, rfl⟩, List.forall_mem_cons.mpr ⟨rv_ctV X Y fm_Ts_good dc_X3_readSum (pc := 54) (i := 30) (idx := 119) rfl (m_X3_readTerm_5 hAd hZ hGd) wl_X3_119 wm_X3_readTerm wy_X3_readTerm (by decide) ⟨rfl, rfl, rfl⟩ ⟨rfl, rfl⟩, List.forall_mem_cons.mpr ⟨rv_ctV X Y fm_Ts_good dc_X3_readSum (pc := 68) (i := 38) (idx := 108) rfl (m_X1_putStep_0 hAd hZ hGd) wl_X3_108 wm_X1_putStep wy_X1_putStep (by decide) ⟨rfl, rfl, rfl⟩ ⟨rfl, rfl⟩, fun _ h => absurd h List.not_mem_nil⟩⟩⟩⟩⟩⟩) (fun _ _ _ _ _ _ _ _ _ _ _ _ _ _ _ _ h => absurd h List.not_mem_nil)
def K_X3_readFactor_4 : rv_K := ([rv_r 16, rv_i 4 4], [], [(16, 3), (16, 4), (17, 2), (18, 9999), (19, 9999)], [(0, 0, 1)], [], [])
def ct_X3_readFactor_4 : List (Nat × rv_K) := [(1, K_X3_next_0), (9, K_X3_open_0), (15, K_X3_readSum_5), (19, K_X3_close_0), (26, K_X3_isDigit_0), (29, K_X3_readNumber_0), (44, K_X3_fail_0), (56, K_X1_putStep_0)]
def n_X3_readFactor_4_0 : List rv_N := [
  (0, ([rv_r 16, rv_i 4 4, rv_u, rv_u], [], []), [1], 29, [], []),
  (1, ([rv_r 16, rv_i 4 4, rv_u, rv_u], [rv_r 16], []), [2], 28, [], [0]),
  (2, ([rv_r 16, rv_i 4 4, rv_u, rv_u], [rv_i (-1) 255], []), [3], 27, [], []),
  (3, ([rv_r 16, rv_i 4 4, rv_i (-1) 255, rv_u], [], []), [4], 26, [], []),
  (4, ([rv_r 16, rv_i 4 4, rv_i (-1) 255, rv_u], [(1, 0, (-1), 255, [(.inl 2, 0)], [])], []), [5], 25, [], []),
  (5, ([rv_r 16, rv_i 4 4, rv_i (-1) 255, rv_u], [rv_i 91 91, (1, 0, (-1), 255, [(.inl 2, 0)], [])], []), [6, 26], 24, [], []),
  (6, ([rv_r 16, rv_i 4 4, rv_i 91 91, rv_u], [], []), [7], 17, [], []),
  (7, ([rv_r 16, rv_i 4 4, rv_i 91 91, rv_u], [rv_r 16], []), [8], 16, [], []),
  (8, ([rv_r 16, rv_i 4 4, rv_i 91 91, rv_u], [rv_i 91 91, rv_r 16], []), [9], 15, [], []),
  (9, ([rv_r 16, rv_i 4 4, rv_i 91 91, rv_u], [(1, 0, 4, 4, [(.inl 1, 0)], []), rv_i 91 91, rv_r 16], []), [10], 14, [], [1]),
  (10, ([rv_r 16, rv_i 4 4, rv_i 91 91, rv_u], [(1, 0, 0, 1, [], [(.inl 1, (-2147483648), 5)])], []), [11, 23], 13, [], []),
  (11, ([rv_r 16, rv_i 4 4, rv_i 91 91, rv_u], [], []), [12], 12, [], []),
  (12, ([rv_r 16, rv_i 4 4, rv_i 91 91, rv_u], [rv_r 16], []), [13], 11, [], []),
  (13, ([rv_r 16, rv_i 4 4, rv_i 91 91, rv_u], [(1, 0, 4, 4, [(.inl 1, 0)], []), rv_r 16], []), [14], 10, [], []),
  (14, ([rv_r 16, rv_i 4 4, rv_i 91 91, rv_u], [rv_i 1 1, (1, 0, 4, 4, [(.inl 1, 0)], []), rv_r 16], []), [15], 9, [], []),
  (15, ([rv_r 16, rv_i 4 4, rv_i 91 91, rv_u], [(1, 0, 5, 5, [(.inl 1, 1)], []), rv_r 16], []), [16], 8, [], [2])]
def n_X3_readFactor_4_1 : List rv_N := [
  (16, ([rv_r 16, rv_i 4 4, rv_i 91 91, rv_u], [rv_i 0 1], []), [17, 23], 7, [], []),
  (17, ([rv_r 16, rv_i 4 4, rv_i 91 91, rv_u], [], []), [18], 6, [], []),
  (18, ([rv_r 16, rv_i 4 4, rv_i 91 91, rv_u], [rv_r 16], []), [19], 5, [], []),
  (19, ([rv_r 16, rv_i 4 4, rv_i 91 91, rv_u], [rv_i 93 93, rv_r 16], []), [20], 4, [], [3]),
  (20, ([rv_r 16, rv_i 4 4, rv_i 91 91, rv_u], [rv_i 0 1], []), [21, 23], 3, [], []),
  (21, ([rv_r 16, rv_i 4 4, rv_i 91 91, rv_u], [], []), [22], 2, [], []),
  (22, ([rv_r 16, rv_i 4 4, rv_i 91 91, rv_u], [rv_i 1 1], []), [25], 1, [], []),
  (23, ([rv_r 16, rv_i 4 4, rv_i 91 91, rv_u], [], []), [24], 1, [], []),
  (24, ([rv_r 16, rv_i 4 4, rv_i 91 91, rv_u], [rv_i 0 0], []), [], 0, [], []),
  (24, ([rv_r 16, rv_i 4 4, rv_i 91 91, rv_u], [rv_i 1 1], []), [], 0, [], []),
  (25, ([rv_r 16, rv_i 4 4, rv_i (-1) 255, rv_u], [], []), [27], 23, [], []),
  (26, ([rv_r 16, rv_i 4 4, rv_i (-1) 255, rv_u], [(1, 0, (-1), 255, [(.inl 2, 0)], [])], []), [28], 22, [], [4]),
  (27, ([rv_r 16, rv_i 4 4, rv_i (-1) 255, rv_u], [(1, 0, 0, 1, [], [(.inl 2, 48, 57)])], []), [29, 32], 21, [], []),
  (28, ([rv_r 16, rv_i 4 4, rv_i 48 57, rv_u], [], []), [30], 2, [], []),
  (29, ([rv_r 16, rv_i 4 4, rv_i 48 57, rv_u], [rv_r 16], []), [31], 1, [], [5]),
  (30, ([rv_r 16, rv_i 4 4, rv_i 48 57, rv_u], [rv_i 0 1], []), [], 0, [], [])]
def n_X3_readFactor_4_2 : List rv_N := [
  (31, ([rv_r 16, rv_i 4 4, rv_i (-1) 255, rv_u], [], []), [33], 20, [], []),
  (32, ([rv_r 16, rv_i 4 4, rv_i (-1) 255, rv_u], [(1, 0, (-1), 255, [(.inl 2, 0)], [])], []), [34, 36], 19, [], []),
  (33, ([rv_r 16, rv_i 4 4, rv_i (-1) (-1), rv_u], [], []), [35], 18, [], []),
  (34, ([rv_r 16, rv_i 4 4, rv_i (-1) (-1), rv_u], [rv_i (-1) (-1)], []), [37], 17, [], []),
  (35, ([rv_r 16, rv_i 4 4, rv_i 0 255, rv_u], [], []), [38], 17, [], []),
  (39, ([rv_r 16, rv_i 4 4, rv_i (-1) (-1), rv_u], [rv_i (-1) (-1)], []), [39], 16, [], []),
  (39, ([rv_r 16, rv_i 4 4, rv_i 0 255, rv_u], [rv_i (-1) 12], []), [39], 16, [], []),
  (40, ([rv_r 16, rv_i 4 4, rv_i (-1) 255, rv_i (-1) 12], [], []), [40], 15, [], []),
  (41, ([rv_r 16, rv_i 4 4, rv_i (-1) 255, rv_i (-1) 12], [(1, 0, (-1), 12, [(.inl 3, 0)], [])], []), [41, 45], 14, [], []),
  (42, ([rv_r 16, rv_i 4 4, rv_i (-1) 255, rv_i (-1) (-1)], [], []), [42], 3, [], []),
  (43, ([rv_r 16, rv_i 4 4, rv_i (-1) 255, rv_i (-1) (-1)], [rv_r 16], []), [43], 2, [], []),
  (44, ([rv_r 16, rv_i 4 4, rv_i (-1) 255, rv_i (-1) (-1)], [rv_i 1 1, rv_r 16], []), [44], 1, [], [6]),
  (45, ([rv_r 16, rv_i 4 4, rv_i (-1) 255, rv_i (-1) (-1)], [rv_i 0 0], []), [], 0, [], []),
  (46, ([rv_r 16, rv_i 4 4, rv_i (-1) 255, rv_i 0 12], [], []), [46], 13, [], []),
  (47, ([rv_r 16, rv_i 4 4, rv_i (-1) 255, rv_i 0 12], [rv_r 16], []), [47], 12, [], []),
  (48, ([rv_r 16, rv_i 4 4, rv_i (-1) 255, rv_i 0 12], [rv_r 16, rv_r 16], []), [48], 11, [], [])]
def n_X3_readFactor_4_3 : List rv_N := [
  (49, ([rv_r 16, rv_i 4 4, rv_i (-1) 255, rv_i 0 12], [(1, 0, (-2147483648), 2147483647, [(.inr (16, 3), 0)], []), rv_r 16], []), [49], 10, [], []),
  (50, ([rv_r 16, rv_i 4 4, rv_i (-1) 255, rv_i 0 12], [rv_i 1 1, (1, 0, (-2147483648), 2147483647, [(.inr (16, 3), 0)], []), rv_r 16], []), [50], 9, [], []),
  (51, ([rv_r 16, rv_i 4 4, rv_i (-1) 255, rv_i 0 12], [(1, 0, (-2147483648), 2147483647, [(.inr (16, 3), 1)], []), rv_r 16], []), [51], 8, [], []),
  (52, ([rv_r 16, rv_i 4 4, rv_i (-1) 255, rv_i 0 12], [], []), [52], 7, [], []),
  (53, ([rv_r 16, rv_i 4 4, rv_i (-1) 255, rv_i 0 12], [rv_r 16], []), [53], 6, [], []),
  (54, ([rv_r 16, rv_i 4 4, rv_i (-1) 255, rv_i 0 12], [rv_r 17], []), [54], 5, [], []),
  (55, ([rv_r 16, rv_i 4 4, rv_i (-1) 255, rv_i 0 12], [rv_i 1 1, rv_r 17], []), [55], 4, [], []),
  (56, ([rv_r 16, rv_i 4 4, rv_i (-1) 255, rv_i 0 12], [(1, 0, 0, 12, [(.inl 3, 0)], []), rv_i 1 1, rv_r 17], []), [56], 3, [], [7]),
  (57, ([rv_r 16, rv_i 4 4, rv_i (-1) 255, rv_i 0 12], [rv_i (-1) 199], []), [57], 2, [], []),
  (58, ([rv_r 16, rv_i 4 4, rv_i (-1) 255, rv_i 0 12], [], []), [58], 1, [], []),
  (59, ([rv_r 16, rv_i 4 4, rv_i (-1) 255, rv_i 0 12], [rv_i 1 1], []), [], 0, [], [])]
def n_X3_readFactor_4 : List rv_N := n_X3_readFactor_4_0 ++ (n_X3_readFactor_4_1 ++ (n_X3_readFactor_4_2 ++ (n_X3_readFactor_4_3)))
noncomputable def gn_X3_readFactor_4 : Nat → Option rv_N := rv_ap 16 (rv_at n_X3_readFactor_4_0) (rv_ap 16 (rv_at n_X3_readFactor_4_1) (rv_ap 16 (rv_at n_X3_readFactor_4_2) (rv_at n_X3_readFactor_4_3)))
theorem hn_X3_readFactor_4 : ∀ i : Nat, n_X3_readFactor_4[i]? = gn_X3_readFactor_4 i := rv_ap_eq (l := n_X3_readFactor_4_0) (c := 16) (rv_ap_eq (l := n_X3_readFactor_4_1) (c := 16) (rv_ap_eq (l := n_X3_readFactor_4_2) (c := 16) (rv_at_eq n_X3_readFactor_4_3) rfl) rfl) rfl
set_option maxRecDepth 100000 in
theorem a_X3_readFactor_4 : rv_all (fm_tm, flX3, fm_wr, kcX3, klX3, K_X3_readFactor_4.2.2.1, [], 4) ct_X3_readFactor_4 cd_X3_readFactor n_X3_readFactor_4 K_X3_readFactor_4 [36] 0 n_X3_readFactor_4 = true := rv_fast hn_X3_readFactor_4 hc_X3_readFactor (by decide +kernel)
theorem m_X3_readFactor_4 {l : Launch} {D : va_G} {ad : Nat → Nat} {cy : Nat → ClassId} {Z : State → Heap → Prop} {Gp : fm_V → Prop} (hAd : fm_Ad fm_tm ad) (hZ : fm_Zk (fm_A fm_tm ad) Z) (hGd : fm_Gd Gp) : rv_Met l D fm_cl fm_tm ad cy fm_nt Z Gp yX3_readFactor (.code yX3_readFactor prog_5_method_14_code 4 (some .boolean) :: fm_Ts) { frames := 10, cells := 0, slots := 0, locals := 1000 } K_X3_readFactor_4 := rv_met hAd hZ (Or.inl (by decide +kernel)) evX3 dc_X3_readFactor a_X3_readFactor_4 ⟨rfl, rfl, rfl⟩ (by decide +kernel) (by decide +kernel) (by decide) (fm_gm hGd (by decide +kernel)) (Or.inr ⟨rfl, by decide, by decide⟩) (fun p e s m args below meth c Q X Y => List.forall_mem_cons.mpr ⟨rv_ctV X Y fm_Ts_good dc_X3_readFactor (pc := 1) (i := 1) (idx := 39) rfl (m_X3_next_0 hAd hZ hGd) wl_X3_39 wm_X3_next wy_X3_next (by decide) ⟨rfl, rfl, rfl⟩ ⟨rfl, rfl⟩, List.forall_mem_cons.mpr ⟨rv_ctV X Y fm_Ts_good dc_X3_readFactor (pc := 15) (i := 9) (idx := 79) rfl (m_X3_open_0 hAd hZ hGd) wl_X3_79 wm_X3_open wy_X3_open (by decide) ⟨rfl, rfl, rfl⟩ ⟨rfl, rfl⟩, List.forall_mem_cons.mpr ⟨rv_ctV X Y fm_Ts_good dc_X3_readFactor (pc := 25) (i := 15) (idx := 73) rfl (m_X3_readSum_5 hAd hZ hGd) wl_X3_73 wm_X3_readSum wy_X3_readSum (by decide) ⟨rfl, rfl, rfl⟩ ⟨rfl, rfl⟩, List.forall_mem_cons.mpr ⟨rv_ctV X Y fm_Ts_good dc_X3_readFactor (pc := 34) (i := 19) (idx := 86) rfl (m_X3_close_0 hAd hZ hGd) wl_X3_86 wm_X3_close wy_X3_close (by decide) ⟨rfl, rfl, rfl⟩ ⟨rfl, rfl⟩, List.forall_mem_cons.mpr ⟨rv_ctS X Y fm_Ts_good dc_X3_readFactor (pc := 47) (i := 26) (idx := 125) rfl (m_X3_isDigit_0 hAd hZ hGd) wl_X3_125 wm_X3_isDigit wy_X3_isDigit (by decide) rfl, List.forall_mem_cons.mpr ⟨rv_ctV X Y fm_Ts_good dc_X3_readFactor (pc := 54) (i := 29) (idx := 128) rfl (m_X3_readNumber_0 hAd hZ hGd) wl_X3_128 wm_X3_readNumber wy_X3_readNumber (by decide) ⟨rfl, rfl, rfl⟩ ⟨rfl, rfl⟩, List.forall_mem_cons.mpr ⟨rv_ctV X Y fm_Ts_good dc_X3_readFactor (pc := 80) (i := 44) (idx := 43) rfl (m_X3_fail_0 hAd hZ hGd) wl_X3_43 wm_X3_fail wy_X3_fail (by decide) ⟨rfl, rfl, rfl⟩ ⟨rfl, rfl⟩, List.forall_mem_cons.mpr ⟨rv_ctV X Y fm_Ts_good dc_X3_readFactor (pc := 100) (i := 56) (idx := 108) rfl (m_X1_putStep_0 hAd hZ hGd) wl_X3_108 wm_X1_putStep wy_X1_putStep (by decide) ⟨rfl, rfl, rfl⟩ ⟨rfl, rfl⟩, fun _ h => absurd h List.not_mem_nil⟩⟩⟩⟩⟩⟩⟩⟩) (fun p e s m args below meth c V0 avs hpre hr hlk X Y id hid n hn q hq V ls st hI hG ih => by
  obtain rfl := List.mem_singleton.mp hid
  obtain rfl : _ = n := Option.some.inj ((show n_X3_readFactor_4[36]? = some (35, ([rv_r 16, rv_i 4 4, rv_i 0 255, rv_u], [], []), [38], 17, [], []) from rfl).symm.trans hn)
  obtain rfl : _ = q := Option.some.inj ((show cd_X3_readFactor[35]? = some (66, .ldc 131, 2) from rfl).symm.trans hq)
  obtain rfl : st = [] := rv_sk_nil hG.2.1
  obtain ⟨x, hlx, -, -, -⟩ := rv_lokI rfl (hG.1 2 _ rfl)
  refine fs_index hAd X Y rfl (i := 1) (by decide) (fun adK adV h => h.2.2.2) rfl hlx hI.2.2.1 (by decide) (dc_X3_readFactor (66, .ldc 131, 2) (List.mem_of_getElem? (i := 35) rfl)) (dc_X3_readFactor (68, .iload_n 2, 1) (List.mem_of_getElem? (i := 36) rfl)) (dc_X3_readFactor (69, .i2c, 1) (List.mem_of_getElem? (i := 37) rfl)) (dc_X3_readFactor (70, .invokevirtual 58, 3) (List.mem_of_getElem? (i := 38) rfl)) (fun z z1 z2 => ?_)
  exact ih 38 (39, ([rv_r 16, rv_i 4 4, rv_i 0 255, rv_u], [rv_i (-1) 12], []), [39], 16, [], []) (73, .istore_n 3, 1) rfl rfl V ls [.int z] hI ⟨hG.1, ⟨rv_okB z1 z2, trivial⟩, hG.2.2⟩ (by show ((16 : Int) + 0 + 1).toNat < ((17 : Int) + 0 + 1).toNat; decide))
def K_X3_readTerm_4 : rv_K := ([rv_r 16, rv_i 4 4], [], [(16, 3), (16, 4), (17, 2), (18, 9999), (19, 9999)], [(0, 0, 1)], [], [])
def ct_X3_readTerm_4 : List (Nat × rv_K) := [(2, K_X3_readFactor_4), (12, K_X3_next_0), (16, K_X3_next_0), (20, K_X3_next_0), (24, K_X3_next_0), (34, K_X3_readFactor_4), (42, K_X1_putStep_0)]
def n_X3_readTerm_4_0 : List rv_N := [
  (0, ([rv_r 16, rv_i 4 4, rv_u, rv_u], [], []), [1], 2354810, [], []),
  (1, ([rv_r 16, rv_i 4 4, rv_u, rv_u], [rv_r 16], []), [2], 2354809, [], []),
  (2, ([rv_r 16, rv_i 4 4, rv_u, rv_u], [(1, 0, 4, 4, [(.inl 1, 0)], []), rv_r 16], []), [3], 2354808, [], [0]),
  (3, ([rv_r 16, rv_i 4 4, rv_u, rv_u], [rv_i 0 1], []), [4, 6], 2354807, [], []),
  (4, ([rv_r 16, rv_i 4 4, rv_u, rv_u], [], []), [5], 1, [], []),
  (5, ([rv_r 16, rv_i 4 4, rv_u, rv_u], [rv_i 0 0], []), [], 0, [], []),
  (6, ([rv_r 16, rv_i 4 4, rv_u, rv_u], [], []), [7], 2354806, [], []),
  (7, ([rv_r 16, rv_i 4 4, rv_u, rv_u], [rv_i 0 0], []), [8], 2354805, [], []),
  (8, ([rv_r 16, rv_i 4 4, rv_i 0 200, rv_u], [], []), [9], 2354804, [(2, (-11774))], []),
  (9, ([rv_r 16, rv_i 4 4, rv_i 0 200, rv_u], [(1, 0, 0, 200, [(.inl 2, 0)], [])], []), [10], 2354803, [(2, (-11774))], []),
  (10, ([rv_r 16, rv_i 4 4, rv_i 0 200, rv_u], [rv_i 200 200, (1, 0, 0, 200, [(.inl 2, 0)], [])], []), [11, 46], 2354802, [(2, (-11774))], []),
  (11, ([rv_r 16, rv_i 4 4, rv_i 0 199, rv_u], [], []), [12], 2343063, [(2, (-11774))], []),
  (12, ([rv_r 16, rv_i 4 4, rv_i 0 199, rv_u], [rv_r 16], []), [13], 2343062, [(2, (-11774))], [1]),
  (13, ([rv_r 16, rv_i 4 4, rv_i 0 199, rv_u], [rv_i (-1) 255], []), [14], 2343061, [(2, (-11774))], []),
  (14, ([rv_r 16, rv_i 4 4, rv_i 0 199, rv_u], [rv_i 42 42, rv_i (-1) 255], []), [15, 23], 2343060, [(2, (-11774))], []),
  (15, ([rv_r 16, rv_i 4 4, rv_i 0 199, rv_u], [], []), [16], 2343059, [(2, (-11774))], [])]
def n_X3_readTerm_4_1 : List rv_N := [
  (16, ([rv_r 16, rv_i 4 4, rv_i 0 199, rv_u], [rv_r 16], []), [17], 2343058, [(2, (-11774))], [2]),
  (17, ([rv_r 16, rv_i 4 4, rv_i 0 199, rv_u], [rv_i (-1) 255], []), [18], 2343057, [(2, (-11774))], []),
  (18, ([rv_r 16, rv_i 4 4, rv_i 0 199, rv_u], [rv_i 47 47, rv_i (-1) 255], []), [19, 23], 2343056, [(2, (-11774))], []),
  (19, ([rv_r 16, rv_i 4 4, rv_i 0 199, rv_u], [], []), [20], 2343055, [(2, (-11774))], []),
  (20, ([rv_r 16, rv_i 4 4, rv_i 0 199, rv_u], [rv_r 16], []), [21], 2343054, [(2, (-11774))], [3]),
  (21, ([rv_r 16, rv_i 4 4, rv_i 0 199, rv_u], [rv_i (-1) 255], []), [22], 2343053, [(2, (-11774))], []),
  (22, ([rv_r 16, rv_i 4 4, rv_i 0 199, rv_u], [rv_i 37 37, rv_i (-1) 255], []), [23, 46], 2343052, [(2, (-11774))], []),
  (23, ([rv_r 16, rv_i 4 4, rv_i 0 199, rv_u], [], []), [24], 2343051, [(2, (-11774))], []),
  (24, ([rv_r 16, rv_i 4 4, rv_i 0 199, rv_u], [rv_r 16], []), [25], 2343050, [(2, (-11774))], [4]),
  (25, ([rv_r 16, rv_i 4 4, rv_i 0 199, rv_u], [rv_i (-1) 255], []), [26], 2343049, [(2, (-11774))], []),
  (26, ([rv_r 16, rv_i 4 4, rv_i 0 199, rv_i (-1) 255], [], []), [27], 2343048, [(2, (-11774))], []),
  (27, ([rv_r 16, rv_i 4 4, rv_i 0 199, rv_i (-1) 255], [rv_r 16], []), [28], 2343047, [(2, (-11774))], []),
  (28, ([rv_r 16, rv_i 4 4, rv_i 0 199, rv_i (-1) 255], [rv_r 16, rv_r 16], []), [29], 2343046, [(2, (-11774))], []),
  (29, ([rv_r 16, rv_i 4 4, rv_i 0 199, rv_i (-1) 255], [(1, 0, (-2147483648), 2147483647, [(.inr (16, 3), 0)], []), rv_r 16], []), [30], 2343045, [(2, (-11774))], []),
  (30, ([rv_r 16, rv_i 4 4, rv_i 0 199, rv_i (-1) 255], [rv_i 1 1, (1, 0, (-2147483648), 2147483647, [(.inr (16, 3), 0)], []), rv_r 16], []), [31], 2343044, [(2, (-11774))], []),
  (31, ([rv_r 16, rv_i 4 4, rv_i 0 199, rv_i (-1) 255], [(1, 0, (-2147483648), 2147483647, [(.inr (16, 3), 1)], []), rv_r 16], []), [32], 2343043, [(2, (-11774))], [])]
def n_X3_readTerm_4_2 : List rv_N := [
  (32, ([rv_r 16, rv_i 4 4, rv_i 0 199, rv_i (-1) 255], [], []), [33], 2343042, [(2, (-11774))], []),
  (33, ([rv_r 16, rv_i 4 4, rv_i 0 199, rv_i (-1) 255], [rv_r 16], []), [34], 2343041, [(2, (-11774))], []),
  (34, ([rv_r 16, rv_i 4 4, rv_i 0 199, rv_i (-1) 255], [(1, 0, 4, 4, [(.inl 1, 0)], []), rv_r 16], []), [35], 2343040, [(2, (-11774))], [5]),
  (35, ([rv_r 16, rv_i 4 4, rv_i 0 199, rv_i (-1) 255], [rv_i 0 1], []), [36, 38], 2343039, [(2, (-11774))], []),
  (36, ([rv_r 16, rv_i 4 4, rv_i 0 199, rv_i (-1) 255], [], []), [37], 1, [], []),
  (37, ([rv_r 16, rv_i 4 4, rv_i 0 199, rv_i (-1) 255], [rv_i 0 0], []), [], 0, [], []),
  (38, ([rv_r 16, rv_i 4 4, rv_i 0 199, rv_i (-1) 255], [], []), [39], 2343038, [(2, (-11774))], []),
  (39, ([rv_r 16, rv_i 4 4, rv_i 0 199, rv_i (-1) 255], [rv_r 16], []), [40], 2343037, [(2, (-11774))], []),
  (40, ([rv_r 16, rv_i 4 4, rv_i 0 199, rv_i (-1) 255], [rv_r 17], []), [41], 2343036, [(2, (-11774))], []),
  (41, ([rv_r 16, rv_i 4 4, rv_i 0 199, rv_i (-1) 255], [(1, 0, (-1), 255, [(.inl 3, 0)], []), rv_r 17], []), [42], 2343035, [(2, (-11774))], []),
  (42, ([rv_r 16, rv_i 4 4, rv_i 0 199, rv_i (-1) 255], [rv_i 0 0, (1, 0, (-1), 255, [(.inl 3, 0)], []), rv_r 17], []), [43], 2343034, [(2, (-11774))], [6]),
  (43, ([rv_r 16, rv_i 4 4, rv_i 0 199, rv_i (-1) 255], [rv_i (-1) 199], []), [44], 2343033, [(2, (-11774))], []),
  (44, ([rv_r 16, rv_i 4 4, rv_i 0 199, rv_i (-1) 255], [], []), [45], 2343032, [(2, (-11774))], []),
  (45, ([rv_r 16, rv_i 4 4, rv_i 1 200, rv_i (-1) 255], [], []), [8], 2354805, [(2, (-11774))], []),
  (46, ([rv_r 16, rv_i 4 4, rv_i 0 200, rv_u], [], []), [47], 1, [], []),
  (47, ([rv_r 16, rv_i 4 4, rv_i 0 200, rv_u], [rv_i 1 1], []), [], 0, [], [])]
def n_X3_readTerm_4 : List rv_N := n_X3_readTerm_4_0 ++ (n_X3_readTerm_4_1 ++ (n_X3_readTerm_4_2))
noncomputable def gn_X3_readTerm_4 : Nat → Option rv_N := rv_ap 16 (rv_at n_X3_readTerm_4_0) (rv_ap 16 (rv_at n_X3_readTerm_4_1) (rv_at n_X3_readTerm_4_2))
theorem hn_X3_readTerm_4 : ∀ i : Nat, n_X3_readTerm_4[i]? = gn_X3_readTerm_4 i := rv_ap_eq (l := n_X3_readTerm_4_0) (c := 16) (rv_ap_eq (l := n_X3_readTerm_4_1) (c := 16) (rv_at_eq n_X3_readTerm_4_2) rfl) rfl
set_option maxRecDepth 100000 in
theorem a_X3_readTerm_4 : rv_all (fm_tm, flX3, fm_wr, kcX3, klX3, K_X3_readTerm_4.2.2.1, [], 4) ct_X3_readTerm_4 cd_X3_readTerm n_X3_readTerm_4 K_X3_readTerm_4 [] 0 n_X3_readTerm_4 = true := rv_fast hn_X3_readTerm_4 hc_X3_readTerm (by decide +kernel)
theorem m_X3_readTerm_4 {l : Launch} {D : va_G} {ad : Nat → Nat} {cy : Nat → ClassId} {Z : State → Heap → Prop} {Gp : fm_V → Prop} (hAd : fm_Ad fm_tm ad) (hZ : fm_Zk (fm_A fm_tm ad) Z) (hGd : fm_Gd Gp) : rv_Met l D fm_cl fm_tm ad cy fm_nt Z Gp yX3_readTerm (.code yX3_readTerm prog_5_method_13_code 4 (some .boolean) :: fm_Ts) { frames := 11, cells := 0, slots := 0, locals := 1100 } K_X3_readTerm_4 := rv_met hAd hZ (Or.inl (by decide +kernel)) evX3 dc_X3_readTerm a_X3_readTerm_4 ⟨rfl, rfl, rfl⟩ (by decide +kernel) (by decide +kernel) (by decide) (fm_gm hGd (by decide +kernel)) (Or.inr ⟨rfl, by decide, by decide⟩) (fun p e s m args below meth c Q X Y => List.forall_mem_cons.mpr ⟨rv_ctV X Y fm_Ts_good dc_X3_readTerm (pc := 2) (i := 2) (idx := 122) rfl (m_X3_readFactor_4 hAd hZ hGd) wl_X3_122 wm_X3_readFactor wy_X3_readFactor (by decide) ⟨rfl, rfl, rfl⟩ ⟨rfl, rfl⟩, List.forall_mem_cons.mpr ⟨rv_ctV X Y fm_Ts_good dc_X3_readTerm (pc := 20) (i := 12) (idx := 39) rfl (m_X3_next_0 hAd hZ hGd) wl_X3_39 wm_X3_next wy_X3_next (by decide) ⟨rfl, rfl, rfl⟩ ⟨rfl, rfl⟩, List.forall_mem_cons.mpr ⟨rv_ctV X Y fm_Ts_good dc_X3_readTerm (pc := 29) (i := 16) (idx := 39) rfl (m_X3_next_0 hAd hZ hGd) wl_X3_39 wm_X3_next wy_X3_next (by decide) ⟨rfl, rfl, rfl⟩ ⟨rfl, rfl⟩, List.forall_mem_cons.mpr ⟨rv_ctV X Y fm_Ts_good dc_X3_readTerm (pc := 38) (i := 20) (idx := 39) rfl (m_X3_next_0 hAd hZ hGd) wl_X3_39 wm_X3_next wy_X3_next (by decide) ⟨rfl, rfl, rfl⟩ ⟨rfl, rfl⟩, List.forall_mem_cons.mpr ⟨rv_ctV X Y fm_Ts_good dc_X3_readTerm (pc := 47) (i := 24) (idx := 39) rfl (m_X3_next_0 hAd hZ hGd) wl_X3_39 wm_X3_next wy_X3_next (by decide) ⟨rfl, rfl, rfl⟩ ⟨rfl, rfl⟩, List.forall_mem_cons.mpr ⟨rv_ctV X Y fm_Ts_good dc_X3_readTerm (pc := 63) (i := 34) (idx := 122) rfl (m_X3_readFactor_4 hAd hZ hGd) wl_X3_122 wm_X3_readFactor wy_X3_readFactor (by decide) ⟨rfl, rfl, rfl⟩ ⟨rfl, rfl⟩, List.forall_mem_cons.mpr ⟨rv_ctV X Y fm_Ts_good dc_X3_readTerm (pc := 77) (i := 42) (idx := 108) rfl (m_X1_putStep_0 hAd hZ hGd) wl_X3_108 wm_X1_putStep wy_X1_putStep (by decide) ⟨rfl, rfl, rfl⟩ ⟨rfl, rfl⟩, fun _ h => absurd h List.not_mem_nil⟩⟩⟩⟩⟩⟩⟩) (fun _ _ _ _ _ _ _ _ _ _ _ _ _ _ _ _ h => absurd h List.not_mem_nil)
def K_X3_readSum_4 : rv_K := ([rv_r 16, rv_i 4 4], [], [(16, 3), (16, 4), (17, 2), (18, 9999), (19, 9999)], [(0, 0, 1)], [], [])
def ct_X3_readSum_4 : List (Nat × rv_K) := [(2, K_X3_readTerm_4), (12, K_X3_next_0), (16, K_X3_next_0), (20, K_X3_next_0), (30, K_X3_readTerm_4), (38, K_X1_putStep_0)]
def n_X3_readSum_4_0 : List rv_N := [
  (0, ([rv_r 16, rv_i 4 4, rv_u, rv_u], [], []), [1], 2192410, [], []),
  (1, ([rv_r 16, rv_i 4 4, rv_u, rv_u], [rv_r 16], []), [2], 2192409, [], []),
  (2, ([rv_r 16, rv_i 4 4, rv_u, rv_u], [(1, 0, 4, 4, [(.inl 1, 0)], []), rv_r 16], []), [3], 2192408, [], [0]),
  (3, ([rv_r 16, rv_i 4 4, rv_u, rv_u], [rv_i 0 1], []), [4, 6], 2192407, [], []),
  (4, ([rv_r 16, rv_i 4 4, rv_u, rv_u], [], []), [5], 1, [], []),
  (5, ([rv_r 16, rv_i 4 4, rv_u, rv_u], [rv_i 0 0], []), [], 0, [], []),
  (6, ([rv_r 16, rv_i 4 4, rv_u, rv_u], [], []), [7], 2192406, [], []),
  (7, ([rv_r 16, rv_i 4 4, rv_u, rv_u], [rv_i 0 0], []), [8], 2192405, [], []),
  (8, ([rv_r 16, rv_i 4 4, rv_i 0 200, rv_u], [], []), [9], 2192404, [(2, (-10962))], []),
  (9, ([rv_r 16, rv_i 4 4, rv_i 0 200, rv_u], [(1, 0, 0, 200, [(.inl 2, 0)], [])], []), [10], 2192403, [(2, (-10962))], []),
  (10, ([rv_r 16, rv_i 4 4, rv_i 0 200, rv_u], [rv_i 200 200, (1, 0, 0, 200, [(.inl 2, 0)], [])], []), [11, 42], 2192402, [(2, (-10962))], []),
  (11, ([rv_r 16, rv_i 4 4, rv_i 0 199, rv_u], [], []), [12], 2181471, [(2, (-10962))], []),
  (12, ([rv_r 16, rv_i 4 4, rv_i 0 199, rv_u], [rv_r 16], []), [13], 2181470, [(2, (-10962))], [1]),
  (13, ([rv_r 16, rv_i 4 4, rv_i 0 199, rv_u], [rv_i (-1) 255], []), [14], 2181469, [(2, (-10962))], []),
  (14, ([rv_r 16, rv_i 4 4, rv_i 0 199, rv_u], [rv_i 43 43, rv_i (-1) 255], []), [15, 19], 2181468, [(2, (-10962))], []),
  (15, ([rv_r 16, rv_i 4 4, rv_i 0 199, rv_u], [], []), [16], 2181467, [(2, (-10962))], [])]
def n_X3_readSum_4_1 : List rv_N := [
  (16, ([rv_r 16, rv_i 4 4, rv_i 0 199, rv_u], [rv_r 16], []), [17], 2181466, [(2, (-10962))], [2]),
  (17, ([rv_r 16, rv_i 4 4, rv_i 0 199, rv_u], [rv_i (-1) 255], []), [18], 2181465, [(2, (-10962))], []),
  (18, ([rv_r 16, rv_i 4 4, rv_i 0 199, rv_u], [rv_i 45 45, rv_i (-1) 255], []), [19, 42], 2181464, [(2, (-10962))], []),
  (19, ([rv_r 16, rv_i 4 4, rv_i 0 199, rv_u], [], []), [20], 2181463, [(2, (-10962))], []),
  (20, ([rv_r 16, rv_i 4 4, rv_i 0 199, rv_u], [rv_r 16], []), [21], 2181462, [(2, (-10962))], [3]),
  (21, ([rv_r 16, rv_i 4 4, rv_i 0 199, rv_u], [rv_i (-1) 255], []), [22], 2181461, [(2, (-10962))], []),
  (22, ([rv_r 16, rv_i 4 4, rv_i 0 199, rv_i (-1) 255], [], []), [23], 2181460, [(2, (-10962))], []),
  (23, ([rv_r 16, rv_i 4 4, rv_i 0 199, rv_i (-1) 255], [rv_r 16], []), [24], 2181459, [(2, (-10962))], []),
  (24, ([rv_r 16, rv_i 4 4, rv_i 0 199, rv_i (-1) 255], [rv_r 16, rv_r 16], []), [25], 2181458, [(2, (-10962))], []),
  (25, ([rv_r 16, rv_i 4 4, rv_i 0 199, rv_i (-1) 255], [(1, 0, (-2147483648), 2147483647, [(.inr (16, 3), 0)], []), rv_r 16], []), [26], 2181457, [(2, (-10962))], []),
  (26, ([rv_r 16, rv_i 4 4, rv_i 0 199, rv_i (-1) 255], [rv_i 1 1, (1, 0, (-2147483648), 2147483647, [(.inr (16, 3), 0)], []), rv_r 16], []), [27], 2181456, [(2, (-10962))], []),
  (27, ([rv_r 16, rv_i 4 4, rv_i 0 199, rv_i (-1) 255], [(1, 0, (-2147483648), 2147483647, [(.inr (16, 3), 1)], []), rv_r 16], []), [28], 2181455, [(2, (-10962))], []),
  (28, ([rv_r 16, rv_i 4 4, rv_i 0 199, rv_i (-1) 255], [], []), [29], 2181454, [(2, (-10962))], []),
  (29, ([rv_r 16, rv_i 4 4, rv_i 0 199, rv_i (-1) 255], [rv_r 16], []), [30], 2181453, [(2, (-10962))], []),
  (30, ([rv_r 16, rv_i 4 4, rv_i 0 199, rv_i (-1) 255], [(1, 0, 4, 4, [(.inl 1, 0)], []), rv_r 16], []), [31], 2181452, [(2, (-10962))], [4]),
  (31, ([rv_r 16, rv_i 4 4, rv_i 0 199, rv_i (-1) 255], [rv_i 0 1], []), [32, 34], 2181451, [(2, (-10962))], [])]
def n_X3_readSum_4_2 : List rv_N := [
  (32, ([rv_r 16, rv_i 4 4, rv_i 0 199, rv_i (-1) 255], [], []), [33], 1, [], []),
  (33, ([rv_r 16, rv_i 4 4, rv_i 0 199, rv_i (-1) 255], [rv_i 0 0], []), [], 0, [], []),
  (34, ([rv_r 16, rv_i 4 4, rv_i 0 199, rv_i (-1) 255], [], []), [35], 2181450, [(2, (-10962))], []),
  (35, ([rv_r 16, rv_i 4 4, rv_i 0 199, rv_i (-1) 255], [rv_r 16], []), [36], 2181449, [(2, (-10962))], []),
  (36, ([rv_r 16, rv_i 4 4, rv_i 0 199, rv_i (-1) 255], [rv_r 17], []), [37], 2181448, [(2, (-10962))], []),
  (37, ([rv_r 16, rv_i 4 4, rv_i 0 199, rv_i (-1) 255], [(1, 0, (-1), 255, [(.inl 3, 0)], []), rv_r 17], []), [38], 2181447, [(2, (-10962))], []),
  (38, ([rv_r 16, rv_i 4 4, rv_i 0 199, rv_i (-1) 255], [rv_i 0 0, (1, 0, (-1), 255, [(.inl 3, 0)], []), rv_r 17], []), [39], 2181446, [(2, (-10962))], [5]),
  (39, ([rv_r 16, rv_i 4 4, rv_i 0 199, rv_i (-1) 255], [rv_i (-1) 199], []), [40], 2181445, [(2, (-10962))], []),
  (40, ([rv_r 16, rv_i 4 4, rv_i 0 199, rv_i (-1) 255], [], []), [41], 2181444, [(2, (-10962))], []),
  (41, ([rv_r 16, rv_i 4 4, rv_i 1 200, rv_i (-1) 255], [], []), [8], 2192405, [(2, (-10962))], []),
  (42, ([rv_r 16, rv_i 4 4, rv_i 0 200, rv_u], [], []), [43], 1, [], []),
  (43, ([rv_r 16, rv_i 4 4, rv_i 0 200, rv_u], [rv_i 1 1], []), [], 0, [], [])]
def n_X3_readSum_4 : List rv_N := n_X3_readSum_4_0 ++ (n_X3_readSum_4_1 ++ (n_X3_readSum_4_2))
noncomputable def gn_X3_readSum_4 : Nat → Option rv_N := rv_ap 16 (rv_at n_X3_readSum_4_0) (rv_ap 16 (rv_at n_X3_readSum_4_1) (rv_at n_X3_readSum_4_2))
theorem hn_X3_readSum_4 : ∀ i : Nat, n_X3_readSum_4[i]? = gn_X3_readSum_4 i := rv_ap_eq (l := n_X3_readSum_4_0) (c := 16) (rv_ap_eq (l := n_X3_readSum_4_1) (c := 16) (rv_at_eq n_X3_readSum_4_2) rfl) rfl
set_option maxRecDepth 100000 in
theorem a_X3_readSum_4 : rv_all (fm_tm, flX3, fm_wr, kcX3, klX3, K_X3_readSum_4.2.2.1, [], 4) ct_X3_readSum_4 cd_X3_readSum n_X3_readSum_4 K_X3_readSum_4 [] 0 n_X3_readSum_4 = true := rv_fast hn_X3_readSum_4 hc_X3_readSum (by decide +kernel)
theorem m_X3_readSum_4 {l : Launch} {D : va_G} {ad : Nat → Nat} {cy : Nat → ClassId} {Z : State → Heap → Prop} {Gp : fm_V → Prop} (hAd : fm_Ad fm_tm ad) (hZ : fm_Zk (fm_A fm_tm ad) Z) (hGd : fm_Gd Gp) : rv_Met l D fm_cl fm_tm ad cy fm_nt Z Gp yX3_readSum (.code yX3_readSum prog_5_method_12_code 4 (some .boolean) :: fm_Ts) { frames := 12, cells := 0, slots := 0, locals := 1200 } K_X3_readSum_4 := rv_met hAd hZ (Or.inl (by decide +kernel)) evX3 dc_X3_readSum a_X3_readSum_4 ⟨rfl, rfl, rfl⟩ (by decide +kernel) (by decide +kernel) (by decide) (fm_gm hGd (by decide +kernel)) (Or.inr ⟨rfl, by decide, by decide⟩) (fun p e s m args below meth c Q X Y => List.forall_mem_cons.mpr ⟨rv_ctV X Y fm_Ts_good dc_X3_readSum (pc := 2) (i := 2) (idx := 119) rfl (m_X3_readTerm_4 hAd hZ hGd) wl_X3_119 wm_X3_readTerm wy_X3_readTerm (by decide) ⟨rfl, rfl, rfl⟩ ⟨rfl, rfl⟩, List.forall_mem_cons.mpr ⟨rv_ctV X Y fm_Ts_good dc_X3_readSum (pc := 20) (i := 12) (idx := 39) rfl (m_X3_next_0 hAd hZ hGd) wl_X3_39 wm_X3_next wy_X3_next (by decide) ⟨rfl, rfl, rfl⟩ ⟨rfl, rfl⟩, List.forall_mem_cons.mpr ⟨rv_ctV X Y fm_Ts_good dc_X3_readSum (pc := 29) (i := 16) (idx := 39) rfl (m_X3_next_0 hAd hZ hGd) wl_X3_39 wm_X3_next wy_X3_next (by decide) ⟨rfl, rfl, rfl⟩ ⟨rfl, rfl⟩, List.forall_mem_cons.mpr ⟨rv_ctV X Y fm_Ts_good dc_X3_readSum (pc := 38) (i := 20) (idx := 39) rfl (m_X3_next_0 hAd hZ hGd) wl_X3_39 wm_X3_next wy_X3_next (by decide) ⟨rfl, rfl, rfl⟩ ⟨rfl, rfl⟩, List.forall_mem_cons.mpr ⟨rv_ctV X Y fm_Ts_good dc_X3_readSum (pc := 54) (i := 30) (idx := 119) rfl (m_X3_readTerm_4 hAd hZ hGd) wl_X3_119 wm_X3_readTerm wy_X3_readTerm (by decide) ⟨rfl, rfl, rfl⟩ ⟨rfl, rfl⟩, List.forall_mem_cons.mpr ⟨rv_ctV X Y fm_Ts_good dc_X3_readSum (pc := 68) (i := 38) (idx := 108) rfl (m_X1_putStep_0 hAd hZ hGd) wl_X3_108 wm_X1_putStep wy_X1_putStep (by decide) ⟨rfl, rfl, rfl⟩ ⟨rfl, rfl⟩, fun _ h => absurd h List.not_mem_nil⟩⟩⟩⟩⟩⟩) (fun _ _ _ _ _ _ _ _ _ _ _ _ _ _ _ _ h => absurd h List.not_mem_nil)
def K_X3_readFactor_3 : rv_K := ([rv_r 16, rv_i 3 3], [], [(16, 3), (16, 4), (17, 2), (18, 9999), (19, 9999)], [(0, 0, 1)], [], [])
def ct_X3_readFactor_3 : List (Nat × rv_K) := [(1, K_X3_next_0), (9, K_X3_open_0), (15, K_X3_readSum_4), (19, K_X3_close_0), (26, K_X3_isDigit_0), (29, K_X3_readNumber_0), (44, K_X3_fail_0), (56, K_X1_putStep_0)]
def n_X3_readFactor_3_0 : List rv_N := [
  (0, ([rv_r 16, rv_i 3 3, rv_u, rv_u], [], []), [1], 29, [], []),
  (1, ([rv_r 16, rv_i 3 3, rv_u, rv_u], [rv_r 16], []), [2], 28, [], [0]),
  (2, ([rv_r 16, rv_i 3 3, rv_u, rv_u], [rv_i (-1) 255], []), [3], 27, [], []),
  (3, ([rv_r 16, rv_i 3 3, rv_i (-1) 255, rv_u], [], []), [4], 26, [], []),
  (4, ([rv_r 16, rv_i 3 3, rv_i (-1) 255, rv_u], [(1, 0, (-1), 255, [(.inl 2, 0)], [])], []), [5], 25, [], []),
  (5, ([rv_r 16, rv_i 3 3, rv_i (-1) 255, rv_u], [rv_i 91 91, (1, 0, (-1), 255, [(.inl 2, 0)], [])], []), [6, 26], 24, [], []),
  (6, ([rv_r 16, rv_i 3 3, rv_i 91 91, rv_u], [], []), [7], 17, [], []),
  (7, ([rv_r 16, rv_i 3 3, rv_i 91 91, rv_u], [rv_r 16], []), [8], 16, [], []),
  (8, ([rv_r 16, rv_i 3 3, rv_i 91 91, rv_u], [rv_i 91 91, rv_r 16], []), [9], 15, [], []),
  (9, ([rv_r 16, rv_i 3 3, rv_i 91 91, rv_u], [(1, 0, 3, 3, [(.inl 1, 0)], []), rv_i 91 91, rv_r 16], []), [10], 14, [], [1]),
  (10, ([rv_r 16, rv_i 3 3, rv_i 91 91, rv_u], [(1, 0, 0, 1, [], [(.inl 1, (-2147483648), 5)])], []), [11, 23], 13, [], []),
  (11, ([rv_r 16, rv_i 3 3, rv_i 91 91, rv_u], [], []), [12], 12, [], []),
  (12, ([rv_r 16, rv_i 3 3, rv_i 91 91, rv_u], [rv_r 16], []), [13], 11, [], []),
  (13, ([rv_r 16, rv_i 3 3, rv_i 91 91, rv_u], [(1, 0, 3, 3, [(.inl 1, 0)], []), rv_r 16], []), [14], 10, [], []),
  (14, ([rv_r 16, rv_i 3 3, rv_i 91 91, rv_u], [rv_i 1 1, (1, 0, 3, 3, [(.inl 1, 0)], []), rv_r 16], []), [15], 9, [], []),
  (15, ([rv_r 16, rv_i 3 3, rv_i 91 91, rv_u], [(1, 0, 4, 4, [(.inl 1, 1)], []), rv_r 16], []), [16], 8, [], [2])]
def n_X3_readFactor_3_1 : List rv_N := [
  (16, ([rv_r 16, rv_i 3 3, rv_i 91 91, rv_u], [rv_i 0 1], []), [17, 23], 7, [], []),
  (17, ([rv_r 16, rv_i 3 3, rv_i 91 91, rv_u], [], []), [18], 6, [], []),
  (18, ([rv_r 16, rv_i 3 3, rv_i 91 91, rv_u], [rv_r 16], []), [19], 5, [], []),
  (19, ([rv_r 16, rv_i 3 3, rv_i 91 91, rv_u], [rv_i 93 93, rv_r 16], []), [20], 4, [], [3]),
  (20, ([rv_r 16, rv_i 3 3, rv_i 91 91, rv_u], [rv_i 0 1], []), [21, 23], 3, [], []),
  (21, ([rv_r 16, rv_i 3 3, rv_i 91 91, rv_u], [], []), [22], 2, [], []),
  (22, ([rv_r 16, rv_i 3 3, rv_i 91 91, rv_u], [rv_i 1 1], []), [25], 1, [], []),
  (23, ([rv_r 16, rv_i 3 3, rv_i 91 91, rv_u], [], []), [24], 1, [], []),
  (24, ([rv_r 16, rv_i 3 3, rv_i 91 91, rv_u], [rv_i 0 0], []), [], 0, [], []),
  (24, ([rv_r 16, rv_i 3 3, rv_i 91 91, rv_u], [rv_i 1 1], []), [], 0, [], []),
  (25, ([rv_r 16, rv_i 3 3, rv_i (-1) 255, rv_u], [], []), [27], 23, [], []),
  (26, ([rv_r 16, rv_i 3 3, rv_i (-1) 255, rv_u], [(1, 0, (-1), 255, [(.inl 2, 0)], [])], []), [28], 22, [], [4]),
  (27, ([rv_r 16, rv_i 3 3, rv_i (-1) 255, rv_u], [(1, 0, 0, 1, [], [(.inl 2, 48, 57)])], []), [29, 32], 21, [], []),
  (28, ([rv_r 16, rv_i 3 3, rv_i 48 57, rv_u], [], []), [30], 2, [], []),
  (29, ([rv_r 16, rv_i 3 3, rv_i 48 57, rv_u], [rv_r 16], []), [31], 1, [], [5]),
  (30, ([rv_r 16, rv_i 3 3, rv_i 48 57, rv_u], [rv_i 0 1], []), [], 0, [], [])]
def n_X3_readFactor_3_2 : List rv_N := [
  (31, ([rv_r 16, rv_i 3 3, rv_i (-1) 255, rv_u], [], []), [33], 20, [], []),
  (32, ([rv_r 16, rv_i 3 3, rv_i (-1) 255, rv_u], [(1, 0, (-1), 255, [(.inl 2, 0)], [])], []), [34, 36], 19, [], []),
  (33, ([rv_r 16, rv_i 3 3, rv_i (-1) (-1), rv_u], [], []), [35], 18, [], []),
  (34, ([rv_r 16, rv_i 3 3, rv_i (-1) (-1), rv_u], [rv_i (-1) (-1)], []), [37], 17, [], []),
  (35, ([rv_r 16, rv_i 3 3, rv_i 0 255, rv_u], [], []), [38], 17, [], []),
  (39, ([rv_r 16, rv_i 3 3, rv_i (-1) (-1), rv_u], [rv_i (-1) (-1)], []), [39], 16, [], []),
  (39, ([rv_r 16, rv_i 3 3, rv_i 0 255, rv_u], [rv_i (-1) 12], []), [39], 16, [], []),
  (40, ([rv_r 16, rv_i 3 3, rv_i (-1) 255, rv_i (-1) 12], [], []), [40], 15, [], []),
  (41, ([rv_r 16, rv_i 3 3, rv_i (-1) 255, rv_i (-1) 12], [(1, 0, (-1), 12, [(.inl 3, 0)], [])], []), [41, 45], 14, [], []),
  (42, ([rv_r 16, rv_i 3 3, rv_i (-1) 255, rv_i (-1) (-1)], [], []), [42], 3, [], []),
  (43, ([rv_r 16, rv_i 3 3, rv_i (-1) 255, rv_i (-1) (-1)], [rv_r 16], []), [43], 2, [], []),
  (44, ([rv_r 16, rv_i 3 3, rv_i (-1) 255, rv_i (-1) (-1)], [rv_i 1 1, rv_r 16], []), [44], 1, [], [6]),
  (45, ([rv_r 16, rv_i 3 3, rv_i (-1) 255, rv_i (-1) (-1)], [rv_i 0 0], []), [], 0, [], []),
  (46, ([rv_r 16, rv_i 3 3, rv_i (-1) 255, rv_i 0 12], [], []), [46], 13, [], []),
  (47, ([rv_r 16, rv_i 3 3, rv_i (-1) 255, rv_i 0 12], [rv_r 16], []), [47], 12, [], []),
  (48, ([rv_r 16, rv_i 3 3, rv_i (-1) 255, rv_i 0 12], [rv_r 16, rv_r 16], []), [48], 11, [], [])]
def n_X3_readFactor_3_3 : List rv_N := [
  (49, ([rv_r 16, rv_i 3 3, rv_i (-1) 255, rv_i 0 12], [(1, 0, (-2147483648), 2147483647, [(.inr (16, 3), 0)], []), rv_r 16], []), [49], 10, [], []),
  (50, ([rv_r 16, rv_i 3 3, rv_i (-1) 255, rv_i 0 12], [rv_i 1 1, (1, 0, (-2147483648), 2147483647, [(.inr (16, 3), 0)], []), rv_r 16], []), [50], 9, [], []),
  (51, ([rv_r 16, rv_i 3 3, rv_i (-1) 255, rv_i 0 12], [(1, 0, (-2147483648), 2147483647, [(.inr (16, 3), 1)], []), rv_r 16], []), [51], 8, [], []),
  (52, ([rv_r 16, rv_i 3 3, rv_i (-1) 255, rv_i 0 12], [], []), [52], 7, [], []),
  (53, ([rv_r 16, rv_i 3 3, rv_i (-1) 255, rv_i 0 12], [rv_r 16], []), [53], 6, [], []),
  (54, ([rv_r 16, rv_i 3 3, rv_i (-1) 255, rv_i 0 12], [rv_r 17], []), [54], 5, [], []),
  (55, ([rv_r 16, rv_i 3 3, rv_i (-1) 255, rv_i 0 12], [rv_i 1 1, rv_r 17], []), [55], 4, [], []),
  (56, ([rv_r 16, rv_i 3 3, rv_i (-1) 255, rv_i 0 12], [(1, 0, 0, 12, [(.inl 3, 0)], []), rv_i 1 1, rv_r 17], []), [56], 3, [], [7]),
  (57, ([rv_r 16, rv_i 3 3, rv_i (-1) 255, rv_i 0 12], [rv_i (-1) 199], []), [57], 2, [], []),
  (58, ([rv_r 16, rv_i 3 3, rv_i (-1) 255, rv_i 0 12], [], []), [58], 1, [], []),
  (59, ([rv_r 16, rv_i 3 3, rv_i (-1) 255, rv_i 0 12], [rv_i 1 1], []), [], 0, [], [])]
def n_X3_readFactor_3 : List rv_N := n_X3_readFactor_3_0 ++ (n_X3_readFactor_3_1 ++ (n_X3_readFactor_3_2 ++ (n_X3_readFactor_3_3)))
noncomputable def gn_X3_readFactor_3 : Nat → Option rv_N := rv_ap 16 (rv_at n_X3_readFactor_3_0) (rv_ap 16 (rv_at n_X3_readFactor_3_1) (rv_ap 16 (rv_at n_X3_readFactor_3_2) (rv_at n_X3_readFactor_3_3)))
theorem hn_X3_readFactor_3 : ∀ i : Nat, n_X3_readFactor_3[i]? = gn_X3_readFactor_3 i := rv_ap_eq (l := n_X3_readFactor_3_0) (c := 16) (rv_ap_eq (l := n_X3_readFactor_3_1) (c := 16) (rv_ap_eq (l := n_X3_readFactor_3_2) (c := 16) (rv_at_eq n_X3_readFactor_3_3) rfl) rfl) rfl
set_option maxRecDepth 100000 in
theorem a_X3_readFactor_3 : rv_all (fm_tm, flX3, fm_wr, kcX3, klX3, K_X3_readFactor_3.2.2.1, [], 4) ct_X3_readFactor_3 cd_X3_readFactor n_X3_readFactor_3 K_X3_readFactor_3 [36] 0 n_X3_readFactor_3 = true := rv_fast hn_X3_readFactor_3 hc_X3_readFactor (by decide +kernel)
theorem m_X3_readFactor_3 {l : Launch} {D : va_G} {ad : Nat → Nat} {cy : Nat → ClassId} {Z : State → Heap → Prop} {Gp : fm_V → Prop} (hAd : fm_Ad fm_tm ad) (hZ : fm_Zk (fm_A fm_tm ad) Z) (hGd : fm_Gd Gp) : rv_Met l D fm_cl fm_tm ad cy fm_nt Z Gp yX3_readFactor (.code yX3_readFactor prog_5_method_14_code 4 (some .boolean) :: fm_Ts) { frames := 13, cells := 0, slots := 0, locals := 1300 } K_X3_readFactor_3 := rv_met hAd hZ (Or.inl (by decide +kernel)) evX3 dc_X3_readFactor a_X3_readFactor_3 ⟨rfl, rfl, rfl⟩ (by decide +kernel) (by decide +kernel) (by decide) (fm_gm hGd (by decide +kernel)) (Or.inr ⟨rfl, by decide, by decide⟩) (fun p e s m args below meth c Q X Y => List.forall_mem_cons.mpr ⟨rv_ctV X Y fm_Ts_good dc_X3_readFactor (pc := 1) (i := 1) (idx := 39) rfl (m_X3_next_0 hAd hZ hGd) wl_X3_39 wm_X3_next wy_X3_next (by decide) ⟨rfl, rfl, rfl⟩ ⟨rfl, rfl⟩, List.forall_mem_cons.mpr ⟨rv_ctV X Y fm_Ts_good dc_X3_readFactor (pc := 15) (i := 9) (idx := 79) rfl (m_X3_open_0 hAd hZ hGd) wl_X3_79 wm_X3_open wy_X3_open (by decide) ⟨rfl, rfl, rfl⟩ ⟨rfl, rfl⟩, List.forall_mem_cons.mpr ⟨rv_ctV X Y fm_Ts_good dc_X3_readFactor (pc := 25) (i := 15) (idx := 73) rfl (m_X3_readSum_4 hAd hZ hGd) wl_X3_73 wm_X3_readSum wy_X3_readSum (by decide) ⟨rfl, rfl, rfl⟩ ⟨rfl, rfl⟩, List.forall_mem_cons.mpr ⟨rv_ctV X Y fm_Ts_good dc_X3_readFactor (pc := 34) (i := 19) (idx := 86) rfl (m_X3_close_0 hAd hZ hGd) wl_X3_86 wm_X3_close wy_X3_close (by decide) ⟨rfl, rfl, rfl⟩ ⟨rfl, rfl⟩, List.forall_mem_cons.mpr ⟨rv_ctS X Y fm_Ts_good dc_X3_readFactor (pc := 47) (i := 26) (idx := 125) rfl (m_X3_isDigit_0 hAd hZ hGd) wl_X3_125 wm_X3_isDigit wy_X3_isDigit (by decide) rfl, List.forall_mem_cons.mpr ⟨rv_ctV X Y fm_Ts_good dc_X3_readFactor (pc := 54) (i := 29) (idx := 128) rfl (m_X3_readNumber_0 hAd hZ hGd) wl_X3_128 wm_X3_readNumber wy_X3_readNumber (by decide) ⟨rfl, rfl, rfl⟩ ⟨rfl, rfl⟩, List.forall_mem_cons.mpr ⟨rv_ctV X Y fm_Ts_good dc_X3_readFactor (pc := 80) (i := 44) (idx := 43) rfl (m_X3_fail_0 hAd hZ hGd) wl_X3_43 wm_X3_fail wy_X3_fail (by decide) ⟨rfl, rfl, rfl⟩ ⟨rfl, rfl⟩, List.forall_mem_cons.mpr ⟨rv_ctV X Y fm_Ts_good dc_X3_readFactor (pc := 100) (i := 56) (idx := 108) rfl (m_X1_putStep_0 hAd hZ hGd) wl_X3_108 wm_X1_putStep wy_X1_putStep (by decide) ⟨rfl, rfl, rfl⟩ ⟨rfl, rfl⟩, fun _ h => absurd h List.not_mem_nil⟩⟩⟩⟩⟩⟩⟩⟩) (fun p e s m args below meth c V0 avs hpre hr hlk X Y id hid n hn q hq V ls st hI hG ih => by
  obtain rfl := List.mem_singleton.mp hid
  obtain rfl : _ = n := Option.some.inj ((show n_X3_readFactor_3[36]? = some (35, ([rv_r 16, rv_i 3 3, rv_i 0 255, rv_u], [], []), [38], 17, [], []) from rfl).symm.trans hn)
  obtain rfl : _ = q := Option.some.inj ((show cd_X3_readFactor[35]? = some (66, .ldc 131, 2) from rfl).symm.trans hq)
  obtain rfl : st = [] := rv_sk_nil hG.2.1
  obtain ⟨x, hlx, -, -, -⟩ := rv_lokI rfl (hG.1 2 _ rfl)
  refine fs_index hAd X Y rfl (i := 1) (by decide) (fun adK adV h => h.2.2.2) rfl hlx hI.2.2.1 (by decide) (dc_X3_readFactor (66, .ldc 131, 2) (List.mem_of_getElem? (i := 35) rfl)) (dc_X3_readFactor (68, .iload_n 2, 1) (List.mem_of_getElem? (i := 36) rfl)) (dc_X3_readFactor (69, .i2c, 1) (List.mem_of_getElem? (i := 37) rfl)) (dc_X3_readFactor (70, .invokevirtual 58, 3) (List.mem_of_getElem? (i := 38) rfl)) (fun z z1 z2 => ?_)
  exact ih 38 (39, ([rv_r 16, rv_i 3 3, rv_i 0 255, rv_u], [rv_i (-1) 12], []), [39], 16, [], []) (73, .istore_n 3, 1) rfl rfl V ls [.int z] hI ⟨hG.1, ⟨rv_okB z1 z2, trivial⟩, hG.2.2⟩ (by show ((16 : Int) + 0 + 1).toNat < ((17 : Int) + 0 + 1).toNat; decide))
def K_X3_readTerm_3 : rv_K := ([rv_r 16, rv_i 3 3], [], [(16, 3), (16, 4), (17, 2), (18, 9999), (19, 9999)], [(0, 0, 1)], [], [])
def ct_X3_readTerm_3 : List (Nat × rv_K) := [(2, K_X3_readFactor_3), (12, K_X3_next_0), (16, K_X3_next_0), (20, K_X3_next_0), (24, K_X3_next_0), (34, K_X3_readFactor_3), (42, K_X1_putStep_0)]
def n_X3_readTerm_3_0 : List rv_N := [
  (0, ([rv_r 16, rv_i 3 3, rv_u, rv_u], [], []), [1], 2354810, [], []),
  (1, ([rv_r 16, rv_i 3 3, rv_u, rv_u], [rv_r 16], []), [2], 2354809, [], []),
  (2, ([rv_r 16, rv_i 3 3, rv_u, rv_u], [(1, 0, 3, 3, [(.inl 1, 0)], []), rv_r 16], []), [3], 2354808, [], [0]),
  (3, ([rv_r 16, rv_i 3 3, rv_u, rv_u], [rv_i 0 1], []), [4, 6], 2354807, [], []),
  (4, ([rv_r 16, rv_i 3 3, rv_u, rv_u], [], []), [5], 1, [], []),
  (5, ([rv_r 16, rv_i 3 3, rv_u, rv_u], [rv_i 0 0], []), [], 0, [], []),
  (6, ([rv_r 16, rv_i 3 3, rv_u, rv_u], [], []), [7], 2354806, [], []),
  (7, ([rv_r 16, rv_i 3 3, rv_u, rv_u], [rv_i 0 0], []), [8], 2354805, [], []),
  (8, ([rv_r 16, rv_i 3 3, rv_i 0 200, rv_u], [], []), [9], 2354804, [(2, (-11774))], []),
  (9, ([rv_r 16, rv_i 3 3, rv_i 0 200, rv_u], [(1, 0, 0, 200, [(.inl 2, 0)], [])], []), [10], 2354803, [(2, (-11774))], []),
  (10, ([rv_r 16, rv_i 3 3, rv_i 0 200, rv_u], [rv_i 200 200, (1, 0, 0, 200, [(.inl 2, 0)], [])], []), [11, 46], 2354802, [(2, (-11774))], []),
  (11, ([rv_r 16, rv_i 3 3, rv_i 0 199, rv_u], [], []), [12], 2343063, [(2, (-11774))], []),
  (12, ([rv_r 16, rv_i 3 3, rv_i 0 199, rv_u], [rv_r 16], []), [13], 2343062, [(2, (-11774))], [1]),
  (13, ([rv_r 16, rv_i 3 3, rv_i 0 199, rv_u], [rv_i (-1) 255], []), [14], 2343061, [(2, (-11774))], []),
  (14, ([rv_r 16, rv_i 3 3, rv_i 0 199, rv_u], [rv_i 42 42, rv_i (-1) 255], []), [15, 23], 2343060, [(2, (-11774))], []),
  (15, ([rv_r 16, rv_i 3 3, rv_i 0 199, rv_u], [], []), [16], 2343059, [(2, (-11774))], [])]
def n_X3_readTerm_3_1 : List rv_N := [
  (16, ([rv_r 16, rv_i 3 3, rv_i 0 199, rv_u], [rv_r 16], []), [17], 2343058, [(2, (-11774))], [2]),
  (17, ([rv_r 16, rv_i 3 3, rv_i 0 199, rv_u], [rv_i (-1) 255], []), [18], 2343057, [(2, (-11774))], []),
  (18, ([rv_r 16, rv_i 3 3, rv_i 0 199, rv_u], [rv_i 47 47, rv_i (-1) 255], []), [19, 23], 2343056, [(2, (-11774))], []),
  (19, ([rv_r 16, rv_i 3 3, rv_i 0 199, rv_u], [], []), [20], 2343055, [(2, (-11774))], []),
  (20, ([rv_r 16, rv_i 3 3, rv_i 0 199, rv_u], [rv_r 16], []), [21], 2343054, [(2, (-11774))], [3]),
  (21, ([rv_r 16, rv_i 3 3, rv_i 0 199, rv_u], [rv_i (-1) 255], []), [22], 2343053, [(2, (-11774))], []),
  (22, ([rv_r 16, rv_i 3 3, rv_i 0 199, rv_u], [rv_i 37 37, rv_i (-1) 255], []), [23, 46], 2343052, [(2, (-11774))], []),
  (23, ([rv_r 16, rv_i 3 3, rv_i 0 199, rv_u], [], []), [24], 2343051, [(2, (-11774))], []),
  (24, ([rv_r 16, rv_i 3 3, rv_i 0 199, rv_u], [rv_r 16], []), [25], 2343050, [(2, (-11774))], [4]),
  (25, ([rv_r 16, rv_i 3 3, rv_i 0 199, rv_u], [rv_i (-1) 255], []), [26], 2343049, [(2, (-11774))], []),
  (26, ([rv_r 16, rv_i 3 3, rv_i 0 199, rv_i (-1) 255], [], []), [27], 2343048, [(2, (-11774))], []),
  (27, ([rv_r 16, rv_i 3 3, rv_i 0 199, rv_i (-1) 255], [rv_r 16], []), [28], 2343047, [(2, (-11774))], []),
  (28, ([rv_r 16, rv_i 3 3, rv_i 0 199, rv_i (-1) 255], [rv_r 16, rv_r 16], []), [29], 2343046, [(2, (-11774))], []),
  (29, ([rv_r 16, rv_i 3 3, rv_i 0 199, rv_i (-1) 255], [(1, 0, (-2147483648), 2147483647, [(.inr (16, 3), 0)], []), rv_r 16], []), [30], 2343045, [(2, (-11774))], []),
  (30, ([rv_r 16, rv_i 3 3, rv_i 0 199, rv_i (-1) 255], [rv_i 1 1, (1, 0, (-2147483648), 2147483647, [(.inr (16, 3), 0)], []), rv_r 16], []), [31], 2343044, [(2, (-11774))], []),
  (31, ([rv_r 16, rv_i 3 3, rv_i 0 199, rv_i (-1) 255], [(1, 0, (-2147483648), 2147483647, [(.inr (16, 3), 1)], []), rv_r 16], []), [32], 2343043, [(2, (-11774))], [])]
def n_X3_readTerm_3_2 : List rv_N := [
  (32, ([rv_r 16, rv_i 3 3, rv_i 0 199, rv_i (-1) 255], [], []), [33], 2343042, [(2, (-11774))], []),
  (33, ([rv_r 16, rv_i 3 3, rv_i 0 199, rv_i (-1) 255], [rv_r 16], []), [34], 2343041, [(2, (-11774))], []),
  (34, ([rv_r 16, rv_i 3 3, rv_i 0 199, rv_i (-1) 255], [(1, 0, 3, 3, [(.inl 1, 0)], []), rv_r 16], []), [35], 2343040, [(2, (-11774))], [5]),
  (35, ([rv_r 16, rv_i 3 3, rv_i 0 199, rv_i (-1) 255], [rv_i 0 1], []), [36, 38], 2343039, [(2, (-11774))], []),
  (36, ([rv_r 16, rv_i 3 3, rv_i 0 199, rv_i (-1) 255], [], []), [37], 1, [], []),
  (37, ([rv_r 16, rv_i 3 3, rv_i 0 199, rv_i (-1) 255], [rv_i 0 0], []), [], 0, [], []),
  (38, ([rv_r 16, rv_i 3 3, rv_i 0 199, rv_i (-1) 255], [], []), [39], 2343038, [(2, (-11774))], []),
  (39, ([rv_r 16, rv_i 3 3, rv_i 0 199, rv_i (-1) 255], [rv_r 16], []), [40], 2343037, [(2, (-11774))], []),
  (40, ([rv_r 16, rv_i 3 3, rv_i 0 199, rv_i (-1) 255], [rv_r 17], []), [41], 2343036, [(2, (-11774))], []),
  (41, ([rv_r 16, rv_i 3 3, rv_i 0 199, rv_i (-1) 255], [(1, 0, (-1), 255, [(.inl 3, 0)], []), rv_r 17], []), [42], 2343035, [(2, (-11774))], []),
  (42, ([rv_r 16, rv_i 3 3, rv_i 0 199, rv_i (-1) 255], [rv_i 0 0, (1, 0, (-1), 255, [(.inl 3, 0)], []), rv_r 17], []), [43], 2343034, [(2, (-11774))], [6]),
  (43, ([rv_r 16, rv_i 3 3, rv_i 0 199, rv_i (-1) 255], [rv_i (-1) 199], []), [44], 2343033, [(2, (-11774))], []),
  (44, ([rv_r 16, rv_i 3 3, rv_i 0 199, rv_i (-1) 255], [], []), [45], 2343032, [(2, (-11774))], []),
  (45, ([rv_r 16, rv_i 3 3, rv_i 1 200, rv_i (-1) 255], [], []), [8], 2354805, [(2, (-11774))], []),
  (46, ([rv_r 16, rv_i 3 3, rv_i 0 200, rv_u], [], []), [47], 1, [], []),
  (47, ([rv_r 16, rv_i 3 3, rv_i 0 200, rv_u], [rv_i 1 1], []), [], 0, [], [])]
def n_X3_readTerm_3 : List rv_N := n_X3_readTerm_3_0 ++ (n_X3_readTerm_3_1 ++ (n_X3_readTerm_3_2))
noncomputable def gn_X3_readTerm_3 : Nat → Option rv_N := rv_ap 16 (rv_at n_X3_readTerm_3_0) (rv_ap 16 (rv_at n_X3_readTerm_3_1) (rv_at n_X3_readTerm_3_2))
theorem hn_X3_readTerm_3 : ∀ i : Nat, n_X3_readTerm_3[i]? = gn_X3_readTerm_3 i := rv_ap_eq (l := n_X3_readTerm_3_0) (c := 16) (rv_ap_eq (l := n_X3_readTerm_3_1) (c := 16) (rv_at_eq n_X3_readTerm_3_2) rfl) rfl
set_option maxRecDepth 100000 in
theorem a_X3_readTerm_3 : rv_all (fm_tm, flX3, fm_wr, kcX3, klX3, K_X3_readTerm_3.2.2.1, [], 4) ct_X3_readTerm_3 cd_X3_readTerm n_X3_readTerm_3 K_X3_readTerm_3 [] 0 n_X3_readTerm_3 = true := rv_fast hn_X3_readTerm_3 hc_X3_readTerm (by decide +kernel)
theorem m_X3_readTerm_3 {l : Launch} {D : va_G} {ad : Nat → Nat} {cy : Nat → ClassId} {Z : State → Heap → Prop} {Gp : fm_V → Prop} (hAd : fm_Ad fm_tm ad) (hZ : fm_Zk (fm_A fm_tm ad) Z) (hGd : fm_Gd Gp) : rv_Met l D fm_cl fm_tm ad cy fm_nt Z Gp yX3_readTerm (.code yX3_readTerm prog_5_method_13_code 4 (some .boolean) :: fm_Ts) { frames := 14, cells := 0, slots := 0, locals := 1400 } K_X3_readTerm_3 := rv_met hAd hZ (Or.inl (by decide +kernel)) evX3 dc_X3_readTerm a_X3_readTerm_3 ⟨rfl, rfl, rfl⟩ (by decide +kernel) (by decide +kernel) (by decide) (fm_gm hGd (by decide +kernel)) (Or.inr ⟨rfl, by decide, by decide⟩) (fun p e s m args below meth c Q X Y => List.forall_mem_cons.mpr ⟨rv_ctV X Y fm_Ts_good dc_X3_readTerm (pc := 2) (i := 2) (idx := 122) rfl (m_X3_readFactor_3 hAd hZ hGd) wl_X3_122 wm_X3_readFactor wy_X3_readFactor (by decide) ⟨rfl, rfl, rfl⟩ ⟨rfl, rfl⟩, List.forall_mem_cons.mpr ⟨rv_ctV X Y fm_Ts_good dc_X3_readTerm (pc := 20) (i := 12) (idx := 39) rfl (m_X3_next_0 hAd hZ hGd) wl_X3_39 wm_X3_next wy_X3_next (by decide) ⟨rfl, rfl, rfl⟩ ⟨rfl, rfl⟩, List.forall_mem_cons.mpr ⟨rv_ctV X Y fm_Ts_good dc_X3_readTerm (pc := 29) (i := 16) (idx := 39) rfl (m_X3_next_0 hAd hZ hGd) wl_X3_39 wm_X3_next wy_X3_next (by decide) ⟨rfl, rfl, rfl⟩ ⟨rfl, rfl⟩, List.forall_mem_cons.mpr ⟨rv_ctV X Y fm_Ts_good dc_X3_readTerm (pc := 38) (i := 20) (idx := 39) rfl (m_X3_next_0 hAd hZ hGd) wl_X3_39 wm_X3_next wy_X3_next (by decide) ⟨rfl, rfl, rfl⟩ ⟨rfl, rfl⟩, List.forall_mem_cons.mpr ⟨rv_ctV X Y fm_Ts_good dc_X3_readTerm (pc := 47) (i := 24) (idx := 39) rfl (m_X3_next_0 hAd hZ hGd) wl_X3_39 wm_X3_next wy_X3_next (by decide) ⟨rfl, rfl, rfl⟩ ⟨rfl, rfl⟩, List.forall_mem_cons.mpr ⟨rv_ctV X Y fm_Ts_good dc_X3_readTerm (pc := 63) (i := 34) (idx := 122) rfl (m_X3_readFactor_3 hAd hZ hGd) wl_X3_122 wm_X3_readFactor wy_X3_readFactor (by decide) ⟨rfl, rfl, rfl⟩ ⟨rfl, rfl⟩, List.forall_mem_cons.mpr ⟨rv_ctV X Y fm_Ts_good dc_X3_readTerm (pc := 77) (i := 42) (idx := 108) rfl (m_X1_putStep_0 hAd hZ hGd) wl_X3_108 wm_X1_putStep wy_X1_putStep (by decide) ⟨rfl, rfl, rfl⟩ ⟨rfl, rfl⟩, fun _ h => absurd h List.not_mem_nil⟩⟩⟩⟩⟩⟩⟩) (fun _ _ _ _ _ _ _ _ _ _ _ _ _ _ _ _ h => absurd h List.not_mem_nil)
