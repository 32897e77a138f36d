def cd_X8_isYard : List (Nat × Instr × Nat) := [(0, .iload_n 0, 1), (1, .i2l, 1), (2, .lconst 0, 1), (3, .ldc2_w 166, 3), (6, .invokestatic 168, 3), (9, .ireturn, 1)]
theorem dc_X8_isYard : ∀ q ∈ cd_X8_isYard, decode prog_10_method_5_code q.1 = .ok (q.2.1, q.2.2) := by decide +kernel
def K_X8_isYard_0 : rv_K := ([rv_full], [], [], [(0, 0, 1)], [(.inl 0, 0, 19)], [])
def ct_X8_isYard_0 : List (Nat × rv_K) := [(4, K_lies_0_19)]
def n_X8_isYard_0 : List rv_N := [
  (0, ([rv_full], [], []), [1], 5, [], []),
  (1, ([rv_full], [(1, 0, (-2147483648), 2147483647, [(.inl 0, 0)], [])], []), [2], 4, [], []),
  (2, ([rv_full], [(3, 0, (-2147483648), 2147483647, [(.inl 0, 0)], [])], []), [3], 3, [], []),
  (3, ([rv_full], [(3, 0, 0, 0, [], []), (3, 0, (-2147483648), 2147483647, [(.inl 0, 0)], [])], []), [4], 2, [], []),
  (4, ([rv_full], [(3, 0, 19, 19, [], []), (3, 0, 0, 0, [], []), (3, 0, (-2147483648), 2147483647, [(.inl 0, 0)], [])], []), [5], 1, [], [0]),
  (5, ([rv_full], [(1, 0, 0, 1, [], [(.inl 0, 0, 19)])], []), [], 0, [], [])]
set_option maxRecDepth 100000 in
theorem a_X8_isYard_0 : rv_all (fm_tm, flX8, fm_wr, kcX8, klX8, K_X8_isYard_0.2.2.1, [0], 1) ct_X8_isYard_0 cd_X8_isYard n_X8_isYard_0 K_X8_isYard_0 [] 0 n_X8_isYard_0 = true := rv_fast (rv_at_eq n_X8_isYard_0) (rv_at_eq cd_X8_isYard) (by decide +kernel)
theorem m_X8_isYard_0 {l : Launch} {D : va_G} {ad : Nat → Nat} {cy : Nat → ClassId} {Z : State → Heap → Prop} (hAd : fm_Ad fm_tm ad) (hZ : fm_Zk (fm_A fm_tm ad) Z) : rv_Met l D fm_cl fm_tm ad cy fm_nt Z fm_G yX8_isYard (.code yX8_isYard prog_10_method_5_code 1 (some .boolean) :: fm_Ts) { frames := 1, cells := 0, slots := 0, locals := 100 } K_X8_isYard_0 := rv_met hAd hZ (Or.inl (by decide +kernel)) evX8 dc_X8_isYard a_X8_isYard_0 ⟨rfl, rfl, rfl⟩ (by decide +kernel) (by decide +kernel) (by decide) (fm_gm fm_G_gd (by decide +kernel)) (Or.inr ⟨rfl, by decide, by decide⟩) (fun p e s m args below meth c Q X Y => List.forall_mem_cons.mpr ⟨rv_ctS X Y fm_Ts_good dc_X8_isYard (pc := 6) (i := 4) (idx := 168) rfl (m_lies_0_19 hAd hZ) wl_X8_168 wm_X8_lies wy_X8_lies (by decide) rfl, fun _ h => absurd h List.not_mem_nil⟩) (fun _ _ _ _ _ _ _ _ _ _ _ _ _ _ _ _ h => absurd h List.not_mem_nil)
def cd_X8_yard : List (Nat × Instr × Nat) := [(0, .iload_n 1, 1), (1, .invokestatic 182, 3), (4, .ifCond .eq 29, 3), (7, .iload_n 2, 1), (8, .i2l, 1), (9, .lconst 0, 1), (10, .ldc2_w 185, 3), (13, .invokestatic 168, 3), (16, .ifCond .eq 17, 3), (19, .iload_n 3, 1), (20, .i2l, 1), (21, .ldc2_w 187, 3), (24, .ldc2_w 189, 3), (27, .invokestatic 168, 3), (30, .ifCond .ne 5, 3), (33, .iconst 0, 1), (34, .ireturn, 1), (35, .aload_n 0, 1), (36, .getfield 17, 3), (39, .iload_n 1, 1), (40, .iload_n 2, 1), (41, .iastore, 1), (42, .aload_n 0, 1), (43, .getfield 21, 3), (46, .iload_n 1, 1), (47, .iload_n 3, 1), (48, .iastore, 1), (49, .aload_n 0, 1), (50, .getfield 24, 3), (53, .iload_n 1, 1), (54, .iload 4, 2), (56, .bastore, 1), (57, .iconst 1, 1), (58, .ireturn, 1)]
theorem dc_X8_yard : ∀ q ∈ cd_X8_yard, decode prog_10_method_10_code q.1 = .ok (q.2.1, q.2.2) := by decide +kernel
def ch_X8_yard_0 : List (Nat × Instr × Nat) := [(0, .iload_n 1, 1), (1, .invokestatic 182, 3), (4, .ifCond .eq 29, 3), (7, .iload_n 2, 1), (8, .i2l, 1), (9, .lconst 0, 1), (10, .ldc2_w 185, 3), (13, .invokestatic 168, 3), (16, .ifCond .eq 17, 3), (19, .iload_n 3, 1), (20, .i2l, 1), (21, .ldc2_w 187, 3), (24, .ldc2_w 189, 3), (27, .invokestatic 168, 3), (30, .ifCond .ne 5, 3), (33, .iconst 0, 1)]
def ch_X8_yard_1 : List (Nat × Instr × Nat) := [(34, .ireturn, 1), (35, .aload_n 0, 1), (36, .getfield 17, 3), (39, .iload_n 1, 1), (40, .iload_n 2, 1), (41, .iastore, 1), (42, .aload_n 0, 1), (43, .getfield 21, 3), (46, .iload_n 1, 1), (47, .iload_n 3, 1), (48, .iastore, 1), (49, .aload_n 0, 1), (50, .getfield 24, 3), (53, .iload_n 1, 1), (54, .iload 4, 2), (56, .bastore, 1)]
def ch_X8_yard_2 : List (Nat × Instr × Nat) := [(57, .iconst 1, 1), (58, .ireturn, 1)]
set_option maxRecDepth 100000 in
theorem he_X8_yard : cd_X8_yard = ch_X8_yard_0 ++ (ch_X8_yard_1 ++ (ch_X8_yard_2)) := rfl
noncomputable def gc_X8_yard : Nat → Option (Nat × Instr × Nat) := rv_ap 16 (rv_at ch_X8_yard_0) (rv_ap 16 (rv_at ch_X8_yard_1) (rv_at ch_X8_yard_2))
theorem hc_X8_yard : ∀ i : Nat, cd_X8_yard[i]? = gc_X8_yard i := by
  rw [he_X8_yard]
  exact rv_ap_eq (l := ch_X8_yard_0) (c := 16) (rv_ap_eq (l := ch_X8_yard_1) (c := 16) (rv_at_eq ch_X8_yard_2) rfl) rfl
def K_X8_yard_0 : rv_K := ([rv_r 80, rv_full, rv_full, rv_full, rv_i 0 1], [], [(82, 9999), (83, 9999), (84, 9999)], [(0, 0, 1)], [(.inl 1, 0, 19), (.inl 2, 0, 99999), (.inl 3, (-3), 3)], [])
def ct_X8_yard_0 : List (Nat × rv_K) := [(1, K_X8_isYard_0), (7, K_lies_0_99999), (13, K_lies_n3_3)]
def n_X8_yard_0_0 : List rv_N := [
  (0, ([rv_r 80, rv_full, rv_full, rv_full, rv_i 0 1], [], []), [1], 31, [], []),
  (1, ([rv_r 80, rv_full, rv_full, rv_full, rv_i 0 1], [(1, 0, (-2147483648), 2147483647, [(.inl 1, 0)], [])], []), [2], 30, [], [0]),
  (2, ([rv_r 80, rv_full, rv_full, rv_full, rv_i 0 1], [(1, 0, 0, 1, [], [(.inl 1, 0, 19)])], []), [3, 15], 29, [], []),
  (3, ([rv_r 80, rv_i 0 19, rv_full, rv_full, rv_i 0 1], [], []), [4], 28, [], []),
  (4, ([rv_r 80, rv_i 0 19, rv_full, rv_full, rv_i 0 1], [(1, 0, (-2147483648), 2147483647, [(.inl 2, 0)], [])], []), [5], 27, [], []),
  (5, ([rv_r 80, rv_i 0 19, rv_full, rv_full, rv_i 0 1], [(3, 0, (-2147483648), 2147483647, [(.inl 2, 0)], [])], []), [6], 26, [], []),
  (6, ([rv_r 80, rv_i 0 19, rv_full, rv_full, rv_i 0 1], [(3, 0, 0, 0, [], []), (3, 0, (-2147483648), 2147483647, [(.inl 2, 0)], [])], []), [7], 25, [], []),
  (7, ([rv_r 80, rv_i 0 19, rv_full, rv_full, rv_i 0 1], [(3, 0, 99999, 99999, [], []), (3, 0, 0, 0, [], []), (3, 0, (-2147483648), 2147483647, [(.inl 2, 0)], [])], []), [8], 24, [], [1]),
  (8, ([rv_r 80, rv_i 0 19, rv_full, rv_full, rv_i 0 1], [(1, 0, 0, 1, [], [(.inl 2, 0, 99999)])], []), [9, 15], 23, [], []),
  (9, ([rv_r 80, rv_i 0 19, rv_i 0 99999, rv_full, rv_i 0 1], [], []), [10], 22, [], []),
  (10, ([rv_r 80, rv_i 0 19, rv_i 0 99999, rv_full, rv_i 0 1], [(1, 0, (-2147483648), 2147483647, [(.inl 3, 0)], [])], []), [11], 21, [], []),
  (11, ([rv_r 80, rv_i 0 19, rv_i 0 99999, rv_full, rv_i 0 1], [(3, 0, (-2147483648), 2147483647, [(.inl 3, 0)], [])], []), [12], 20, [], []),
  (12, ([rv_r 80, rv_i 0 19, rv_i 0 99999, rv_full, rv_i 0 1], [(3, 0, (-3), (-3), [], []), (3, 0, (-2147483648), 2147483647, [(.inl 3, 0)], [])], []), [13], 19, [], []),
  (13, ([rv_r 80, rv_i 0 19, rv_i 0 99999, rv_full, rv_i 0 1], [(3, 0, 3, 3, [], []), (3, 0, (-3), (-3), [], []), (3, 0, (-2147483648), 2147483647, [(.inl 3, 0)], [])], []), [14], 18, [], [2]),
  (14, ([rv_r 80, rv_i 0 19, rv_i 0 99999, rv_full, rv_i 0 1], [(1, 0, 0, 1, [], [(.inl 3, (-3), 3)])], []), [15, 17], 17, [], []),
  (15, ([rv_r 80, rv_full, rv_full, rv_full, rv_i 0 1], [], []), [16], 1, [], [])]
def n_X8_yard_0_1 : List rv_N := [
  (16, ([rv_r 80, rv_full, rv_full, rv_full, rv_i 0 1], [rv_i 0 0], []), [], 0, [], []),
  (17, ([rv_r 80, rv_i 0 19, rv_i 0 99999, rv_i (-3) 3, rv_i 0 1], [], []), [18], 16, [], []),
  (18, ([rv_r 80, rv_i 0 19, rv_i 0 99999, rv_i (-3) 3, rv_i 0 1], [rv_r 80], []), [19], 15, [], []),
  (19, ([rv_r 80, rv_i 0 19, rv_i 0 99999, rv_i (-3) 3, rv_i 0 1], [rv_r 82], []), [20], 14, [], []),
  (20, ([rv_r 80, rv_i 0 19, rv_i 0 99999, rv_i (-3) 3, rv_i 0 1], [(1, 0, 0, 19, [(.inl 1, 0)], []), rv_r 82], []), [21], 13, [], []),
  (21, ([rv_r 80, rv_i 0 19, rv_i 0 99999, rv_i (-3) 3, rv_i 0 1], [(1, 0, 0, 99999, [(.inl 2, 0)], []), (1, 0, 0, 19, [(.inl 1, 0)], []), rv_r 82], []), [22], 12, [], []),
  (22, ([rv_r 80, rv_i 0 19, rv_i 0 99999, rv_i (-3) 3, rv_i 0 1], [], []), [23], 11, [], []),
  (23, ([rv_r 80, rv_i 0 19, rv_i 0 99999, rv_i (-3) 3, rv_i 0 1], [rv_r 80], []), [24], 10, [], []),
  (24, ([rv_r 80, rv_i 0 19, rv_i 0 99999, rv_i (-3) 3, rv_i 0 1], [rv_r 83], []), [25], 9, [], []),
  (25, ([rv_r 80, rv_i 0 19, rv_i 0 99999, rv_i (-3) 3, rv_i 0 1], [(1, 0, 0, 19, [(.inl 1, 0)], []), rv_r 83], []), [26], 8, [], []),
  (26, ([rv_r 80, rv_i 0 19, rv_i 0 99999, rv_i (-3) 3, rv_i 0 1], [(1, 0, (-3), 3, [(.inl 3, 0)], []), (1, 0, 0, 19, [(.inl 1, 0)], []), rv_r 83], []), [27], 7, [], []),
  (27, ([rv_r 80, rv_i 0 19, rv_i 0 99999, rv_i (-3) 3, rv_i 0 1], [], []), [28], 6, [], []),
  (28, ([rv_r 80, rv_i 0 19, rv_i 0 99999, rv_i (-3) 3, rv_i 0 1], [rv_r 80], []), [29], 5, [], []),
  (29, ([rv_r 80, rv_i 0 19, rv_i 0 99999, rv_i (-3) 3, rv_i 0 1], [rv_r 84], []), [30], 4, [], []),
  (30, ([rv_r 80, rv_i 0 19, rv_i 0 99999, rv_i (-3) 3, rv_i 0 1], [(1, 0, 0, 19, [(.inl 1, 0)], []), rv_r 84], []), [31], 3, [], []),
  (31, ([rv_r 80, rv_i 0 19, rv_i 0 99999, rv_i (-3) 3, rv_i 0 1], [(1, 0, 0, 1, [(.inl 4, 0)], []), (1, 0, 0, 19, [(.inl 1, 0)], []), rv_r 84], []), [32], 2, [], [])]
def n_X8_yard_0_2 : List rv_N := [
  (32, ([rv_r 80, rv_i 0 19, rv_i 0 99999, rv_i (-3) 3, rv_i 0 1], [], []), [33], 1, [], []),
  (33, ([rv_r 80, rv_i 0 19, rv_i 0 99999, rv_i (-3) 3, rv_i 0 1], [rv_i 1 1], []), [], 0, [], [])]
def n_X8_yard_0 : List rv_N := n_X8_yard_0_0 ++ (n_X8_yard_0_1 ++ (n_X8_yard_0_2))
noncomputable def gn_X8_yard_0 : Nat → Option rv_N := rv_ap 16 (rv_at n_X8_yard_0_0) (rv_ap 16 (rv_at n_X8_yard_0_1) (rv_at n_X8_yard_0_2))
theorem hn_X8_yard_0 : ∀ i : Nat, n_X8_yard_0[i]? = gn_X8_yard_0 i := rv_ap_eq (l := n_X8_yard_0_0) (c := 16) (rv_ap_eq (l := n_X8_yard_0_1) (c := 16) (rv_at_eq n_X8_yard_0_2) rfl) rfl
set_option maxRecDepth 100000 in
theorem a_X8_yard_0 : rv_all (fm_tm, flX8, fm_wr, kcX8, klX8, K_X8_yard_0.2.2.1, [1, 2, 3, 4], 5) ct_X8_yard_0 cd_X8_yard n_X8_yard_0 K_X8_yard_0 [] 0 n_X8_yard_0 = true := rv_fast hn_X8_yard_0 hc_X8_yard (by decide +kernel)
theorem m_X8_yard_0 {l : Launch} {D : va_G} {ad : Nat → Nat} {cy : Nat → ClassId} {Z : State → Heap → Prop} (hAd : fm_Ad fm_tm ad) (hZ : fm_Zk (fm_A fm_tm ad) Z) : rv_Met l D fm_cl fm_tm ad cy fm_nt Z fm_G yX8_yard (.code yX8_yard prog_10_method_10_code 5 (some .boolean) :: fm_Ts) { frames := 2, cells := 0, slots := 0, locals := 200 } K_X8_yard_0 := rv_met hAd hZ (Or.inl (by decide +kernel)) evX8 dc_X8_yard a_X8_yard_0 ⟨rfl, rfl, rfl⟩ (by decide +kernel) (by decide +kernel) (by decide) (fm_gm fm_G_gd (by decide +kernel)) (Or.inr ⟨rfl, by decide, by decide⟩) (fun p e s m args below meth c Q X Y => List.forall_mem_cons.mpr ⟨rv_ctS X Y fm_Ts_good dc_X8_yard (pc := 1) (i := 1) (idx := 182) rfl (m_X8_isYard_0 hAd hZ) wl_X8_182 wm_X8_isYard wy_X8_isYard (by decide) rfl, List.forall_mem_cons.mpr ⟨rv_ctS X Y fm_Ts_good dc_X8_yard (pc := 13) (i := 7) (idx := 168) rfl (m_lies_0_99999 hAd hZ) wl_X8_168 wm_X8_lies wy_X8_lies (by decide) rfl, List.forall_mem_cons.mpr ⟨rv_ctS X Y fm_Ts_good dc_X8_yard (pc := 27) (i := 13) (idx := 168) rfl (m_lies_n3_3 hAd hZ) wl_X8_168 wm_X8_lies wy_X8_lies (by decide) rfl, fun _ h => absurd h List.not_mem_nil⟩⟩⟩) (fun _ _ _ _ _ _ _ _ _ _ _ _ _ _ _ _ h => absurd h List.not_mem_nil)
def cd_X8_isDigit : List (Nat × Instr × Nat) := [(0, .iload_n 0, 1), (1, .i2l, 1), (2, .lconst 0, 1), (3, .ldc2_w 180, 3), (6, .invokestatic 168, 3), (9, .ireturn, 1)]
theorem dc_X8_isDigit : ∀ q ∈ cd_X8_isDigit, decode prog_10_method_9_code q.1 = .ok (q.2.1, q.2.2) := by decide +kernel
def K_X8_isDigit_0 : rv_K := ([rv_full], [], [], [(0, 0, 1)], [(.inl 0, 0, 9)], [])
def ct_X8_isDigit_0 : List (Nat × rv_K) := [(4, K_lies_0_9)]
def n_X8_isDigit_0 : List rv_N := [
  (0, ([rv_full], [], []), [1], 5, [], []),
  (1, ([rv_full], [(1, 0, (-2147483648), 2147483647, [(.inl 0, 0)], [])], []), [2], 4, [], []),
  (2, ([rv_full], [(3, 0, (-2147483648), 2147483647, [(.inl 0, 0)], [])], []), [3], 3, [], []),
  (3, ([rv_full], [(3, 0, 0, 0, [], []), (3, 0, (-2147483648), 2147483647, [(.inl 0, 0)], [])], []), [4], 2, [], []),
  (4, ([rv_full], [(3, 0, 9, 9, [], []), (3, 0, 0, 0, [], []), (3, 0, (-2147483648), 2147483647, [(.inl 0, 0)], [])], []), [5], 1, [], [0]),
  (5, ([rv_full], [(1, 0, 0, 1, [], [(.inl 0, 0, 9)])], []), [], 0, [], [])]
set_option maxRecDepth 100000 in
theorem a_X8_isDigit_0 : rv_all (fm_tm, flX8, fm_wr, kcX8, klX8, K_X8_isDigit_0.2.2.1, [0], 1) ct_X8_isDigit_0 cd_X8_isDigit n_X8_isDigit_0 K_X8_isDigit_0 [] 0 n_X8_isDigit_0 = true := rv_fast (rv_at_eq n_X8_isDigit_0) (rv_at_eq cd_X8_isDigit) (by decide +kernel)
theorem m_X8_isDigit_0 {l : Launch} {D : va_G} {ad : Nat → Nat} {cy : Nat → ClassId} {Z : State → Heap → Prop} (hAd : fm_Ad fm_tm ad) (hZ : fm_Zk (fm_A fm_tm ad) Z) : rv_Met l D fm_cl fm_tm ad cy fm_nt Z fm_G yX8_isDigit (.code yX8_isDigit prog_10_method_9_code 1 (some .boolean) :: fm_Ts) { frames := 1, cells := 0, slots := 0, locals := 100 } K_X8_isDigit_0 := rv_met hAd hZ (Or.inl (by decide +kernel)) evX8 dc_X8_isDigit a_X8_isDigit_0 ⟨rfl, rfl, rfl⟩ (by decide +kernel) (by decide +kernel) (by decide) (fm_gm fm_G_gd (by decide +kernel)) (Or.inr ⟨rfl, by decide, by decide⟩) (fun p e s m args below meth c Q X Y => List.forall_mem_cons.mpr ⟨rv_ctS X Y fm_Ts_good dc_X8_isDigit (pc := 6) (i := 4) (idx := 168) rfl (m_lies_0_9 hAd hZ) wl_X8_168 wm_X8_lies wy_X8_lies (by decide) rfl, fun _ h => absurd h List.not_mem_nil⟩) (fun _ _ _ _ _ _ _ _ _ _ _ _ _ _ _ _ h => absurd h List.not_mem_nil)
def cd_X8_rain : List (Nat × Instr × Nat) := [(0, .iload_n 1, 1), (1, .i2l, 1), (2, .lconst 0, 1), (3, .ldc2_w 191, 3), (6, .invokestatic 168, 3), (9, .ifCond .eq 10, 3), (12, .iload_n 2, 1), (13, .invokestatic 193, 3), (16, .ifCond .ne 5, 3), (19, .iconst 0, 1), (20, .ireturn, 1), (21, .aload_n 0, 1), (22, .getfield 52, 3), (25, .iload_n 1, 1), (26, .iload_n 2, 1), (27, .iastore, 1), (28, .iconst 1, 1), (29, .ireturn, 1)]
theorem dc_X8_rain : ∀ q ∈ cd_X8_rain, decode prog_10_method_11_code q.1 = .ok (q.2.1, q.2.2) := by decide +kernel
def K_X8_rain_0 : rv_K := ([rv_r 80, rv_full, rv_full], [], [(93, 9999)], [(0, 0, 1)], [(.inl 1, 0, 99), (.inl 2, 0, 9)], [])
def ct_X8_rain_0 : List (Nat × rv_K) := [(4, K_lies_0_99), (7, K_X8_isDigit_0)]
def n_X8_rain_0_0 : List rv_N := [
  (0, ([rv_r 80, rv_full, rv_full], [], []), [1], 15, [], []),
  (1, ([rv_r 80, rv_full, rv_full], [(1, 0, (-2147483648), 2147483647, [(.inl 1, 0)], [])], []), [2], 14, [], []),
  (2, ([rv_r 80, rv_full, rv_full], [(3, 0, (-2147483648), 2147483647, [(.inl 1, 0)], [])], []), [3], 13, [], []),
  (3, ([rv_r 80, rv_full, rv_full], [(3, 0, 0, 0, [], []), (3, 0, (-2147483648), 2147483647, [(.inl 1, 0)], [])], []), [4], 12, [], []),
  (4, ([rv_r 80, rv_full, rv_full], [(3, 0, 99, 99, [], []), (3, 0, 0, 0, [], []), (3, 0, (-2147483648), 2147483647, [(.inl 1, 0)], [])], []), [5], 11, [], [0]),
  (5, ([rv_r 80, rv_full, rv_full], [(1, 0, 0, 1, [], [(.inl 1, 0, 99)])], []), [6, 9], 10, [], []),
  (6, ([rv_r 80, rv_i 0 99, rv_full], [], []), [7], 9, [], []),
  (7, ([rv_r 80, rv_i 0 99, rv_full], [(1, 0, (-2147483648), 2147483647, [(.inl 2, 0)], [])], []), [8], 8, [], [1]),
  (8, ([rv_r 80, rv_i 0 99, rv_full], [(1, 0, 0, 1, [], [(.inl 2, 0, 9)])], []), [9, 11], 7, [], []),
  (9, ([rv_r 80, rv_full, rv_full], [], []), [10], 1, [], []),
  (10, ([rv_r 80, rv_full, rv_full], [rv_i 0 0], []), [], 0, [], []),
  (11, ([rv_r 80, rv_i 0 99, rv_i 0 9], [], []), [12], 6, [], []),
  (12, ([rv_r 80, rv_i 0 99, rv_i 0 9], [rv_r 80], []), [13], 5, [], []),
  (13, ([rv_r 80, rv_i 0 99, rv_i 0 9], [rv_r 93], []), [14], 4, [], []),
  (14, ([rv_r 80, rv_i 0 99, rv_i 0 9], [(1, 0, 0, 99, [(.inl 1, 0)], []), rv_r 93], []), [15], 3, [], []),
  (15, ([rv_r 80, rv_i 0 99, rv_i 0 9], [(1, 0, 0, 9, [(.inl 2, 0)], []), (1, 0, 0, 99, [(.inl 1, 0)], []), rv_r 93], []), [16], 2, [], [])]
def n_X8_rain_0_1 : List rv_N := [
  (16, ([rv_r 80, rv_i 0 99, rv_i 0 9], [], []), [17], 1, [], []),
  (17, ([rv_r 80, rv_i 0 99, rv_i 0 9], [rv_i 1 1], []), [], 0, [], [])]
def n_X8_rain_0 : List rv_N := n_X8_rain_0_0 ++ (n_X8_rain_0_1)
noncomputable def gn_X8_rain_0 : Nat → Option rv_N := rv_ap 16 (rv_at n_X8_rain_0_0) (rv_at n_X8_rain_0_1)
theorem hn_X8_rain_0 : ∀ i : Nat, n_X8_rain_0[i]? = gn_X8_rain_0 i := rv_ap_eq (l := n_X8_rain_0_0) (c := 16) (rv_at_eq n_X8_rain_0_1) rfl
set_option maxRecDepth 100000 in
theorem a_X8_rain_0 : rv_all (fm_tm, flX8, fm_wr, kcX8, klX8, K_X8_rain_0.2.2.1, [1, 2], 3) ct_X8_rain_0 cd_X8_rain n_X8_rain_0 K_X8_rain_0 [] 0 n_X8_rain_0 = true := rv_fast hn_X8_rain_0 (rv_at_eq cd_X8_rain) (by decide +kernel)
theorem m_X8_rain_0 {l : Launch} {D : va_G} {ad : Nat → Nat} {cy : Nat → ClassId} {Z : State → Heap → Prop} (hAd : fm_Ad fm_tm ad) (hZ : fm_Zk (fm_A fm_tm ad) Z) : rv_Met l D fm_cl fm_tm ad cy fm_nt Z fm_G yX8_rain (.code yX8_rain prog_10_method_11_code 3 (some .boolean) :: fm_Ts) { frames := 2, cells := 0, slots := 0, locals := 200 } K_X8_rain_0 := rv_met hAd hZ (Or.inl (by decide +kernel)) evX8 dc_X8_rain a_X8_rain_0 ⟨rfl, rfl, rfl⟩ (by decide +kernel) (by decide +kernel) (by decide) (fm_gm fm_G_gd (by decide +kernel)) (Or.inr ⟨rfl, by decide, by decide⟩) (fun p e s m args below meth c Q X Y => List.forall_mem_cons.mpr ⟨rv_ctS X Y fm_Ts_good dc_X8_rain (pc := 6) (i := 4) (idx := 168) rfl (m_lies_0_99 hAd hZ) wl_X8_168 wm_X8_lies wy_X8_lies (by decide) rfl, List.forall_mem_cons.mpr ⟨rv_ctS X Y fm_Ts_good dc_X8_rain (pc := 13) (i := 7) (idx := 193) rfl (m_X8_isDigit_0 hAd hZ) wl_X8_193 wm_X8_isDigit wy_X8_isDigit (by decide) rfl, fun _ h => absurd h List.not_mem_nil⟩⟩) (fun _ _ _ _ _ _ _ _ _ _ _ _ _ _ _ _ h => absurd h List.not_mem_nil)
def cd_X8_porter : List (Nat × Instr × Nat) := [(0, .iload_n 1, 1), (1, .i2l, 1), (2, .lconst 0, 1), (3, .ldc2_w 174, 3), (6, .invokestatic 168, 3), (9, .ifCond .eq 38, 3), (12, .iload_n 2, 1), (13, .invokestatic 182, 3), (16, .ifCond .eq 31, 3), (19, .iload_n 3, 1), (20, .i2l, 1), (21, .lconst 0, 1), (22, .ldc2_w 196, 3), (25, .invokestatic 168, 3), (28, .ifCond .eq 19, 3), (31, .iload 4, 2), (33, .invokestatic 193, 3), (36, .ifCond .eq 11, 3), (39, .iload 5, 2), (41, .invokestatic 193, 3), (44, .ifCond .ne 5, 3), (47, .iconst 0, 1), (48, .ireturn, 1), (49, .aload_n 0, 1), (50, .getfield 37, 3), (53, .iload_n 1, 1), (54, .iconst 1, 1), (55, .bastore, 1), (56, .aload_n 0, 1), (57, .getfield 40, 3), (60, .iload_n 1, 1), (61, .iload_n 2, 1), (62, .iastore, 1), (63, .aload_n 0, 1), (64, .getfield 43, 3), (67, .iload_n 1, 1), (68, .iload_n 3, 1), (69, .iastore, 1), (70, .aload_n 0, 1), (71, .getfield 46, 3), (74, .iload_n 1, 1), (75, .iload 4, 2), (77, .iastore, 1), (78, .aload_n 0, 1), (79, .getfield 49, 3), (82, .iload_n 1, 1), (83, .iload 5, 2), (85, .iastore, 1), (86, .iconst 1, 1), (87, .ireturn, 1)]
theorem dc_X8_porter : ∀ q ∈ cd_X8_porter, decode prog_10_method_12_code q.1 = .ok (q.2.1, q.2.2) := by decide +kernel
def ch_X8_porter_0 : List (Nat × Instr × Nat) := [(0, .iload_n 1, 1), (1, .i2l, 1), (2, .lconst 0, 1), (3, .ldc2_w 174, 3), (6, .invokestatic 168, 3), (9, .ifCond .eq 38, 3), (12, .iload_n 2, 1), (13, .invokestatic 182, 3), (16, .ifCond .eq 31, 3), (19, .iload_n 3, 1), (20, .i2l, 1), (21, .lconst 0, 1), (22, .ldc2_w 196, 3), (25, .invokestatic 168, 3), (28, .ifCond .eq 19, 3), (31, .iload 4, 2)]
def ch_X8_porter_1 : List (Nat × Instr × Nat) := [(33, .invokestatic 193, 3), (36, .ifCond .eq 11, 3), (39, .iload 5, 2), (41, .invokestatic 193, 3), (44, .ifCond .ne 5, 3), (47, .iconst 0, 1), (48, .ireturn, 1), (49, .aload_n 0, 1), (50, .getfield 37, 3), (53, .iload_n 1, 1), (54, .iconst 1, 1), (55, .bastore, 1), (56, .aload_n 0, 1), (57, .getfield 40, 3), (60, .iload_n 1, 1), (61, .iload_n 2, 1)]
def ch_X8_porter_2 : List (Nat × Instr × Nat) := [(62, .iastore, 1), (63, .aload_n 0, 1), (64, .getfield 43, 3), (67, .iload_n 1, 1), (68, .iload_n 3, 1), (69, .iastore, 1), (70, .aload_n 0, 1), (71, .getfield 46, 3), (74, .iload_n 1, 1), (75, .iload 4, 2), (77, .iastore, 1), (78, .aload_n 0, 1), (79, .getfield 49, 3), (82, .iload_n 1, 1), (83, .iload 5, 2), (85, .iastore, 1)]
def ch_X8_porter_3 : List (Nat × Instr × Nat) := [(86, .iconst 1, 1), (87, .ireturn, 1)]
set_option maxRecDepth 100000 in
theorem he_X8_porter : cd_X8_porter = ch_X8_porter_0 ++ (ch_X8_porter_1 ++ (ch_X8_porter_2 ++ (ch_X8_porter_3))) := rfl
noncomputable def gc_X8_porter : Nat → Option (Nat × Instr × Nat) := rv_ap 16 (rv_at ch_X8_porter_0) (rv_ap 16 (rv_at ch_X8_porter_1) (rv_ap 16 (rv_at ch_X8_porter_2) (rv_at ch_X8_porter_3)))
theorem hc_X8_porter : ∀ i : Nat, cd_X8_porter[i]? = gc_X8_porter i := by
  rw [he_X8_porter]
  exact rv_ap_eq (l := ch_X8_porter_0) (c := 16) (rv_ap_eq (l := ch_X8_porter_1) (c := 16) (rv_ap_eq (l := ch_X8_porter_2) (c := 16) (rv_at_eq ch_X8_porter_3) rfl) rfl) rfl
def K_X8_porter_0 : rv_K := ([rv_r 80, rv_full, rv_full, rv_full, rv_full, rv_full], [], [(88, 9999), (89, 9999), (90, 9999), (91, 9999), (92, 9999)], [(0, 0, 1)], [(.inl 1, 0, 8), (.inl 2, 0, 19), (.inl 3, 0, 9999), (.inl 4, 0, 9), (.inl 5, 0, 9)], [])
def ct_X8_porter_0 : List (Nat × rv_K) := [(4, K_lies_0_8), (7, K_X8_isYard_0), (13, K_lies_0_9999), (16, K_X8_isDigit_0), (19, K_X8_isDigit_0)]
def n_X8_porter_0_0 : List rv_N := [
  (0, ([rv_r 80, rv_full, rv_full, rv_full, rv_full, rv_full], [], []), [1], 47, [], []),
  (1, ([rv_r 80, rv_full, rv_full, rv_full, rv_full, rv_full], [(1, 0, (-2147483648), 2147483647, [(.inl 1, 0)], [])], []), [2], 46, [], []),
  (2, ([rv_r 80, rv_full, rv_full, rv_full, rv_full, rv_full], [(3, 0, (-2147483648), 2147483647, [(.inl 1, 0)], [])], []), [3], 45, [], []),
  (3, ([rv_r 80, rv_full, rv_full, rv_full, rv_full, rv_full], [(3, 0, 0, 0, [], []), (3, 0, (-2147483648), 2147483647, [(.inl 1, 0)], [])], []), [4], 44, [], []),
  (4, ([rv_r 80, rv_full, rv_full, rv_full, rv_full, rv_full], [(3, 0, 8, 8, [], []), (3, 0, 0, 0, [], []), (3, 0, (-2147483648), 2147483647, [(.inl 1, 0)], [])], []), [5], 43, [], [0]),
  (5, ([rv_r 80, rv_full, rv_full, rv_full, rv_full, rv_full], [(1, 0, 0, 1, [], [(.inl 1, 0, 8)])], []), [6, 21], 42, [], []),
  (6, ([rv_r 80, rv_i 0 8, rv_full, rv_full, rv_full, rv_full], [], []), [7], 41, [], []),
  (7, ([rv_r 80, rv_i 0 8, rv_full, rv_full, rv_full, rv_full], [(1, 0, (-2147483648), 2147483647, [(.inl 2, 0)], [])], []), [8], 40, [], [1]),
  (8, ([rv_r 80, rv_i 0 8, rv_full, rv_full, rv_full, rv_full], [(1, 0, 0, 1, [], [(.inl 2, 0, 19)])], []), [9, 21], 39, [], []),
  (9, ([rv_r 80, rv_i 0 8, rv_i 0 19, rv_full, rv_full, rv_full], [], []), [10], 38, [], []),
  (10, ([rv_r 80, rv_i 0 8, rv_i 0 19, rv_full, rv_full, rv_full], [(1, 0, (-2147483648), 2147483647, [(.inl 3, 0)], [])], []), [11], 37, [], []),
  (11, ([rv_r 80, rv_i 0 8, rv_i 0 19, rv_full, rv_full, rv_full], [(3, 0, (-2147483648), 2147483647, [(.inl 3, 0)], [])], []), [12], 36, [], []),
  (12, ([rv_r 80, rv_i 0 8, rv_i 0 19, rv_full, rv_full, rv_full], [(3, 0, 0, 0, [], []), (3, 0, (-2147483648), 2147483647, [(.inl 3, 0)], [])], []), [13], 35, [], []),
  (13, ([rv_r 80, rv_i 0 8, rv_i 0 19, rv_full, rv_full, rv_full], [(3, 0, 9999, 9999, [], []), (3, 0, 0, 0, [], []), (3, 0, (-2147483648), 2147483647, [(.inl 3, 0)], [])], []), [14], 34, [], [2]),
  (14, ([rv_r 80, rv_i 0 8, rv_i 0 19, rv_full, rv_full, rv_full], [(1, 0, 0, 1, [], [(.inl 3, 0, 9999)])], []), [15, 21], 33, [], []),
  (15, ([rv_r 80, rv_i 0 8, rv_i 0 19, rv_i 0 9999, rv_full, rv_full], [], []), [16], 32, [], [])]
def n_X8_porter_0_1 : List rv_N := [
  (16, ([rv_r 80, rv_i 0 8, rv_i 0 19, rv_i 0 9999, rv_full, rv_full], [(1, 0, (-2147483648), 2147483647, [(.inl 4, 0)], [])], []), [17], 31, [], [3]),
  (17, ([rv_r 80, rv_i 0 8, rv_i 0 19, rv_i 0 9999, rv_full, rv_full], [(1, 0, 0, 1, [], [(.inl 4, 0, 9)])], []), [18, 21], 30, [], []),
  (18, ([rv_r 80, rv_i 0 8, rv_i 0 19, rv_i 0 9999, rv_i 0 9, rv_full], [], []), [19], 29, [], []),
  (19, ([rv_r 80, rv_i 0 8, rv_i 0 19, rv_i 0 9999, rv_i 0 9, rv_full], [(1, 0, (-2147483648), 2147483647, [(.inl 5, 0)], [])], []), [20], 28, [], [4]),
  (20, ([rv_r 80, rv_i 0 8, rv_i 0 19, rv_i 0 9999, rv_i 0 9, rv_full], [(1, 0, 0, 1, [], [(.inl 5, 0, 9)])], []), [21, 23], 27, [], []),
  (21, ([rv_r 80, rv_full, rv_full, rv_full, rv_full, rv_full], [], []), [22], 1, [], []),
  (22, ([rv_r 80, rv_full, rv_full, rv_full, rv_full, rv_full], [rv_i 0 0], []), [], 0, [], []),
  (23, ([rv_r 80, rv_i 0 8, rv_i 0 19, rv_i 0 9999, rv_i 0 9, rv_i 0 9], [], []), [24], 26, [], []),
  (24, ([rv_r 80, rv_i 0 8, rv_i 0 19, rv_i 0 9999, rv_i 0 9, rv_i 0 9], [rv_r 80], []), [25], 25, [], []),
  (25, ([rv_r 80, rv_i 0 8, rv_i 0 19, rv_i 0 9999, rv_i 0 9, rv_i 0 9], [rv_r 88], []), [26], 24, [], []),
  (26, ([rv_r 80, rv_i 0 8, rv_i 0 19, rv_i 0 9999, rv_i 0 9, rv_i 0 9], [(1, 0, 0, 8, [(.inl 1, 0)], []), rv_r 88], []), [27], 23, [], []),
  (27, ([rv_r 80, rv_i 0 8, rv_i 0 19, rv_i 0 9999, rv_i 0 9, rv_i 0 9], [rv_i 1 1, (1, 0, 0, 8, [(.inl 1, 0)], []), rv_r 88], []), [28], 22, [], []),
  (28, ([rv_r 80, rv_i 0 8, rv_i 0 19, rv_i 0 9999, rv_i 0 9, rv_i 0 9], [], []), [29], 21, [], []),
  (29, ([rv_r 80, rv_i 0 8, rv_i 0 19, rv_i 0 9999, rv_i 0 9, rv_i 0 9], [rv_r 80], []), [30], 20, [], []),
  (30, ([rv_r 80, rv_i 0 8, rv_i 0 19, rv_i 0 9999, rv_i 0 9, rv_i 0 9], [rv_r 89], []), [31], 19, [], []),
  (31, ([rv_r 80, rv_i 0 8, rv_i 0 19, rv_i 0 9999, rv_i 0 9, rv_i 0 9], [(1, 0, 0, 8, [(.inl 1, 0)], []), rv_r 89], []), [32], 18, [], [])]
def n_X8_porter_0_2 : List rv_N := [
  (32, ([rv_r 80, rv_i 0 8, rv_i 0 19, rv_i 0 9999, rv_i 0 9, rv_i 0 9], [(1, 0, 0, 19, [(.inl 2, 0)], []), (1, 0, 0, 8, [(.inl 1, 0)], []), rv_r 89], []), [33], 17, [], []),
  (33, ([rv_r 80, rv_i 0 8, rv_i 0 19, rv_i 0 9999, rv_i 0 9, rv_i 0 9], [], []), [34], 16, [], []),
  (34, ([rv_r 80, rv_i 0 8, rv_i 0 19, rv_i 0 9999, rv_i 0 9, rv_i 0 9], [rv_r 80], []), [35], 15, [], []),
  (35, ([rv_r 80, rv_i 0 8, rv_i 0 19, rv_i 0 9999, rv_i 0 9, rv_i 0 9], [rv_r 90], []), [36], 14, [], []),
  (36, ([rv_r 80, rv_i 0 8, rv_i 0 19, rv_i 0 9999, rv_i 0 9, rv_i 0 9], [(1, 0, 0, 8, [(.inl 1, 0)], []), rv_r 90], []), [37], 13, [], []),
  (37, ([rv_r 80, rv_i 0 8, rv_i 0 19, rv_i 0 9999, rv_i 0 9, rv_i 0 9], [(1, 0, 0, 9999, [(.inl 3, 0)], []), (1, 0, 0, 8, [(.inl 1, 0)], []), rv_r 90], []), [38], 12, [], []),
  (38, ([rv_r 80, rv_i 0 8, rv_i 0 19, rv_i 0 9999, rv_i 0 9, rv_i 0 9], [], []), [39], 11, [], []),
  (39, ([rv_r 80, rv_i 0 8, rv_i 0 19, rv_i 0 9999, rv_i 0 9, rv_i 0 9], [rv_r 80], []), [40], 10, [], []),
  (40, ([rv_r 80, rv_i 0 8, rv_i 0 19, rv_i 0 9999, rv_i 0 9, rv_i 0 9], [rv_r 91], []), [41], 9, [], []),
  (41, ([rv_r 80, rv_i 0 8, rv_i 0 19, rv_i 0 9999, rv_i 0 9, rv_i 0 9], [(1, 0, 0, 8, [(.inl 1, 0)], []), rv_r 91], []), [42], 8, [], []),
  (42, ([rv_r 80, rv_i 0 8, rv_i 0 19, rv_i 0 9999, rv_i 0 9, rv_i 0 9], [(1, 0, 0, 9, [(.inl 4, 0)], []), (1, 0, 0, 8, [(.inl 1, 0)], []), rv_r 91], []), [43], 7, [], []),
  (43, ([rv_r 80, rv_i 0 8, rv_i 0 19, rv_i 0 9999, rv_i 0 9, rv_i 0 9], [], []), [44], 6, [], []),
  (44, ([rv_r 80, rv_i 0 8, rv_i 0 19, rv_i 0 9999, rv_i 0 9, rv_i 0 9], [rv_r 80], []), [45], 5, [], []),
  (45, ([rv_r 80, rv_i 0 8, rv_i 0 19, rv_i 0 9999, rv_i 0 9, rv_i 0 9], [rv_r 92], []), [46], 4, [], []),
  (46, ([rv_r 80, rv_i 0 8, rv_i 0 19, rv_i 0 9999, rv_i 0 9, rv_i 0 9], [(1, 0, 0, 8, [(.inl 1, 0)], []), rv_r 92], []), [47], 3, [], []),
  (47, ([rv_r 80, rv_i 0 8, rv_i 0 19, rv_i 0 9999, rv_i 0 9, rv_i 0 9], [(1, 0, 0, 9, [(.inl 5, 0)], []), (1, 0, 0, 8, [(.inl 1, 0)], []), rv_r 92], []), [48], 2, [], [])]
def n_X8_porter_0_3 : List rv_N := [
  (48, ([rv_r 80, rv_i 0 8, rv_i 0 19, rv_i 0 9999, rv_i 0 9, rv_i 0 9], [], []), [49], 1, [], []),
  (49, ([rv_r 80, rv_i 0 8, rv_i 0 19, rv_i 0 9999, rv_i 0 9, rv_i 0 9], [rv_i 1 1], []), [], 0, [], [])]
def n_X8_porter_0 : List rv_N := n_X8_porter_0_0 ++ (n_X8_porter_0_1 ++ (n_X8_porter_0_2 ++ (n_X8_porter_0_3)))
noncomputable def gn_X8_porter_0 : Nat → Option rv_N := rv_ap 16 (rv_at n_X8_porter_0_0) (rv_ap 16 (rv_at n_X8_porter_0_1) (rv_ap 16 (rv_at n_X8_porter_0_2) (rv_at n_X8_porter_0_3)))
theorem hn_X8_porter_0 : ∀ i : Nat, n_X8_porter_0[i]? = gn_X8_porter_0 i := rv_ap_eq (l := n_X8_porter_0_0) (c := 16) (rv_ap_eq (l := n_X8_porter_0_1) (c := 16) (rv_ap_eq (l := n_X8_porter_0_2) (c := 16) (rv_at_eq n_X8_porter_0_3) rfl) rfl) rfl
set_option maxRecDepth 100000 in
theorem a_X8_porter_0 : rv_all (fm_tm, flX8, fm_wr, kcX8, klX8, K_X8_porter_0.2.2.1, [1, 2, 3, 4, 5], 6) ct_X8_porter_0 cd_X8_porter n_X8_porter_0 K_X8_porter_0 [] 0 n_X8_porter_0 = true := rv_fast hn_X8_porter_0 hc_X8_porter (by decide +kernel)
theorem m_X8_porter_0 {l : Launch} {D : va_G} {ad : Nat → Nat} {cy : Nat → ClassId} {Z : State → Heap → Prop} (hAd : fm_Ad fm_tm ad) (hZ : fm_Zk (fm_A fm_tm ad) Z) : rv_Met l D fm_cl fm_tm ad cy fm_nt Z fm_G yX8_porter (.code yX8_porter prog_10_method_12_code 6 (some .boolean) :: fm_Ts) { frames := 2, cells := 0, slots := 0, locals := 200 } K_X8_porter_0 := rv_met hAd hZ (Or.inl (by decide +kernel)) evX8 dc_X8_porter a_X8_porter_0 ⟨rfl, rfl, rfl⟩ (by decide +kernel) (by decide +kernel) (by decide) (fm_gm fm_G_gd (by decide +kernel)) (Or.inr ⟨rfl, by decide, by decide⟩) (fun p e s m args below meth c Q X Y => List.forall_mem_cons.mpr ⟨rv_ctS X Y fm_Ts_good dc_X8_porter (pc := 6) (i := 4) (idx := 168) rfl (m_lies_0_8 hAd hZ) wl_X8_168 wm_X8_lies wy_X8_lies (by decide) rfl, List.forall_mem_cons.mpr ⟨rv_ctS X Y fm_Ts_good dc_X8_porter (pc := 13) (i := 7) (idx := 182) rfl (m_X8_isYard_0 hAd hZ) wl_X8_182 wm_X8_isYard wy_X8_isYard (by decide) rfl, List.forall_mem_cons.mpr ⟨rv_ctS X Y fm_Ts_good dc_X8_porter (pc := 25) (i := 13) (idx := 168) rfl (m_lies_0_9999 hAd hZ) wl_X8_168 wm_X8_lies wy_X8_lies (by decide) rfl, List.forall_mem_cons.mpr ⟨rv_ctS X Y fm_Ts_good dc_X8_porter (pc := 33) (i := 16) (idx := 193) rfl (m_X8_isDigit_0 hAd hZ) wl_X8_193 wm_X8_isDigit wy_X8_isDigit (by decide) rfl, List.forall_mem_cons.mpr ⟨rv_ctS X Y fm_Ts_good dc_X8_porter (pc := 41) (i := 19) (idx := 193) rfl (m_X8_isDigit_0 hAd hZ) wl_X8_193 wm_X8_isDigit wy_X8_isDigit (by decide) rfl, fun _ h => absurd h List.not_mem_nil⟩⟩⟩⟩⟩) (fun _ _ _ _ _ _ _ _ _ _ _ _ _ _ _ _ h => absurd h List.not_mem_nil)
def cd_X8_isBeggar : List (Nat × Instr × Nat) := [(0, .iload_n 0, 1), (1, .i2l, 1), (2, .lconst 0, 1), (3, .ldc2_w 172, 3), (6, .invokestatic 168, 3), (9, .ireturn, 1)]
theorem dc_X8_isBeggar : ∀ q ∈ cd_X8_isBeggar, decode prog_10_method_6_code q.1 = .ok (q.2.1, q.2.2) := by decide +kernel
def K_X8_isBeggar_0 : rv_K := ([rv_full], [], [], [(0, 0, 1)], [(.inl 0, 0, 5)], [])
def ct_X8_isBeggar_0 : List (Nat × rv_K) := [(4, K_lies_0_5)]
def n_X8_isBeggar_0 : List rv_N := [
  (0, ([rv_full], [], []), [1], 5, [], []),
  (1, ([rv_full], [(1, 0, (-2147483648), 2147483647, [(.inl 0, 0)], [])], []), [2], 4, [], []),
  (2, ([rv_full], [(3, 0, (-2147483648), 2147483647, [(.inl 0, 0)], [])], []), [3], 3, [], []),
  (3, ([rv_full], [(3, 0, 0, 0, [], []), (3, 0, (-2147483648), 2147483647, [(.inl 0, 0)], [])], []), [4], 2, [], []),
  (4, ([rv_full], [(3, 0, 5, 5, [], []), (3, 0, 0, 0, [], []), (3, 0, (-2147483648), 2147483647, [(.inl 0, 0)], [])], []), [5], 1, [], [0]),
  (5, ([rv_full], [(1, 0, 0, 1, [], [(.inl 0, 0, 5)])], []), [], 0, [], [])]
set_option maxRecDepth 100000 in
theorem a_X8_isBeggar_0 : rv_all (fm_tm, flX8, fm_wr, kcX8, klX8, K_X8_isBeggar_0.2.2.1, [0], 1) ct_X8_isBeggar_0 cd_X8_isBeggar n_X8_isBeggar_0 K_X8_isBeggar_0 [] 0 n_X8_isBeggar_0 = true := rv_fast (rv_at_eq n_X8_isBeggar_0) (rv_at_eq cd_X8_isBeggar) (by decide +kernel)
theorem m_X8_isBeggar_0 {l : Launch} {D : va_G} {ad : Nat → Nat} {cy : Nat → ClassId} {Z : State → Heap → Prop} (hAd : fm_Ad fm_tm ad) (hZ : fm_Zk (fm_A fm_tm ad) Z) : rv_Met l D fm_cl fm_tm ad cy fm_nt Z fm_G yX8_isBeggar (.code yX8_isBeggar prog_10_method_6_code 1 (some .boolean) :: fm_Ts) { frames := 1, cells := 0, slots := 0, locals := 100 } K_X8_isBeggar_0 := rv_met hAd hZ (Or.inl (by decide +kernel)) evX8 dc_X8_isBeggar a_X8_isBeggar_0 ⟨rfl, rfl, rfl⟩ (by decide +kernel) (by decide +kernel) (by decide) (fm_gm fm_G_gd (by decide +kernel)) (Or.inr ⟨rfl, by decide, by decide⟩) (fun p e s m args below meth c Q X Y => List.forall_mem_cons.mpr ⟨rv_ctS X Y fm_Ts_good dc_X8_isBeggar (pc := 6) (i := 4) (idx := 168) rfl (m_lies_0_5 hAd hZ) wl_X8_168 wm_X8_lies wy_X8_lies (by decide) rfl, fun _ h => absurd h List.not_mem_nil⟩) (fun _ _ _ _ _ _ _ _ _ _ _ _ _ _ _ _ h => absurd h List.not_mem_nil)
def cd_X8_licence : List (Nat × Instr × Nat) := [(0, .iload_n 1, 1), (1, .invokestatic 182, 3), (4, .ifCond .eq 15, 3), (7, .iload_n 2, 1), (8, .iconst (-1), 1), (9, .if_icmp .eq 12, 3), (12, .iload_n 2, 1), (13, .invokestatic 198, 3), (16, .ifCond .ne 5, 3), (19, .iconst 0, 1), (20, .ireturn, 1), (21, .aload_n 0, 1), (22, .getfield 28, 3), (25, .iload_n 1, 1), (26, .iload_n 2, 1), (27, .iconst (-1), 1), (28, .if_icmp .ne 8, 3), (31, .bipush 6, 2), (33, .goto 4, 3), (36, .iload_n 2, 1), (37, .iastore, 1), (38, .iconst 1, 1), (39, .ireturn, 1)]
theorem dc_X8_licence : ∀ q ∈ cd_X8_licence, decode prog_10_method_13_code q.1 = .ok (q.2.1, q.2.2) := by decide +kernel
def K_X8_licence_0 : rv_K := ([rv_r 80, rv_full, rv_full], [], [(85, 9999)], [(0, 0, 1)], [(.inl 1, 0, 19), (.inl 2, (-1), 5)], [])
def ct_X8_licence_0 : List (Nat × rv_K) := [(1, K_X8_isYard_0), (7, K_X8_isBeggar_0)]
def n_X8_licence_0_0 : List rv_N := [
  (0, ([rv_r 80, rv_full, rv_full], [], []), [1], 19, [], []),
  (1, ([rv_r 80, rv_full, rv_full], [(1, 0, (-2147483648), 2147483647, [(.inl 1, 0)], [])], []), [2], 18, [], [0]),
  (2, ([rv_r 80, rv_full, rv_full], [(1, 0, 0, 1, [], [(.inl 1, 0, 19)])], []), [3, 9], 17, [], []),
  (3, ([rv_r 80, rv_i 0 19, rv_full], [], []), [4], 16, [], []),
  (4, ([rv_r 80, rv_i 0 19, rv_full], [(1, 0, (-2147483648), 2147483647, [(.inl 2, 0)], [])], []), [5], 15, [], []),
  (5, ([rv_r 80, rv_i 0 19, rv_full], [rv_i (-1) (-1), (1, 0, (-2147483648), 2147483647, [(.inl 2, 0)], [])], []), [6, 11], 14, [], []),
  (6, ([rv_r 80, rv_i 0 19, rv_full], [], []), [7], 13, [], []),
  (7, ([rv_r 80, rv_i 0 19, rv_full], [(1, 0, (-2147483648), 2147483647, [(.inl 2, 0)], [])], []), [8], 12, [], [1]),
  (8, ([rv_r 80, rv_i 0 19, rv_full], [(1, 0, 0, 1, [], [(.inl 2, 0, 5)])], []), [9, 11], 11, [], []),
  (9, ([rv_r 80, rv_full, rv_full], [], []), [10], 1, [], []),
  (10, ([rv_r 80, rv_full, rv_full], [rv_i 0 0], []), [], 0, [], []),
  (11, ([rv_r 80, rv_i 0 19, rv_i (-1) 5], [], []), [12], 10, [], []),
  (12, ([rv_r 80, rv_i 0 19, rv_i (-1) 5], [rv_r 80], []), [13], 9, [], []),
  (13, ([rv_r 80, rv_i 0 19, rv_i (-1) 5], [rv_r 85], []), [14], 8, [], []),
  (14, ([rv_r 80, rv_i 0 19, rv_i (-1) 5], [(1, 0, 0, 19, [(.inl 1, 0)], []), rv_r 85], []), [15], 7, [], []),
  (15, ([rv_r 80, rv_i 0 19, rv_i (-1) 5], [(1, 0, (-1), 5, [(.inl 2, 0)], []), (1, 0, 0, 19, [(.inl 1, 0)], []), rv_r 85], []), [16], 6, [], [])]
def n_X8_licence_0_1 : List rv_N := [
  (16, ([rv_r 80, rv_i 0 19, rv_i (-1) 5], [rv_i (-1) (-1), (1, 0, (-1), 5, [(.inl 2, 0)], []), (1, 0, 0, 19, [(.inl 1, 0)], []), rv_r 85], []), [17, 19], 5, [], []),
  (17, ([rv_r 80, rv_i 0 19, rv_i (-1) (-1)], [(1, 0, 0, 19, [(.inl 1, 0)], []), rv_r 85], []), [18], 4, [], []),
  (18, ([rv_r 80, rv_i 0 19, rv_i (-1) (-1)], [rv_i 6 6, (1, 0, 0, 19, [(.inl 1, 0)], []), rv_r 85], []), [20], 3, [], []),
  (19, ([rv_r 80, rv_i 0 19, rv_i 0 5], [(1, 0, 0, 19, [(.inl 1, 0)], []), rv_r 85], []), [21], 3, [], []),
  (20, ([rv_r 80, rv_i 0 19, rv_i (-1) (-1)], [rv_i 6 6, (1, 0, 0, 19, [(.inl 1, 0)], []), rv_r 85], []), [22], 2, [], []),
  (20, ([rv_r 80, rv_i 0 19, rv_i 0 5], [(1, 0, 0, 5, [(.inl 2, 0)], []), (1, 0, 0, 19, [(.inl 1, 0)], []), rv_r 85], []), [22], 2, [], []),
  (21, ([rv_r 80, rv_i 0 19, rv_i (-1) 5], [], []), [23], 1, [], []),
  (22, ([rv_r 80, rv_i 0 19, rv_i (-1) 5], [rv_i 1 1], []), [], 0, [], [])]
def n_X8_licence_0 : List rv_N := n_X8_licence_0_0 ++ (n_X8_licence_0_1)
noncomputable def gn_X8_licence_0 : Nat → Option rv_N := rv_ap 16 (rv_at n_X8_licence_0_0) (rv_at n_X8_licence_0_1)
theorem hn_X8_licence_0 : ∀ i : Nat, n_X8_licence_0[i]? = gn_X8_licence_0 i := rv_ap_eq (l := n_X8_licence_0_0) (c := 16) (rv_at_eq n_X8_licence_0_1) rfl
set_option maxRecDepth 100000 in
theorem a_X8_licence_0 : rv_all (fm_tm, flX8, fm_wr, kcX8, klX8, K_X8_licence_0.2.2.1, [1, 2], 3) ct_X8_licence_0 cd_X8_licence n_X8_licence_0 K_X8_licence_0 [] 0 n_X8_licence_0 = true := rv_fast hn_X8_licence_0 (rv_at_eq cd_X8_licence) (by decide +kernel)
theorem m_X8_licence_0 {l : Launch} {D : va_G} {ad : Nat → Nat} {cy : Nat → ClassId} {Z : State → Heap → Prop} (hAd : fm_Ad fm_tm ad) (hZ : fm_Zk (fm_A fm_tm ad) Z) : rv_Met l D fm_cl fm_tm ad cy fm_nt Z fm_G yX8_licence (.code yX8_licence prog_10_method_13_code 3 (some .boolean) :: fm_Ts) { frames := 2, cells := 0, slots := 0, locals := 200 } K_X8_licence_0 := rv_met hAd hZ (Or.inl (by decide +kernel)) evX8 dc_X8_licence a_X8_licence_0 ⟨rfl, rfl, rfl⟩ (by decide +kernel) (by decide +kernel) (by decide) (fm_gm fm_G_gd (by decide +kernel)) (Or.inr ⟨rfl, by decide, by decide⟩) (fun p e s m args below meth c Q X Y => List.forall_mem_cons.mpr ⟨rv_ctS X Y fm_Ts_good dc_X8_licence (pc := 1) (i := 1) (idx := 182) rfl (m_X8_isYard_0 hAd hZ) wl_X8_182 wm_X8_isYard wy_X8_isYard (by decide) rfl, List.forall_mem_cons.mpr ⟨rv_ctS X Y fm_Ts_good dc_X8_licence (pc := 13) (i := 7) (idx := 198) rfl (m_X8_isBeggar_0 hAd hZ) wl_X8_198 wm_X8_isBeggar wy_X8_isBeggar (by decide) rfl, fun _ h => absurd h List.not_mem_nil⟩⟩) (fun _ _ _ _ _ _ _ _ _ _ _ _ _ _ _ _ h => absurd h List.not_mem_nil)
def cd_X8_skill : List (Nat × Instr × Nat) := [(0, .iload_n 1, 1), (1, .invokestatic 198, 3), (4, .ifCond .eq 10, 3), (7, .iload_n 2, 1), (8, .invokestatic 193, 3), (11, .ifCond .ne 5, 3), (14, .iconst 0, 1), (15, .ireturn, 1), (16, .aload_n 0, 1), (17, .getfield 31, 3), (20, .iload_n 1, 1), (21, .iload_n 2, 1), (22, .iastore, 1), (23, .iconst 1, 1), (24, .ireturn, 1)]
theorem dc_X8_skill : ∀ q ∈ cd_X8_skill, decode prog_10_method_14_code q.1 = .ok (q.2.1, q.2.2) := by decide +kernel
def K_X8_skill_0 : rv_K := ([rv_r 80, rv_full, rv_full], [], [(86, 9999)], [(0, 0, 1)], [(.inl 1, 0, 5), (.inl 2, 0, 9)], [])
def ct_X8_skill_0 : List (Nat × rv_K) := [(1, K_X8_isBeggar_0), (4, K_X8_isDigit_0)]
def n_X8_skill_0 : List rv_N := [
  (0, ([rv_r 80, rv_full, rv_full], [], []), [1], 12, [], []),
  (1, ([rv_r 80, rv_full, rv_full], [(1, 0, (-2147483648), 2147483647, [(.inl 1, 0)], [])], []), [2], 11, [], [0]),
  (2, ([rv_r 80, rv_full, rv_full], [(1, 0, 0, 1, [], [(.inl 1, 0, 5)])], []), [3, 6], 10, [], []),
  (3, ([rv_r 80, rv_i 0 5, rv_full], [], []), [4], 9, [], []),
  (4, ([rv_r 80, rv_i 0 5, rv_full], [(1, 0, (-2147483648), 2147483647, [(.inl 2, 0)], [])], []), [5], 8, [], [1]),
  (5, ([rv_r 80, rv_i 0 5, rv_full], [(1, 0, 0, 1, [], [(.inl 2, 0, 9)])], []), [6, 8], 7, [], []),
  (6, ([rv_r 80, rv_full, rv_full], [], []), [7], 1, [], []),
  (7, ([rv_r 80, rv_full, rv_full], [rv_i 0 0], []), [], 0, [], []),
  (8, ([rv_r 80, rv_i 0 5, rv_i 0 9], [], []), [9], 6, [], []),
  (9, ([rv_r 80, rv_i 0 5, rv_i 0 9], [rv_r 80], []), [10], 5, [], []),
  (10, ([rv_r 80, rv_i 0 5, rv_i 0 9], [rv_r 86], []), [11], 4, [], []),
  (11, ([rv_r 80, rv_i 0 5, rv_i 0 9], [(1, 0, 0, 5, [(.inl 1, 0)], []), rv_r 86], []), [12], 3, [], []),
  (12, ([rv_r 80, rv_i 0 5, rv_i 0 9], [(1, 0, 0, 9, [(.inl 2, 0)], []), (1, 0, 0, 5, [(.inl 1, 0)], []), rv_r 86], []), [13], 2, [], []),
  (13, ([rv_r 80, rv_i 0 5, rv_i 0 9], [], []), [14], 1, [], []),
  (14, ([rv_r 80, rv_i 0 5, rv_i 0 9], [rv_i 1 1], []), [], 0, [], [])]
set_option maxRecDepth 100000 in
theorem a_X8_skill_0 : rv_all (fm_tm, flX8, fm_wr, kcX8, klX8, K_X8_skill_0.2.2.1, [1, 2], 3) ct_X8_skill_0 cd_X8_skill n_X8_skill_0 K_X8_skill_0 [] 0 n_X8_skill_0 = true := rv_fast (rv_at_eq n_X8_skill_0) (rv_at_eq cd_X8_skill) (by decide +kernel)
theorem m_X8_skill_0 {l : Launch} {D : va_G} {ad : Nat → Nat} {cy : Nat → ClassId} {Z : State → Heap → Prop} (hAd : fm_Ad fm_tm ad) (hZ : fm_Zk (fm_A fm_tm ad) Z) : rv_Met l D fm_cl fm_tm ad cy fm_nt Z fm_G yX8_skill (.code yX8_skill prog_10_method_14_code 3 (some .boolean) :: fm_Ts) { frames := 2, cells := 0, slots := 0, locals := 200 } K_X8_skill_0 := rv_met hAd hZ (Or.inl (by decide +kernel)) evX8 dc_X8_skill a_X8_skill_0 ⟨rfl, rfl, rfl⟩ (by decide +kernel) (by decide +kernel) (by decide) (fm_gm fm_G_gd (by decide +kernel)) (Or.inr ⟨rfl, by decide, by decide⟩) (fun p e s m args below meth c Q X Y => List.forall_mem_cons.mpr ⟨rv_ctS X Y fm_Ts_good dc_X8_skill (pc := 1) (i := 1) (idx := 198) rfl (m_X8_isBeggar_0 hAd hZ) wl_X8_198 wm_X8_isBeggar wy_X8_isBeggar (by decide) rfl, List.forall_mem_cons.mpr ⟨rv_ctS X Y fm_Ts_good dc_X8_skill (pc := 8) (i := 4) (idx := 193) rfl (m_X8_isDigit_0 hAd hZ) wl_X8_193 wm_X8_isDigit wy_X8_isDigit (by decide) rfl, fun _ h => absurd h List.not_mem_nil⟩⟩) (fun _ _ _ _ _ _ _ _ _ _ _ _ _ _ _ _ h => absurd h List.not_mem_nil)
def cd_X8_push : List (Nat × Instr × Nat) := [(0, .bipush 24, 2), (2, .istore_n 2, 1), (3, .iload_n 2, 1), (4, .ifCond .lt 32, 3), (7, .aload_n 0, 1), (8, .getfield 7, 3), (11, .aload_n 0, 1), (12, .getfield 201, 3), (15, .iload_n 1, 1), (16, .iload_n 2, 1), (17, .ishr, 1), (18, .i2b, 1), (19, .bastore, 1), (20, .aload_n 0, 1), (21, .dup, 1), (22, .getfield 201, 3), (25, .iconst 1, 1), (26, .iadd, 1), (27, .putfield 201, 3), (30, .iinc 2 (-8), 3), (33, .goto (-30), 3), (36, .return_, 1)]
theorem dc_X8_push : ∀ q ∈ cd_X8_push, decode prog_10_method_15_code q.1 = .ok (q.2.1, q.2.2) := by decide +kernel
def K_X8_push_0 : rv_K := ([rv_r 80, rv_full], [((80, 1), 0, 200, [])], [(80, 1), (81, 9999)], [], [], [((80, 1), 4, 204, [((80, 1), 4, 4)])])
def ct_X8_push_0 : List (Nat × rv_K) := []
def n_X8_push_0_0 : List rv_N := [
  (0, ([rv_r 80, rv_full, rv_u], [], [((80, 1), 0, 200, [((80, 1), 0, 0)])]), [1], 80, [], []),
  (1, ([rv_r 80, rv_full, rv_u], [rv_i 24 24], [((80, 1), 0, 200, [((80, 1), 0, 0)])]), [5], 79, [], []),
  (2, ([rv_r 80, rv_full, rv_i (-8) (-8)], [], [((80, 1), 4, 204, [((80, 1), 4, 4)])]), [7], 2, [], []),
  (2, ([rv_r 80, rv_full, rv_i 0 0], [], [((80, 1), 3, 203, [((80, 1), 3, 3)])]), [8], 21, [], []),
  (2, ([rv_r 80, rv_full, rv_i 16 16], [], [((80, 1), 1, 201, [((80, 1), 1, 1)])]), [9], 59, [], []),
  (2, ([rv_r 80, rv_full, rv_i 24 24], [], [((80, 1), 0, 200, [((80, 1), 0, 0)])]), [10], 78, [], []),
  (2, ([rv_r 80, rv_full, rv_i 8 8], [], [((80, 1), 2, 202, [((80, 1), 2, 2)])]), [11], 40, [], []),
  (3, ([rv_r 80, rv_full, rv_i (-8) (-8)], [(1, 0, (-8), (-8), [(.inl 2, 0)], [])], [((80, 1), 4, 204, [((80, 1), 4, 4)])]), [80], 1, [], []),
  (3, ([rv_r 80, rv_full, rv_i 0 0], [(1, 0, 0, 0, [(.inl 2, 0)], [])], [((80, 1), 3, 203, [((80, 1), 3, 3)])]), [12], 20, [], []),
  (3, ([rv_r 80, rv_full, rv_i 16 16], [(1, 0, 16, 16, [(.inl 2, 0)], [])], [((80, 1), 1, 201, [((80, 1), 1, 1)])]), [13], 58, [], []),
  (3, ([rv_r 80, rv_full, rv_i 24 24], [(1, 0, 24, 24, [(.inl 2, 0)], [])], [((80, 1), 0, 200, [((80, 1), 0, 0)])]), [14], 77, [], []),
  (3, ([rv_r 80, rv_full, rv_i 8 8], [(1, 0, 8, 8, [(.inl 2, 0)], [])], [((80, 1), 2, 202, [((80, 1), 2, 2)])]), [15], 39, [], []),
  (4, ([rv_r 80, rv_full, rv_i 0 0], [], [((80, 1), 3, 203, [((80, 1), 3, 3)])]), [16], 19, [], []),
  (4, ([rv_r 80, rv_full, rv_i 16 16], [], [((80, 1), 1, 201, [((80, 1), 1, 1)])]), [17], 57, [], []),
  (4, ([rv_r 80, rv_full, rv_i 24 24], [], [((80, 1), 0, 200, [((80, 1), 0, 0)])]), [18], 76, [], []),
  (4, ([rv_r 80, rv_full, rv_i 8 8], [], [((80, 1), 2, 202, [((80, 1), 2, 2)])]), [19], 38, [], [])]
def n_X8_push_0_1 : List rv_N := [
  (5, ([rv_r 80, rv_full, rv_i 0 0], [rv_r 80], [((80, 1), 3, 203, [((80, 1), 3, 3)])]), [20], 18, [], []),
  (5, ([rv_r 80, rv_full, rv_i 16 16], [rv_r 80], [((80, 1), 1, 201, [((80, 1), 1, 1)])]), [21], 56, [], []),
  (5, ([rv_r 80, rv_full, rv_i 24 24], [rv_r 80], [((80, 1), 0, 200, [((80, 1), 0, 0)])]), [22], 75, [], []),
  (5, ([rv_r 80, rv_full, rv_i 8 8], [rv_r 80], [((80, 1), 2, 202, [((80, 1), 2, 2)])]), [23], 37, [], []),
  (6, ([rv_r 80, rv_full, rv_i 0 0], [rv_r 81], [((80, 1), 3, 203, [((80, 1), 3, 3)])]), [24], 17, [], []),
  (6, ([rv_r 80, rv_full, rv_i 16 16], [rv_r 81], [((80, 1), 1, 201, [((80, 1), 1, 1)])]), [25], 55, [], []),
  (6, ([rv_r 80, rv_full, rv_i 24 24], [rv_r 81], [((80, 1), 0, 200, [((80, 1), 0, 0)])]), [26], 74, [], []),
  (6, ([rv_r 80, rv_full, rv_i 8 8], [rv_r 81], [((80, 1), 2, 202, [((80, 1), 2, 2)])]), [27], 36, [], []),
  (7, ([rv_r 80, rv_full, rv_i 0 0], [rv_r 80, rv_r 81], [((80, 1), 3, 203, [((80, 1), 3, 3)])]), [28], 16, [], []),
  (7, ([rv_r 80, rv_full, rv_i 16 16], [rv_r 80, rv_r 81], [((80, 1), 1, 201, [((80, 1), 1, 1)])]), [29], 54, [], []),
  (7, ([rv_r 80, rv_full, rv_i 24 24], [rv_r 80, rv_r 81], [((80, 1), 0, 200, [((80, 1), 0, 0)])]), [30], 73, [], []),
  (7, ([rv_r 80, rv_full, rv_i 8 8], [rv_r 80, rv_r 81], [((80, 1), 2, 202, [((80, 1), 2, 2)])]), [31], 35, [], []),
  (8, ([rv_r 80, rv_full, rv_i 0 0], [(1, 0, 3, 203, [(.inr (80, 1), 0)], []), rv_r 81], [((80, 1), 3, 203, [((80, 1), 3, 3)])]), [32], 15, [], []),
  (8, ([rv_r 80, rv_full, rv_i 16 16], [(1, 0, 1, 201, [(.inr (80, 1), 0)], []), rv_r 81], [((80, 1), 1, 201, [((80, 1), 1, 1)])]), [33], 53, [], []),
  (8, ([rv_r 80, rv_full, rv_i 24 24], [(1, 0, 0, 200, [(.inr (80, 1), 0)], []), rv_r 81], [((80, 1), 0, 200, [((80, 1), 0, 0)])]), [34], 72, [], []),
  (8, ([rv_r 80, rv_full, rv_i 8 8], [(1, 0, 2, 202, [(.inr (80, 1), 0)], []), rv_r 81], [((80, 1), 2, 202, [((80, 1), 2, 2)])]), [35], 34, [], [])]
def n_X8_push_0_2 : List rv_N := [
  (9, ([rv_r 80, rv_full, rv_i 0 0], [(1, 0, (-2147483648), 2147483647, [(.inl 1, 0)], []), (1, 0, 3, 203, [(.inr (80, 1), 0)], []), rv_r 81], [((80, 1), 3, 203, [((80, 1), 3, 3)])]), [36], 14, [], []),
  (9, ([rv_r 80, rv_full, rv_i 16 16], [(1, 0, (-2147483648), 2147483647, [(.inl 1, 0)], []), (1, 0, 1, 201, [(.inr (80, 1), 0)], []), rv_r 81], [((80, 1), 1, 201, [((80, 1), 1, 1)])]), [37], 52, [], []),
  (9, ([rv_r 80, rv_full, rv_i 24 24], [(1, 0, (-2147483648), 2147483647, [(.inl 1, 0)], []), (1, 0, 0, 200, [(.inr (80, 1), 0)], []), rv_r 81], [((80, 1), 0, 200, [((80, 1), 0, 0)])]), [38], 71, [], []),
  (9, ([rv_r 80, rv_full, rv_i 8 8], [(1, 0, (-2147483648), 2147483647, [(.inl 1, 0)], []), (1, 0, 2, 202, [(.inr (80, 1), 0)], []), rv_r 81], [((80, 1), 2, 202, [((80, 1), 2, 2)])]), [39], 33, [], []),
  (10, ([rv_r 80, rv_full, rv_i 0 0], [(1, 0, 0, 0, [(.inl 2, 0)], []), (1, 0, (-2147483648), 2147483647, [(.inl 1, 0)], []), (1, 0, 3, 203, [(.inr (80, 1), 0)], []), rv_r 81], [((80, 1), 3, 203, [((80, 1), 3, 3)])]), [40], 13, [], []),
  (10, ([rv_r 80, rv_full, rv_i 16 16], [(1, 0, 16, 16, [(.inl 2, 0)], []), (1, 0, (-2147483648), 2147483647, [(.inl 1, 0)], []), (1, 0, 1, 201, [(.inr (80, 1), 0)], []), rv_r 81], [((80, 1), 1, 201, [((80, 1), 1, 1)])]), [41], 51, [], []),
  (10, ([rv_r 80, rv_full, rv_i 24 24], [(1, 0, 24, 24, [(.inl 2, 0)], []), (1, 0, (-2147483648), 2147483647, [(.inl 1, 0)], []), (1, 0, 0, 200, [(.inr (80, 1), 0)], []), rv_r 81], [((80, 1), 0, 200, [((80, 1), 0, 0)])]), [42], 70, [], []),
  (10, ([rv_r 80, rv_full, rv_i 8 8], [(1, 0, 8, 8, [(.inl 2, 0)], []), (1, 0, (-2147483648), 2147483647, [(.inl 1, 0)], []), (1, 0, 2, 202, [(.inr (80, 1), 0)], []), rv_r 81], [((80, 1), 2, 202, [((80, 1), 2, 2)])]), [43], 32, [], []),
  (11, ([rv_r 80, rv_full, rv_i 0 0], [rv_full, (1, 0, 3, 203, [(.inr (80, 1), 0)], []), rv_r 81], [((80, 1), 3, 203, [((80, 1), 3, 3)])]), [44], 12, [], []),
  (11, ([rv_r 80, rv_full, rv_i 16 16], [rv_full, (1, 0, 1, 201, [(.inr (80, 1), 0)], []), rv_r 81], [((80, 1), 1, 201, [((80, 1), 1, 1)])]), [45], 50, [], []),
  (11, ([rv_r 80, rv_full, rv_i 24 24], [rv_full, (1, 0, 0, 200, [(.inr (80, 1), 0)], []), rv_r 81], [((80, 1), 0, 200, [((80, 1), 0, 0)])]), [46], 69, [], []),
  (11, ([rv_r 80, rv_full, rv_i 8 8], [rv_full, (1, 0, 2, 202, [(.inr (80, 1), 0)], []), rv_r 81], [((80, 1), 2, 202, [((80, 1), 2, 2)])]), [47], 31, [], []),
  (12, ([rv_r 80, rv_full, rv_i 0 0], [rv_i (-128) 127, (1, 0, 3, 203, [(.inr (80, 1), 0)], []), rv_r 81], [((80, 1), 3, 203, [((80, 1), 3, 3)])]), [48], 11, [], []),
  (12, ([rv_r 80, rv_full, rv_i 16 16], [rv_i (-128) 127, (1, 0, 1, 201, [(.inr (80, 1), 0)], []), rv_r 81], [((80, 1), 1, 201, [((80, 1), 1, 1)])]), [49], 49, [], []),
  (12, ([rv_r 80, rv_full, rv_i 24 24], [rv_i (-128) 127, (1, 0, 0, 200, [(.inr (80, 1), 0)], []), rv_r 81], [((80, 1), 0, 200, [((80, 1), 0, 0)])]), [50], 68, [], []),
  (12, ([rv_r 80, rv_full, rv_i 8 8], [rv_i (-128) 127, (1, 0, 2, 202, [(.inr (80, 1), 0)], []), rv_r 81], [((80, 1), 2, 202, [((80, 1), 2, 2)])]), [51], 30, [], [])]
def n_X8_push_0_3 : List rv_N := [
  (13, ([rv_r 80, rv_full, rv_i 0 0], [], [((80, 1), 3, 203, [((80, 1), 3, 3)])]), [52], 10, [], []),
  (13, ([rv_r 80, rv_full, rv_i 16 16], [], [((80, 1), 1, 201, [((80, 1), 1, 1)])]), [53], 48, [], []),
  (13, ([rv_r 80, rv_full, rv_i 24 24], [], [((80, 1), 0, 200, [((80, 1), 0, 0)])]), [54], 67, [], []),
  (13, ([rv_r 80, rv_full, rv_i 8 8], [], [((80, 1), 2, 202, [((80, 1), 2, 2)])]), [55], 29, [], []),
  (14, ([rv_r 80, rv_full, rv_i 0 0], [rv_r 80], [((80, 1), 3, 203, [((80, 1), 3, 3)])]), [56], 9, [], []),
  (14, ([rv_r 80, rv_full, rv_i 16 16], [rv_r 80], [((80, 1), 1, 201, [((80, 1), 1, 1)])]), [57], 47, [], []),
  (14, ([rv_r 80, rv_full, rv_i 24 24], [rv_r 80], [((80, 1), 0, 200, [((80, 1), 0, 0)])]), [58], 66, [], []),
  (14, ([rv_r 80, rv_full, rv_i 8 8], [rv_r 80], [((80, 1), 2, 202, [((80, 1), 2, 2)])]), [59], 28, [], []),
  (15, ([rv_r 80, rv_full, rv_i 0 0], [rv_r 80, rv_r 80], [((80, 1), 3, 203, [((80, 1), 3, 3)])]), [60], 8, [], []),
  (15, ([rv_r 80, rv_full, rv_i 16 16], [rv_r 80, rv_r 80], [((80, 1), 1, 201, [((80, 1), 1, 1)])]), [61], 46, [], []),
  (15, ([rv_r 80, rv_full, rv_i 24 24], [rv_r 80, rv_r 80], [((80, 1), 0, 200, [((80, 1), 0, 0)])]), [62], 65, [], []),
  (15, ([rv_r 80, rv_full, rv_i 8 8], [rv_r 80, rv_r 80], [((80, 1), 2, 202, [((80, 1), 2, 2)])]), [63], 27, [], []),
  (16, ([rv_r 80, rv_full, rv_i 0 0], [(1, 0, 3, 203, [(.inr (80, 1), 0)], []), rv_r 80], [((80, 1), 3, 203, [((80, 1), 3, 3)])]), [64], 7, [], []),
  (16, ([rv_r 80, rv_full, rv_i 16 16], [(1, 0, 1, 201, [(.inr (80, 1), 0)], []), rv_r 80], [((80, 1), 1, 201, [((80, 1), 1, 1)])]), [65], 45, [], []),
  (16, ([rv_r 80, rv_full, rv_i 24 24], [(1, 0, 0, 200, [(.inr (80, 1), 0)], []), rv_r 80], [((80, 1), 0, 200, [((80, 1), 0, 0)])]), [66], 64, [], []),
  (16, ([rv_r 80, rv_full, rv_i 8 8], [(1, 0, 2, 202, [(.inr (80, 1), 0)], []), rv_r 80], [((80, 1), 2, 202, [((80, 1), 2, 2)])]), [67], 26, [], [])]
def n_X8_push_0_4 : List rv_N := [
  (17, ([rv_r 80, rv_full, rv_i 0 0], [rv_i 1 1, (1, 0, 3, 203, [(.inr (80, 1), 0)], []), rv_r 80], [((80, 1), 3, 203, [((80, 1), 3, 3)])]), [68], 6, [], []),
  (17, ([rv_r 80, rv_full, rv_i 16 16], [rv_i 1 1, (1, 0, 1, 201, [(.inr (80, 1), 0)], []), rv_r 80], [((80, 1), 1, 201, [((80, 1), 1, 1)])]), [69], 44, [], []),
  (17, ([rv_r 80, rv_full, rv_i 24 24], [rv_i 1 1, (1, 0, 0, 200, [(.inr (80, 1), 0)], []), rv_r 80], [((80, 1), 0, 200, [((80, 1), 0, 0)])]), [70], 63, [], []),
  (17, ([rv_r 80, rv_full, rv_i 8 8], [rv_i 1 1, (1, 0, 2, 202, [(.inr (80, 1), 0)], []), rv_r 80], [((80, 1), 2, 202, [((80, 1), 2, 2)])]), [71], 25, [], []),
  (18, ([rv_r 80, rv_full, rv_i 0 0], [(1, 0, 4, 204, [(.inr (80, 1), 1)], []), rv_r 80], [((80, 1), 3, 203, [((80, 1), 3, 3)])]), [72], 5, [], []),
  (18, ([rv_r 80, rv_full, rv_i 16 16], [(1, 0, 2, 202, [(.inr (80, 1), 1)], []), rv_r 80], [((80, 1), 1, 201, [((80, 1), 1, 1)])]), [73], 43, [], []),
  (18, ([rv_r 80, rv_full, rv_i 24 24], [(1, 0, 1, 201, [(.inr (80, 1), 1)], []), rv_r 80], [((80, 1), 0, 200, [((80, 1), 0, 0)])]), [74], 62, [], []),
  (18, ([rv_r 80, rv_full, rv_i 8 8], [(1, 0, 3, 203, [(.inr (80, 1), 1)], []), rv_r 80], [((80, 1), 2, 202, [((80, 1), 2, 2)])]), [75], 24, [], []),
  (19, ([rv_r 80, rv_full, rv_i 0 0], [], [((80, 1), 4, 204, [((80, 1), 4, 4)])]), [76], 4, [], []),
  (19, ([rv_r 80, rv_full, rv_i 16 16], [], [((80, 1), 2, 202, [((80, 1), 2, 2)])]), [79], 42, [], []),
  (19, ([rv_r 80, rv_full, rv_i 24 24], [], [((80, 1), 1, 201, [((80, 1), 1, 1)])]), [78], 61, [], []),
  (19, ([rv_r 80, rv_full, rv_i 8 8], [], [((80, 1), 3, 203, [((80, 1), 3, 3)])]), [77], 23, [], []),
  (20, ([rv_r 80, rv_full, rv_i (-8) (-8)], [], [((80, 1), 4, 204, [((80, 1), 4, 4)])]), [2], 3, [], []),
  (20, ([rv_r 80, rv_full, rv_i 0 0], [], [((80, 1), 3, 203, [((80, 1), 3, 3)])]), [3], 22, [], []),
  (20, ([rv_r 80, rv_full, rv_i 16 16], [], [((80, 1), 1, 201, [((80, 1), 1, 1)])]), [4], 60, [], []),
  (20, ([rv_r 80, rv_full, rv_i 8 8], [], [((80, 1), 2, 202, [((80, 1), 2, 2)])]), [6], 41, [], [])]
def n_X8_push_0_5 : List rv_N := [
  (21, ([rv_r 80, rv_full, rv_i (-8) (-8)], [], [((80, 1), 4, 204, [((80, 1), 4, 4)])]), [], 0, [], [])]
def n_X8_push_0 : List rv_N := n_X8_push_0_0 ++ (n_X8_push_0_1 ++ (n_X8_push_0_2 ++ (n_X8_push_0_3 ++ (n_X8_push_0_4 ++ (n_X8_push_0_5)))))
noncomputable def gn_X8_push_0 : Nat → Option rv_N := rv_ap 16 (rv_at n_X8_push_0_0) (rv_ap 16 (rv_at n_X8_push_0_1) (rv_ap 16 (rv_at n_X8_push_0_2) (rv_ap 16 (rv_at n_X8_push_0_3) (rv_ap 16 (rv_at n_X8_push_0_4) (rv_at n_X8_push_0_5)))))
theorem hn_X8_push_0 : ∀ i : Nat, n_X8_push_0[i]? = gn_X8_push_0 i := rv_ap_eq (l := n_X8_push_0_0) (c := 16) (rv_ap_eq (l := n_X8_push_0_1) (c := 16) (rv_ap_eq (l := n_X8_push_0_2) (c := 16) (rv_ap_eq (l := n_X8_push_0_3) (c := 16) (rv_ap_eq (l := n_X8_push_0_4) (c := 16) (rv_at_eq n_X8_push_0_5) rfl) rfl) rfl) rfl) rfl
set_option maxRecDepth 100000 in
theorem a_X8_push_0 : rv_all (fm_tm, flX8, fm_wr, kcX8, klX8, K_X8_push_0.2.2.1, [], 3) ct_X8_push_0 cd_X8_push n_X8_push_0 K_X8_push_0 [] 0 n_X8_push_0 = true := rv_fast hn_X8_push_0 (rv_at_eq cd_X8_push) (by decide +kernel)
theorem m_X8_push_0 {l : Launch} {D : va_G} {ad : Nat → Nat} {cy : Nat → ClassId} {Z : State → Heap → Prop} (hAd : fm_Ad fm_tm ad) (hZ : fm_Zk (fm_A fm_tm ad) Z) : rv_Met l D fm_cl fm_tm ad cy fm_nt Z fm_G yX8_push (.code yX8_push prog_10_method_15_code 3 none :: fm_Ts) { frames := 0, cells := 0, slots := 0, locals := 0 } K_X8_push_0 := rv_met hAd hZ (Or.inl (by decide +kernel)) evX8 dc_X8_push a_X8_push_0 ⟨rfl, rfl, rfl⟩ (by decide +kernel) (by decide +kernel) (by decide) (fm_gm fm_G_gd (by decide +kernel)) (rfl) (fun p e s m args below meth c Q X Y => fun _ h => absurd h List.not_mem_nil) (fun _ _ _ _ _ _ _ _ _ _ _ _ _ _ _ _ h => absurd h List.not_mem_nil)
def K_X8_push_1 : rv_K := ([rv_r 80, rv_full], [((80, 1), 0, 204, [])], [(80, 1), (81, 9999)], [], [], [((80, 1), 4, 208, [((80, 1), 4, 4)])])
def ct_X8_push_1 : List (Nat × rv_K) := []
def n_X8_push_1_0 : List rv_N := [
  (0, ([rv_r 80, rv_full, rv_u], [], [((80, 1), 0, 204, [((80, 1), 0, 0)])]), [1], 80, [], []),
  (1, ([rv_r 80, rv_full, rv_u], [rv_i 24 24], [((80, 1), 0, 204, [((80, 1), 0, 0)])]), [5], 79, [], []),
  (2, ([rv_r 80, rv_full, rv_i (-8) (-8)], [], [((80, 1), 4, 208, [((80, 1), 4, 4)])]), [7], 2, [], []),
  (2, ([rv_r 80, rv_full, rv_i 0 0], [], [((80, 1), 3, 207, [((80, 1), 3, 3)])]), [8], 21, [], []),
  (2, ([rv_r 80, rv_full, rv_i 16 16], [], [((80, 1), 1, 205, [((80, 1), 1, 1)])]), [9], 59, [], []),
  (2, ([rv_r 80, rv_full, rv_i 24 24], [], [((80, 1), 0, 204, [((80, 1), 0, 0)])]), [10], 78, [], []),
  (2, ([rv_r 80, rv_full, rv_i 8 8], [], [((80, 1), 2, 206, [((80, 1), 2, 2)])]), [11], 40, [], []),
  (3, ([rv_r 80, rv_full, rv_i (-8) (-8)], [(1, 0, (-8), (-8), [(.inl 2, 0)], [])], [((80, 1), 4, 208, [((80, 1), 4, 4)])]), [80], 1, [], []),
  (3, ([rv_r 80, rv_full, rv_i 0 0], [(1, 0, 0, 0, [(.inl 2, 0)], [])], [((80, 1), 3, 207, [((80, 1), 3, 3)])]), [12], 20, [], []),
  (3, ([rv_r 80, rv_full, rv_i 16 16], [(1, 0, 16, 16, [(.inl 2, 0)], [])], [((80, 1), 1, 205, [((80, 1), 1, 1)])]), [13], 58, [], []),
  (3, ([rv_r 80, rv_full, rv_i 24 24], [(1, 0, 24, 24, [(.inl 2, 0)], [])], [((80, 1), 0, 204, [((80, 1), 0, 0)])]), [14], 77, [], []),
  (3, ([rv_r 80, rv_full, rv_i 8 8], [(1, 0, 8, 8, [(.inl 2, 0)], [])], [((80, 1), 2, 206, [((80, 1), 2, 2)])]), [15], 39, [], []),
  (4, ([rv_r 80, rv_full, rv_i 0 0], [], [((80, 1), 3, 207, [((80, 1), 3, 3)])]), [16], 19, [], []),
  (4, ([rv_r 80, rv_full, rv_i 16 16], [], [((80, 1), 1, 205, [((80, 1), 1, 1)])]), [17], 57, [], []),
  (4, ([rv_r 80, rv_full, rv_i 24 24], [], [((80, 1), 0, 204, [((80, 1), 0, 0)])]), [18], 76, [], []),
  (4, ([rv_r 80, rv_full, rv_i 8 8], [], [((80, 1), 2, 206, [((80, 1), 2, 2)])]), [19], 38, [], [])]
def n_X8_push_1_1 : List rv_N := [
  (5, ([rv_r 80, rv_full, rv_i 0 0], [rv_r 80], [((80, 1), 3, 207, [((80, 1), 3, 3)])]), [20], 18, [], []),
  (5, ([rv_r 80, rv_full, rv_i 16 16], [rv_r 80], [((80, 1), 1, 205, [((80, 1), 1, 1)])]), [21], 56, [], []),
  (5, ([rv_r 80, rv_full, rv_i 24 24], [rv_r 80], [((80, 1), 0, 204, [((80, 1), 0, 0)])]), [22], 75, [], []),
  (5, ([rv_r 80, rv_full, rv_i 8 8], [rv_r 80], [((80, 1), 2, 206, [((80, 1), 2, 2)])]), [23], 37, [], []),
  (6, ([rv_r 80, rv_full, rv_i 0 0], [rv_r 81], [((80, 1), 3, 207, [((80, 1), 3, 3)])]), [24], 17, [], []),
  (6, ([rv_r 80, rv_full, rv_i 16 16], [rv_r 81], [((80, 1), 1, 205, [((80, 1), 1, 1)])]), [25], 55, [], []),
  (6, ([rv_r 80, rv_full, rv_i 24 24], [rv_r 81], [((80, 1), 0, 204, [((80, 1), 0, 0)])]), [26], 74, [], []),
  (6, ([rv_r 80, rv_full, rv_i 8 8], [rv_r 81], [((80, 1), 2, 206, [((80, 1), 2, 2)])]), [27], 36, [], []),
  (7, ([rv_r 80, rv_full, rv_i 0 0], [rv_r 80, rv_r 81], [((80, 1), 3, 207, [((80, 1), 3, 3)])]), [28], 16, [], []),
  (7, ([rv_r 80, rv_full, rv_i 16 16], [rv_r 80, rv_r 81], [((80, 1), 1, 205, [((80, 1), 1, 1)])]), [29], 54, [], []),
  (7, ([rv_r 80, rv_full, rv_i 24 24], [rv_r 80, rv_r 81], [((80, 1), 0, 204, [((80, 1), 0, 0)])]), [30], 73, [], []),
  (7, ([rv_r 80, rv_full, rv_i 8 8], [rv_r 80, rv_r 81], [((80, 1), 2, 206, [((80, 1), 2, 2)])]), [31], 35, [], []),
  (8, ([rv_r 80, rv_full, rv_i 0 0], [(1, 0, 3, 207, [(.inr (80, 1), 0)], []), rv_r 81], [((80, 1), 3, 207, [((80, 1), 3, 3)])]), [32], 15, [], []),
  (8, ([rv_r 80, rv_full, rv_i 16 16], [(1, 0, 1, 205, [(.inr (80, 1), 0)], []), rv_r 81], [((80, 1), 1, 205, [((80, 1), 1, 1)])]), [33], 53, [], []),
  (8, ([rv_r 80, rv_full, rv_i 24 24], [(1, 0, 0, 204, [(.inr (80, 1), 0)], []), rv_r 81], [((80, 1), 0, 204, [((80, 1), 0, 0)])]), [34], 72, [], []),
  (8, ([rv_r 80, rv_full, rv_i 8 8], [(1, 0, 2, 206, [(.inr (80, 1), 0)], []), rv_r 81], [((80, 1), 2, 206, [((80, 1), 2, 2)])]), [35], 34, [], [])]
def n_X8_push_1_2 : List rv_N := [
  (9, ([rv_r 80, rv_full, rv_i 0 0], [(1, 0, (-2147483648), 2147483647, [(.inl 1, 0)], []), (1, 0, 3, 207, [(.inr (80, 1), 0)], []), rv_r 81], [((80, 1), 3, 207, [((80, 1), 3, 3)])]), [36], 14, [], []),
  (9, ([rv_r 80, rv_full, rv_i 16 16], [(1, 0, (-2147483648), 2147483647, [(.inl 1, 0)], []), (1, 0, 1, 205, [(.inr (80, 1), 0)], []), rv_r 81], [((80, 1), 1, 205, [((80, 1), 1, 1)])]), [37], 52, [], []),
  (9, ([rv_r 80, rv_full, rv_i 24 24], [(1, 0, (-2147483648), 2147483647, [(.inl 1, 0)], []), (1, 0, 0, 204, [(.inr (80, 1), 0)], []), rv_r 81], [((80, 1), 0, 204, [((80, 1), 0, 0)])]), [38], 71, [], []),
  (9, ([rv_r 80, rv_full, rv_i 8 8], [(1, 0, (-2147483648), 2147483647, [(.inl 1, 0)], []), (1, 0, 2, 206, [(.inr (80, 1), 0)], []), rv_r 81], [((80, 1), 2, 206, [((80, 1), 2, 2)])]), [39], 33, [], []),
  (10, ([rv_r 80, rv_full, rv_i 0 0], [(1, 0, 0, 0, [(.inl 2, 0)], []), (1, 0, (-2147483648), 2147483647, [(.inl 1, 0)], []), (1, 0, 3, 207, [(.inr (80, 1), 0)], []), rv_r 81], [((80, 1), 3, 207, [((80, 1), 3, 3)])]), [40], 13, [], []),
  (10, ([rv_r 80, rv_full, rv_i 16 16], [(1, 0, 16, 16, [(.inl 2, 0)], []), (1, 0, (-2147483648), 2147483647, [(.inl 1, 0)], []), (1, 0, 1, 205, [(.inr (80, 1), 0)], []), rv_r 81], [((80, 1), 1, 205, [((80, 1), 1, 1)])]), [41], 51, [], []),
  (10, ([rv_r 80, rv_full, rv_i 24 24], [(1, 0, 24, 24, [(.inl 2, 0)], []), (1, 0, (-2147483648), 2147483647, [(.inl 1, 0)], []), (1, 0, 0, 204, [(.inr (80, 1), 0)], []), rv_r 81], [((80, 1), 0, 204, [((80, 1), 0, 0)])]), [42], 70, [], []),
  (10, ([rv_r 80, rv_full, rv_i 8 8], [(1, 0, 8, 8, [(.inl 2, 0)], []), (1, 0, (-2147483648), 2147483647, [(.inl 1, 0)], []), (1, 0, 2, 206, [(.inr (80, 1), 0)], []), rv_r 81], [((80, 1), 2, 206, [((80, 1), 2, 2)])]), [43], 32, [], []),
  (11, ([rv_r 80, rv_full, rv_i 0 0], [rv_full, (1, 0, 3, 207, [(.inr (80, 1), 0)], []), rv_r 81], [((80, 1), 3, 207, [((80, 1), 3, 3)])]), [44], 12, [], []),
  (11, ([rv_r 80, rv_full, rv_i 16 16], [rv_full, (1, 0, 1, 205, [(.inr (80, 1), 0)], []), rv_r 81], [((80, 1), 1, 205, [((80, 1), 1, 1)])]), [45], 50, [], []),
  (11, ([rv_r 80, rv_full, rv_i 24 24], [rv_full, (1, 0, 0, 204, [(.inr (80, 1), 0)], []), rv_r 81], [((80, 1), 0, 204, [((80, 1), 0, 0)])]), [46], 69, [], []),
  (11, ([rv_r 80, rv_full, rv_i 8 8], [rv_full, (1, 0, 2, 206, [(.inr (80, 1), 0)], []), rv_r 81], [((80, 1), 2, 206, [((80, 1), 2, 2)])]), [47], 31, [], []),
  (12, ([rv_r 80, rv_full, rv_i 0 0], [rv_i (-128) 127, (1, 0, 3, 207, [(.inr (80, 1), 0)], []), rv_r 81], [((80, 1), 3, 207, [((80, 1), 3, 3)])]), [48], 11, [], []),
  (12, ([rv_r 80, rv_full, rv_i 16 16], [rv_i (-128) 127, (1, 0, 1, 205, [(.inr (80, 1), 0)], []), rv_r 81], [((80, 1), 1, 205, [((80, 1), 1, 1)])]), [49], 49, [], []),
  (12, ([rv_r 80, rv_full, rv_i 24 24], [rv_i (-128) 127, (1, 0, 0, 204, [(.inr (80, 1), 0)], []), rv_r 81], [((80, 1), 0, 204, [((80, 1), 0, 0)])]), [50], 68, [], []),
  (12, ([rv_r 80, rv_full, rv_i 8 8], [rv_i (-128) 127, (1, 0, 2, 206, [(.inr (80, 1), 0)], []), rv_r 81], [((80, 1), 2, 206, [((80, 1), 2, 2)])]), [51], 30, [], [])]
def n_X8_push_1_3 : List rv_N := [
  (13, ([rv_r 80, rv_full, rv_i 0 0], [], [((80, 1), 3, 207, [((80, 1), 3, 3)])]), [52], 10, [], []),
  (13, ([rv_r 80, rv_full, rv_i 16 16], [], [((80, 1), 1, 205, [((80, 1), 1, 1)])]), [53], 48, [], []),
  (13, ([rv_r 80, rv_full, rv_i 24 24], [], [((80, 1), 0, 204, [((80, 1), 0, 0)])]), [54], 67, [], []),
  (13, ([rv_r 80, rv_full, rv_i 8 8], [], [((80, 1), 2, 206, [((80, 1), 2, 2)])]), [55], 29, [], []),
  (14, ([rv_r 80, rv_full, rv_i 0 0], [rv_r 80], [((80, 1), 3, 207, [((80, 1), 3, 3)])]), [56], 9, [], []),
  (14, ([rv_r 80, rv_full, rv_i 16 16], [rv_r 80], [((80, 1), 1, 205, [((80, 1), 1, 1)])]), [57], 47, [], []),
  (14, ([rv_r 80, rv_full, rv_i 24 24], [rv_r 80], [((80, 1), 0, 204, [((80, 1), 0, 0)])]), [58], 66, [], []),
  (14, ([rv_r 80, rv_full, rv_i 8 8], [rv_r 80], [((80, 1), 2, 206, [((80, 1), 2, 2)])]), [59], 28, [], []),
  (15, ([rv_r 80, rv_full, rv_i 0 0], [rv_r 80, rv_r 80], [((80, 1), 3, 207, [((80, 1), 3, 3)])]), [60], 8, [], []),
  (15, ([rv_r 80, rv_full, rv_i 16 16], [rv_r 80, rv_r 80], [((80, 1), 1, 205, [((80, 1), 1, 1)])]), [61], 46, [], []),
  (15, ([rv_r 80, rv_full, rv_i 24 24], [rv_r 80, rv_r 80], [((80, 1), 0, 204, [((80, 1), 0, 0)])]), [62], 65, [], []),
  (15, ([rv_r 80, rv_full, rv_i 8 8], [rv_r 80, rv_r 80], [((80, 1), 2, 206, [((80, 1), 2, 2)])]), [63], 27, [], []),
  (16, ([rv_r 80, rv_full, rv_i 0 0], [(1, 0, 3, 207, [(.inr (80, 1), 0)], []), rv_r 80], [((80, 1), 3, 207, [((80, 1), 3, 3)])]), [64], 7, [], []),
  (16, ([rv_r 80, rv_full, rv_i 16 16], [(1, 0, 1, 205, [(.inr (80, 1), 0)], []), rv_r 80], [((80, 1), 1, 205, [((80, 1), 1, 1)])]), [65], 45, [], []),
  (16, ([rv_r 80, rv_full, rv_i 24 24], [(1, 0, 0, 204, [(.inr (80, 1), 0)], []), rv_r 80], [((80, 1), 0, 204, [((80, 1), 0, 0)])]), [66], 64, [], []),
  (16, ([rv_r 80, rv_full, rv_i 8 8], [(1, 0, 2, 206, [(.inr (80, 1), 0)], []), rv_r 80], [((80, 1), 2, 206, [((80, 1), 2, 2)])]), [67], 26, [], [])]
def n_X8_push_1_4 : List rv_N := [
  (17, ([rv_r 80, rv_full, rv_i 0 0], [rv_i 1 1, (1, 0, 3, 207, [(.inr (80, 1), 0)], []), rv_r 80], [((80, 1), 3, 207, [((80, 1), 3, 3)])]), [68], 6, [], []),
  (17, ([rv_r 80, rv_full, rv_i 16 16], [rv_i 1 1, (1, 0, 1, 205, [(.inr (80, 1), 0)], []), rv_r 80], [((80, 1), 1, 205, [((80, 1), 1, 1)])]), [69], 44, [], []),
  (17, ([rv_r 80, rv_full, rv_i 24 24], [rv_i 1 1, (1, 0, 0, 204, [(.inr (80, 1), 0)], []), rv_r 80], [((80, 1), 0, 204, [((80, 1), 0, 0)])]), [70], 63, [], []),
  (17, ([rv_r 80, rv_full, rv_i 8 8], [rv_i 1 1, (1, 0, 2, 206, [(.inr (80, 1), 0)], []), rv_r 80], [((80, 1), 2, 206, [((80, 1), 2, 2)])]), [71], 25, [], []),
  (18, ([rv_r 80, rv_full, rv_i 0 0], [(1, 0, 4, 208, [(.inr (80, 1), 1)], []), rv_r 80], [((80, 1), 3, 207, [((80, 1), 3, 3)])]), [72], 5, [], []),
  (18, ([rv_r 80, rv_full, rv_i 16 16], [(1, 0, 2, 206, [(.inr (80, 1), 1)], []), rv_r 80], [((80, 1), 1, 205, [((80, 1), 1, 1)])]), [73], 43, [], []),
  (18, ([rv_r 80, rv_full, rv_i 24 24], [(1, 0, 1, 205, [(.inr (80, 1), 1)], []), rv_r 80], [((80, 1), 0, 204, [((80, 1), 0, 0)])]), [74], 62, [], []),
  (18, ([rv_r 80, rv_full, rv_i 8 8], [(1, 0, 3, 207, [(.inr (80, 1), 1)], []), rv_r 80], [((80, 1), 2, 206, [((80, 1), 2, 2)])]), [75], 24, [], []),
  (19, ([rv_r 80, rv_full, rv_i 0 0], [], [((80, 1), 4, 208, [((80, 1), 4, 4)])]), [76], 4, [], []),
  (19, ([rv_r 80, rv_full, rv_i 16 16], [], [((80, 1), 2, 206, [((80, 1), 2, 2)])]), [79], 42, [], []),
  (19, ([rv_r 80, rv_full, rv_i 24 24], [], [((80, 1), 1, 205, [((80, 1), 1, 1)])]), [78], 61, [], []),
  (19, ([rv_r 80, rv_full, rv_i 8 8], [], [((80, 1), 3, 207, [((80, 1), 3, 3)])]), [77], 23, [], []),
  (20, ([rv_r 80, rv_full, rv_i (-8) (-8)], [], [((80, 1), 4, 208, [((80, 1), 4, 4)])]), [2], 3, [], []),
  (20, ([rv_r 80, rv_full, rv_i 0 0], [], [((80, 1), 3, 207, [((80, 1), 3, 3)])]), [3], 22, [], []),
  (20, ([rv_r 80, rv_full, rv_i 16 16], [], [((80, 1), 1, 205, [((80, 1), 1, 1)])]), [4], 60, [], []),
  (20, ([rv_r 80, rv_full, rv_i 8 8], [], [((80, 1), 2, 206, [((80, 1), 2, 2)])]), [6], 41, [], [])]
def n_X8_push_1_5 : List rv_N := [
  (21, ([rv_r 80, rv_full, rv_i (-8) (-8)], [], [((80, 1), 4, 208, [((80, 1), 4, 4)])]), [], 0, [], [])]
def n_X8_push_1 : List rv_N := n_X8_push_1_0 ++ (n_X8_push_1_1 ++ (n_X8_push_1_2 ++ (n_X8_push_1_3 ++ (n_X8_push_1_4 ++ (n_X8_push_1_5)))))
noncomputable def gn_X8_push_1 : Nat → Option rv_N := rv_ap 16 (rv_at n_X8_push_1_0) (rv_ap 16 (rv_at n_X8_push_1_1) (rv_ap 16 (rv_at n_X8_push_1_2) (rv_ap 16 (rv_at n_X8_push_1_3) (rv_ap 16 (rv_at n_X8_push_1_4) (rv_at n_X8_push_1_5)))))
theorem hn_X8_push_1 : ∀ i : Nat, n_X8_push_1[i]? = gn_X8_push_1 i := rv_ap_eq (l := n_X8_push_1_0) (c := 16) (rv_ap_eq (l := n_X8_push_1_1) (c := 16) (rv_ap_eq (l := n_X8_push_1_2) (c := 16) (rv_ap_eq (l := n_X8_push_1_3) (c := 16) (rv_ap_eq (l := n_X8_push_1_4) (c := 16) (rv_at_eq n_X8_push_1_5) rfl) rfl) rfl) rfl) rfl
set_option maxRecDepth 100000 in
theorem a_X8_push_1 : rv_all (fm_tm, flX8, fm_wr, kcX8, klX8, K_X8_push_1.2.2.1, [], 3) ct_X8_push_1 cd_X8_push n_X8_push_1 K_X8_push_1 [] 0 n_X8_push_1 = true := rv_fast hn_X8_push_1 (rv_at_eq cd_X8_push) (by decide +kernel)
theorem m_X8_push_1 {l : Launch} {D : va_G} {ad : Nat → Nat} {cy : Nat → ClassId} {Z : State → Heap → Prop} (hAd : fm_Ad fm_tm ad) (hZ : fm_Zk (fm_A fm_tm ad) Z) : rv_Met l D fm_cl fm_tm ad cy fm_nt Z fm_G yX8_push (.code yX8_push prog_10_method_15_code 3 none :: fm_Ts) { frames := 0, cells := 0, slots := 0, locals := 0 } K_X8_push_1 := rv_met hAd hZ (Or.inl (by decide +kernel)) evX8 dc_X8_push a_X8_push_1 ⟨rfl, rfl, rfl⟩ (by decide +kernel) (by decide +kernel) (by decide) (fm_gm fm_G_gd (by decide +kernel)) (rfl) (fun p e s m args below meth c Q X Y => fun _ h => absurd h List.not_mem_nil) (fun _ _ _ _ _ _ _ _ _ _ _ _ _ _ _ _ h => absurd h List.not_mem_nil)
def K_X8_push_2 : rv_K := ([rv_r 80, rv_full], [((80, 1), 0, 208, [])], [(80, 1), (81, 9999)], [], [], [((80, 1), 4, 212, [((80, 1), 4, 4)])])
def ct_X8_push_2 : List (Nat × rv_K) := []
def n_X8_push_2_0 : List rv_N := [
  (0, ([rv_r 80, rv_full, rv_u], [], [((80, 1), 0, 208, [((80, 1), 0, 0)])]), [1], 80, [], []),
  (1, ([rv_r 80, rv_full, rv_u], [rv_i 24 24], [((80, 1), 0, 208, [((80, 1), 0, 0)])]), [5], 79, [], []),
  (2, ([rv_r 80, rv_full, rv_i (-8) (-8)], [], [((80, 1), 4, 212, [((80, 1), 4, 4)])]), [7], 2, [], []),
  (2, ([rv_r 80, rv_full, rv_i 0 0], [], [((80, 1), 3, 211, [((80, 1), 3, 3)])]), [8], 21, [], []),
  (2, ([rv_r 80, rv_full, rv_i 16 16], [], [((80, 1), 1, 209, [((80, 1), 1, 1)])]), [9], 59, [], []),
  (2, ([rv_r 80, rv_full, rv_i 24 24], [], [((80, 1), 0, 208, [((80, 1), 0, 0)])]), [10], 78, [], []),
  (2, ([rv_r 80, rv_full, rv_i 8 8], [], [((80, 1), 2, 210, [((80, 1), 2, 2)])]), [11], 40, [], []),
  (3, ([rv_r 80, rv_full, rv_i (-8) (-8)], [(1, 0, (-8), (-8), [(.inl 2, 0)], [])], [((80, 1), 4, 212, [((80, 1), 4, 4)])]), [80], 1, [], []),
  (3, ([rv_r 80, rv_full, rv_i 0 0], [(1, 0, 0, 0, [(.inl 2, 0)], [])], [((80, 1), 3, 211, [((80, 1), 3, 3)])]), [12], 20, [], []),
  (3, ([rv_r 80, rv_full, rv_i 16 16], [(1, 0, 16, 16, [(.inl 2, 0)], [])], [((80, 1), 1, 209, [((80, 1), 1, 1)])]), [13], 58, [], []),
  (3, ([rv_r 80, rv_full, rv_i 24 24], [(1, 0, 24, 24, [(.inl 2, 0)], [])], [((80, 1), 0, 208, [((80, 1), 0, 0)])]), [14], 77, [], []),
  (3, ([rv_r 80, rv_full, rv_i 8 8], [(1, 0, 8, 8, [(.inl 2, 0)], [])], [((80, 1), 2, 210, [((80, 1), 2, 2)])]), [15], 39, [], []),
  (4, ([rv_r 80, rv_full, rv_i 0 0], [], [((80, 1), 3, 211, [((80, 1), 3, 3)])]), [16], 19, [], []),
  (4, ([rv_r 80, rv_full, rv_i 16 16], [], [((80, 1), 1, 209, [((80, 1), 1, 1)])]), [17], 57, [], []),
  (4, ([rv_r 80, rv_full, rv_i 24 24], [], [((80, 1), 0, 208, [((80, 1), 0, 0)])]), [18], 76, [], []),
  (4, ([rv_r 80, rv_full, rv_i 8 8], [], [((80, 1), 2, 210, [((80, 1), 2, 2)])]), [19], 38, [], [])]
def n_X8_push_2_1 : List rv_N := [
  (5, ([rv_r 80, rv_full, rv_i 0 0], [rv_r 80], [((80, 1), 3, 211, [((80, 1), 3, 3)])]), [20], 18, [], []),
  (5, ([rv_r 80, rv_full, rv_i 16 16], [rv_r 80], [((80, 1), 1, 209, [((80, 1), 1, 1)])]), [21], 56, [], []),
  (5, ([rv_r 80, rv_full, rv_i 24 24], [rv_r 80], [((80, 1), 0, 208, [((80, 1), 0, 0)])]), [22], 75, [], []),
  (5, ([rv_r 80, rv_full, rv_i 8 8], [rv_r 80], [((80, 1), 2, 210, [((80, 1), 2, 2)])]), [23], 37, [], []),
  (6, ([rv_r 80, rv_full, rv_i 0 0], [rv_r 81], [((80, 1), 3, 211, [((80, 1), 3, 3)])]), [24], 17, [], []),
  (6, ([rv_r 80, rv_full, rv_i 16 16], [rv_r 81], [((80, 1), 1, 209, [((80, 1), 1, 1)])]), [25], 55, [], []),
  (6, ([rv_r 80, rv_full, rv_i 24 24], [rv_r 81], [((80, 1), 0, 208, [((80, 1), 0, 0)])]), [26], 74, [], []),
  (6, ([rv_r 80, rv_full, rv_i 8 8], [rv_r 81], [((80, 1), 2, 210, [((80, 1), 2, 2)])]), [27], 36, [], []),
  (7, ([rv_r 80, rv_full, rv_i 0 0], [rv_r 80, rv_r 81], [((80, 1), 3, 211, [((80, 1), 3, 3)])]), [28], 16, [], []),
  (7, ([rv_r 80, rv_full, rv_i 16 16], [rv_r 80, rv_r 81], [((80, 1), 1, 209, [((80, 1), 1, 1)])]), [29], 54, [], []),
  (7, ([rv_r 80, rv_full, rv_i 24 24], [rv_r 80, rv_r 81], [((80, 1), 0, 208, [((80, 1), 0, 0)])]), [30], 73, [], []),
  (7, ([rv_r 80, rv_full, rv_i 8 8], [rv_r 80, rv_r 81], [((80, 1), 2, 210, [((80, 1), 2, 2)])]), [31], 35, [], []),
  (8, ([rv_r 80, rv_full, rv_i 0 0], [(1, 0, 3, 211, [(.inr (80, 1), 0)], []), rv_r 81], [((80, 1), 3, 211, [((80, 1), 3, 3)])]), [32], 15, [], []),
  (8, ([rv_r 80, rv_full, rv_i 16 16], [(1, 0, 1, 209, [(.inr (80, 1), 0)], []), rv_r 81], [((80, 1), 1, 209, [((80, 1), 1, 1)])]), [33], 53, [], []),
  (8, ([rv_r 80, rv_full, rv_i 24 24], [(1, 0, 0, 208, [(.inr (80, 1), 0)], []), rv_r 81], [((80, 1), 0, 208, [((80, 1), 0, 0)])]), [34], 72, [], []),
  (8, ([rv_r 80, rv_full, rv_i 8 8], [(1, 0, 2, 210, [(.inr (80, 1), 0)], []), rv_r 81], [((80, 1), 2, 210, [((80, 1), 2, 2)])]), [35], 34, [], [])]
def n_X8_push_2_2 : List rv_N := [
  (9, ([rv_r 80, rv_full, rv_i 0 0], [(1, 0, (-2147483648), 2147483647, [(.inl 1, 0)], []), (1, 0, 3, 211, [(.inr (80, 1), 0)], []), rv_r 81], [((80, 1), 3, 211, [((80, 1), 3, 3)])]), [36], 14, [], []),
  (9, ([rv_r 80, rv_full, rv_i 16 16], [(1, 0, (-2147483648), 2147483647, [(.inl 1, 0)], []), (1, 0, 1, 209, [(.inr (80, 1), 0)], []), rv_r 81], [((80, 1), 1, 209, [((80, 1), 1, 1)])]), [37], 52, [], []),
  (9, ([rv_r 80, rv_full, rv_i 24 24], [(1, 0, (-2147483648), 2147483647, [(.inl 1, 0)], []), (1, 0, 0, 208, [(.inr (80, 1), 0)], []), rv_r 81], [((80, 1), 0, 208, [((80, 1), 0, 0)])]), [38], 71, [], []),
  (9, ([rv_r 80, rv_full, rv_i 8 8], [(1, 0, (-2147483648), 2147483647, [(.inl 1, 0)], []), (1, 0, 2, 210, [(.inr (80, 1), 0)], []), rv_r 81], [((80, 1), 2, 210, [((80, 1), 2, 2)])]), [39], 33, [], []),
  (10, ([rv_r 80, rv_full, rv_i 0 0], [(1, 0, 0, 0, [(.inl 2, 0)], []), (1, 0, (-2147483648), 2147483647, [(.inl 1, 0)], []), (1, 0, 3, 211, [(.inr (80, 1), 0)], []), rv_r 81], [((80, 1), 3, 211, [((80, 1), 3, 3)])]), [40], 13, [], []),
  (10, ([rv_r 80, rv_full, rv_i 16 16], [(1, 0, 16, 16, [(.inl 2, 0)], []), (1, 0, (-2147483648), 2147483647, [(.inl 1, 0)], []), (1, 0, 1, 209, [(.inr (80, 1), 0)], []), rv_r 81], [((80, 1), 1, 209, [((80, 1), 1, 1)])]), [41], 51, [], []),
  (10, ([rv_r 80, rv_full, rv_i 24 24], [(1, 0, 24, 24, [(.inl 2, 0)], []), (1, 0, (-2147483648), 2147483647, [(.inl 1, 0)], []), (1, 0, 0, 208, [(.inr (80, 1), 0)], []), rv_r 81], [((80, 1), 0, 208, [((80, 1), 0, 0)])]), [42], 70, [], []),
  (10, ([rv_r 80, rv_full, rv_i 8 8], [(1, 0, 8, 8, [(.inl 2, 0)], []), (1, 0, (-2147483648), 2147483647, [(.inl 1, 0)], []), (1, 0, 2, 210, [(.inr (80, 1), 0)], []), rv_r 81], [((80, 1), 2, 210, [((80, 1), 2, 2)])]), [43], 32, [], []),
  (11, ([rv_r 80, rv_full, rv_i 0 0], [rv_full, (1, 0, 3, 211, [(.inr (80, 1), 0)], []), rv_r 81], [((80, 1), 3, 211, [((80, 1), 3, 3)])]), [44], 12, [], []),
  (11, ([rv_r 80, rv_full, rv_i 16 16], [rv_full, (1, 0, 1, 209, [(.inr (80, 1), 0)], []), rv_r 81], [((80, 1), 1, 209, [((80, 1), 1, 1)])]), [45], 50, [], []),
  (11, ([rv_r 80, rv_full, rv_i 24 24], [rv_full, (1, 0, 0, 208, [(.inr (80, 1), 0)], []), rv_r 81], [((80, 1), 0, 208, [((80, 1), 0, 0)])]), [46], 69, [], []),
  (11, ([rv_r 80, rv_full, rv_i 8 8], [rv_full, (1, 0, 2, 210, [(.inr (80, 1), 0)], []), rv_r 81], [((80, 1), 2, 210, [((80, 1), 2, 2)])]), [47], 31, [], []),
  (12, ([rv_r 80, rv_full, rv_i 0 0], [rv_i (-128) 127, (1, 0, 3, 211, [(.inr (80, 1), 0)], []), rv_r 81], [((80, 1), 3, 211, [((80, 1), 3, 3)])]), [48], 11, [], []),
  (12, ([rv_r 80, rv_full, rv_i 16 16], [rv_i (-128) 127, (1, 0, 1, 209, [(.inr (80, 1), 0)], []), rv_r 81], [((80, 1), 1, 209, [((80, 1), 1, 1)])]), [49], 49, [], []),
  (12, ([rv_r 80, rv_full, rv_i 24 24], [rv_i (-128) 127, (1, 0, 0, 208, [(.inr (80, 1), 0)], []), rv_r 81], [((80, 1), 0, 208, [((80, 1), 0, 0)])]), [50], 68, [], []),
  (12, ([rv_r 80, rv_full, rv_i 8 8], [rv_i (-128) 127, (1, 0, 2, 210, [(.inr (80, 1), 0)], []), rv_r 81], [((80, 1), 2, 210, [((80, 1), 2, 2)])]), [51], 30, [], [])]
def n_X8_push_2_3 : List rv_N := [
  (13, ([rv_r 80, rv_full, rv_i 0 0], [], [((80, 1), 3, 211, [((80, 1), 3, 3)])]), [52], 10, [], []),
  (13, ([rv_r 80, rv_full, rv_i 16 16], [], [((80, 1), 1, 209, [((80, 1), 1, 1)])]), [53], 48, [], []),
  (13, ([rv_r 80, rv_full, rv_i 24 24], [], [((80, 1), 0, 208, [((80, 1), 0, 0)])]), [54], 67, [], []),
  (13, ([rv_r 80, rv_full, rv_i 8 8], [], [((80, 1), 2, 210, [((80, 1), 2, 2)])]), [55], 29, [], []),
  (14, ([rv_r 80, rv_full, rv_i 0 0], [rv_r 80], [((80, 1), 3, 211, [((80, 1), 3, 3)])]), [56], 9, [], []),
  (14, ([rv_r 80, rv_full, rv_i 16 16], [rv_r 80], [((80, 1), 1, 209, [((80, 1), 1, 1)])]), [57], 47, [], []),
  (14, ([rv_r 80, rv_full, rv_i 24 24], [rv_r 80], [((80, 1), 0, 208, [((80, 1), 0, 0)])]), [58], 66, [], []),
  (14, ([rv_r 80, rv_full, rv_i 8 8], [rv_r 80], [((80, 1), 2, 210, [((80, 1), 2, 2)])]), [59], 28, [], []),
  (15, ([rv_r 80, rv_full, rv_i 0 0], [rv_r 80, rv_r 80], [((80, 1), 3, 211, [((80, 1), 3, 3)])]), [60], 8, [], []),
  (15, ([rv_r 80, rv_full, rv_i 16 16], [rv_r 80, rv_r 80], [((80, 1), 1, 209, [((80, 1), 1, 1)])]), [61], 46, [], []),
  (15, ([rv_r 80, rv_full, rv_i 24 24], [rv_r 80, rv_r 80], [((80, 1), 0, 208, [((80, 1), 0, 0)])]), [62], 65, [], []),
  (15, ([rv_r 80, rv_full, rv_i 8 8], [rv_r 80, rv_r 80], [((80, 1), 2, 210, [((80, 1), 2, 2)])]), [63], 27, [], []),
  (16, ([rv_r 80, rv_full, rv_i 0 0], [(1, 0, 3, 211, [(.inr (80, 1), 0)], []), rv_r 80], [((80, 1), 3, 211, [((80, 1), 3, 3)])]), [64], 7, [], []),
  (16, ([rv_r 80, rv_full, rv_i 16 16], [(1, 0, 1, 209, [(.inr (80, 1), 0)], []), rv_r 80], [((80, 1), 1, 209, [((80, 1), 1, 1)])]), [65], 45, [], []),
  (16, ([rv_r 80, rv_full, rv_i 24 24], [(1, 0, 0, 208, [(.inr (80, 1), 0)], []), rv_r 80], [((80, 1), 0, 208, [((80, 1), 0, 0)])]), [66], 64, [], []),
  (16, ([rv_r 80, rv_full, rv_i 8 8], [(1, 0, 2, 210, [(.inr (80, 1), 0)], []), rv_r 80], [((80, 1), 2, 210, [((80, 1), 2, 2)])]), [67], 26, [], [])]
def n_X8_push_2_4 : List rv_N := [
  (17, ([rv_r 80, rv_full, rv_i 0 0], [rv_i 1 1, (1, 0, 3, 211, [(.inr (80, 1), 0)], []), rv_r 80], [((80, 1), 3, 211, [((80, 1), 3, 3)])]), [68], 6, [], []),
  (17, ([rv_r 80, rv_full, rv_i 16 16], [rv_i 1 1, (1, 0, 1, 209, [(.inr (80, 1), 0)], []), rv_r 80], [((80, 1), 1, 209, [((80, 1), 1, 1)])]), [69], 44, [], []),
  (17, ([rv_r 80, rv_full, rv_i 24 24], [rv_i 1 1, (1, 0, 0, 208, [(.inr (80, 1), 0)], []), rv_r 80], [((80, 1), 0, 208, [((80, 1), 0, 0)])]), [70], 63, [], []),
  (17, ([rv_r 80, rv_full, rv_i 8 8], [rv_i 1 1, (1, 0, 2, 210, [(.inr (80, 1), 0)], []), rv_r 80], [((80, 1), 2, 210, [((80, 1), 2, 2)])]), [71], 25, [], []),
  (18, ([rv_r 80, rv_full, rv_i 0 0], [(1, 0, 4, 212, [(.inr (80, 1), 1)], []), rv_r 80], [((80, 1), 3, 211, [((80, 1), 3, 3)])]), [72], 5, [], []),
  (18, ([rv_r 80, rv_full, rv_i 16 16], [(1, 0, 2, 210, [(.inr (80, 1), 1)], []), rv_r 80], [((80, 1), 1, 209, [((80, 1), 1, 1)])]), [73], 43, [], []),
  (18, ([rv_r 80, rv_full, rv_i 24 24], [(1, 0, 1, 209, [(.inr (80, 1), 1)], []), rv_r 80], [((80, 1), 0, 208, [((80, 1), 0, 0)])]), [74], 62, [], []),
  (18, ([rv_r 80, rv_full, rv_i 8 8], [(1, 0, 3, 211, [(.inr (80, 1), 1)], []), rv_r 80], [((80, 1), 2, 210, [((80, 1), 2, 2)])]), [75], 24, [], []),
  (19, ([rv_r 80, rv_full, rv_i 0 0], [], [((80, 1), 4, 212, [((80, 1), 4, 4)])]), [76], 4, [], []),
  (19, ([rv_r 80, rv_full, rv_i 16 16], [], [((80, 1), 2, 210, [((80, 1), 2, 2)])]), [79], 42, [], []),
  (19, ([rv_r 80, rv_full, rv_i 24 24], [], [((80, 1), 1, 209, [((80, 1), 1, 1)])]), [78], 61, [], []),
  (19, ([rv_r 80, rv_full, rv_i 8 8], [], [((80, 1), 3, 211, [((80, 1), 3, 3)])]), [77], 23, [], []),
  (20, ([rv_r 80, rv_full, rv_i (-8) (-8)], [], [((80, 1), 4, 212, [((80, 1), 4, 4)])]), [2], 3, [], []),
  (20, ([rv_r 80, rv_full, rv_i 0 0], [], [((80, 1), 3, 211, [((80, 1), 3, 3)])]), [3], 22, [], []),
  (20, ([rv_r 80, rv_full, rv_i 16 16], [], [((80, 1), 1, 209, [((80, 1), 1, 1)])]), [4], 60, [], []),
  (20, ([rv_r 80, rv_full, rv_i 8 8], [], [((80, 1), 2, 210, [((80, 1), 2, 2)])]), [6], 41, [], [])]
def n_X8_push_2_5 : List rv_N := [
  (21, ([rv_r 80, rv_full, rv_i (-8) (-8)], [], [((80, 1), 4, 212, [((80, 1), 4, 4)])]), [], 0, [], [])]
def n_X8_push_2 : List rv_N := n_X8_push_2_0 ++ (n_X8_push_2_1 ++ (n_X8_push_2_2 ++ (n_X8_push_2_3 ++ (n_X8_push_2_4 ++ (n_X8_push_2_5)))))
noncomputable def gn_X8_push_2 : Nat → Option rv_N := rv_ap 16 (rv_at n_X8_push_2_0) (rv_ap 16 (rv_at n_X8_push_2_1) (rv_ap 16 (rv_at n_X8_push_2_2) (rv_ap 16 (rv_at n_X8_push_2_3) (rv_ap 16 (rv_at n_X8_push_2_4) (rv_at n_X8_push_2_5)))))
theorem hn_X8_push_2 : ∀ i : Nat, n_X8_push_2[i]? = gn_X8_push_2 i := rv_ap_eq (l := n_X8_push_2_0) (c := 16) (rv_ap_eq (l := n_X8_push_2_1) (c := 16) (rv_ap_eq (l := n_X8_push_2_2) (c := 16) (rv_ap_eq (l := n_X8_push_2_3) (c := 16) (rv_ap_eq (l := n_X8_push_2_4) (c := 16) (rv_at_eq n_X8_push_2_5) rfl) rfl) rfl) rfl) rfl
set_option maxRecDepth 100000 in
theorem a_X8_push_2 : rv_all (fm_tm, flX8, fm_wr, kcX8, klX8, K_X8_push_2.2.2.1, [], 3) ct_X8_push_2 cd_X8_push n_X8_push_2 K_X8_push_2 [] 0 n_X8_push_2 = true := rv_fast hn_X8_push_2 (rv_at_eq cd_X8_push) (by decide +kernel)
theorem m_X8_push_2 {l : Launch} {D : va_G} {ad : Nat → Nat} {cy : Nat → ClassId} {Z : State → Heap → Prop} (hAd : fm_Ad fm_tm ad) (hZ : fm_Zk (fm_A fm_tm ad) Z) : rv_Met l D fm_cl fm_tm ad cy fm_nt Z fm_G yX8_push (.code yX8_push prog_10_method_15_code 3 none :: fm_Ts) { frames := 0, cells := 0, slots := 0, locals := 0 } K_X8_push_2 := rv_met hAd hZ (Or.inl (by decide +kernel)) evX8 dc_X8_push a_X8_push_2 ⟨rfl, rfl, rfl⟩ (by decide +kernel) (by decide +kernel) (by decide) (fm_gm fm_G_gd (by decide +kernel)) (rfl) (fun p e s m args below meth c Q X Y => fun _ h => absurd h List.not_mem_nil) (fun _ _ _ _ _ _ _ _ _ _ _ _ _ _ _ _ h => absurd h List.not_mem_nil)
def K_X8_push_3 : rv_K := ([rv_r 80, rv_full], [((80, 1), 0, 212, [])], [(80, 1), (81, 9999)], [], [], [((80, 1), 4, 216, [((80, 1), 4, 4)])])
def ct_X8_push_3 : List (Nat × rv_K) := []
def n_X8_push_3_0 : List rv_N := [
  (0, ([rv_r 80, rv_full, rv_u], [], [((80, 1), 0, 212, [((80, 1), 0, 0)])]), [1], 80, [], []),
  (1, ([rv_r 80, rv_full, rv_u], [rv_i 24 24], [((80, 1), 0, 212, [((80, 1), 0, 0)])]), [5], 79, [], []),
  (2, ([rv_r 80, rv_full, rv_i (-8) (-8)], [], [((80, 1), 4, 216, [((80, 1), 4, 4)])]), [7], 2, [], []),
  (2, ([rv_r 80, rv_full, rv_i 0 0], [], [((80, 1), 3, 215, [((80, 1), 3, 3)])]), [8], 21, [], []),
  (2, ([rv_r 80, rv_full, rv_i 16 16], [], [((80, 1), 1, 213, [((80, 1), 1, 1)])]), [9], 59, [], []),
  (2, ([rv_r 80, rv_full, rv_i 24 24], [], [((80, 1), 0, 212, [((80, 1), 0, 0)])]), [10], 78, [], []),
  (2, ([rv_r 80, rv_full, rv_i 8 8], [], [((80, 1), 2, 214, [((80, 1), 2, 2)])]), [11], 40, [], []),
  (3, ([rv_r 80, rv_full, rv_i (-8) (-8)], [(1, 0, (-8), (-8), [(.inl 2, 0)], [])], [((80, 1), 4, 216, [((80, 1), 4, 4)])]), [80], 1, [], []),
  (3, ([rv_r 80, rv_full, rv_i 0 0], [(1, 0, 0, 0, [(.inl 2, 0)], [])], [((80, 1), 3, 215, [((80, 1), 3, 3)])]), [12], 20, [], []),
  (3, ([rv_r 80, rv_full, rv_i 16 16], [(1, 0, 16, 16, [(.inl 2, 0)], [])], [((80, 1), 1, 213, [((80, 1), 1, 1)])]), [13], 58, [], []),
  (3, ([rv_r 80, rv_full, rv_i 24 24], [(1, 0, 24, 24, [(.inl 2, 0)], [])], [((80, 1), 0, 212, [((80, 1), 0, 0)])]), [14], 77, [], []),
  (3, ([rv_r 80, rv_full, rv_i 8 8], [(1, 0, 8, 8, [(.inl 2, 0)], [])], [((80, 1), 2, 214, [((80, 1), 2, 2)])]), [15], 39, [], []),
  (4, ([rv_r 80, rv_full, rv_i 0 0], [], [((80, 1), 3, 215, [((80, 1), 3, 3)])]), [16], 19, [], []),
  (4, ([rv_r 80, rv_full, rv_i 16 16], [], [((80, 1), 1, 213, [((80, 1), 1, 1)])]), [17], 57, [], []),
  (4, ([rv_r 80, rv_full, rv_i 24 24], [], [((80, 1), 0, 212, [((80, 1), 0, 0)])]), [18], 76, [], []),
  (4, ([rv_r 80, rv_full, rv_i 8 8], [], [((80, 1), 2, 214, [((80, 1), 2, 2)])]), [19], 38, [], [])]
def n_X8_push_3_1 : List rv_N := [
  (5, ([rv_r 80, rv_full, rv_i 0 0], [rv_r 80], [((80, 1), 3, 215, [((80, 1), 3, 3)])]), [20], 18, [], []),
  (5, ([rv_r 80, rv_full, rv_i 16 16], [rv_r 80], [((80, 1), 1, 213, [((80, 1), 1, 1)])]), [21], 56, [], []),
  (5, ([rv_r 80, rv_full, rv_i 24 24], [rv_r 80], [((80, 1), 0, 212, [((80, 1), 0, 0)])]), [22], 75, [], []),
  (5, ([rv_r 80, rv_full, rv_i 8 8], [rv_r 80], [((80, 1), 2, 214, [((80, 1), 2, 2)])]), [23], 37, [], []),
  (6, ([rv_r 80, rv_full, rv_i 0 0], [rv_r 81], [((80, 1), 3, 215, [((80, 1), 3, 3)])]), [24], 17, [], []),
  (6, ([rv_r 80, rv_full, rv_i 16 16], [rv_r 81], [((80, 1), 1, 213, [((80, 1), 1, 1)])]), [25], 55, [], []),
  (6, ([rv_r 80, rv_full, rv_i 24 24], [rv_r 81], [((80, 1), 0, 212, [((80, 1), 0, 0)])]), [26], 74, [], []),
  (6, ([rv_r 80, rv_full, rv_i 8 8], [rv_r 81], [((80, 1), 2, 214, [((80, 1), 2, 2)])]), [27], 36, [], []),
  (7, ([rv_r 80, rv_full, rv_i 0 0], [rv_r 80, rv_r 81], [((80, 1), 3, 215, [((80, 1), 3, 3)])]), [28], 16, [], []),
  (7, ([rv_r 80, rv_full, rv_i 16 16], [rv_r 80, rv_r 81], [((80, 1), 1, 213, [((80, 1), 1, 1)])]), [29], 54, [], []),
  (7, ([rv_r 80, rv_full, rv_i 24 24], [rv_r 80, rv_r 81], [((80, 1), 0, 212, [((80, 1), 0, 0)])]), [30], 73, [], []),
  (7, ([rv_r 80, rv_full, rv_i 8 8], [rv_r 80, rv_r 81], [((80, 1), 2, 214, [((80, 1), 2, 2)])]), [31], 35, [], []),
  (8, ([rv_r 80, rv_full, rv_i 0 0], [(1, 0, 3, 215, [(.inr (80, 1), 0)], []), rv_r 81], [((80, 1), 3, 215, [((80, 1), 3, 3)])]), [32], 15, [], []),
  (8, ([rv_r 80, rv_full, rv_i 16 16], [(1, 0, 1, 213, [(.inr (80, 1), 0)], []), rv_r 81], [((80, 1), 1, 213, [((80, 1), 1, 1)])]), [33], 53, [], []),
  (8, ([rv_r 80, rv_full, rv_i 24 24], [(1, 0, 0, 212, [(.inr (80, 1), 0)], []), rv_r 81], [((80, 1), 0, 212, [((80, 1), 0, 0)])]), [34], 72, [], []),
  (8, ([rv_r 80, rv_full, rv_i 8 8], [(1, 0, 2, 214, [(.inr (80, 1), 0)], []), rv_r 81], [((80, 1), 2, 214, [((80, 1), 2, 2)])]), [35], 34, [], [])]
def n_X8_push_3_2 : List rv_N := [
  (9, ([rv_r 80, rv_full, rv_i 0 0], [(1, 0, (-2147483648), 2147483647, [(.inl 1, 0)], []), (1, 0, 3, 215, [(.inr (80, 1), 0)], []), rv_r 81], [((80, 1), 3, 215, [((80, 1), 3, 3)])]), [36], 14, [], []),
  (9, ([rv_r 80, rv_full, rv_i 16 16], [(1, 0, (-2147483648), 2147483647, [(.inl 1, 0)], []), (1, 0, 1, 213, [(.inr (80, 1), 0)], []), rv_r 81], [((80, 1), 1, 213, [((80, 1), 1, 1)])]), [37], 52, [], []),
  (9, ([rv_r 80, rv_full, rv_i 24 24], [(1, 0, (-2147483648), 2147483647, [(.inl 1, 0)], []), (1, 0, 0, 212, [(.inr (80, 1), 0)], []), rv_r 81], [((80, 1), 0, 212, [((80, 1), 0, 0)])]), [38], 71, [], []),
  (9, ([rv_r 80, rv_full, rv_i 8 8], [(1, 0, (-2147483648), 2147483647, [(.inl 1, 0)], []), (1, 0, 2, 214, [(.inr (80, 1), 0)], []), rv_r 81], [((80, 1), 2, 214, [((80, 1), 2, 2)])]), [39], 33, [], []),
  (10, ([rv_r 80, rv_full, rv_i 0 0], [(1, 0, 0, 0, [(.inl 2, 0)], []), (1, 0, (-2147483648), 2147483647, [(.inl 1, 0)], []), (1, 0, 3, 215, [(.inr (80, 1), 0)], []), rv_r 81], [((80, 1), 3, 215, [((80, 1), 3, 3)])]), [40], 13, [], []),
  (10, ([rv_r 80, rv_full, rv_i 16 16], [(1, 0, 16, 16, [(.inl 2, 0)], []), (1, 0, (-2147483648), 2147483647, [(.inl 1, 0)], []), (1, 0, 1, 213, [(.inr (80, 1), 0)], []), rv_r 81], [((80, 1), 1, 213, [((80, 1), 1, 1)])]), [41], 51, [], []),
  (10, ([rv_r 80, rv_full, rv_i 24 24], [(1, 0, 24, 24, [(.inl 2, 0)], []), (1, 0, (-2147483648), 2147483647, [(.inl 1, 0)], []), (1, 0, 0, 212, [(.inr (80, 1), 0)], []), rv_r 81], [((80, 1), 0, 212, [((80, 1), 0, 0)])]), [42], 70, [], []),
  (10, ([rv_r 80, rv_full, rv_i 8 8], [(1, 0, 8, 8, [(.inl 2, 0)], []), (1, 0, (-2147483648), 2147483647, [(.inl 1, 0)], []), (1, 0, 2, 214, [(.inr (80, 1), 0)], []), rv_r 81], [((80, 1), 2, 214, [((80, 1), 2, 2)])]), [43], 32, [], []),
  (11, ([rv_r 80, rv_full, rv_i 0 0], [rv_full, (1, 0, 3, 215, [(.inr (80, 1), 0)], []), rv_r 81], [((80, 1), 3, 215, [((80, 1), 3, 3)])]), [44], 12, [], []),
  (11, ([rv_r 80, rv_full, rv_i 16 16], [rv_full, (1, 0, 1, 213, [(.inr (80, 1), 0)], []), rv_r 81], [((80, 1), 1, 213, [((80, 1), 1, 1)])]), [45], 50, [], []),
  (11, ([rv_r 80, rv_full, rv_i 24 24], [rv_full, (1, 0, 0, 212, [(.inr (80, 1), 0)], []), rv_r 81], [((80, 1), 0, 212, [((80, 1), 0, 0)])]), [46], 69, [], []),
  (11, ([rv_r 80, rv_full, rv_i 8 8], [rv_full, (1, 0, 2, 214, [(.inr (80, 1), 0)], []), rv_r 81], [((80, 1), 2, 214, [((80, 1), 2, 2)])]), [47], 31, [], []),
  (12, ([rv_r 80, rv_full, rv_i 0 0], [rv_i (-128) 127, (1, 0, 3, 215, [(.inr (80, 1), 0)], []), rv_r 81], [((80, 1), 3, 215, [((80, 1), 3, 3)])]), [48], 11, [], []),
  (12, ([rv_r 80, rv_full, rv_i 16 16], [rv_i (-128) 127, (1, 0, 1, 213, [(.inr (80, 1), 0)], []), rv_r 81], [((80, 1), 1, 213, [((80, 1), 1, 1)])]), [49], 49, [], []),
  (12, ([rv_r 80, rv_full, rv_i 24 24], [rv_i (-128) 127, (1, 0, 0, 212, [(.inr (80, 1), 0)], []), rv_r 81], [((80, 1), 0, 212, [((80, 1), 0, 0)])]), [50], 68, [], []),
  (12, ([rv_r 80, rv_full, rv_i 8 8], [rv_i (-128) 127, (1, 0, 2, 214, [(.inr (80, 1), 0)], []), rv_r 81], [((80, 1), 2, 214, [((80, 1), 2, 2)])]), [51], 30, [], [])]
def n_X8_push_3_3 : List rv_N := [
  (13, ([rv_r 80, rv_full, rv_i 0 0], [], [((80, 1), 3, 215, [((80, 1), 3, 3)])]), [52], 10, [], []),
  (13, ([rv_r 80, rv_full, rv_i 16 16], [], [((80, 1), 1, 213, [((80, 1), 1, 1)])]), [53], 48, [], []),
  (13, ([rv_r 80, rv_full, rv_i 24 24], [], [((80, 1), 0, 212, [((80, 1), 0, 0)])]), [54], 67, [], []),
  (13, ([rv_r 80, rv_full, rv_i 8 8], [], [((80, 1), 2, 214, [((80, 1), 2, 2)])]), [55], 29, [], []),
  (14, ([rv_r 80, rv_full, rv_i 0 0], [rv_r 80], [((80, 1), 3, 215, [((80, 1), 3, 3)])]), [56], 9, [], []),
  (14, ([rv_r 80, rv_full, rv_i 16 16], [rv_r 80], [((80, 1), 1, 213, [((80, 1), 1, 1)])]), [57], 47, [], []),
  (14, ([rv_r 80, rv_full, rv_i 24 24], [rv_r 80], [((80, 1), 0, 212, [((80, 1), 0, 0)])]), [58], 66, [], []),
  (14, ([rv_r 80, rv_full, rv_i 8 8], [rv_r 80], [((80, 1), 2, 214, [((80, 1), 2, 2)])]), [59], 28, [], []),
  (15, ([rv_r 80, rv_full, rv_i 0 0], [rv_r 80, rv_r 80], [((80, 1), 3, 215, [((80, 1), 3, 3)])]), [60], 8, [], []),
  (15, ([rv_r 80, rv_full, rv_i 16 16], [rv_r 80, rv_r 80], [((80, 1), 1, 213, [((80, 1), 1, 1)])]), [61], 46, [], []),
  (15, ([rv_r 80, rv_full, rv_i 24 24], [rv_r 80, rv_r 80], [((80, 1), 0, 212, [((80, 1), 0, 0)])]), [62], 65, [], []),
  (15, ([rv_r 80, rv_full, rv_i 8 8], [rv_r 80, rv_r 80], [((80, 1), 2, 214, [((80, 1), 2, 2)])]), [63], 27, [], []),
  (16, ([rv_r 80, rv_full, rv_i 0 0], [(1, 0, 3, 215, [(.inr (80, 1), 0)], []), rv_r 80], [((80, 1), 3, 215, [((80, 1), 3, 3)])]), [64], 7, [], []),
  (16, ([rv_r 80, rv_full, rv_i 16 16], [(1, 0, 1, 213, [(.inr (80, 1), 0)], []), rv_r 80], [((80, 1), 1, 213, [((80, 1), 1, 1)])]), [65], 45, [], []),
  (16, ([rv_r 80, rv_full, rv_i 24 24], [(1, 0, 0, 212, [(.inr (80, 1), 0)], []), rv_r 80], [((80, 1), 0, 212, [((80, 1), 0, 0)])]), [66], 64, [], []),
  (16, ([rv_r 80, rv_full, rv_i 8 8], [(1, 0, 2, 214, [(.inr (80, 1), 0)], []), rv_r 80], [((80, 1), 2, 214, [((80, 1), 2, 2)])]), [67], 26, [], [])]
def n_X8_push_3_4 : List rv_N := [
  (17, ([rv_r 80, rv_full, rv_i 0 0], [rv_i 1 1, (1, 0, 3, 215, [(.inr (80, 1), 0)], []), rv_r 80], [((80, 1), 3, 215, [((80, 1), 3, 3)])]), [68], 6, [], []),
  (17, ([rv_r 80, rv_full, rv_i 16 16], [rv_i 1 1, (1, 0, 1, 213, [(.inr (80, 1), 0)], []), rv_r 80], [((80, 1), 1, 213, [((80, 1), 1, 1)])]), [69], 44, [], []),
  (17, ([rv_r 80, rv_full, rv_i 24 24], [rv_i 1 1, (1, 0, 0, 212, [(.inr (80, 1), 0)], []), rv_r 80], [((80, 1), 0, 212, [((80, 1), 0, 0)])]), [70], 63, [], []),
  (17, ([rv_r 80, rv_full, rv_i 8 8], [rv_i 1 1, (1, 0, 2, 214, [(.inr (80, 1), 0)], []), rv_r 80], [((80, 1), 2, 214, [((80, 1), 2, 2)])]), [71], 25, [], []),
  (18, ([rv_r 80, rv_full, rv_i 0 0], [(1, 0, 4, 216, [(.inr (80, 1), 1)], []), rv_r 80], [((80, 1), 3, 215, [((80, 1), 3, 3)])]), [72], 5, [], []),
  (18, ([rv_r 80, rv_full, rv_i 16 16], [(1, 0, 2, 214, [(.inr (80, 1), 1)], []), rv_r 80], [((80, 1), 1, 213, [((80, 1), 1, 1)])]), [73], 43, [], []),
  (18, ([rv_r 80, rv_full, rv_i 24 24], [(1, 0, 1, 213, [(.inr (80, 1), 1)], []), rv_r 80], [((80, 1), 0, 212, [((80, 1), 0, 0)])]), [74], 62, [], []),
  (18, ([rv_r 80, rv_full, rv_i 8 8], [(1, 0, 3, 215, [(.inr (80, 1), 1)], []), rv_r 80], [((80, 1), 2, 214, [((80, 1), 2, 2)])]), [75], 24, [], []),
  (19, ([rv_r 80, rv_full, rv_i 0 0], [], [((80, 1), 4, 216, [((80, 1), 4, 4)])]), [76], 4, [], []),
  (19, ([rv_r 80, rv_full, rv_i 16 16], [], [((80, 1), 2, 214, [((80, 1), 2, 2)])]), [79], 42, [], []),
  (19, ([rv_r 80, rv_full, rv_i 24 24], [], [((80, 1), 1, 213, [((80, 1), 1, 1)])]), [78], 61, [], []),
  (19, ([rv_r 80, rv_full, rv_i 8 8], [], [((80, 1), 3, 215, [((80, 1), 3, 3)])]), [77], 23, [], []),
  (20, ([rv_r 80, rv_full, rv_i (-8) (-8)], [], [((80, 1), 4, 216, [((80, 1), 4, 4)])]), [2], 3, [], []),
  (20, ([rv_r 80, rv_full, rv_i 0 0], [], [((80, 1), 3, 215, [((80, 1), 3, 3)])]), [3], 22, [], []),
  (20, ([rv_r 80, rv_full, rv_i 16 16], [], [((80, 1), 1, 213, [((80, 1), 1, 1)])]), [4], 60, [], []),
  (20, ([rv_r 80, rv_full, rv_i 8 8], [], [((80, 1), 2, 214, [((80, 1), 2, 2)])]), [6], 41, [], [])]
def n_X8_push_3_5 : List rv_N := [
  (21, ([rv_r 80, rv_full, rv_i (-8) (-8)], [], [((80, 1), 4, 216, [((80, 1), 4, 4)])]), [], 0, [], [])]
def n_X8_push_3 : List rv_N := n_X8_push_3_0 ++ (n_X8_push_3_1 ++ (n_X8_push_3_2 ++ (n_X8_push_3_3 ++ (n_X8_push_3_4 ++ (n_X8_push_3_5)))))
noncomputable def gn_X8_push_3 : Nat → Option rv_N := rv_ap 16 (rv_at n_X8_push_3_0) (rv_ap 16 (rv_at n_X8_push_3_1) (rv_ap 16 (rv_at n_X8_push_3_2) (rv_ap 16 (rv_at n_X8_push_3_3) (rv_ap 16 (rv_at n_X8_push_3_4) (rv_at n_X8_push_3_5)))))
theorem hn_X8_push_3 : ∀ i : Nat, n_X8_push_3[i]? = gn_X8_push_3 i := rv_ap_eq (l := n_X8_push_3_0) (c := 16) (rv_ap_eq (l := n_X8_push_3_1) (c := 16) (rv_ap_eq (l := n_X8_push_3_2) (c := 16) (rv_ap_eq (l := n_X8_push_3_3) (c := 16) (rv_ap_eq (l := n_X8_push_3_4) (c := 16) (rv_at_eq n_X8_push_3_5) rfl) rfl) rfl) rfl) rfl
set_option maxRecDepth 100000 in
theorem a_X8_push_3 : rv_all (fm_tm, flX8, fm_wr, kcX8, klX8, K_X8_push_3.2.2.1, [], 3) ct_X8_push_3 cd_X8_push n_X8_push_3 K_X8_push_3 [] 0 n_X8_push_3 = true := rv_fast hn_X8_push_3 (rv_at_eq cd_X8_push) (by decide +kernel)
theorem m_X8_push_3 {l : Launch} {D : va_G} {ad : Nat → Nat} {cy : Nat → ClassId} {Z : State → Heap → Prop} (hAd : fm_Ad fm_tm ad) (hZ : fm_Zk (fm_A fm_tm ad) Z) : rv_Met l D fm_cl fm_tm ad cy fm_nt Z fm_G yX8_push (.code yX8_push prog_10_method_15_code 3 none :: fm_Ts) { frames := 0, cells := 0, slots := 0, locals := 0 } K_X8_push_3 := rv_met hAd hZ (Or.inl (by decide +kernel)) evX8 dc_X8_push a_X8_push_3 ⟨rfl, rfl, rfl⟩ (by decide +kernel) (by decide +kernel) (by decide) (fm_gm fm_G_gd (by decide +kernel)) (rfl) (fun p e s m args below meth c Q X Y => fun _ h => absurd h List.not_mem_nil) (fun _ _ _ _ _ _ _ _ _ _ _ _ _ _ _ _ h => absurd h List.not_mem_nil)
def K_X8_push_4 : rv_K := ([rv_r 80, rv_full], [((80, 1), 0, 216, [])], [(80, 1), (81, 9999)], [], [], [((80, 1), 4, 220, [((80, 1), 4, 4)])])
def ct_X8_push_4 : List (Nat × rv_K) := []
def n_X8_push_4_0 : List rv_N := [
  (0, ([rv_r 80, rv_full, rv_u], [], [((80, 1), 0, 216, [((80, 1), 0, 0)])]), [1], 80, [], []),
  (1, ([rv_r 80, rv_full, rv_u], [rv_i 24 24], [((80, 1), 0, 216, [((80, 1), 0, 0)])]), [5], 79, [], []),
  (2, ([rv_r 80, rv_full, rv_i (-8) (-8)], [], [((80, 1), 4, 220, [((80, 1), 4, 4)])]), [7], 2, [], []),
  (2, ([rv_r 80, rv_full, rv_i 0 0], [], [((80, 1), 3, 219, [((80, 1), 3, 3)])]), [8], 21, [], []),
  (2, ([rv_r 80, rv_full, rv_i 16 16], [], [((80, 1), 1, 217, [((80, 1), 1, 1)])]), [9], 59, [], []),
  (2, ([rv_r 80, rv_full, rv_i 24 24], [], [((80, 1), 0, 216, [((80, 1), 0, 0)])]), [10], 78, [], []),
  (2, ([rv_r 80, rv_full, rv_i 8 8], [], [((80, 1), 2, 218, [((80, 1), 2, 2)])]), [11], 40, [], []),
  (3, ([rv_r 80, rv_full, rv_i (-8) (-8)], [(1, 0, (-8), (-8), [(.inl 2, 0)], [])], [((80, 1), 4, 220, [((80, 1), 4, 4)])]), [80], 1, [], []),
  (3, ([rv_r 80, rv_full, rv_i 0 0], [(1, 0, 0, 0, [(.inl 2, 0)], [])], [((80, 1), 3, 219, [((80, 1), 3, 3)])]), [12], 20, [], []),
  (3, ([rv_r 80, rv_full, rv_i 16 16], [(1, 0, 16, 16, [(.inl 2, 0)], [])], [((80, 1), 1, 217, [((80, 1), 1, 1)])]), [13], 58, [], []),
  (3, ([rv_r 80, rv_full, rv_i 24 24], [(1, 0, 24, 24, [(.inl 2, 0)], [])], [((80, 1), 0, 216, [((80, 1), 0, 0)])]), [14], 77, [], []),
  (3, ([rv_r 80, rv_full, rv_i 8 8], [(1, 0, 8, 8, [(.inl 2, 0)], [])], [((80, 1), 2, 218, [((80, 1), 2, 2)])]), [15], 39, [], []),
  (4, ([rv_r 80, rv_full, rv_i 0 0], [], [((80, 1), 3, 219, [((80, 1), 3, 3)])]), [16], 19, [], []),
  (4, ([rv_r 80, rv_full, rv_i 16 16], [], [((80, 1), 1, 217, [((80, 1), 1, 1)])]), [17], 57, [], []),
  (4, ([rv_r 80, rv_full, rv_i 24 24], [], [((80, 1), 0, 216, [((80, 1), 0, 0)])]), [18], 76, [], []),
  (4, ([rv_r 80, rv_full, rv_i 8 8], [], [((80, 1), 2, 218, [((80, 1), 2, 2)])]), [19], 38, [], [])]
def n_X8_push_4_1 : List rv_N := [
  (5, ([rv_r 80, rv_full, rv_i 0 0], [rv_r 80], [((80, 1), 3, 219, [((80, 1), 3, 3)])]), [20], 18, [], []),
  (5, ([rv_r 80, rv_full, rv_i 16 16], [rv_r 80], [((80, 1), 1, 217, [((80, 1), 1, 1)])]), [21], 56, [], []),
  (5, ([rv_r 80, rv_full, rv_i 24 24], [rv_r 80], [((80, 1), 0, 216, [((80, 1), 0, 0)])]), [22], 75, [], []),
  (5, ([rv_r 80, rv_full, rv_i 8 8], [rv_r 80], [((80, 1), 2, 218, [((80, 1), 2, 2)])]), [23], 37, [], []),
  (6, ([rv_r 80, rv_full, rv_i 0 0], [rv_r 81], [((80, 1), 3, 219, [((80, 1), 3, 3)])]), [24], 17, [], []),
  (6, ([rv_r 80, rv_full, rv_i 16 16], [rv_r 81], [((80, 1), 1, 217, [((80, 1), 1, 1)])]), [25], 55, [], []),
  (6, ([rv_r 80, rv_full, rv_i 24 24], [rv_r 81], [((80, 1), 0, 216, [((80, 1), 0, 0)])]), [26], 74, [], []),
  (6, ([rv_r 80, rv_full, rv_i 8 8], [rv_r 81], [((80, 1), 2, 218, [((80, 1), 2, 2)])]), [27], 36, [], []),
  (7, ([rv_r 80, rv_full, rv_i 0 0], [rv_r 80, rv_r 81], [((80, 1), 3, 219, [((80, 1), 3, 3)])]), [28], 16, [], []),
  (7, ([rv_r 80, rv_full, rv_i 16 16], [rv_r 80, rv_r 81], [((80, 1), 1, 217, [((80, 1), 1, 1)])]), [29], 54, [], []),
  (7, ([rv_r 80, rv_full, rv_i 24 24], [rv_r 80, rv_r 81], [((80, 1), 0, 216, [((80, 1), 0, 0)])]), [30], 73, [], []),
  (7, ([rv_r 80, rv_full, rv_i 8 8], [rv_r 80, rv_r 81], [((80, 1), 2, 218, [((80, 1), 2, 2)])]), [31], 35, [], []),
  (8, ([rv_r 80, rv_full, rv_i 0 0], [(1, 0, 3, 219, [(.inr (80, 1), 0)], []), rv_r 81], [((80, 1), 3, 219, [((80, 1), 3, 3)])]), [32], 15, [], []),
  (8, ([rv_r 80, rv_full, rv_i 16 16], [(1, 0, 1, 217, [(.inr (80, 1), 0)], []), rv_r 81], [((80, 1), 1, 217, [((80, 1), 1, 1)])]), [33], 53, [], []),
  (8, ([rv_r 80, rv_full, rv_i 24 24], [(1, 0, 0, 216, [(.inr (80, 1), 0)], []), rv_r 81], [((80, 1), 0, 216, [((80, 1), 0, 0)])]), [34], 72, [], []),
  (8, ([rv_r 80, rv_full, rv_i 8 8], [(1, 0, 2, 218, [(.inr (80, 1), 0)], []), rv_r 81], [((80, 1), 2, 218, [((80, 1), 2, 2)])]), [35], 34, [], [])]
def n_X8_push_4_2 : List rv_N := [
  (9, ([rv_r 80, rv_full, rv_i 0 0], [(1, 0, (-2147483648), 2147483647, [(.inl 1, 0)], []), (1, 0, 3, 219, [(.inr (80, 1), 0)], []), rv_r 81], [((80, 1), 3, 219, [((80, 1), 3, 3)])]), [36], 14, [], []),
  (9, ([rv_r 80, rv_full, rv_i 16 16], [(1, 0, (-2147483648), 2147483647, [(.inl 1, 0)], []), (1, 0, 1, 217, [(.inr (80, 1), 0)], []), rv_r 81], [((80, 1), 1, 217, [((80, 1), 1, 1)])]), [37], 52, [], []),
  (9, ([rv_r 80, rv_full, rv_i 24 24], [(1, 0, (-2147483648), 2147483647, [(.inl 1, 0)], []), (1, 0, 0, 216, [(.inr (80, 1), 0)], []), rv_r 81], [((80, 1), 0, 216, [((80, 1), 0, 0)])]), [38], 71, [], []),
  (9, ([rv_r 80, rv_full, rv_i 8 8], [(1, 0, (-2147483648), 2147483647, [(.inl 1, 0)], []), (1, 0, 2, 218, [(.inr (80, 1), 0)], []), rv_r 81], [((80, 1), 2, 218, [((80, 1), 2, 2)])]), [39], 33, [], []),
  (10, ([rv_r 80, rv_full, rv_i 0 0], [(1, 0, 0, 0, [(.inl 2, 0)], []), (1, 0, (-2147483648), 2147483647, [(.inl 1, 0)], []), (1, 0, 3, 219, [(.inr (80, 1), 0)], []), rv_r 81], [((80, 1), 3, 219, [((80, 1), 3, 3)])]), [40], 13, [], []),
  (10, ([rv_r 80, rv_full, rv_i 16 16], [(1, 0, 16, 16, [(.inl 2, 0)], []), (1, 0, (-2147483648), 2147483647, [(.inl 1, 0)], []), (1, 0, 1, 217, [(.inr (80, 1), 0)], []), rv_r 81], [((80, 1), 1, 217, [((80, 1), 1, 1)])]), [41], 51, [], []),
  (10, ([rv_r 80, rv_full, rv_i 24 24], [(1, 0, 24, 24, [(.inl 2, 0)], []), (1, 0, (-2147483648), 2147483647, [(.inl 1, 0)], []), (1, 0, 0, 216, [(.inr (80, 1), 0)], []), rv_r 81], [((80, 1), 0, 216, [((80, 1), 0, 0)])]), [42], 70, [], []),
  (10, ([rv_r 80, rv_full, rv_i 8 8], [(1, 0, 8, 8, [(.inl 2, 0)], []), (1, 0, (-2147483648), 2147483647, [(.inl 1, 0)], []), (1, 0, 2, 218, [(.inr (80, 1), 0)], []), rv_r 81], [((80, 1), 2, 218, [((80, 1), 2, 2)])]), [43], 32, [], []),
  (11, ([rv_r 80, rv_full, rv_i 0 0], [rv_full, (1, 0, 3, 219, [(.inr (80, 1), 0)], []), rv_r 81], [((80, 1), 3, 219, [((80, 1), 3, 3)])]), [44], 12, [], []),
  (11, ([rv_r 80, rv_full, rv_i 16 16], [rv_full, (1, 0, 1, 217, [(.inr (80, 1), 0)], []), rv_r 81], [((80, 1), 1, 217, [((80, 1), 1, 1)])]), [45], 50, [], []),
  (11, ([rv_r 80, rv_full, rv_i 24 24], [rv_full, (1, 0, 0, 216, [(.inr (80, 1), 0)], []), rv_r 81], [((80, 1), 0, 216, [((80, 1), 0, 0)])]), [46], 69, [], []),
  (11, ([rv_r 80, rv_full, rv_i 8 8], [rv_full, (1, 0, 2, 218, [(.inr (80, 1), 0)], []), rv_r 81], [((80, 1), 2, 218, [((80, 1), 2, 2)])]), [47], 31, [], []),
  (12, ([rv_r 80, rv_full, rv_i 0 0], [rv_i (-128) 127, (1, 0, 3, 219, [(.inr (80, 1), 0)], []), rv_r 81], [((80, 1), 3, 219, [((80, 1), 3, 3)])]), [48], 11, [], []),
  (12, ([rv_r 80, rv_full, rv_i 16 16], [rv_i (-128) 127, (1, 0, 1, 217, [(.inr (80, 1), 0)], []), rv_r 81], [((80, 1), 1, 217, [((80, 1), 1, 1)])]), [49], 49, [], []),
  (12, ([rv_r 80, rv_full, rv_i 24 24], [rv_i (-128) 127, (1, 0, 0, 216, [(.inr (80, 1), 0)], []), rv_r 81], [((80, 1), 0, 216, [((80, 1), 0, 0)])]), [50], 68, [], []),
  (12, ([rv_r 80, rv_full, rv_i 8 8], [rv_i (-128) 127, (1, 0, 2, 218, [(.inr (80, 1), 0)], []), rv_r 81], [((80, 1), 2, 218, [((80, 1), 2, 2)])]), [51], 30, [], [])]
def n_X8_push_4_3 : List rv_N := [
  (13, ([rv_r 80, rv_full, rv_i 0 0], [], [((80, 1), 3, 219, [((80, 1), 3, 3)])]), [52], 10, [], []),
  (13, ([rv_r 80, rv_full, rv_i 16 16], [], [((80, 1), 1, 217, [((80, 1), 1, 1)])]), [53], 48, [], []),
  (13, ([rv_r 80, rv_full, rv_i 24 24], [], [((80, 1), 0, 216, [((80, 1), 0, 0)])]), [54], 67, [], []),
  (13, ([rv_r 80, rv_full, rv_i 8 8], [], [((80, 1), 2, 218, [((80, 1), 2, 2)])]), [55], 29, [], []),
  (14, ([rv_r 80, rv_full, rv_i 0 0], [rv_r 80], [((80, 1), 3, 219, [((80, 1), 3, 3)])]), [56], 9, [], []),
  (14, ([rv_r 80, rv_full, rv_i 16 16], [rv_r 80], [((80, 1), 1, 217, [((80, 1), 1, 1)])]), [57], 47, [], []),
  (14, ([rv_r 80, rv_full, rv_i 24 24], [rv_r 80], [((80, 1), 0, 216, [((80, 1), 0, 0)])]), [58], 66, [], []),
  (14, ([rv_r 80, rv_full, rv_i 8 8], [rv_r 80], [((80, 1), 2, 218, [((80, 1), 2, 2)])]), [59], 28, [], []),
  (15, ([rv_r 80, rv_full, rv_i 0 0], [rv_r 80, rv_r 80], [((80, 1), 3, 219, [((80, 1), 3, 3)])]), [60], 8, [], []),
  (15, ([rv_r 80, rv_full, rv_i 16 16], [rv_r 80, rv_r 80], [((80, 1), 1, 217, [((80, 1), 1, 1)])]), [61], 46, [], []),
  (15, ([rv_r 80, rv_full, rv_i 24 24], [rv_r 80, rv_r 80], [((80, 1), 0, 216, [((80, 1), 0, 0)])]), [62], 65, [], []),
  (15, ([rv_r 80, rv_full, rv_i 8 8], [rv_r 80, rv_r 80], [((80, 1), 2, 218, [((80, 1), 2, 2)])]), [63], 27, [], []),
  (16, ([rv_r 80, rv_full, rv_i 0 0], [(1, 0, 3, 219, [(.inr (80, 1), 0)], []), rv_r 80], [((80, 1), 3, 219, [((80, 1), 3, 3)])]), [64], 7, [], []),
  (16, ([rv_r 80, rv_full, rv_i 16 16], [(1, 0, 1, 217, [(.inr (80, 1), 0)], []), rv_r 80], [((80, 1), 1, 217, [((80, 1), 1, 1)])]), [65], 45, [], []),
  (16, ([rv_r 80, rv_full, rv_i 24 24], [(1, 0, 0, 216, [(.inr (80, 1), 0)], []), rv_r 80], [((80, 1), 0, 216, [((80, 1), 0, 0)])]), [66], 64, [], []),
  (16, ([rv_r 80, rv_full, rv_i 8 8], [(1, 0, 2, 218, [(.inr (80, 1), 0)], []), rv_r 80], [((80, 1), 2, 218, [((80, 1), 2, 2)])]), [67], 26, [], [])]
def n_X8_push_4_4 : List rv_N := [
  (17, ([rv_r 80, rv_full, rv_i 0 0], [rv_i 1 1, (1, 0, 3, 219, [(.inr (80, 1), 0)], []), rv_r 80], [((80, 1), 3, 219, [((80, 1), 3, 3)])]), [68], 6, [], []),
  (17, ([rv_r 80, rv_full, rv_i 16 16], [rv_i 1 1, (1, 0, 1, 217, [(.inr (80, 1), 0)], []), rv_r 80], [((80, 1), 1, 217, [((80, 1), 1, 1)])]), [69], 44, [], []),
  (17, ([rv_r 80, rv_full, rv_i 24 24], [rv_i 1 1, (1, 0, 0, 216, [(.inr (80, 1), 0)], []), rv_r 80], [((80, 1), 0, 216, [((80, 1), 0, 0)])]), [70], 63, [], []),
  (17, ([rv_r 80, rv_full, rv_i 8 8], [rv_i 1 1, (1, 0, 2, 218, [(.inr (80, 1), 0)], []), rv_r 80], [((80, 1), 2, 218, [((80, 1), 2, 2)])]), [71], 25, [], []),
  (18, ([rv_r 80, rv_full, rv_i 0 0], [(1, 0, 4, 220, [(.inr (80, 1), 1)], []), rv_r 80], [((80, 1), 3, 219, [((80, 1), 3, 3)])]), [72], 5, [], []),
  (18, ([rv_r 80, rv_full, rv_i 16 16], [(1, 0, 2, 218, [(.inr (80, 1), 1)], []), rv_r 80], [((80, 1), 1, 217, [((80, 1), 1, 1)])]), [73], 43, [], []),
  (18, ([rv_r 80, rv_full, rv_i 24 24], [(1, 0, 1, 217, [(.inr (80, 1), 1)], []), rv_r 80], [((80, 1), 0, 216, [((80, 1), 0, 0)])]), [74], 62, [], []),
  (18, ([rv_r 80, rv_full, rv_i 8 8], [(1, 0, 3, 219, [(.inr (80, 1), 1)], []), rv_r 80], [((80, 1), 2, 218, [((80, 1), 2, 2)])]), [75], 24, [], []),
  (19, ([rv_r 80, rv_full, rv_i 0 0], [], [((80, 1), 4, 220, [((80, 1), 4, 4)])]), [76], 4, [], []),
  (19, ([rv_r 80, rv_full, rv_i 16 16], [], [((80, 1), 2, 218, [((80, 1), 2, 2)])]), [79], 42, [], []),
  (19, ([rv_r 80, rv_full, rv_i 24 24], [], [((80, 1), 1, 217, [((80, 1), 1, 1)])]), [78], 61, [], []),
  (19, ([rv_r 80, rv_full, rv_i 8 8], [], [((80, 1), 3, 219, [((80, 1), 3, 3)])]), [77], 23, [], []),
  (20, ([rv_r 80, rv_full, rv_i (-8) (-8)], [], [((80, 1), 4, 220, [((80, 1), 4, 4)])]), [2], 3, [], []),
  (20, ([rv_r 80, rv_full, rv_i 0 0], [], [((80, 1), 3, 219, [((80, 1), 3, 3)])]), [3], 22, [], []),
  (20, ([rv_r 80, rv_full, rv_i 16 16], [], [((80, 1), 1, 217, [((80, 1), 1, 1)])]), [4], 60, [], []),
  (20, ([rv_r 80, rv_full, rv_i 8 8], [], [((80, 1), 2, 218, [((80, 1), 2, 2)])]), [6], 41, [], [])]
def n_X8_push_4_5 : List rv_N := [
  (21, ([rv_r 80, rv_full, rv_i (-8) (-8)], [], [((80, 1), 4, 220, [((80, 1), 4, 4)])]), [], 0, [], [])]
def n_X8_push_4 : List rv_N := n_X8_push_4_0 ++ (n_X8_push_4_1 ++ (n_X8_push_4_2 ++ (n_X8_push_4_3 ++ (n_X8_push_4_4 ++ (n_X8_push_4_5)))))
noncomputable def gn_X8_push_4 : Nat → Option rv_N := rv_ap 16 (rv_at n_X8_push_4_0) (rv_ap 16 (rv_at n_X8_push_4_1) (rv_ap 16 (rv_at n_X8_push_4_2) (rv_ap 16 (rv_at n_X8_push_4_3) (rv_ap 16 (rv_at n_X8_push_4_4) (rv_at n_X8_push_4_5)))))
theorem hn_X8_push_4 : ∀ i : Nat, n_X8_push_4[i]? = gn_X8_push_4 i := rv_ap_eq (l := n_X8_push_4_0) (c := 16) (rv_ap_eq (l := n_X8_push_4_1) (c := 16) (rv_ap_eq (l := n_X8_push_4_2) (c := 16) (rv_ap_eq (l := n_X8_push_4_3) (c := 16) (rv_ap_eq (l := n_X8_push_4_4) (c := 16) (rv_at_eq n_X8_push_4_5) rfl) rfl) rfl) rfl) rfl
set_option maxRecDepth 100000 in
theorem a_X8_push_4 : rv_all (fm_tm, flX8, fm_wr, kcX8, klX8, K_X8_push_4.2.2.1, [], 3) ct_X8_push_4 cd_X8_push n_X8_push_4 K_X8_push_4 [] 0 n_X8_push_4 = true := rv_fast hn_X8_push_4 (rv_at_eq cd_X8_push) (by decide +kernel)
theorem m_X8_push_4 {l : Launch} {D : va_G} {ad : Nat → Nat} {cy : Nat → ClassId} {Z : State → Heap → Prop} (hAd : fm_Ad fm_tm ad) (hZ : fm_Zk (fm_A fm_tm ad) Z) : rv_Met l D fm_cl fm_tm ad cy fm_nt Z fm_G yX8_push (.code yX8_push prog_10_method_15_code 3 none :: fm_Ts) { frames := 0, cells := 0, slots := 0, locals := 0 } K_X8_push_4 := rv_met hAd hZ (Or.inl (by decide +kernel)) evX8 dc_X8_push a_X8_push_4 ⟨rfl, rfl, rfl⟩ (by decide +kernel) (by decide +kernel) (by decide) (fm_gm fm_G_gd (by decide +kernel)) (rfl) (fun p e s m args below meth c Q X Y => fun _ h => absurd h List.not_mem_nil) (fun _ _ _ _ _ _ _ _ _ _ _ _ _ _ _ _ h => absurd h List.not_mem_nil)
def cd_X8_feed : List (Nat × Instr × Nat) := [(0, .aload_n 0, 1), (1, .getfield 201, 3), (4, .bipush 20, 2), (6, .iadd, 1), (7, .sipush 220, 3), (10, .if_icmp .le 5, 3), (13, .iconst (-1), 1), (14, .ireturn, 1), (15, .aload_n 0, 1), (16, .iload_n 1, 1), (17, .invokevirtual 204, 3), (20, .aload_n 0, 1), (21, .iload_n 2, 1), (22, .invokevirtual 204, 3), (25, .aload_n 0, 1), (26, .iload_n 3, 1), (27, .invokevirtual 204, 3), (30, .aload_n 0, 1), (31, .iload 4, 2), (33, .invokevirtual 204, 3), (36, .aload_n 0, 1), (37, .iload 5, 2), (39, .invokevirtual 204, 3), (42, .aload_n 0, 1), (43, .getfield 201, 3), (46, .ireturn, 1)]
theorem dc_X8_feed : ∀ q ∈ cd_X8_feed, decode prog_10_method_16_code q.1 = .ok (q.2.1, q.2.2) := by decide +kernel
def K_X8_feed_0 : rv_K := ([rv_r 80, rv_full, rv_full, rv_full, rv_full, rv_full], [], [(80, 1), (81, 9999)], [(1, (-1), 220)], [], [])
def ct_X8_feed_0 : List (Nat × rv_K) := [(10, K_X8_push_0), (13, K_X8_push_1), (16, K_X8_push_2), (19, K_X8_push_3), (22, K_X8_push_4)]
def n_X8_feed_0_0 : List rv_N := [
  (0, ([rv_r 80, rv_full, rv_full, rv_full, rv_full, rv_full], [], []), [1], 23, [], []),
  (1, ([rv_r 80, rv_full, rv_full, rv_full, rv_full, rv_full], [rv_r 80], []), [2], 22, [], []),
  (2, ([rv_r 80, rv_full, rv_full, rv_full, rv_full, rv_full], [(1, 0, 0, 220, [(.inr (80, 1), 0)], [])], []), [3], 21, [], []),
  (3, ([rv_r 80, rv_full, rv_full, rv_full, rv_full, rv_full], [rv_i 20 20, (1, 0, 0, 220, [(.inr (80, 1), 0)], [])], []), [4], 20, [], []),
  (4, ([rv_r 80, rv_full, rv_full, rv_full, rv_full, rv_full], [(1, 0, 20, 240, [(.inr (80, 1), 20)], [])], []), [5], 19, [], []),
  (5, ([rv_r 80, rv_full, rv_full, rv_full, rv_full, rv_full], [rv_i 220 220, (1, 0, 20, 240, [(.inr (80, 1), 20)], [])], []), [6, 8], 18, [], []),
  (6, ([rv_r 80, rv_full, rv_full, rv_full, rv_full, rv_full], [], [((80, 1), 201, 220, [])]), [7], 1, [], []),
  (7, ([rv_r 80, rv_full, rv_full, rv_full, rv_full, rv_full], [rv_i (-1) (-1)], [((80, 1), 201, 220, [])]), [], 0, [], []),
  (8, ([rv_r 80, rv_full, rv_full, rv_full, rv_full, rv_full], [], [((80, 1), 0, 200, [])]), [9], 17, [], []),
  (9, ([rv_r 80, rv_full, rv_full, rv_full, rv_full, rv_full], [rv_r 80], [((80, 1), 0, 200, [])]), [10], 16, [], []),
  (10, ([rv_r 80, rv_full, rv_full, rv_full, rv_full, rv_full], [(1, 0, (-2147483648), 2147483647, [(.inl 1, 0)], []), rv_r 80], [((80, 1), 0, 200, [])]), [11], 15, [], [0]),
  (11, ([rv_r 80, rv_full, rv_full, rv_full, rv_full, rv_full], [], [((80, 1), 4, 204, [])]), [12], 14, [], []),
  (12, ([rv_r 80, rv_full, rv_full, rv_full, rv_full, rv_full], [rv_r 80], [((80, 1), 4, 204, [])]), [13], 13, [], []),
  (13, ([rv_r 80, rv_full, rv_full, rv_full, rv_full, rv_full], [(1, 0, (-2147483648), 2147483647, [(.inl 2, 0)], []), rv_r 80], [((80, 1), 4, 204, [])]), [14], 12, [], [1]),
  (14, ([rv_r 80, rv_full, rv_full, rv_full, rv_full, rv_full], [], [((80, 1), 8, 208, [])]), [15], 11, [], []),
  (15, ([rv_r 80, rv_full, rv_full, rv_full, rv_full, rv_full], [rv_r 80], [((80, 1), 8, 208, [])]), [16], 10, [], [])]
def n_X8_feed_0_1 : List rv_N := [
  (16, ([rv_r 80, rv_full, rv_full, rv_full, rv_full, rv_full], [(1, 0, (-2147483648), 2147483647, [(.inl 3, 0)], []), rv_r 80], [((80, 1), 8, 208, [])]), [17], 9, [], [2]),
  (17, ([rv_r 80, rv_full, rv_full, rv_full, rv_full, rv_full], [], [((80, 1), 12, 212, [])]), [18], 8, [], []),
  (18, ([rv_r 80, rv_full, rv_full, rv_full, rv_full, rv_full], [rv_r 80], [((80, 1), 12, 212, [])]), [19], 7, [], []),
  (19, ([rv_r 80, rv_full, rv_full, rv_full, rv_full, rv_full], [(1, 0, (-2147483648), 2147483647, [(.inl 4, 0)], []), rv_r 80], [((80, 1), 12, 212, [])]), [20], 6, [], [3]),
  (20, ([rv_r 80, rv_full, rv_full, rv_full, rv_full, rv_full], [], [((80, 1), 16, 216, [])]), [21], 5, [], []),
  (21, ([rv_r 80, rv_full, rv_full, rv_full, rv_full, rv_full], [rv_r 80], [((80, 1), 16, 216, [])]), [22], 4, [], []),
  (22, ([rv_r 80, rv_full, rv_full, rv_full, rv_full, rv_full], [(1, 0, (-2147483648), 2147483647, [(.inl 5, 0)], []), rv_r 80], [((80, 1), 16, 216, [])]), [23], 3, [], [4]),
  (23, ([rv_r 80, rv_full, rv_full, rv_full, rv_full, rv_full], [], [((80, 1), 20, 220, [])]), [24], 2, [], []),
  (24, ([rv_r 80, rv_full, rv_full, rv_full, rv_full, rv_full], [rv_r 80], [((80, 1), 20, 220, [])]), [25], 1, [], []),
  (25, ([rv_r 80, rv_full, rv_full, rv_full, rv_full, rv_full], [(1, 0, 20, 220, [(.inr (80, 1), 0)], [])], [((80, 1), 20, 220, [])]), [], 0, [], [])]
def n_X8_feed_0 : List rv_N := n_X8_feed_0_0 ++ (n_X8_feed_0_1)
noncomputable def gn_X8_feed_0 : Nat → Option rv_N := rv_ap 16 (rv_at n_X8_feed_0_0) (rv_at n_X8_feed_0_1)
theorem hn_X8_feed_0 : ∀ i : Nat, n_X8_feed_0[i]? = gn_X8_feed_0 i := rv_ap_eq (l := n_X8_feed_0_0) (c := 16) (rv_at_eq n_X8_feed_0_1) rfl
set_option maxRecDepth 100000 in
theorem a_X8_feed_0 : rv_all (fm_tm, flX8, fm_wr, kcX8, klX8, K_X8_feed_0.2.2.1, [], 6) ct_X8_feed_0 cd_X8_feed n_X8_feed_0 K_X8_feed_0 [] 0 n_X8_feed_0 = true := rv_fast hn_X8_feed_0 (rv_at_eq cd_X8_feed) (by decide +kernel)
theorem m_X8_feed_0 {l : Launch} {D : va_G} {ad : Nat → Nat} {cy : Nat → ClassId} {Z : State → Heap → Prop} (hAd : fm_Ad fm_tm ad) (hZ : fm_Zk (fm_A fm_tm ad) Z) : rv_Met l D fm_cl fm_tm ad cy fm_nt Z fm_G yX8_feed (.code yX8_feed prog_10_method_16_code 6 (some .int) :: fm_Ts) { frames := 1, cells := 0, slots := 0, locals := 100 } K_X8_feed_0 := rv_met hAd hZ (Or.inl (by decide +kernel)) evX8 dc_X8_feed a_X8_feed_0 ⟨rfl, rfl, rfl⟩ (by decide +kernel) (by decide +kernel) (by decide) (fm_gm fm_G_gd (by decide +kernel)) (Or.inl rfl) (fun p e s m args below meth c Q X Y => List.forall_mem_cons.mpr ⟨rv_ctV X Y fm_Ts_good dc_X8_feed (pc := 17) (i := 10) (idx := 204) rfl (m_X8_push_0 hAd hZ) wl_X8_204 wm_X8_push wy_X8_push (by decide) ⟨rfl, rfl, rfl⟩ ⟨rfl, rfl⟩, List.forall_mem_cons.mpr ⟨rv_ctV X Y fm_Ts_good dc_X8_feed (pc := 22) (i := 13) (idx := 204) rfl (m_X8_push_1 hAd hZ) wl_X8_204 wm_X8_push wy_X8_push (by decide) ⟨rfl, rfl, rfl⟩ ⟨rfl, rfl⟩, List.forall_mem_cons.mpr ⟨rv_ctV X Y fm_Ts_good dc_X8_feed (pc := 27) (i := 16) (idx := 204) rfl (m_X8_push_2 hAd hZ) wl_X8_204 wm_X8_push wy_X8_push (by decide) ⟨rfl, rfl, rfl⟩ ⟨rfl, rfl⟩, List.forall_mem_cons.mpr ⟨rv_ctV X Y fm_Ts_good dc_X8_feed (pc := 33) (i := 19) (idx := 204) rfl (m_X8_push_3 hAd hZ) wl_X8_204 wm_X8_push wy_X8_push (by decide) ⟨rfl, rfl, rfl⟩ ⟨rfl, rfl⟩, List.forall_mem_cons.mpr ⟨rv_ctV X Y fm_Ts_good dc_X8_feed (pc := 39) (i := 22) (idx := 204) rfl (m_X8_push_4 hAd hZ) wl_X8_204 wm_X8_push wy_X8_push (by decide) ⟨rfl, rfl, rfl⟩ ⟨rfl, rfl⟩, fun _ h => absurd h List.not_mem_nil⟩⟩⟩⟩⟩) (fun _ _ _ _ _ _ _ _ _ _ _ _ _ _ _ _ h => absurd h List.not_mem_nil)
def cd_X8_areHours : List (Nat × Instr × Nat) := [(0, .iload_n 0, 1), (1, .i2l, 1), (2, .lconst 1, 1), (3, .ldc2_w 411, 3), (6, .invokestatic 168, 3), (9, .ireturn, 1)]
theorem dc_X8_areHours : ∀ q ∈ cd_X8_areHours, decode prog_10_method_62_code q.1 = .ok (q.2.1, q.2.2) := by decide +kernel
def K_X8_areHours_0 : rv_K := ([rv_full], [], [], [(0, 0, 1)], [(.inl 0, 1, 40)], [])
def ct_X8_areHours_0 : List (Nat × rv_K) := [(4, K_lies_1_40)]
def n_X8_areHours_0 : List rv_N := [
  (0, ([rv_full], [], []), [1], 5, [], []),
  (1, ([rv_full], [(1, 0, (-2147483648), 2147483647, [(.inl 0, 0)], [])], []), [2], 4, [], []),
  (2, ([rv_full], [(3, 0, (-2147483648), 2147483647, [(.inl 0, 0)], [])], []), [3], 3, [], []),
  (3, ([rv_full], [(3, 0, 1, 1, [], []), (3, 0, (-2147483648), 2147483647, [(.inl 0, 0)], [])], []), [4], 2, [], []),
  (4, ([rv_full], [(3, 0, 40, 40, [], []), (3, 0, 1, 1, [], []), (3, 0, (-2147483648), 2147483647, [(.inl 0, 0)], [])], []), [5], 1, [], [0]),
  (5, ([rv_full], [(1, 0, 0, 1, [], [(.inl 0, 1, 40)])], []), [], 0, [], [])]
set_option maxRecDepth 100000 in
theorem a_X8_areHours_0 : rv_all (fm_tm, flX8, fm_wr, kcX8, klX8, K_X8_areHours_0.2.2.1, [0], 1) ct_X8_areHours_0 cd_X8_areHours n_X8_areHours_0 K_X8_areHours_0 [] 0 n_X8_areHours_0 = true := rv_fast (rv_at_eq n_X8_areHours_0) (rv_at_eq cd_X8_areHours) (by decide +kernel)
theorem m_X8_areHours_0 {l : Launch} {D : va_G} {ad : Nat → Nat} {cy : Nat → ClassId} {Z : State → Heap → Prop} (hAd : fm_Ad fm_tm ad) (hZ : fm_Zk (fm_A fm_tm ad) Z) : rv_Met l D fm_cl fm_tm ad cy fm_nt Z fm_G yX8_areHours (.code yX8_areHours prog_10_method_62_code 1 (some .boolean) :: fm_Ts) { frames := 1, cells := 0, slots := 0, locals := 100 } K_X8_areHours_0 := rv_met hAd hZ (Or.inl (by decide +kernel)) evX8 dc_X8_areHours a_X8_areHours_0 ⟨rfl, rfl, rfl⟩ (by decide +kernel) (by decide +kernel) (by decide) (fm_gm fm_G_gd (by decide +kernel)) (Or.inr ⟨rfl, by decide, by decide⟩) (fun p e s m args below meth c Q X Y => List.forall_mem_cons.mpr ⟨rv_ctS X Y fm_Ts_good dc_X8_areHours (pc := 6) (i := 4) (idx := 168) rfl (m_lies_1_40 hAd hZ) wl_X8_168 wm_X8_lies wy_X8_lies (by decide) rfl, fun _ h => absurd h List.not_mem_nil⟩) (fun _ _ _ _ _ _ _ _ _ _ _ _ _ _ _ _ h => absurd h List.not_mem_nil)
def cd_X8_isPorter : List (Nat × Instr × Nat) := [(0, .iload_n 1, 1), (1, .i2l, 1), (2, .lconst 0, 1), (3, .ldc2_w 174, 3), (6, .invokestatic 168, 3), (9, .ifCond .eq 16, 3), (12, .aload_n 0, 1), (13, .getfield 37, 3), (16, .iload_n 1, 1), (17, .baload, 1), (18, .ifCond .eq 7, 3), (21, .iconst 1, 1), (22, .goto 4, 3), (25, .iconst 0, 1), (26, .ireturn, 1)]
theorem dc_X8_isPorter : ∀ q ∈ cd_X8_isPorter, decode prog_10_method_7_code q.1 = .ok (q.2.1, q.2.2) := by decide +kernel
def K_X8_isPorter_0 : rv_K := ([rv_r 80, rv_full], [], [], [(0, 0, 1)], [(.inl 1, 0, 8), (.inr (88, 5001), 1, 1)], [])
def ct_X8_isPorter_0 : List (Nat × rv_K) := [(4, K_lies_0_8)]
def n_X8_isPorter_0 : List rv_N := [
  (0, ([rv_r 80, rv_full], [], []), [1], 13, [], []),
  (1, ([rv_r 80, rv_full], [(1, 0, (-2147483648), 2147483647, [(.inl 1, 0)], [])], []), [2], 12, [], []),
  (2, ([rv_r 80, rv_full], [(3, 0, (-2147483648), 2147483647, [(.inl 1, 0)], [])], []), [3], 11, [], []),
  (3, ([rv_r 80, rv_full], [(3, 0, 0, 0, [], []), (3, 0, (-2147483648), 2147483647, [(.inl 1, 0)], [])], []), [4], 10, [], []),
  (4, ([rv_r 80, rv_full], [(3, 0, 8, 8, [], []), (3, 0, 0, 0, [], []), (3, 0, (-2147483648), 2147483647, [(.inl 1, 0)], [])], []), [5], 9, [], [0]),
  (5, ([rv_r 80, rv_full], [(1, 0, 0, 1, [], [(.inl 1, 0, 8)])], []), [6, 13], 8, [], []),
  (6, ([rv_r 80, rv_i 0 8], [], []), [7], 7, [], []),
  (7, ([rv_r 80, rv_i 0 8], [rv_r 80], []), [8], 6, [], []),
  (8, ([rv_r 80, rv_i 0 8], [rv_r 88], []), [9], 5, [], []),
  (9, ([rv_r 80, rv_i 0 8], [(1, 0, 0, 8, [(.inl 1, 0)], []), rv_r 88], []), [10], 4, [], []),
  (10, ([rv_r 80, rv_i 0 8], [(1, 0, 0, 1, [(.inr (88, 5001), 0)], [])], []), [11, 13], 3, [], []),
  (11, ([rv_r 80, rv_i 0 8], [], [((88, 5001), 1, 1, [])]), [12], 2, [], []),
  (12, ([rv_r 80, rv_i 0 8], [rv_i 1 1], [((88, 5001), 1, 1, [])]), [15], 1, [], []),
  (13, ([rv_r 80, rv_full], [], []), [14], 1, [], []),
  (14, ([rv_r 80, rv_full], [rv_i 0 0], []), [], 0, [], []),
  (14, ([rv_r 80, rv_i 0 8], [rv_i 1 1], [((88, 5001), 1, 1, [])]), [], 0, [], [])]
set_option maxRecDepth 100000 in
theorem a_X8_isPorter_0 : rv_all (fm_tm, flX8, fm_wr, kcX8, klX8, K_X8_isPorter_0.2.2.1, [1], 2) ct_X8_isPorter_0 cd_X8_isPorter n_X8_isPorter_0 K_X8_isPorter_0 [] 0 n_X8_isPorter_0 = true := rv_fast (rv_at_eq n_X8_isPorter_0) (rv_at_eq cd_X8_isPorter) (by decide +kernel)
theorem m_X8_isPorter_0 {l : Launch} {D : va_G} {ad : Nat → Nat} {cy : Nat → ClassId} {Z : State → Heap → Prop} (hAd : fm_Ad fm_tm ad) (hZ : fm_Zk (fm_A fm_tm ad) Z) : rv_Met l D fm_cl fm_tm ad cy fm_nt Z fm_G yX8_isPorter (.code yX8_isPorter prog_10_method_7_code 2 (some .boolean) :: fm_Ts) { frames := 1, cells := 0, slots := 0, locals := 100 } K_X8_isPorter_0 := rv_met hAd hZ (Or.inl (by decide +kernel)) evX8 dc_X8_isPorter a_X8_isPorter_0 ⟨rfl, rfl, rfl⟩ (by decide +kernel) (by decide +kernel) (by decide) (fm_gm fm_G_gd (by decide +kernel)) (Or.inr ⟨rfl, by decide, by decide⟩) (fun p e s m args below meth c Q X Y => List.forall_mem_cons.mpr ⟨rv_ctS X Y fm_Ts_good dc_X8_isPorter (pc := 6) (i := 4) (idx := 168) rfl (m_lies_0_8 hAd hZ) wl_X8_168 wm_X8_lies wy_X8_lies (by decide) rfl, fun _ h => absurd h List.not_mem_nil⟩) (fun _ _ _ _ _ _ _ _ _ _ _ _ _ _ _ _ h => absurd h List.not_mem_nil)
def cd_X8_goesStill : List (Nat × Instr × Nat) := [(0, .aload_n 0, 1), (1, .iload_n 1, 1), (2, .invokevirtual 176, 3), (5, .ifCond .eq 18, 3), (8, .aload_n 0, 1), (9, .getfield 40, 3), (12, .iload_n 1, 1), (13, .iaload, 1), (14, .bipush 20, 2), (16, .if_icmp .ge 7, 3), (19, .iconst 1, 1), (20, .goto 4, 3), (23, .iconst 0, 1), (24, .ireturn, 1)]
theorem dc_X8_goesStill : ∀ q ∈ cd_X8_goesStill, decode prog_10_method_8_code q.1 = .ok (q.2.1, q.2.2) := by decide +kernel
def K_X8_goesStill_0 : rv_K := ([rv_r 80, rv_full], [], [], [(0, 0, 1)], [(.inl 1, 0, 8), (.inr (88, 5001), 1, 1), (.inr (89, 5001), 0, 19)], [])
def ct_X8_goesStill_0 : List (Nat × rv_K) := [(2, K_X8_isPorter_0)]
def n_X8_goesStill_0 : List rv_N := [
  (0, ([rv_r 80, rv_full], [], []), [1], 12, [], []),
  (1, ([rv_r 80, rv_full], [rv_r 80], []), [2], 11, [], []),
  (2, ([rv_r 80, rv_full], [(1, 0, (-2147483648), 2147483647, [(.inl 1, 0)], []), rv_r 80], []), [3], 10, [], [0]),
  (3, ([rv_r 80, rv_full], [(1, 0, 0, 1, [], [(.inl 1, 0, 8), (.inr (88, 5001), 1, 1)])], []), [4, 12], 9, [], []),
  (4, ([rv_r 80, rv_i 0 8], [], [((88, 5001), 1, 1, [])]), [5], 8, [], []),
  (5, ([rv_r 80, rv_i 0 8], [rv_r 80], [((88, 5001), 1, 1, [])]), [6], 7, [], []),
  (6, ([rv_r 80, rv_i 0 8], [rv_r 89], [((88, 5001), 1, 1, [])]), [7], 6, [], []),
  (7, ([rv_r 80, rv_i 0 8], [(1, 0, 0, 8, [(.inl 1, 0)], []), rv_r 89], [((88, 5001), 1, 1, [])]), [8], 5, [], []),
  (8, ([rv_r 80, rv_i 0 8], [(1, 0, 0, 20, [(.inr (89, 5001), 0)], [])], [((88, 5001), 1, 1, [])]), [9], 4, [], []),
  (9, ([rv_r 80, rv_i 0 8], [rv_i 20 20, (1, 0, 0, 20, [(.inr (89, 5001), 0)], [])], [((88, 5001), 1, 1, [])]), [10, 12], 3, [], []),
  (10, ([rv_r 80, rv_i 0 8], [], [((88, 5001), 1, 1, []), ((89, 5001), 0, 19, [])]), [11], 2, [], []),
  (11, ([rv_r 80, rv_i 0 8], [rv_i 1 1], [((88, 5001), 1, 1, []), ((89, 5001), 0, 19, [])]), [14], 1, [], []),
  (12, ([rv_r 80, rv_full], [], []), [13], 1, [], []),
  (13, ([rv_r 80, rv_full], [rv_i 0 0], []), [], 0, [], []),
  (13, ([rv_r 80, rv_i 0 8], [rv_i 1 1], [((88, 5001), 1, 1, []), ((89, 5001), 0, 19, [])]), [], 0, [], [])]
set_option maxRecDepth 100000 in
theorem a_X8_goesStill_0 : rv_all (fm_tm, flX8, fm_wr, kcX8, klX8, K_X8_goesStill_0.2.2.1, [1], 2) ct_X8_goesStill_0 cd_X8_goesStill n_X8_goesStill_0 K_X8_goesStill_0 [] 0 n_X8_goesStill_0 = true := rv_fast (rv_at_eq n_X8_goesStill_0) (rv_at_eq cd_X8_goesStill) (by decide +kernel)
theorem m_X8_goesStill_0 {l : Launch} {D : va_G} {ad : Nat → Nat} {cy : Nat → ClassId} {Z : State → Heap → Prop} (hAd : fm_Ad fm_tm ad) (hZ : fm_Zk (fm_A fm_tm ad) Z) : rv_Met l D fm_cl fm_tm ad cy fm_nt Z fm_G yX8_goesStill (.code yX8_goesStill prog_10_method_8_code 2 (some .boolean) :: fm_Ts) { frames := 2, cells := 0, slots := 0, locals := 200 } K_X8_goesStill_0 := rv_met hAd hZ (Or.inl (by decide +kernel)) evX8 dc_X8_goesStill a_X8_goesStill_0 ⟨rfl, rfl, rfl⟩ (by decide +kernel) (by decide +kernel) (by decide) (fm_gm fm_G_gd (by decide +kernel)) (Or.inr ⟨rfl, by decide, by decide⟩) (fun p e s m args below meth c Q X Y => List.forall_mem_cons.mpr ⟨rv_ctV X Y fm_Ts_good dc_X8_goesStill (pc := 2) (i := 2) (idx := 176) rfl (m_X8_isPorter_0 hAd hZ) wl_X8_176 wm_X8_isPorter wy_X8_isPorter (by decide) ⟨rfl, rfl, rfl⟩ ⟨rfl, rfl⟩, fun _ h => absurd h List.not_mem_nil⟩) (fun _ _ _ _ _ _ _ _ _ _ _ _ _ _ _ _ h => absurd h List.not_mem_nil)
def cd_X8_less : List (Nat × Instr × Nat) := [(0, .iload_n 0, 1), (1, .iload_n 1, 1), (2, .if_icmp .ge 7, 3), (5, .iload_n 0, 1), (6, .goto 4, 3), (9, .iload_n 1, 1), (10, .ireturn, 1)]
theorem dc_X8_less : ∀ q ∈ cd_X8_less, decode prog_10_method_52_code q.1 = .ok (q.2.1, q.2.2) := by decide +kernel
def K_X8_less_0 : rv_K := ([rv_full, rv_full], [], [], [(0, (-2147483648), 2147483647)], [], [])
def ct_X8_less_0 : List (Nat × rv_K) := []
def n_X8_less_0 : List rv_N := [
  (0, ([rv_full, rv_full], [], []), [1], 5, [], []),
  (1, ([rv_full, rv_full], [(1, 0, (-2147483648), 2147483647, [(.inl 0, 0)], [])], []), [2], 4, [], []),
  (2, ([rv_full, rv_full], [(1, 0, (-2147483648), 2147483647, [(.inl 1, 0)], []), (1, 0, (-2147483648), 2147483647, [(.inl 0, 0)], [])], []), [3, 5], 3, [], []),
  (3, ([rv_i (-2147483648) 2147483646, rv_i (-2147483647) 2147483647], [], []), [4], 2, [], []),
  (4, ([rv_i (-2147483648) 2147483646, rv_i (-2147483647) 2147483647], [(1, 0, (-2147483648), 2147483646, [(.inl 0, 0)], [])], []), [6], 1, [], []),
  (5, ([rv_full, rv_full], [], []), [6], 1, [], []),
  (6, ([rv_full, rv_full], [rv_full], []), [], 0, [], [])]
set_option maxRecDepth 100000 in
theorem a_X8_less_0 : rv_all (fm_tm, flX8, fm_wr, kcX8, klX8, K_X8_less_0.2.2.1, [], 2) ct_X8_less_0 cd_X8_less n_X8_less_0 K_X8_less_0 [] 0 n_X8_less_0 = true := rv_fast (rv_at_eq n_X8_less_0) (rv_at_eq cd_X8_less) (by decide +kernel)
theorem m_X8_less_0 {l : Launch} {D : va_G} {ad : Nat → Nat} {cy : Nat → ClassId} {Z : State → Heap → Prop} (hAd : fm_Ad fm_tm ad) (hZ : fm_Zk (fm_A fm_tm ad) Z) : rv_Met l D fm_cl fm_tm ad cy fm_nt Z fm_G yX8_less (.code yX8_less prog_10_method_52_code 2 (some .int) :: fm_Ts) { frames := 0, cells := 0, slots := 0, locals := 0 } K_X8_less_0 := rv_met hAd hZ (Or.inl (by decide +kernel)) evX8 dc_X8_less a_X8_less_0 ⟨rfl, rfl, rfl⟩ (by decide +kernel) (by decide +kernel) (by decide) (fm_gm fm_G_gd (by decide +kernel)) (Or.inl rfl) (fun p e s m args below meth c Q X Y => fun _ h => absurd h List.not_mem_nil) (fun _ _ _ _ _ _ _ _ _ _ _ _ _ _ _ _ h => absurd h List.not_mem_nil)
def cd_X8_wouldLose : List (Nat × Instr × Nat) := [(0, .aload_n 0, 1), (1, .getfield 43, 3), (4, .iload_n 1, 1), (5, .iaload, 1), (6, .aload_n 0, 1), (7, .bipush 108, 2), (9, .aload_n 0, 1), (10, .getfield 40, 3), (13, .iload_n 1, 1), (14, .iaload, 1), (15, .iload_n 1, 1), (16, .iconst (-1), 1), (17, .invokevirtual 362, 3), (20, .invokestatic 366, 3), (23, .ireturn, 1)]
theorem dc_X8_wouldLose : ∀ q ∈ cd_X8_wouldLose, decode prog_10_method_53_code q.1 = .ok (q.2.1, q.2.2) := by decide +kernel
def K_X8_wouldLose_0 : rv_K := ([rv_r 80, rv_i 0 8], [((80, 2), 0, 2000000000, []), ((89, 5001), 0, 19, [])], [(80, 43), (80, 44), (80, 45), (108, 9999), (109, 9999)], [(0, (-2147483648), 2147483647)], [(.inr (89, 5001), 0, 19)], [])
def ct_X8_wouldLose_0 : List (Nat × rv_K) := [(12, K_tells), (13, K_X8_less_0)]
def n_X8_wouldLose_0 : List rv_N := [
  (0, ([rv_r 80, rv_i 0 8], [], [((80, 2), 0, 2000000000, []), ((89, 5001), 0, 19, [])]), [1], 14, [], []),
  (1, ([rv_r 80, rv_i 0 8], [rv_r 80], [((80, 2), 0, 2000000000, []), ((89, 5001), 0, 19, [])]), [2], 13, [], []),
  (2, ([rv_r 80, rv_i 0 8], [rv_r 90], [((80, 2), 0, 2000000000, []), ((89, 5001), 0, 19, [])]), [3], 12, [], []),
  (3, ([rv_r 80, rv_i 0 8], [(1, 0, 0, 8, [(.inl 1, 0)], []), rv_r 90], [((80, 2), 0, 2000000000, []), ((89, 5001), 0, 19, [])]), [4], 11, [], []),
  (4, ([rv_r 80, rv_i 0 8], [(1, 0, (-2147483648), 2147483647, [(.inr (90, 5001), 0)], [])], [((80, 2), 0, 2000000000, []), ((89, 5001), 0, 19, [])]), [5], 10, [], []),
  (5, ([rv_r 80, rv_i 0 8], [rv_r 80, (1, 0, (-2147483648), 2147483647, [(.inr (90, 5001), 0)], [])], [((80, 2), 0, 2000000000, []), ((89, 5001), 0, 19, [])]), [6], 9, [], []),
  (6, ([rv_r 80, rv_i 0 8], [rv_i 108 108, rv_r 80, (1, 0, (-2147483648), 2147483647, [(.inr (90, 5001), 0)], [])], [((80, 2), 0, 2000000000, []), ((89, 5001), 0, 19, [])]), [7], 8, [], []),
  (7, ([rv_r 80, rv_i 0 8], [rv_r 80, rv_i 108 108, rv_r 80, (1, 0, (-2147483648), 2147483647, [(.inr (90, 5001), 0)], [])], [((80, 2), 0, 2000000000, []), ((89, 5001), 0, 19, [])]), [8], 7, [], []),
  (8, ([rv_r 80, rv_i 0 8], [rv_r 89, rv_i 108 108, rv_r 80, (1, 0, (-2147483648), 2147483647, [(.inr (90, 5001), 0)], [])], [((80, 2), 0, 2000000000, []), ((89, 5001), 0, 19, [])]), [9], 6, [], []),
  (9, ([rv_r 80, rv_i 0 8], [(1, 0, 0, 8, [(.inl 1, 0)], []), rv_r 89, rv_i 108 108, rv_r 80, (1, 0, (-2147483648), 2147483647, [(.inr (90, 5001), 0)], [])], [((80, 2), 0, 2000000000, []), ((89, 5001), 0, 19, [])]), [10], 5, [], []),
  (10, ([rv_r 80, rv_i 0 8], [(1, 0, 0, 19, [(.inr (89, 5001), 0)], []), rv_i 108 108, rv_r 80, (1, 0, (-2147483648), 2147483647, [(.inr (90, 5001), 0)], [])], [((80, 2), 0, 2000000000, []), ((89, 5001), 0, 19, [])]), [11], 4, [], []),
  (11, ([rv_r 80, rv_i 0 8], [(1, 0, 0, 8, [(.inl 1, 0)], []), (1, 0, 0, 19, [(.inr (89, 5001), 0)], []), rv_i 108 108, rv_r 80, (1, 0, (-2147483648), 2147483647, [(.inr (90, 5001), 0)], [])], [((80, 2), 0, 2000000000, []), ((89, 5001), 0, 19, [])]), [12], 3, [], []),
  (12, ([rv_r 80, rv_i 0 8], [rv_i (-1) (-1), (1, 0, 0, 8, [(.inl 1, 0)], []), (1, 0, 0, 19, [(.inr (89, 5001), 0)], []), rv_i 108 108, rv_r 80, (1, 0, (-2147483648), 2147483647, [(.inr (90, 5001), 0)], [])], [((80, 2), 0, 2000000000, []), ((89, 5001), 0, 19, [])]), [13], 2, [], [0]),
  (13, ([rv_r 80, rv_i 0 8], [rv_i 0 99, (1, 0, (-2147483648), 2147483647, [(.inr (90, 5001), 0)], [])], [((80, 2), 0, 2000000000, []), ((89, 5001), 0, 19, [])]), [14], 1, [], [1]),
  (14, ([rv_r 80, rv_i 0 8], [rv_full], [((80, 2), 0, 2000000000, []), ((89, 5001), 0, 19, [])]), [], 0, [], [])]
set_option maxRecDepth 100000 in
theorem a_X8_wouldLose_0 : rv_all (fm_tm, flX8, fm_wr, kcX8, klX8, K_X8_wouldLose_0.2.2.1, [1], 2) ct_X8_wouldLose_0 cd_X8_wouldLose n_X8_wouldLose_0 K_X8_wouldLose_0 [] 0 n_X8_wouldLose_0 = true := rv_fast (rv_at_eq n_X8_wouldLose_0) (rv_at_eq cd_X8_wouldLose) (by decide +kernel)
theorem m_X8_wouldLose_0 {l : Launch} {D : va_G} {ad : Nat → Nat} {cy : Nat → ClassId} {Z : State → Heap → Prop} (hAd : fm_Ad fm_tm ad) (hZ : fm_Zk (fm_A fm_tm ad) Z) : rv_Met l D fm_cl fm_tm ad cy fm_nt Z fm_G yX8_wouldLose (.code yX8_wouldLose prog_10_method_53_code 2 (some .int) :: fm_Ts) { frames := 6, cells := 0, slots := 0, locals := 600 } K_X8_wouldLose_0 := rv_met hAd hZ (Or.inl (by decide +kernel)) evX8 dc_X8_wouldLose a_X8_wouldLose_0 ⟨rfl, rfl, rfl⟩ (by decide +kernel) (by decide +kernel) (by decide) (fm_gm fm_G_gd (by decide +kernel)) (Or.inl rfl) (fun p e s m args below meth c Q X Y => List.forall_mem_cons.mpr ⟨rv_ctV X Y fm_Ts_good dc_X8_wouldLose (pc := 17) (i := 12) (idx := 362) rfl (m_tells hAd hZ) wl_X8_362 wm_X8_tells wy_X8_tells (by decide) ⟨rfl, rfl, rfl⟩ ⟨rfl, rfl⟩, List.forall_mem_cons.mpr ⟨rv_ctS X Y fm_Ts_good dc_X8_wouldLose (pc := 20) (i := 13) (idx := 366) rfl (m_X8_less_0 hAd hZ) wl_X8_366 wm_X8_less wy_X8_less (by decide) rfl, fun _ h => absurd h List.not_mem_nil⟩⟩) (fun _ _ _ _ _ _ _ _ _ _ _ _ _ _ _ _ h => absurd h List.not_mem_nil)
def cd_X8_comes : List (Nat × Instr × Nat) := [(0, .aload_n 0, 1), (1, .getfield 17, 3), (4, .iload_n 1, 1), (5, .iaload, 1), (6, .iload_n 2, 1), (7, .iadd, 1), (8, .istore_n 3, 1), (9, .aload_n 0, 1), (10, .dup, 1), (11, .getfield 370, 3), (14, .iload_n 3, 1), (15, .ldc_w 373, 3), (18, .if_icmp .le 11, 3), (21, .iload_n 3, 1), (22, .ldc_w 373, 3), (25, .isub, 1), (26, .goto 4, 3), (29, .iconst 0, 1), (30, .iadd, 1), (31, .putfield 370, 3), (34, .aload_n 0, 1), (35, .getfield 17, 3), (38, .iload_n 1, 1), (39, .iload_n 3, 1), (40, .ldc_w 373, 3), (43, .invokestatic 366, 3), (46, .iastore, 1), (47, .return_, 1)]
theorem dc_X8_comes : ∀ q ∈ cd_X8_comes, decode prog_10_method_54_code q.1 = .ok (q.2.1, q.2.2) := by decide +kernel
def K_X8_comes_0 : rv_K := ([rv_r 80, rv_i 0 19, rv_full], [], [(80, 6), (82, 9999)], [], [], [])
def ct_X8_comes_0 : List (Nat × rv_K) := [(25, K_X8_less_0)]
def n_X8_comes_0_0 : List rv_N := [
  (0, ([rv_r 80, rv_i 0 19, rv_full, rv_u], [], []), [1], 26, [], []),
  (1, ([rv_r 80, rv_i 0 19, rv_full, rv_u], [rv_r 80], []), [2], 25, [], []),
  (2, ([rv_r 80, rv_i 0 19, rv_full, rv_u], [rv_r 82], []), [3], 24, [], []),
  (3, ([rv_r 80, rv_i 0 19, rv_full, rv_u], [(1, 0, 0, 19, [(.inl 1, 0)], []), rv_r 82], []), [4], 23, [], []),
  (4, ([rv_r 80, rv_i 0 19, rv_full, rv_u], [(1, 0, (-2147483648), 2147483647, [(.inr (82, 5001), 0)], [])], []), [5], 22, [], []),
  (5, ([rv_r 80, rv_i 0 19, rv_full, rv_u], [(1, 0, (-2147483648), 2147483647, [(.inl 2, 0)], []), (1, 0, (-2147483648), 2147483647, [(.inr (82, 5001), 0)], [])], []), [6], 21, [], []),
  (6, ([rv_r 80, rv_i 0 19, rv_full, rv_u], [rv_full], []), [7], 20, [], []),
  (7, ([rv_r 80, rv_i 0 19, rv_full, rv_full], [], []), [8], 19, [], []),
  (8, ([rv_r 80, rv_i 0 19, rv_full, rv_full], [rv_r 80], []), [9], 18, [], []),
  (9, ([rv_r 80, rv_i 0 19, rv_full, rv_full], [rv_r 80, rv_r 80], []), [10], 17, [], []),
  (10, ([rv_r 80, rv_i 0 19, rv_full, rv_full], [(1, 0, (-2147483648), 2147483647, [(.inr (80, 6), 0)], []), rv_r 80], []), [11], 16, [], []),
  (11, ([rv_r 80, rv_i 0 19, rv_full, rv_full], [(1, 0, (-2147483648), 2147483647, [(.inl 3, 0)], []), (1, 0, (-2147483648), 2147483647, [(.inr (80, 6), 0)], []), rv_r 80], []), [12], 15, [], []),
  (12, ([rv_r 80, rv_i 0 19, rv_full, rv_full], [rv_i 99999 99999, (1, 0, (-2147483648), 2147483647, [(.inl 3, 0)], []), (1, 0, (-2147483648), 2147483647, [(.inr (80, 6), 0)], []), rv_r 80], []), [13, 17], 14, [], []),
  (13, ([rv_r 80, rv_i 0 19, rv_full, rv_i 100000 2147483647], [(1, 0, (-2147483648), 2147483647, [(.inr (80, 6), 0)], []), rv_r 80], []), [14], 13, [], []),
  (14, ([rv_r 80, rv_i 0 19, rv_full, rv_i 100000 2147483647], [(1, 0, 100000, 2147483647, [(.inl 3, 0)], []), (1, 0, (-2147483648), 2147483647, [(.inr (80, 6), 0)], []), rv_r 80], []), [15], 12, [], []),
  (15, ([rv_r 80, rv_i 0 19, rv_full, rv_i 100000 2147483647], [rv_i 99999 99999, (1, 0, 100000, 2147483647, [(.inl 3, 0)], []), (1, 0, (-2147483648), 2147483647, [(.inr (80, 6), 0)], []), rv_r 80], []), [16], 11, [], [])]
def n_X8_comes_0_1 : List rv_N := [
  (16, ([rv_r 80, rv_i 0 19, rv_full, rv_i 100000 2147483647], [(1, 0, 1, 2147383648, [(.inl 3, (-99999))], []), (1, 0, (-2147483648), 2147483647, [(.inr (80, 6), 0)], []), rv_r 80], []), [19], 10, [], []),
  (17, ([rv_r 80, rv_i 0 19, rv_full, rv_i (-2147483648) 99999], [(1, 0, (-2147483648), 2147483647, [(.inr (80, 6), 0)], []), rv_r 80], []), [18], 10, [], []),
  (18, ([rv_r 80, rv_i 0 19, rv_full, rv_i (-2147483648) 99999], [rv_i 0 0, (1, 0, (-2147483648), 2147483647, [(.inr (80, 6), 0)], []), rv_r 80], []), [20], 9, [], []),
  (18, ([rv_r 80, rv_i 0 19, rv_full, rv_i 100000 2147483647], [(1, 0, 1, 2147383648, [(.inl 3, (-99999))], []), (1, 0, (-2147483648), 2147483647, [(.inr (80, 6), 0)], []), rv_r 80], []), [20], 9, [], []),
  (19, ([rv_r 80, rv_i 0 19, rv_full, rv_full], [rv_full, rv_r 80], []), [21], 8, [], []),
  (20, ([rv_r 80, rv_i 0 19, rv_full, rv_full], [], []), [22], 7, [], []),
  (21, ([rv_r 80, rv_i 0 19, rv_full, rv_full], [rv_r 80], []), [23], 6, [], []),
  (22, ([rv_r 80, rv_i 0 19, rv_full, rv_full], [rv_r 82], []), [24], 5, [], []),
  (23, ([rv_r 80, rv_i 0 19, rv_full, rv_full], [(1, 0, 0, 19, [(.inl 1, 0)], []), rv_r 82], []), [25], 4, [], []),
  (24, ([rv_r 80, rv_i 0 19, rv_full, rv_full], [(1, 0, (-2147483648), 2147483647, [(.inl 3, 0)], []), (1, 0, 0, 19, [(.inl 1, 0)], []), rv_r 82], []), [26], 3, [], []),
  (25, ([rv_r 80, rv_i 0 19, rv_full, rv_full], [rv_i 99999 99999, (1, 0, (-2147483648), 2147483647, [(.inl 3, 0)], []), (1, 0, 0, 19, [(.inl 1, 0)], []), rv_r 82], []), [27], 2, [], [0]),
  (26, ([rv_r 80, rv_i 0 19, rv_full, rv_full], [rv_full, (1, 0, 0, 19, [(.inl 1, 0)], []), rv_r 82], []), [28], 1, [], []),
  (27, ([rv_r 80, rv_i 0 19, rv_full, rv_full], [], []), [], 0, [], [])]
def n_X8_comes_0 : List rv_N := n_X8_comes_0_0 ++ (n_X8_comes_0_1)
noncomputable def gn_X8_comes_0 : Nat → Option rv_N := rv_ap 16 (rv_at n_X8_comes_0_0) (rv_at n_X8_comes_0_1)
theorem hn_X8_comes_0 : ∀ i : Nat, n_X8_comes_0[i]? = gn_X8_comes_0 i := rv_ap_eq (l := n_X8_comes_0_0) (c := 16) (rv_at_eq n_X8_comes_0_1) rfl
set_option maxRecDepth 100000 in
theorem a_X8_comes_0 : rv_all (fm_tm, flX8, fm_wr, kcX8, klX8, K_X8_comes_0.2.2.1, [], 4) ct_X8_comes_0 cd_X8_comes n_X8_comes_0 K_X8_comes_0 [] 0 n_X8_comes_0 = true := rv_fast hn_X8_comes_0 (rv_at_eq cd_X8_comes) (by decide +kernel)
theorem m_X8_comes_0 {l : Launch} {D : va_G} {ad : Nat → Nat} {cy : Nat → ClassId} {Z : State → Heap → Prop} (hAd : fm_Ad fm_tm ad) (hZ : fm_Zk (fm_A fm_tm ad) Z) : rv_Met l D fm_cl fm_tm ad cy fm_nt Z fm_G yX8_comes (.code yX8_comes prog_10_method_54_code 4 none :: fm_Ts) { frames := 1, cells := 0, slots := 0, locals := 100 } K_X8_comes_0 := rv_met hAd hZ (Or.inl (by decide +kernel)) evX8 dc_X8_comes a_X8_comes_0 ⟨rfl, rfl, rfl⟩ (by decide +kernel) (by decide +kernel) (by decide) (fm_gm fm_G_gd (by decide +kernel)) (rfl) (fun p e s m args below meth c Q X Y => List.forall_mem_cons.mpr ⟨rv_ctS X Y fm_Ts_good dc_X8_comes (pc := 43) (i := 25) (idx := 366) rfl (m_X8_less_0 hAd hZ) wl_X8_366 wm_X8_less wy_X8_less (by decide) rfl, fun _ h => absurd h List.not_mem_nil⟩) (fun _ _ _ _ _ _ _ _ _ _ _ _ _ _ _ _ h => absurd h List.not_mem_nil)
def cd_X8_loses : List (Nat × Instr × Nat) := [(0, .iconst 0, 1), (1, .istore_n 1, 1), (2, .iload_n 1, 1), (3, .bipush 9, 2), (5, .if_icmp .ge 91, 3), (8, .aload_n 0, 1), (9, .getfield 103, 3), (12, .iload_n 1, 1), (13, .iconst 0, 1), (14, .iastore, 1), (15, .aload_n 0, 1), (16, .iload_n 1, 1), (17, .invokevirtual 374, 3), (20, .ifCond .ne 6, 3), (23, .goto 67, 3), (26, .aload_n 0, 1), (27, .iload_n 1, 1), (28, .invokevirtual 377, 3), (31, .istore_n 2, 1), (32, .aload_n 0, 1), (33, .getfield 103, 3), (36, .iload_n 1, 1), (37, .iload_n 2, 1), (38, .iastore, 1), (39, .aload_n 0, 1), (40, .dup, 1), (41, .getfield 380, 3), (44, .iload_n 2, 1), (45, .iadd, 1), (46, .putfield 380, 3), (49, .aload_n 0, 1), (50, .getfield 43, 3), (53, .iload_n 1, 1), (54, .dup2, 1), (55, .iaload, 1), (56, .iload_n 2, 1), (57, .isub, 1), (58, .iastore, 1), (59, .aload_n 0, 1), (60, .getfield 55, 3), (63, .bipush 20, 2), (65, .iload_n 1, 1), (66, .imul, 1), (67, .aload_n 0, 1), (68, .getfield 40, 3), (71, .iload_n 1, 1), (72, .iaload, 1), (73, .iadd, 1), (74, .dup2, 1), (75, .iaload, 1), (76, .iload_n 2, 1), (77, .iadd, 1), (78, .iastore, 1), (79, .aload_n 0, 1), (80, .aload_n 0, 1), (81, .getfield 40, 3), (84, .iload_n 1, 1), (85, .iaload, 1), (86, .iload_n 2, 1), (87, .invokevirtual 383, 3), (90, .iinc 1 1, 3), (93, .goto (-91), 3), (96, .return_, 1)]
theorem dc_X8_loses : ∀ q ∈ cd_X8_loses, decode prog_10_method_55_code q.1 = .ok (q.2.1, q.2.2) := by decide +kernel
def ch_X8_loses_0 : List (Nat × Instr × Nat) := [(0, .iconst 0, 1), (1, .istore_n 1, 1), (2, .iload_n 1, 1), (3, .bipush 9, 2), (5, .if_icmp .ge 91, 3), (8, .aload_n 0, 1), (9, .getfield 103, 3), (12, .iload_n 1, 1), (13, .iconst 0, 1), (14, .iastore, 1), (15, .aload_n 0, 1), (16, .iload_n 1, 1), (17, .invokevirtual 374, 3), (20, .ifCond .ne 6, 3), (23, .goto 67, 3), (26, .aload_n 0, 1)]
def ch_X8_loses_1 : List (Nat × Instr × Nat) := [(27, .iload_n 1, 1), (28, .invokevirtual 377, 3), (31, .istore_n 2, 1), (32, .aload_n 0, 1), (33, .getfield 103, 3), (36, .iload_n 1, 1), (37, .iload_n 2, 1), (38, .iastore, 1), (39, .aload_n 0, 1), (40, .dup, 1), (41, .getfield 380, 3), (44, .iload_n 2, 1), (45, .iadd, 1), (46, .putfield 380, 3), (49, .aload_n 0, 1), (50, .getfield 43, 3)]
def ch_X8_loses_2 : List (Nat × Instr × Nat) := [(53, .iload_n 1, 1), (54, .dup2, 1), (55, .iaload, 1), (56, .iload_n 2, 1), (57, .isub, 1), (58, .iastore, 1), (59, .aload_n 0, 1), (60, .getfield 55, 3), (63, .bipush 20, 2), (65, .iload_n 1, 1), (66, .imul, 1), (67, .aload_n 0, 1), (68, .getfield 40, 3), (71, .iload_n 1, 1), (72, .iaload, 1), (73, .iadd, 1)]
def ch_X8_loses_3 : List (Nat × Instr × Nat) := [(74, .dup2, 1), (75, .iaload, 1), (76, .iload_n 2, 1), (77, .iadd, 1), (78, .iastore, 1), (79, .aload_n 0, 1), (80, .aload_n 0, 1), (81, .getfield 40, 3), (84, .iload_n 1, 1), (85, .iaload, 1), (86, .iload_n 2, 1), (87, .invokevirtual 383, 3), (90, .iinc 1 1, 3), (93, .goto (-91), 3), (96, .return_, 1)]
set_option maxRecDepth 100000 in
theorem he_X8_loses : cd_X8_loses = ch_X8_loses_0 ++ (ch_X8_loses_1 ++ (ch_X8_loses_2 ++ (ch_X8_loses_3))) := rfl
noncomputable def gc_X8_loses : Nat → Option (Nat × Instr × Nat) := rv_ap 16 (rv_at ch_X8_loses_0) (rv_ap 16 (rv_at ch_X8_loses_1) (rv_ap 16 (rv_at ch_X8_loses_2) (rv_at ch_X8_loses_3)))
theorem hc_X8_loses : ∀ i : Nat, cd_X8_loses[i]? = gc_X8_loses i := by
  rw [he_X8_loses]
  exact rv_ap_eq (l := ch_X8_loses_0) (c := 16) (rv_ap_eq (l := ch_X8_loses_1) (c := 16) (rv_ap_eq (l := ch_X8_loses_2) (c := 16) (rv_at_eq ch_X8_loses_3) rfl) rfl) rfl
def K_X8_loses_0 : rv_K := ([rv_r 80], [((80, 2), 0, 2000000000, [])], [(80, 6), (80, 43), (80, 44), (80, 45), (80, 51), (82, 9999), (90, 9999), (94, 9999), (108, 9999), (109, 9999), (110, 9999)], [], [], [])
def ct_X8_loses_0 : List (Nat × rv_K) := [(12, K_X8_goesStill_0), (17, K_X8_wouldLose_0), (59, K_X8_comes_0)]
def n_X8_loses_0_0 : List rv_N := [
  (0, ([rv_r 80, rv_u, rv_u], [], [((80, 2), 0, 2000000000, [])]), [1], 7889, [], []),
  (1, ([rv_r 80, rv_u, rv_u], [rv_i 0 0], [((80, 2), 0, 2000000000, [])]), [2], 7888, [], []),
  (2, ([rv_r 80, rv_i 0 9, rv_u], [], [((80, 2), 0, 2000000000, [])]), [3], 7887, [(1, (-876))], []),
  (3, ([rv_r 80, rv_i 0 9, rv_u], [(1, 0, 0, 9, [(.inl 1, 0)], [])], [((80, 2), 0, 2000000000, [])]), [4], 7886, [(1, (-876))], []),
  (4, ([rv_r 80, rv_i 0 9, rv_u], [rv_i 9 9, (1, 0, 0, 9, [(.inl 1, 0)], [])], [((80, 2), 0, 2000000000, [])]), [5, 62], 7885, [(1, (-876))], []),
  (5, ([rv_r 80, rv_i 0 8, rv_u], [], [((80, 2), 0, 2000000000, [])]), [6], 7067, [(1, (-876))], []),
  (6, ([rv_r 80, rv_i 0 8, rv_u], [rv_r 80], [((80, 2), 0, 2000000000, [])]), [7], 7066, [(1, (-876))], []),
  (7, ([rv_r 80, rv_i 0 8, rv_u], [rv_r 110], [((80, 2), 0, 2000000000, [])]), [8], 7065, [(1, (-876))], []),
  (8, ([rv_r 80, rv_i 0 8, rv_u], [(1, 0, 0, 8, [(.inl 1, 0)], []), rv_r 110], [((80, 2), 0, 2000000000, [])]), [9], 7064, [(1, (-876))], []),
  (9, ([rv_r 80, rv_i 0 8, rv_u], [rv_i 0 0, (1, 0, 0, 8, [(.inl 1, 0)], []), rv_r 110], [((80, 2), 0, 2000000000, [])]), [10], 7063, [(1, (-876))], []),
  (10, ([rv_r 80, rv_i 0 8, rv_u], [], [((80, 2), 0, 2000000000, [])]), [11], 7062, [(1, (-876))], []),
  (11, ([rv_r 80, rv_i 0 8, rv_u], [rv_r 80], [((80, 2), 0, 2000000000, [])]), [12], 7061, [(1, (-876))], []),
  (12, ([rv_r 80, rv_i 0 8, rv_u], [(1, 0, 0, 8, [(.inl 1, 0)], []), rv_r 80], [((80, 2), 0, 2000000000, [])]), [13], 7060, [(1, (-876))], [0]),
  (13, ([rv_r 80, rv_i 0 8, rv_u], [(1, 0, 0, 1, [], [(.inl 1, 0, 8), (.inr (88, 5001), 1, 1), (.inr (89, 5001), 0, 19)])], [((80, 2), 0, 2000000000, [])]), [14, 15], 7059, [(1, (-876))], []),
  (14, ([rv_r 80, rv_i 0 8, rv_u], [], [((80, 2), 0, 2000000000, [])]), [60], 7014, [(1, (-876))], []),
  (15, ([rv_r 80, rv_i 0 8, rv_u], [], [((80, 2), 0, 2000000000, []), ((88, 5001), 1, 1, []), ((89, 5001), 0, 19, [])]), [16], 7058, [(1, (-876))], [])]
def n_X8_loses_0_1 : List rv_N := [
  (16, ([rv_r 80, rv_i 0 8, rv_u], [rv_r 80], [((80, 2), 0, 2000000000, []), ((88, 5001), 1, 1, []), ((89, 5001), 0, 19, [])]), [17], 7057, [(1, (-876))], []),
  (17, ([rv_r 80, rv_i 0 8, rv_u], [(1, 0, 0, 8, [(.inl 1, 0)], []), rv_r 80], [((80, 2), 0, 2000000000, []), ((88, 5001), 1, 1, []), ((89, 5001), 0, 19, [])]), [18], 7056, [(1, (-876))], [1]),
  (18, ([rv_r 80, rv_i 0 8, rv_u], [(1, 0, (-2147483648), 2147483647, [], [(.inr (89, 5001), 0, 19)])], [((80, 2), 0, 2000000000, []), ((88, 5001), 1, 1, []), ((89, 5001), 0, 19, [])]), [19], 7055, [(1, (-876))], []),
  (19, ([rv_r 80, rv_i 0 8, rv_full], [], [((80, 2), 0, 2000000000, []), ((88, 5001), 1, 1, []), ((89, 5001), 0, 19, [])]), [20], 7054, [(1, (-876))], []),
  (20, ([rv_r 80, rv_i 0 8, rv_full], [rv_r 80], [((80, 2), 0, 2000000000, []), ((88, 5001), 1, 1, []), ((89, 5001), 0, 19, [])]), [21], 7053, [(1, (-876))], []),
  (21, ([rv_r 80, rv_i 0 8, rv_full], [rv_r 110], [((80, 2), 0, 2000000000, []), ((88, 5001), 1, 1, []), ((89, 5001), 0, 19, [])]), [22], 7052, [(1, (-876))], []),
  (22, ([rv_r 80, rv_i 0 8, rv_full], [(1, 0, 0, 8, [(.inl 1, 0)], []), rv_r 110], [((80, 2), 0, 2000000000, []), ((88, 5001), 1, 1, []), ((89, 5001), 0, 19, [])]), [23], 7051, [(1, (-876))], []),
  (23, ([rv_r 80, rv_i 0 8, rv_full], [(1, 0, (-2147483648), 2147483647, [(.inl 2, 0)], []), (1, 0, 0, 8, [(.inl 1, 0)], []), rv_r 110], [((80, 2), 0, 2000000000, []), ((88, 5001), 1, 1, []), ((89, 5001), 0, 19, [])]), [24], 7050, [(1, (-876))], []),
  (24, ([rv_r 80, rv_i 0 8, rv_full], [], [((80, 2), 0, 2000000000, []), ((88, 5001), 1, 1, []), ((89, 5001), 0, 19, [])]), [25], 7049, [(1, (-876))], []),
  (25, ([rv_r 80, rv_i 0 8, rv_full], [rv_r 80], [((80, 2), 0, 2000000000, []), ((88, 5001), 1, 1, []), ((89, 5001), 0, 19, [])]), [26], 7048, [(1, (-876))], []),
  (26, ([rv_r 80, rv_i 0 8, rv_full], [rv_r 80, rv_r 80], [((80, 2), 0, 2000000000, []), ((88, 5001), 1, 1, []), ((89, 5001), 0, 19, [])]), [27], 7047, [(1, (-876))], []),
  (27, ([rv_r 80, rv_i 0 8, rv_full], [(1, 0, (-2147483648), 2147483647, [(.inr (80, 51), 0)], []), rv_r 80], [((80, 2), 0, 2000000000, []), ((88, 5001), 1, 1, []), ((89, 5001), 0, 19, [])]), [28], 7046, [(1, (-876))], []),
  (28, ([rv_r 80, rv_i 0 8, rv_full], [(1, 0, (-2147483648), 2147483647, [(.inl 2, 0)], []), (1, 0, (-2147483648), 2147483647, [(.inr (80, 51), 0)], []), rv_r 80], [((80, 2), 0, 2000000000, []), ((88, 5001), 1, 1, []), ((89, 5001), 0, 19, [])]), [29], 7045, [(1, (-876))], []),
  (29, ([rv_r 80, rv_i 0 8, rv_full], [rv_full, rv_r 80], [((80, 2), 0, 2000000000, []), ((88, 5001), 1, 1, []), ((89, 5001), 0, 19, [])]), [30], 7044, [(1, (-876))], []),
  (30, ([rv_r 80, rv_i 0 8, rv_full], [], [((80, 2), 0, 2000000000, []), ((88, 5001), 1, 1, []), ((89, 5001), 0, 19, [])]), [31], 7043, [(1, (-876))], []),
  (31, ([rv_r 80, rv_i 0 8, rv_full], [rv_r 80], [((80, 2), 0, 2000000000, []), ((88, 5001), 1, 1, []), ((89, 5001), 0, 19, [])]), [32], 7042, [(1, (-876))], [])]
def n_X8_loses_0_2 : List rv_N := [
  (32, ([rv_r 80, rv_i 0 8, rv_full], [rv_r 90], [((80, 2), 0, 2000000000, []), ((88, 5001), 1, 1, []), ((89, 5001), 0, 19, [])]), [33], 7041, [(1, (-876))], []),
  (33, ([rv_r 80, rv_i 0 8, rv_full], [(1, 0, 0, 8, [(.inl 1, 0)], []), rv_r 90], [((80, 2), 0, 2000000000, []), ((88, 5001), 1, 1, []), ((89, 5001), 0, 19, [])]), [34], 7040, [(1, (-876))], []),
  (34, ([rv_r 80, rv_i 0 8, rv_full], [(1, 0, 0, 8, [(.inl 1, 0)], []), rv_r 90, (1, 0, 0, 8, [(.inl 1, 0)], []), rv_r 90], [((80, 2), 0, 2000000000, []), ((88, 5001), 1, 1, []), ((89, 5001), 0, 19, [])]), [35], 7039, [(1, (-876))], []),
  (35, ([rv_r 80, rv_i 0 8, rv_full], [(1, 0, (-2147483648), 2147483647, [(.inr (90, 5001), 0)], []), (1, 0, 0, 8, [(.inl 1, 0)], []), rv_r 90], [((80, 2), 0, 2000000000, []), ((88, 5001), 1, 1, []), ((89, 5001), 0, 19, [])]), [36], 7038, [(1, (-876))], []),
  (36, ([rv_r 80, rv_i 0 8, rv_full], [(1, 0, (-2147483648), 2147483647, [(.inl 2, 0)], []), (1, 0, (-2147483648), 2147483647, [(.inr (90, 5001), 0)], []), (1, 0, 0, 8, [(.inl 1, 0)], []), rv_r 90], [((80, 2), 0, 2000000000, []), ((88, 5001), 1, 1, []), ((89, 5001), 0, 19, [])]), [37], 7037, [(1, (-876))], []),
  (37, ([rv_r 80, rv_i 0 8, rv_full], [rv_full, (1, 0, 0, 8, [(.inl 1, 0)], []), rv_r 90], [((80, 2), 0, 2000000000, []), ((88, 5001), 1, 1, []), ((89, 5001), 0, 19, [])]), [38], 7036, [(1, (-876))], []),
  (38, ([rv_r 80, rv_i 0 8, rv_full], [], [((80, 2), 0, 2000000000, []), ((88, 5001), 1, 1, []), ((89, 5001), 0, 19, [])]), [39], 7035, [(1, (-876))], []),
  (39, ([rv_r 80, rv_i 0 8, rv_full], [rv_r 80], [((80, 2), 0, 2000000000, []), ((88, 5001), 1, 1, []), ((89, 5001), 0, 19, [])]), [40], 7034, [(1, (-876))], []),
  (40, ([rv_r 80, rv_i 0 8, rv_full], [rv_r 94], [((80, 2), 0, 2000000000, []), ((88, 5001), 1, 1, []), ((89, 5001), 0, 19, [])]), [41], 7033, [(1, (-876))], []),
  (41, ([rv_r 80, rv_i 0 8, rv_full], [rv_i 20 20, rv_r 94], [((80, 2), 0, 2000000000, []), ((88, 5001), 1, 1, []), ((89, 5001), 0, 19, [])]), [42], 7032, [(1, (-876))], []),
  (42, ([rv_r 80, rv_i 0 8, rv_full], [(1, 0, 0, 8, [(.inl 1, 0)], []), rv_i 20 20, rv_r 94], [((80, 2), 0, 2000000000, []), ((88, 5001), 1, 1, []), ((89, 5001), 0, 19, [])]), [43], 7031, [(1, (-876))], []),
  (43, ([rv_r 80, rv_i 0 8, rv_full], [rv_i 0 160, rv_r 94], [((80, 2), 0, 2000000000, []), ((88, 5001), 1, 1, []), ((89, 5001), 0, 19, [])]), [44], 7030, [(1, (-876))], []),
  (44, ([rv_r 80, rv_i 0 8, rv_full], [rv_r 80, rv_i 0 160, rv_r 94], [((80, 2), 0, 2000000000, []), ((88, 5001), 1, 1, []), ((89, 5001), 0, 19, [])]), [45], 7029, [(1, (-876))], []),
  (45, ([rv_r 80, rv_i 0 8, rv_full], [rv_r 89, rv_i 0 160, rv_r 94], [((80, 2), 0, 2000000000, []), ((88, 5001), 1, 1, []), ((89, 5001), 0, 19, [])]), [46], 7028, [(1, (-876))], []),
  (46, ([rv_r 80, rv_i 0 8, rv_full], [(1, 0, 0, 8, [(.inl 1, 0)], []), rv_r 89, rv_i 0 160, rv_r 94], [((80, 2), 0, 2000000000, []), ((88, 5001), 1, 1, []), ((89, 5001), 0, 19, [])]), [47], 7027, [(1, (-876))], []),
  (47, ([rv_r 80, rv_i 0 8, rv_full], [(1, 0, 0, 19, [(.inr (89, 5001), 0)], []), rv_i 0 160, rv_r 94], [((80, 2), 0, 2000000000, []), ((88, 5001), 1, 1, []), ((89, 5001), 0, 19, [])]), [48], 7026, [(1, (-876))], [])]
def n_X8_loses_0_3 : List rv_N := [
  (48, ([rv_r 80, rv_i 0 8, rv_full], [rv_i 0 179, rv_r 94], [((80, 2), 0, 2000000000, []), ((88, 5001), 1, 1, []), ((89, 5001), 0, 19, [])]), [49], 7025, [(1, (-876))], []),
  (49, ([rv_r 80, rv_i 0 8, rv_full], [rv_i 0 179, rv_r 94, rv_i 0 179, rv_r 94], [((80, 2), 0, 2000000000, []), ((88, 5001), 1, 1, []), ((89, 5001), 0, 19, [])]), [50], 7024, [(1, (-876))], []),
  (50, ([rv_r 80, rv_i 0 8, rv_full], [rv_full, rv_i 0 179, rv_r 94], [((80, 2), 0, 2000000000, []), ((88, 5001), 1, 1, []), ((89, 5001), 0, 19, [])]), [51], 7023, [(1, (-876))], []),
  (51, ([rv_r 80, rv_i 0 8, rv_full], [(1, 0, (-2147483648), 2147483647, [(.inl 2, 0)], []), rv_full, rv_i 0 179, rv_r 94], [((80, 2), 0, 2000000000, []), ((88, 5001), 1, 1, []), ((89, 5001), 0, 19, [])]), [52], 7022, [(1, (-876))], []),
  (52, ([rv_r 80, rv_i 0 8, rv_full], [rv_full, rv_i 0 179, rv_r 94], [((80, 2), 0, 2000000000, []), ((88, 5001), 1, 1, []), ((89, 5001), 0, 19, [])]), [53], 7021, [(1, (-876))], []),
  (53, ([rv_r 80, rv_i 0 8, rv_full], [], [((80, 2), 0, 2000000000, []), ((88, 5001), 1, 1, []), ((89, 5001), 0, 19, [])]), [54], 7020, [(1, (-876))], []),
  (54, ([rv_r 80, rv_i 0 8, rv_full], [rv_r 80], [((80, 2), 0, 2000000000, []), ((88, 5001), 1, 1, []), ((89, 5001), 0, 19, [])]), [55], 7019, [(1, (-876))], []),
  (55, ([rv_r 80, rv_i 0 8, rv_full], [rv_r 80, rv_r 80], [((80, 2), 0, 2000000000, []), ((88, 5001), 1, 1, []), ((89, 5001), 0, 19, [])]), [56], 7018, [(1, (-876))], []),
  (56, ([rv_r 80, rv_i 0 8, rv_full], [rv_r 89, rv_r 80], [((80, 2), 0, 2000000000, []), ((88, 5001), 1, 1, []), ((89, 5001), 0, 19, [])]), [57], 7017, [(1, (-876))], []),
  (57, ([rv_r 80, rv_i 0 8, rv_full], [(1, 0, 0, 8, [(.inl 1, 0)], []), rv_r 89, rv_r 80], [((80, 2), 0, 2000000000, []), ((88, 5001), 1, 1, []), ((89, 5001), 0, 19, [])]), [58], 7016, [(1, (-876))], []),
  (58, ([rv_r 80, rv_i 0 8, rv_full], [(1, 0, 0, 19, [(.inr (89, 5001), 0)], []), rv_r 80], [((80, 2), 0, 2000000000, []), ((88, 5001), 1, 1, []), ((89, 5001), 0, 19, [])]), [59], 7015, [(1, (-876))], []),
  (59, ([rv_r 80, rv_i 0 8, rv_full], [(1, 0, (-2147483648), 2147483647, [(.inl 2, 0)], []), (1, 0, 0, 19, [(.inr (89, 5001), 0)], []), rv_r 80], [((80, 2), 0, 2000000000, []), ((88, 5001), 1, 1, []), ((89, 5001), 0, 19, [])]), [60], 7014, [(1, (-876))], [2]),
  (60, ([rv_r 80, rv_i 0 8, rv_u], [], [((80, 2), 0, 2000000000, [])]), [61], 7013, [(1, (-876))], []),
  (61, ([rv_r 80, rv_i 1 9, rv_u], [], [((80, 2), 0, 2000000000, [])]), [2], 7888, [(1, (-876))], []),
  (62, ([rv_r 80, rv_i 9 9, rv_u], [], [((80, 2), 0, 2000000000, [])]), [], 0, [], [])]
def n_X8_loses_0 : List rv_N := n_X8_loses_0_0 ++ (n_X8_loses_0_1 ++ (n_X8_loses_0_2 ++ (n_X8_loses_0_3)))
noncomputable def gn_X8_loses_0 : Nat → Option rv_N := rv_ap 16 (rv_at n_X8_loses_0_0) (rv_ap 16 (rv_at n_X8_loses_0_1) (rv_ap 16 (rv_at n_X8_loses_0_2) (rv_at n_X8_loses_0_3)))
theorem hn_X8_loses_0 : ∀ i : Nat, n_X8_loses_0[i]? = gn_X8_loses_0 i := rv_ap_eq (l := n_X8_loses_0_0) (c := 16) (rv_ap_eq (l := n_X8_loses_0_1) (c := 16) (rv_ap_eq (l := n_X8_loses_0_2) (c := 16) (rv_at_eq n_X8_loses_0_3) rfl) rfl) rfl
set_option maxRecDepth 100000 in
theorem a_X8_loses_0 : rv_all (fm_tm, flX8, fm_wr, kcX8, klX8, K_X8_loses_0.2.2.1, [], 3) ct_X8_loses_0 cd_X8_loses n_X8_loses_0 K_X8_loses_0 [] 0 n_X8_loses_0 = true := rv_fast hn_X8_loses_0 hc_X8_loses (by decide +kernel)
theorem m_X8_loses_0 {l : Launch} {D : va_G} {ad : Nat → Nat} {cy : Nat → ClassId} {Z : State → Heap → Prop} (hAd : fm_Ad fm_tm ad) (hZ : fm_Zk (fm_A fm_tm ad) Z) : rv_Met l D fm_cl fm_tm ad cy fm_nt Z fm_G yX8_loses (.code yX8_loses prog_10_method_55_code 3 none :: fm_Ts) { frames := 7, cells := 0, slots := 0, locals := 700 } K_X8_loses_0 := rv_met hAd hZ (Or.inl (by decide +kernel)) evX8 dc_X8_loses a_X8_loses_0 ⟨rfl, rfl, rfl⟩ (by decide +kernel) (by decide +kernel) (by decide) (fm_gm fm_G_gd (by decide +kernel)) (rfl) (fun p e s m args below meth c Q X Y => List.forall_mem_cons.mpr ⟨rv_ctV X Y fm_Ts_good dc_X8_loses (pc := 17) (i := 12) (idx := 374) rfl (m_X8_goesStill_0 hAd hZ) wl_X8_374 wm_X8_goesStill wy_X8_goesStill (by decide) ⟨rfl, rfl, rfl⟩ ⟨rfl, rfl⟩, List.forall_mem_cons.mpr ⟨rv_ctV X Y fm_Ts_good dc_X8_loses (pc := 28) (i := 17) (idx := 377) rfl (m_X8_wouldLose_0 hAd hZ) wl_X8_377 wm_X8_wouldLose wy_X8_wouldLose (by decide) ⟨rfl, rfl, rfl⟩ ⟨rfl, rfl⟩, List.forall_mem_cons.mpr ⟨rv_ctV X Y fm_Ts_good dc_X8_loses (pc := 87) (i := 59) (idx := 383) rfl (m_X8_comes_0 hAd hZ) wl_X8_383 wm_X8_comes wy_X8_comes (by decide) ⟨rfl, rfl, rfl⟩ ⟨rfl, rfl⟩, fun _ h => absurd h List.not_mem_nil⟩⟩⟩) (fun _ _ _ _ _ _ _ _ _ _ _ _ _ _ _ _ h => absurd h List.not_mem_nil)
def cd_X8_climbs : List (Nat × Instr × Nat) := [(0, .iconst 0, 1), (1, .istore_n 1, 1), (2, .iload_n 1, 1), (3, .bipush 9, 2), (5, .if_icmp .ge 82, 3), (8, .aload_n 0, 1), (9, .iload_n 1, 1), (10, .invokevirtual 374, 3), (13, .ifCond .eq 68, 3), (16, .aload_n 0, 1), (17, .getfield 321, 3), (20, .bipush 10, 2), (22, .irem, 1), (23, .aload_n 0, 1), (24, .getfield 46, 3), (27, .iload_n 1, 1), (28, .iaload, 1), (29, .if_icmp .ge 6, 3), (32, .goto 49, 3), (35, .aload_n 0, 1), (36, .getfield 40, 3), (39, .iload_n 1, 1), (40, .dup2, 1), (41, .iaload, 1), (42, .iconst 1, 1), (43, .iadd, 1), (44, .iastore, 1), (45, .aload_n 0, 1), (46, .getfield 40, 3), (49, .iload_n 1, 1), (50, .iaload, 1), (51, .bipush 20, 2), (53, .if_icmp .ge 6, 3), (56, .goto 25, 3), (59, .aload_n 0, 1), (60, .dup, 1), (61, .getfield 386, 3), (64, .aload_n 0, 1), (65, .getfield 43, 3), (68, .iload_n 1, 1), (69, .iaload, 1), (70, .iadd, 1), (71, .putfield 386, 3), (74, .aload_n 0, 1), (75, .getfield 43, 3), (78, .iload_n 1, 1), (79, .iconst 0, 1), (80, .iastore, 1), (81, .iinc 1 1, 3), (84, .goto (-82), 3), (87, .return_, 1)]
theorem dc_X8_climbs : ∀ q ∈ cd_X8_climbs, decode prog_10_method_56_code q.1 = .ok (q.2.1, q.2.2) := by decide +kernel
def ch_X8_climbs_0 : List (Nat × Instr × Nat) := [(0, .iconst 0, 1), (1, .istore_n 1, 1), (2, .iload_n 1, 1), (3, .bipush 9, 2), (5, .if_icmp .ge 82, 3), (8, .aload_n 0, 1), (9, .iload_n 1, 1), (10, .invokevirtual 374, 3), (13, .ifCond .eq 68, 3), (16, .aload_n 0, 1), (17, .getfield 321, 3), (20, .bipush 10, 2), (22, .irem, 1), (23, .aload_n 0, 1), (24, .getfield 46, 3), (27, .iload_n 1, 1)]
def ch_X8_climbs_1 : List (Nat × Instr × Nat) := [(28, .iaload, 1), (29, .if_icmp .ge 6, 3), (32, .goto 49, 3), (35, .aload_n 0, 1), (36, .getfield 40, 3), (39, .iload_n 1, 1), (40, .dup2, 1), (41, .iaload, 1), (42, .iconst 1, 1), (43, .iadd, 1), (44, .iastore, 1), (45, .aload_n 0, 1), (46, .getfield 40, 3), (49, .iload_n 1, 1), (50, .iaload, 1), (51, .bipush 20, 2)]
def ch_X8_climbs_2 : List (Nat × Instr × Nat) := [(53, .if_icmp .ge 6, 3), (56, .goto 25, 3), (59, .aload_n 0, 1), (60, .dup, 1), (61, .getfield 386, 3), (64, .aload_n 0, 1), (65, .getfield 43, 3), (68, .iload_n 1, 1), (69, .iaload, 1), (70, .iadd, 1), (71, .putfield 386, 3), (74, .aload_n 0, 1), (75, .getfield 43, 3), (78, .iload_n 1, 1), (79, .iconst 0, 1), (80, .iastore, 1)]
def ch_X8_climbs_3 : List (Nat × Instr × Nat) := [(81, .iinc 1 1, 3), (84, .goto (-82), 3), (87, .return_, 1)]
set_option maxRecDepth 100000 in
theorem he_X8_climbs : cd_X8_climbs = ch_X8_climbs_0 ++ (ch_X8_climbs_1 ++ (ch_X8_climbs_2 ++ (ch_X8_climbs_3))) := rfl
noncomputable def gc_X8_climbs : Nat → Option (Nat × Instr × Nat) := rv_ap 16 (rv_at ch_X8_climbs_0) (rv_ap 16 (rv_at ch_X8_climbs_1) (rv_ap 16 (rv_at ch_X8_climbs_2) (rv_at ch_X8_climbs_3)))
theorem hc_X8_climbs : ∀ i : Nat, cd_X8_climbs[i]? = gc_X8_climbs i := by
  rw [he_X8_climbs]
  exact rv_ap_eq (l := ch_X8_climbs_0) (c := 16) (rv_ap_eq (l := ch_X8_climbs_1) (c := 16) (rv_ap_eq (l := ch_X8_climbs_2) (c := 16) (rv_at_eq ch_X8_climbs_3) rfl) rfl) rfl
def K_X8_climbs_0 : rv_K := ([rv_r 80], [], [(80, 4), (89, 9999), (90, 9999)], [], [], [])
def ct_X8_climbs_0 : List (Nat × rv_K) := [(7, K_X8_goesStill_0)]
def n_X8_climbs_0_0 : List rv_N := [
  (0, ([rv_r 80, rv_u], [], []), [1], 6593, [], []),
  (1, ([rv_r 80, rv_u], [rv_i 0 0], []), [2], 6592, [], []),
  (2, ([rv_r 80, rv_i 0 9], [], []), [3], 6591, [(1, (-732))], []),
  (3, ([rv_r 80, rv_i 0 9], [(1, 0, 0, 9, [(.inl 1, 0)], [])], []), [4], 6590, [(1, (-732))], []),
  (4, ([rv_r 80, rv_i 0 9], [rv_i 9 9, (1, 0, 0, 9, [(.inl 1, 0)], [])], []), [5, 50], 6589, [(1, (-732))], []),
  (5, ([rv_r 80, rv_i 0 8], [], []), [6], 5902, [(1, (-732))], []),
  (6, ([rv_r 80, rv_i 0 8], [rv_r 80], []), [7], 5901, [(1, (-732))], []),
  (7, ([rv_r 80, rv_i 0 8], [(1, 0, 0, 8, [(.inl 1, 0)], []), rv_r 80], []), [8], 5900, [(1, (-732))], [0]),
  (8, ([rv_r 80, rv_i 0 8], [(1, 0, 0, 1, [], [(.inl 1, 0, 8), (.inr (88, 5001), 1, 1), (.inr (89, 5001), 0, 19)])], []), [9, 48], 5899, [(1, (-732))], []),
  (9, ([rv_r 80, rv_i 0 8], [], [((88, 5001), 1, 1, []), ((89, 5001), 0, 19, [])]), [10], 5898, [(1, (-732))], []),
  (10, ([rv_r 80, rv_i 0 8], [rv_r 80], [((88, 5001), 1, 1, []), ((89, 5001), 0, 19, [])]), [11], 5897, [(1, (-732))], []),
  (11, ([rv_r 80, rv_i 0 8], [(1, 0, (-2147483648), 2147483647, [(.inr (80, 2), 0)], [])], [((88, 5001), 1, 1, []), ((89, 5001), 0, 19, [])]), [12], 5896, [(1, (-732))], []),
  (12, ([rv_r 80, rv_i 0 8], [rv_i 10 10, (1, 0, (-2147483648), 2147483647, [(.inr (80, 2), 0)], [])], [((88, 5001), 1, 1, []), ((89, 5001), 0, 19, [])]), [13], 5895, [(1, (-732))], []),
  (13, ([rv_r 80, rv_i 0 8], [rv_full], [((88, 5001), 1, 1, []), ((89, 5001), 0, 19, [])]), [14], 5894, [(1, (-732))], []),
  (14, ([rv_r 80, rv_i 0 8], [rv_r 80, rv_full], [((88, 5001), 1, 1, []), ((89, 5001), 0, 19, [])]), [15], 5893, [(1, (-732))], []),
  (15, ([rv_r 80, rv_i 0 8], [rv_r 91, rv_full], [((88, 5001), 1, 1, []), ((89, 5001), 0, 19, [])]), [16], 5892, [(1, (-732))], [])]
def n_X8_climbs_0_1 : List rv_N := [
  (16, ([rv_r 80, rv_i 0 8], [(1, 0, 0, 8, [(.inl 1, 0)], []), rv_r 91, rv_full], [((88, 5001), 1, 1, []), ((89, 5001), 0, 19, [])]), [17], 5891, [(1, (-732))], []),
  (17, ([rv_r 80, rv_i 0 8], [(1, 0, (-2147483648), 2147483647, [(.inr (91, 5001), 0)], []), rv_full], [((88, 5001), 1, 1, []), ((89, 5001), 0, 19, [])]), [18, 19], 5890, [(1, (-732))], []),
  (18, ([rv_r 80, rv_i 0 8], [], [((88, 5001), 1, 1, []), ((89, 5001), 0, 19, []), ((91, 5001), (-2147483647), 2147483647, [])]), [48], 5862, [(1, (-732))], []),
  (19, ([rv_r 80, rv_i 0 8], [], [((88, 5001), 1, 1, []), ((89, 5001), 0, 19, [])]), [20], 5889, [(1, (-732))], []),
  (20, ([rv_r 80, rv_i 0 8], [rv_r 80], [((88, 5001), 1, 1, []), ((89, 5001), 0, 19, [])]), [21], 5888, [(1, (-732))], []),
  (21, ([rv_r 80, rv_i 0 8], [rv_r 89], [((88, 5001), 1, 1, []), ((89, 5001), 0, 19, [])]), [22], 5887, [(1, (-732))], []),
  (22, ([rv_r 80, rv_i 0 8], [(1, 0, 0, 8, [(.inl 1, 0)], []), rv_r 89], [((88, 5001), 1, 1, []), ((89, 5001), 0, 19, [])]), [23], 5886, [(1, (-732))], []),
  (23, ([rv_r 80, rv_i 0 8], [(1, 0, 0, 8, [(.inl 1, 0)], []), rv_r 89, (1, 0, 0, 8, [(.inl 1, 0)], []), rv_r 89], [((88, 5001), 1, 1, []), ((89, 5001), 0, 19, [])]), [24], 5885, [(1, (-732))], []),
  (24, ([rv_r 80, rv_i 0 8], [(1, 0, 0, 19, [(.inr (89, 5001), 0)], []), (1, 0, 0, 8, [(.inl 1, 0)], []), rv_r 89], [((88, 5001), 1, 1, []), ((89, 5001), 0, 19, [])]), [25], 5884, [(1, (-732))], []),
  (25, ([rv_r 80, rv_i 0 8], [rv_i 1 1, (1, 0, 0, 19, [(.inr (89, 5001), 0)], []), (1, 0, 0, 8, [(.inl 1, 0)], []), rv_r 89], [((88, 5001), 1, 1, []), ((89, 5001), 0, 19, [])]), [26], 5883, [(1, (-732))], []),
  (26, ([rv_r 80, rv_i 0 8], [(1, 0, 1, 20, [(.inr (89, 5001), 1)], []), (1, 0, 0, 8, [(.inl 1, 0)], []), rv_r 89], [((88, 5001), 1, 1, []), ((89, 5001), 0, 19, [])]), [27], 5882, [(1, (-732))], []),
  (27, ([rv_r 80, rv_i 0 8], [], [((88, 5001), 1, 1, [])]), [28], 5881, [(1, (-732))], []),
  (28, ([rv_r 80, rv_i 0 8], [rv_r 80], [((88, 5001), 1, 1, [])]), [29], 5880, [(1, (-732))], []),
  (29, ([rv_r 80, rv_i 0 8], [rv_r 89], [((88, 5001), 1, 1, [])]), [30], 5879, [(1, (-732))], []),
  (30, ([rv_r 80, rv_i 0 8], [(1, 0, 0, 8, [(.inl 1, 0)], []), rv_r 89], [((88, 5001), 1, 1, [])]), [31], 5878, [(1, (-732))], []),
  (31, ([rv_r 80, rv_i 0 8], [(1, 0, 0, 20, [(.inr (89, 5001), 0)], [])], [((88, 5001), 1, 1, [])]), [32], 5877, [(1, (-732))], [])]
def n_X8_climbs_0_2 : List rv_N := [
  (32, ([rv_r 80, rv_i 0 8], [rv_i 20 20, (1, 0, 0, 20, [(.inr (89, 5001), 0)], [])], [((88, 5001), 1, 1, [])]), [33, 34], 5876, [(1, (-732))], []),
  (33, ([rv_r 80, rv_i 0 8], [], [((88, 5001), 1, 1, []), ((89, 5001), 0, 19, [])]), [48], 5862, [(1, (-732))], []),
  (34, ([rv_r 80, rv_i 0 8], [], [((88, 5001), 1, 1, []), ((89, 5001), 20, 20, [])]), [35], 5875, [(1, (-732))], []),
  (35, ([rv_r 80, rv_i 0 8], [rv_r 80], [((88, 5001), 1, 1, []), ((89, 5001), 20, 20, [])]), [36], 5874, [(1, (-732))], []),
  (36, ([rv_r 80, rv_i 0 8], [rv_r 80, rv_r 80], [((88, 5001), 1, 1, []), ((89, 5001), 20, 20, [])]), [37], 5873, [(1, (-732))], []),
  (37, ([rv_r 80, rv_i 0 8], [(1, 0, (-2147483648), 2147483647, [(.inr (80, 4), 0)], []), rv_r 80], [((88, 5001), 1, 1, []), ((89, 5001), 20, 20, [])]), [38], 5872, [(1, (-732))], []),
  (38, ([rv_r 80, rv_i 0 8], [rv_r 80, (1, 0, (-2147483648), 2147483647, [(.inr (80, 4), 0)], []), rv_r 80], [((88, 5001), 1, 1, []), ((89, 5001), 20, 20, [])]), [39], 5871, [(1, (-732))], []),
  (39, ([rv_r 80, rv_i 0 8], [rv_r 90, (1, 0, (-2147483648), 2147483647, [(.inr (80, 4), 0)], []), rv_r 80], [((88, 5001), 1, 1, []), ((89, 5001), 20, 20, [])]), [40], 5870, [(1, (-732))], []),
  (40, ([rv_r 80, rv_i 0 8], [(1, 0, 0, 8, [(.inl 1, 0)], []), rv_r 90, (1, 0, (-2147483648), 2147483647, [(.inr (80, 4), 0)], []), rv_r 80], [((88, 5001), 1, 1, []), ((89, 5001), 20, 20, [])]), [41], 5869, [(1, (-732))], []),
  (41, ([rv_r 80, rv_i 0 8], [(1, 0, (-2147483648), 2147483647, [(.inr (90, 5001), 0)], []), (1, 0, (-2147483648), 2147483647, [(.inr (80, 4), 0)], []), rv_r 80], [((88, 5001), 1, 1, []), ((89, 5001), 20, 20, [])]), [42], 5868, [(1, (-732))], []),
  (42, ([rv_r 80, rv_i 0 8], [rv_full, rv_r 80], [((88, 5001), 1, 1, []), ((89, 5001), 20, 20, [])]), [43], 5867, [(1, (-732))], []),
  (43, ([rv_r 80, rv_i 0 8], [], [((88, 5001), 1, 1, []), ((89, 5001), 20, 20, [])]), [44], 5866, [(1, (-732))], []),
  (44, ([rv_r 80, rv_i 0 8], [rv_r 80], [((88, 5001), 1, 1, []), ((89, 5001), 20, 20, [])]), [45], 5865, [(1, (-732))], []),
  (45, ([rv_r 80, rv_i 0 8], [rv_r 90], [((88, 5001), 1, 1, []), ((89, 5001), 20, 20, [])]), [46], 5864, [(1, (-732))], []),
  (46, ([rv_r 80, rv_i 0 8], [(1, 0, 0, 8, [(.inl 1, 0)], []), rv_r 90], [((88, 5001), 1, 1, []), ((89, 5001), 20, 20, [])]), [47], 5863, [(1, (-732))], []),
  (47, ([rv_r 80, rv_i 0 8], [rv_i 0 0, (1, 0, 0, 8, [(.inl 1, 0)], []), rv_r 90], [((88, 5001), 1, 1, []), ((89, 5001), 20, 20, [])]), [48], 5862, [(1, (-732))], [])]
def n_X8_climbs_0_3 : List rv_N := [
  (48, ([rv_r 80, rv_i 0 8], [], []), [49], 5861, [(1, (-732))], []),
  (49, ([rv_r 80, rv_i 1 9], [], []), [2], 6592, [(1, (-732))], []),
  (50, ([rv_r 80, rv_i 9 9], [], []), [], 0, [], [])]
def n_X8_climbs_0 : List rv_N := n_X8_climbs_0_0 ++ (n_X8_climbs_0_1 ++ (n_X8_climbs_0_2 ++ (n_X8_climbs_0_3)))
noncomputable def gn_X8_climbs_0 : Nat → Option rv_N := rv_ap 16 (rv_at n_X8_climbs_0_0) (rv_ap 16 (rv_at n_X8_climbs_0_1) (rv_ap 16 (rv_at n_X8_climbs_0_2) (rv_at n_X8_climbs_0_3)))
theorem hn_X8_climbs_0 : ∀ i : Nat, n_X8_climbs_0[i]? = gn_X8_climbs_0 i := rv_ap_eq (l := n_X8_climbs_0_0) (c := 16) (rv_ap_eq (l := n_X8_climbs_0_1) (c := 16) (rv_ap_eq (l := n_X8_climbs_0_2) (c := 16) (rv_at_eq n_X8_climbs_0_3) rfl) rfl) rfl
set_option maxRecDepth 100000 in
theorem a_X8_climbs_0 : rv_all (fm_tm, flX8, fm_wr, kcX8, klX8, K_X8_climbs_0.2.2.1, [], 2) ct_X8_climbs_0 cd_X8_climbs n_X8_climbs_0 K_X8_climbs_0 [] 0 n_X8_climbs_0 = true := rv_fast hn_X8_climbs_0 hc_X8_climbs (by decide +kernel)
theorem m_X8_climbs_0 {l : Launch} {D : va_G} {ad : Nat → Nat} {cy : Nat → ClassId} {Z : State → Heap → Prop} (hAd : fm_Ad fm_tm ad) (hZ : fm_Zk (fm_A fm_tm ad) Z) : rv_Met l D fm_cl fm_tm ad cy fm_nt Z fm_G yX8_climbs (.code yX8_climbs prog_10_method_56_code 2 none :: fm_Ts) { frames := 3, cells := 0, slots := 0, locals := 300 } K_X8_climbs_0 := rv_met hAd hZ (Or.inl (by decide +kernel)) evX8 dc_X8_climbs a_X8_climbs_0 ⟨rfl, rfl, rfl⟩ (by decide +kernel) (by decide +kernel) (by decide) (fm_gm fm_G_gd (by decide +kernel)) (rfl) (fun p e s m args below meth c Q X Y => List.forall_mem_cons.mpr ⟨rv_ctV X Y fm_Ts_good dc_X8_climbs (pc := 10) (i := 7) (idx := 374) rfl (m_X8_goesStill_0 hAd hZ) wl_X8_374 wm_X8_goesStill wy_X8_goesStill (by decide) ⟨rfl, rfl, rfl⟩ ⟨rfl, rfl⟩, fun _ h => absurd h List.not_mem_nil⟩) (fun _ _ _ _ _ _ _ _ _ _ _ _ _ _ _ _ h => absurd h List.not_mem_nil)
def cd_X8_blows : List (Nat × Instr × Nat) := [(0, .iconst 0, 1), (1, .istore_n 1, 1), (2, .iload_n 1, 1), (3, .bipush 20, 2), (5, .if_icmp .ge 46, 3), (8, .aload_n 0, 1), (9, .getfield 106, 3), (12, .iload_n 1, 1), (13, .aload_n 0, 1), (14, .getfield 21, 3), (17, .iload_n 1, 1), (18, .iaload, 1), (19, .ifCond .ne 7, 3), (22, .iconst 0, 1), (23, .goto 21, 3), (26, .aload_n 0, 1), (27, .getfield 17, 3), (30, .iload_n 1, 1), (31, .iaload, 1), (32, .aload_n 0, 1), (33, .bipush 109, 2), (35, .iload_n 1, 1), (36, .iconst (-1), 1), (37, .iconst (-1), 1), (38, .invokevirtual 362, 3), (41, .invokestatic 366, 3), (44, .iastore, 1), (45, .iinc 1 1, 3), (48, .goto (-46), 3), (51, .iconst 0, 1), (52, .istore_n 1, 1), (53, .iload_n 1, 1), (54, .bipush 20, 2), (56, .if_icmp .ge 24, 3), (59, .aload_n 0, 1), (60, .getfield 17, 3), (63, .iload_n 1, 1), (64, .dup2, 1), (65, .iaload, 1), (66, .aload_n 0, 1), (67, .getfield 106, 3), (70, .iload_n 1, 1), (71, .iaload, 1), (72, .isub, 1), (73, .iastore, 1), (74, .iinc 1 1, 3), (77, .goto (-24), 3), (80, .iconst 0, 1), (81, .istore_n 1, 1), (82, .iload_n 1, 1), (83, .bipush 20, 2), (85, .if_icmp .ge 64, 3), (88, .aload_n 0, 1), (89, .getfield 21, 3), (92, .iload_n 1, 1), (93, .iaload, 1), (94, .ifCond .le 9, 3), (97, .iload_n 1, 1), (98, .iconst 1, 1), (99, .iadd, 1), (100, .goto 6, 3), (103, .iload_n 1, 1), (104, .iconst 1, 1), (105, .isub, 1), (106, .istore_n 2, 1), (107, .iload_n 2, 1), (108, .invokestatic 182, 3), (111, .ifCond .eq 17, 3), (114, .aload_n 0, 1), (115, .iload_n 2, 1), (116, .aload_n 0, 1), (117, .getfield 106, 3), (120, .iload_n 1, 1), (121, .iaload, 1), (122, .invokevirtual 383, 3), (125, .goto 18, 3), (128, .aload_n 0, 1), (129, .dup, 1), (130, .getfield 370, 3), (133, .aload_n 0, 1), (134, .getfield 106, 3), (137, .iload_n 1, 1), (138, .iaload, 1), (139, .iadd, 1), (140, .putfield 370, 3), (143, .iinc 1 1, 3), (146, .goto (-64), 3), (149, .return_, 1)]
theorem dc_X8_blows : ∀ q ∈ cd_X8_blows, decode prog_10_method_57_code q.1 = .ok (q.2.1, q.2.2) := by decide +kernel
def ch_X8_blows_0 : List (Nat × Instr × Nat) := [(0, .iconst 0, 1), (1, .istore_n 1, 1), (2, .iload_n 1, 1), (3, .bipush 20, 2), (5, .if_icmp .ge 46, 3), (8, .aload_n 0, 1), (9, .getfield 106, 3), (12, .iload_n 1, 1), (13, .aload_n 0, 1), (14, .getfield 21, 3), (17, .iload_n 1, 1), (18, .iaload, 1), (19, .ifCond .ne 7, 3), (22, .iconst 0, 1), (23, .goto 21, 3), (26, .aload_n 0, 1)]
def ch_X8_blows_1 : List (Nat × Instr × Nat) := [(27, .getfield 17, 3), (30, .iload_n 1, 1), (31, .iaload, 1), (32, .aload_n 0, 1), (33, .bipush 109, 2), (35, .iload_n 1, 1), (36, .iconst (-1), 1), (37, .iconst (-1), 1), (38, .invokevirtual 362, 3), (41, .invokestatic 366, 3), (44, .iastore, 1), (45, .iinc 1 1, 3), (48, .goto (-46), 3), (51, .iconst 0, 1), (52, .istore_n 1, 1), (53, .iload_n 1, 1)]
def ch_X8_blows_2 : List (Nat × Instr × Nat) := [(54, .bipush 20, 2), (56, .if_icmp .ge 24, 3), (59, .aload_n 0, 1), (60, .getfield 17, 3), (63, .iload_n 1, 1), (64, .dup2, 1), (65, .iaload, 1), (66, .aload_n 0, 1), (67, .getfield 106, 3), (70, .iload_n 1, 1), (71, .iaload, 1), (72, .isub, 1), (73, .iastore, 1), (74, .iinc 1 1, 3), (77, .goto (-24), 3), (80, .iconst 0, 1)]
def ch_X8_blows_3 : List (Nat × Instr × Nat) := [(81, .istore_n 1, 1), (82, .iload_n 1, 1), (83, .bipush 20, 2), (85, .if_icmp .ge 64, 3), (88, .aload_n 0, 1), (89, .getfield 21, 3), (92, .iload_n 1, 1), (93, .iaload, 1), (94, .ifCond .le 9, 3), (97, .iload_n 1, 1), (98, .iconst 1, 1), (99, .iadd, 1), (100, .goto 6, 3), (103, .iload_n 1, 1), (104, .iconst 1, 1), (105, .isub, 1)]
def ch_X8_blows_4 : List (Nat × Instr × Nat) := [(106, .istore_n 2, 1), (107, .iload_n 2, 1), (108, .invokestatic 182, 3), (111, .ifCond .eq 17, 3), (114, .aload_n 0, 1), (115, .iload_n 2, 1), (116, .aload_n 0, 1), (117, .getfield 106, 3), (120, .iload_n 1, 1), (121, .iaload, 1), (122, .invokevirtual 383, 3), (125, .goto 18, 3), (128, .aload_n 0, 1), (129, .dup, 1), (130, .getfield 370, 3), (133, .aload_n 0, 1)]
def ch_X8_blows_5 : List (Nat × Instr × Nat) := [(134, .getfield 106, 3), (137, .iload_n 1, 1), (138, .iaload, 1), (139, .iadd, 1), (140, .putfield 370, 3), (143, .iinc 1 1, 3), (146, .goto (-64), 3), (149, .return_, 1)]
set_option maxRecDepth 100000 in
theorem he_X8_blows : cd_X8_blows = ch_X8_blows_0 ++ (ch_X8_blows_1 ++ (ch_X8_blows_2 ++ (ch_X8_blows_3 ++ (ch_X8_blows_4 ++ (ch_X8_blows_5))))) := rfl
noncomputable def gc_X8_blows : Nat → Option (Nat × Instr × Nat) := rv_ap 16 (rv_at ch_X8_blows_0) (rv_ap 16 (rv_at ch_X8_blows_1) (rv_ap 16 (rv_at ch_X8_blows_2) (rv_ap 16 (rv_at ch_X8_blows_3) (rv_ap 16 (rv_at ch_X8_blows_4) (rv_at ch_X8_blows_5)))))
theorem hc_X8_blows : ∀ i : Nat, cd_X8_blows[i]? = gc_X8_blows i := by
  rw [he_X8_blows]
  exact rv_ap_eq (l := ch_X8_blows_0) (c := 16) (rv_ap_eq (l := ch_X8_blows_1) (c := 16) (rv_ap_eq (l := ch_X8_blows_2) (c := 16) (rv_ap_eq (l := ch_X8_blows_3) (c := 16) (rv_ap_eq (l := ch_X8_blows_4) (c := 16) (rv_at_eq ch_X8_blows_5) rfl) rfl) rfl) rfl) rfl
def K_X8_blows_0 : rv_K := ([rv_r 80], [((80, 2), 0, 2000000000, [])], [(80, 6), (80, 43), (80, 44), (80, 45), (82, 9999), (108, 9999), (109, 9999), (111, 9999)], [], [], [])
def ct_X8_blows_0 : List (Nat × rv_K) := [(24, K_tells), (25, K_X8_less_0), (66, K_X8_isYard_0), (74, K_X8_comes_0)]
def n_X8_blows_0_0 : List rv_N := [
  (0, ([rv_r 80, rv_u, rv_u], [], [((80, 2), 0, 2000000000, [])]), [1], 136635, [], []),
  (1, ([rv_r 80, rv_u, rv_u], [rv_i 0 0], [((80, 2), 0, 2000000000, [])]), [2], 136634, [], []),
  (2, ([rv_r 80, rv_i 0 20, rv_u], [], [((80, 2), 0, 2000000000, [])]), [3], 136633, [(1, (-2277))], []),
  (3, ([rv_r 80, rv_i 0 20, rv_u], [(1, 0, 0, 20, [(.inl 1, 0)], [])], [((80, 2), 0, 2000000000, [])]), [4], 136632, [(1, (-2277))], []),
  (4, ([rv_r 80, rv_i 0 20, rv_u], [rv_i 20 20, (1, 0, 0, 20, [(.inl 1, 0)], [])], [((80, 2), 0, 2000000000, [])]), [5, 30], 136631, [(1, (-2277))], []),
  (5, ([rv_r 80, rv_i 0 19, rv_u], [], [((80, 2), 0, 2000000000, [])]), [6], 134378, [(1, (-2277))], []),
  (6, ([rv_r 80, rv_i 0 19, rv_u], [rv_r 80], [((80, 2), 0, 2000000000, [])]), [7], 134377, [(1, (-2277))], []),
  (7, ([rv_r 80, rv_i 0 19, rv_u], [rv_r 111], [((80, 2), 0, 2000000000, [])]), [8], 134376, [(1, (-2277))], []),
  (8, ([rv_r 80, rv_i 0 19, rv_u], [(1, 0, 0, 19, [(.inl 1, 0)], []), rv_r 111], [((80, 2), 0, 2000000000, [])]), [9], 134375, [(1, (-2277))], []),
  (9, ([rv_r 80, rv_i 0 19, rv_u], [rv_r 80, (1, 0, 0, 19, [(.inl 1, 0)], []), rv_r 111], [((80, 2), 0, 2000000000, [])]), [10], 134374, [(1, (-2277))], []),
  (10, ([rv_r 80, rv_i 0 19, rv_u], [rv_r 83, (1, 0, 0, 19, [(.inl 1, 0)], []), rv_r 111], [((80, 2), 0, 2000000000, [])]), [11], 134373, [(1, (-2277))], []),
  (11, ([rv_r 80, rv_i 0 19, rv_u], [(1, 0, 0, 19, [(.inl 1, 0)], []), rv_r 83, (1, 0, 0, 19, [(.inl 1, 0)], []), rv_r 111], [((80, 2), 0, 2000000000, [])]), [12], 134372, [(1, (-2277))], []),
  (12, ([rv_r 80, rv_i 0 19, rv_u], [(1, 0, (-2147483648), 2147483647, [(.inr (83, 5001), 0)], []), (1, 0, 0, 19, [(.inl 1, 0)], []), rv_r 111], [((80, 2), 0, 2000000000, [])]), [13, 15], 134371, [(1, (-2277))], []),
  (13, ([rv_r 80, rv_i 0 19, rv_u], [(1, 0, 0, 19, [(.inl 1, 0)], []), rv_r 111], [((80, 2), 0, 2000000000, []), ((83, 5001), 0, 0, [])]), [14], 134361, [(1, (-2277))], []),
  (14, ([rv_r 80, rv_i 0 19, rv_u], [rv_i 0 0, (1, 0, 0, 19, [(.inl 1, 0)], []), rv_r 111], [((80, 2), 0, 2000000000, []), ((83, 5001), 0, 0, [])]), [26], 134360, [(1, (-2277))], []),
  (15, ([rv_r 80, rv_i 0 19, rv_u], [(1, 0, 0, 19, [(.inl 1, 0)], []), rv_r 111], [((80, 2), 0, 2000000000, [])]), [16], 134370, [(1, (-2277))], [])]
def n_X8_blows_0_1 : List rv_N := [
  (16, ([rv_r 80, rv_i 0 19, rv_u], [rv_r 80, (1, 0, 0, 19, [(.inl 1, 0)], []), rv_r 111], [((80, 2), 0, 2000000000, [])]), [17], 134369, [(1, (-2277))], []),
  (17, ([rv_r 80, rv_i 0 19, rv_u], [rv_r 82, (1, 0, 0, 19, [(.inl 1, 0)], []), rv_r 111], [((80, 2), 0, 2000000000, [])]), [18], 134368, [(1, (-2277))], []),
  (18, ([rv_r 80, rv_i 0 19, rv_u], [(1, 0, 0, 19, [(.inl 1, 0)], []), rv_r 82, (1, 0, 0, 19, [(.inl 1, 0)], []), rv_r 111], [((80, 2), 0, 2000000000, [])]), [19], 134367, [(1, (-2277))], []),
  (19, ([rv_r 80, rv_i 0 19, rv_u], [(1, 0, (-2147483648), 2147483647, [(.inr (82, 5001), 0)], []), (1, 0, 0, 19, [(.inl 1, 0)], []), rv_r 111], [((80, 2), 0, 2000000000, [])]), [20], 134366, [(1, (-2277))], []),
  (20, ([rv_r 80, rv_i 0 19, rv_u], [rv_r 80, (1, 0, (-2147483648), 2147483647, [(.inr (82, 5001), 0)], []), (1, 0, 0, 19, [(.inl 1, 0)], []), rv_r 111], [((80, 2), 0, 2000000000, [])]), [21], 134365, [(1, (-2277))], []),
  (21, ([rv_r 80, rv_i 0 19, rv_u], [rv_i 109 109, rv_r 80, (1, 0, (-2147483648), 2147483647, [(.inr (82, 5001), 0)], []), (1, 0, 0, 19, [(.inl 1, 0)], []), rv_r 111], [((80, 2), 0, 2000000000, [])]), [22], 134364, [(1, (-2277))], []),
  (22, ([rv_r 80, rv_i 0 19, rv_u], [(1, 0, 0, 19, [(.inl 1, 0)], []), rv_i 109 109, rv_r 80, (1, 0, (-2147483648), 2147483647, [(.inr (82, 5001), 0)], []), (1, 0, 0, 19, [(.inl 1, 0)], []), rv_r 111], [((80, 2), 0, 2000000000, [])]), [23], 134363, [(1, (-2277))], []),
  (23, ([rv_r 80, rv_i 0 19, rv_u], [rv_i (-1) (-1), (1, 0, 0, 19, [(.inl 1, 0)], []), rv_i 109 109, rv_r 80, (1, 0, (-2147483648), 2147483647, [(.inr (82, 5001), 0)], []), (1, 0, 0, 19, [(.inl 1, 0)], []), rv_r 111], [((80, 2), 0, 2000000000, [])]), [24], 134362, [(1, (-2277))], []),
  (24, ([rv_r 80, rv_i 0 19, rv_u], [rv_i (-1) (-1), rv_i (-1) (-1), (1, 0, 0, 19, [(.inl 1, 0)], []), rv_i 109 109, rv_r 80, (1, 0, (-2147483648), 2147483647, [(.inr (82, 5001), 0)], []), (1, 0, 0, 19, [(.inl 1, 0)], []), rv_r 111], [((80, 2), 0, 2000000000, [])]), [25], 134361, [(1, (-2277))], [0]),
  (25, ([rv_r 80, rv_i 0 19, rv_u], [rv_i 0 99, (1, 0, (-2147483648), 2147483647, [(.inr (82, 5001), 0)], []), (1, 0, 0, 19, [(.inl 1, 0)], []), rv_r 111], [((80, 2), 0, 2000000000, [])]), [27], 134360, [(1, (-2277))], [1]),
  (26, ([rv_r 80, rv_i 0 19, rv_u], [rv_i 0 0, (1, 0, 0, 19, [(.inl 1, 0)], []), rv_r 111], [((80, 2), 0, 2000000000, []), ((83, 5001), 0, 0, [])]), [28], 134359, [(1, (-2277))], []),
  (26, ([rv_r 80, rv_i 0 19, rv_u], [rv_full, (1, 0, 0, 19, [(.inl 1, 0)], []), rv_r 111], [((80, 2), 0, 2000000000, [])]), [28], 134359, [(1, (-2277))], []),
  (27, ([rv_r 80, rv_i 0 19, rv_u], [], [((80, 2), 0, 2000000000, [])]), [29], 134358, [(1, (-2277))], []),
  (28, ([rv_r 80, rv_i 1 20, rv_u], [], [((80, 2), 0, 2000000000, [])]), [2], 136634, [(1, (-2277))], []),
  (29, ([rv_r 80, rv_i 20 20, rv_u], [], [((80, 2), 0, 2000000000, [])]), [31], 91090, [], []),
  (30, ([rv_r 80, rv_i 20 20, rv_u], [rv_i 0 0], [((80, 2), 0, 2000000000, [])]), [32], 91089, [], [])]
def n_X8_blows_0_2 : List rv_N := [
  (31, ([rv_r 80, rv_i 0 20, rv_u], [], [((80, 2), 0, 2000000000, [])]), [33], 91088, [(1, (-2277))], []),
  (32, ([rv_r 80, rv_i 0 20, rv_u], [(1, 0, 0, 20, [(.inl 1, 0)], [])], [((80, 2), 0, 2000000000, [])]), [34], 91087, [(1, (-2277))], []),
  (33, ([rv_r 80, rv_i 0 20, rv_u], [rv_i 20 20, (1, 0, 0, 20, [(.inl 1, 0)], [])], [((80, 2), 0, 2000000000, [])]), [35, 48], 91086, [(1, (-2277))], []),
  (34, ([rv_r 80, rv_i 0 19, rv_u], [], [((80, 2), 0, 2000000000, [])]), [36], 88824, [(1, (-2277))], []),
  (35, ([rv_r 80, rv_i 0 19, rv_u], [rv_r 80], [((80, 2), 0, 2000000000, [])]), [37], 88823, [(1, (-2277))], []),
  (36, ([rv_r 80, rv_i 0 19, rv_u], [rv_r 82], [((80, 2), 0, 2000000000, [])]), [38], 88822, [(1, (-2277))], []),
  (37, ([rv_r 80, rv_i 0 19, rv_u], [(1, 0, 0, 19, [(.inl 1, 0)], []), rv_r 82], [((80, 2), 0, 2000000000, [])]), [39], 88821, [(1, (-2277))], []),
  (38, ([rv_r 80, rv_i 0 19, rv_u], [(1, 0, 0, 19, [(.inl 1, 0)], []), rv_r 82, (1, 0, 0, 19, [(.inl 1, 0)], []), rv_r 82], [((80, 2), 0, 2000000000, [])]), [40], 88820, [(1, (-2277))], []),
  (39, ([rv_r 80, rv_i 0 19, rv_u], [(1, 0, (-2147483648), 2147483647, [(.inr (82, 5001), 0)], []), (1, 0, 0, 19, [(.inl 1, 0)], []), rv_r 82], [((80, 2), 0, 2000000000, [])]), [41], 88819, [(1, (-2277))], []),
  (40, ([rv_r 80, rv_i 0 19, rv_u], [rv_r 80, (1, 0, (-2147483648), 2147483647, [(.inr (82, 5001), 0)], []), (1, 0, 0, 19, [(.inl 1, 0)], []), rv_r 82], [((80, 2), 0, 2000000000, [])]), [42], 88818, [(1, (-2277))], []),
  (41, ([rv_r 80, rv_i 0 19, rv_u], [rv_r 111, (1, 0, (-2147483648), 2147483647, [(.inr (82, 5001), 0)], []), (1, 0, 0, 19, [(.inl 1, 0)], []), rv_r 82], [((80, 2), 0, 2000000000, [])]), [43], 88817, [(1, (-2277))], []),
  (42, ([rv_r 80, rv_i 0 19, rv_u], [(1, 0, 0, 19, [(.inl 1, 0)], []), rv_r 111, (1, 0, (-2147483648), 2147483647, [(.inr (82, 5001), 0)], []), (1, 0, 0, 19, [(.inl 1, 0)], []), rv_r 82], [((80, 2), 0, 2000000000, [])]), [44], 88816, [(1, (-2277))], []),
  (43, ([rv_r 80, rv_i 0 19, rv_u], [(1, 0, (-2147483648), 2147483647, [(.inr (111, 5001), 0)], []), (1, 0, (-2147483648), 2147483647, [(.inr (82, 5001), 0)], []), (1, 0, 0, 19, [(.inl 1, 0)], []), rv_r 82], [((80, 2), 0, 2000000000, [])]), [45], 88815, [(1, (-2277))], []),
  (44, ([rv_r 80, rv_i 0 19, rv_u], [rv_full, (1, 0, 0, 19, [(.inl 1, 0)], []), rv_r 82], [((80, 2), 0, 2000000000, [])]), [46], 88814, [(1, (-2277))], []),
  (45, ([rv_r 80, rv_i 0 19, rv_u], [], [((80, 2), 0, 2000000000, [])]), [47], 88813, [(1, (-2277))], []),
  (46, ([rv_r 80, rv_i 1 20, rv_u], [], [((80, 2), 0, 2000000000, [])]), [32], 91089, [(1, (-2277))], [])]
def n_X8_blows_0_3 : List rv_N := [
  (47, ([rv_r 80, rv_i 20 20, rv_u], [], [((80, 2), 0, 2000000000, [])]), [49], 45545, [], []),
  (48, ([rv_r 80, rv_i 20 20, rv_u], [rv_i 0 0], [((80, 2), 0, 2000000000, [])]), [50], 45544, [], []),
  (49, ([rv_r 80, rv_i 0 20, rv_u], [], [((80, 2), 0, 2000000000, [])]), [51], 45543, [(1, (-2277))], []),
  (50, ([rv_r 80, rv_i 0 20, rv_u], [(1, 0, 0, 20, [(.inl 1, 0)], [])], [((80, 2), 0, 2000000000, [])]), [52], 45542, [(1, (-2277))], []),
  (51, ([rv_r 80, rv_i 0 20, rv_u], [rv_i 20 20, (1, 0, 0, 20, [(.inl 1, 0)], [])], [((80, 2), 0, 2000000000, [])]), [53, 88], 45541, [(1, (-2277))], []),
  (52, ([rv_r 80, rv_i 0 19, rv_u], [], [((80, 2), 0, 2000000000, [])]), [54], 43290, [(1, (-2277))], []),
  (53, ([rv_r 80, rv_i 0 19, rv_u], [rv_r 80], [((80, 2), 0, 2000000000, [])]), [55], 43289, [(1, (-2277))], []),
  (54, ([rv_r 80, rv_i 0 19, rv_u], [rv_r 83], [((80, 2), 0, 2000000000, [])]), [56], 43288, [(1, (-2277))], []),
  (55, ([rv_r 80, rv_i 0 19, rv_u], [(1, 0, 0, 19, [(.inl 1, 0)], []), rv_r 83], [((80, 2), 0, 2000000000, [])]), [57], 43287, [(1, (-2277))], []),
  (56, ([rv_r 80, rv_i 0 19, rv_u], [(1, 0, (-2147483648), 2147483647, [(.inr (83, 5001), 0)], [])], [((80, 2), 0, 2000000000, [])]), [58, 62], 43286, [(1, (-2277))], []),
  (57, ([rv_r 80, rv_i 0 19, rv_u], [], [((80, 2), 0, 2000000000, []), ((83, 5001), 1, 2147483647, [])]), [59], 43285, [(1, (-2277))], []),
  (58, ([rv_r 80, rv_i 0 19, rv_u], [(1, 0, 0, 19, [(.inl 1, 0)], [])], [((80, 2), 0, 2000000000, []), ((83, 5001), 1, 2147483647, [])]), [60], 43284, [(1, (-2277))], []),
  (59, ([rv_r 80, rv_i 0 19, rv_u], [rv_i 1 1, (1, 0, 0, 19, [(.inl 1, 0)], [])], [((80, 2), 0, 2000000000, []), ((83, 5001), 1, 2147483647, [])]), [61], 43283, [(1, (-2277))], []),
  (60, ([rv_r 80, rv_i 0 19, rv_u], [(1, 0, 1, 20, [(.inl 1, 1)], [])], [((80, 2), 0, 2000000000, []), ((83, 5001), 1, 2147483647, [])]), [65], 43282, [(1, (-2277))], []),
  (61, ([rv_r 80, rv_i 0 19, rv_u], [], [((80, 2), 0, 2000000000, []), ((83, 5001), (-2147483648), 0, [])]), [63], 43284, [(1, (-2277))], []),
  (62, ([rv_r 80, rv_i 0 19, rv_u], [(1, 0, 0, 19, [(.inl 1, 0)], [])], [((80, 2), 0, 2000000000, []), ((83, 5001), (-2147483648), 0, [])]), [64], 43283, [(1, (-2277))], [])]
def n_X8_blows_0_4 : List rv_N := [
  (63, ([rv_r 80, rv_i 0 19, rv_u], [rv_i 1 1, (1, 0, 0, 19, [(.inl 1, 0)], [])], [((80, 2), 0, 2000000000, []), ((83, 5001), (-2147483648), 0, [])]), [65], 43282, [(1, (-2277))], []),
  (64, ([rv_r 80, rv_i 0 19, rv_u], [rv_i (-1) 20], [((80, 2), 0, 2000000000, [])]), [66], 43281, [(1, (-2277))], []),
  (65, ([rv_r 80, rv_i 0 19, rv_i (-1) 20], [], [((80, 2), 0, 2000000000, [])]), [67], 43280, [(1, (-2277))], []),
  (66, ([rv_r 80, rv_i 0 19, rv_i (-1) 20], [(1, 0, (-1), 20, [(.inl 2, 0)], [])], [((80, 2), 0, 2000000000, [])]), [68], 43279, [(1, (-2277))], [2]),
  (67, ([rv_r 80, rv_i 0 19, rv_i (-1) 20], [(1, 0, 0, 1, [], [(.inl 2, 0, 19)])], [((80, 2), 0, 2000000000, [])]), [69, 77], 43278, [(1, (-2277))], []),
  (68, ([rv_r 80, rv_i 0 19, rv_i 0 19], [], [((80, 2), 0, 2000000000, [])]), [70], 43276, [(1, (-2277))], []),
  (69, ([rv_r 80, rv_i 0 19, rv_i 0 19], [rv_r 80], [((80, 2), 0, 2000000000, [])]), [71], 43275, [(1, (-2277))], []),
  (70, ([rv_r 80, rv_i 0 19, rv_i 0 19], [(1, 0, 0, 19, [(.inl 2, 0)], []), rv_r 80], [((80, 2), 0, 2000000000, [])]), [72], 43274, [(1, (-2277))], []),
  (71, ([rv_r 80, rv_i 0 19, rv_i 0 19], [rv_r 80, (1, 0, 0, 19, [(.inl 2, 0)], []), rv_r 80], [((80, 2), 0, 2000000000, [])]), [73], 43273, [(1, (-2277))], []),
  (72, ([rv_r 80, rv_i 0 19, rv_i 0 19], [rv_r 111, (1, 0, 0, 19, [(.inl 2, 0)], []), rv_r 80], [((80, 2), 0, 2000000000, [])]), [74], 43272, [(1, (-2277))], []),
  (73, ([rv_r 80, rv_i 0 19, rv_i 0 19], [(1, 0, 0, 19, [(.inl 1, 0)], []), rv_r 111, (1, 0, 0, 19, [(.inl 2, 0)], []), rv_r 80], [((80, 2), 0, 2000000000, [])]), [75], 43271, [(1, (-2277))], []),
  (74, ([rv_r 80, rv_i 0 19, rv_i 0 19], [(1, 0, (-2147483648), 2147483647, [(.inr (111, 5001), 0)], []), (1, 0, 0, 19, [(.inl 2, 0)], []), rv_r 80], [((80, 2), 0, 2000000000, [])]), [76], 43270, [(1, (-2277))], [3]),
  (75, ([rv_r 80, rv_i 0 19, rv_i 0 19], [], [((80, 2), 0, 2000000000, [])]), [86], 43269, [(1, (-2277))], []),
  (76, ([rv_r 80, rv_i 0 19, rv_i (-1) 20], [], [((80, 2), 0, 2000000000, [])]), [78], 43277, [(1, (-2277))], []),
  (77, ([rv_r 80, rv_i 0 19, rv_i (-1) 20], [rv_r 80], [((80, 2), 0, 2000000000, [])]), [79], 43276, [(1, (-2277))], []),
  (78, ([rv_r 80, rv_i 0 19, rv_i (-1) 20], [rv_r 80, rv_r 80], [((80, 2), 0, 2000000000, [])]), [80], 43275, [(1, (-2277))], [])]
def n_X8_blows_0_5 : List rv_N := [
  (79, ([rv_r 80, rv_i 0 19, rv_i (-1) 20], [(1, 0, (-2147483648), 2147483647, [(.inr (80, 6), 0)], []), rv_r 80], [((80, 2), 0, 2000000000, [])]), [81], 43274, [(1, (-2277))], []),
  (80, ([rv_r 80, rv_i 0 19, rv_i (-1) 20], [rv_r 80, (1, 0, (-2147483648), 2147483647, [(.inr (80, 6), 0)], []), rv_r 80], [((80, 2), 0, 2000000000, [])]), [82], 43273, [(1, (-2277))], []),
  (81, ([rv_r 80, rv_i 0 19, rv_i (-1) 20], [rv_r 111, (1, 0, (-2147483648), 2147483647, [(.inr (80, 6), 0)], []), rv_r 80], [((80, 2), 0, 2000000000, [])]), [83], 43272, [(1, (-2277))], []),
  (82, ([rv_r 80, rv_i 0 19, rv_i (-1) 20], [(1, 0, 0, 19, [(.inl 1, 0)], []), rv_r 111, (1, 0, (-2147483648), 2147483647, [(.inr (80, 6), 0)], []), rv_r 80], [((80, 2), 0, 2000000000, [])]), [84], 43271, [(1, (-2277))], []),
  (83, ([rv_r 80, rv_i 0 19, rv_i (-1) 20], [(1, 0, (-2147483648), 2147483647, [(.inr (111, 5001), 0)], []), (1, 0, (-2147483648), 2147483647, [(.inr (80, 6), 0)], []), rv_r 80], [((80, 2), 0, 2000000000, [])]), [85], 43270, [(1, (-2277))], []),
  (84, ([rv_r 80, rv_i 0 19, rv_i (-1) 20], [rv_full, rv_r 80], [((80, 2), 0, 2000000000, [])]), [86], 43269, [(1, (-2277))], []),
  (85, ([rv_r 80, rv_i 0 19, rv_i (-1) 20], [], [((80, 2), 0, 2000000000, [])]), [87], 43268, [(1, (-2277))], []),
  (86, ([rv_r 80, rv_i 1 20, rv_i (-1) 20], [], [((80, 2), 0, 2000000000, [])]), [50], 45544, [(1, (-2277))], []),
  (87, ([rv_r 80, rv_i 20 20, rv_u], [], [((80, 2), 0, 2000000000, [])]), [], 0, [], [])]
def n_X8_blows_0 : List rv_N := n_X8_blows_0_0 ++ (n_X8_blows_0_1 ++ (n_X8_blows_0_2 ++ (n_X8_blows_0_3 ++ (n_X8_blows_0_4 ++ (n_X8_blows_0_5)))))
noncomputable def gn_X8_blows_0 : Nat → Option rv_N := rv_ap 16 (rv_at n_X8_blows_0_0) (rv_ap 16 (rv_at n_X8_blows_0_1) (rv_ap 16 (rv_at n_X8_blows_0_2) (rv_ap 16 (rv_at n_X8_blows_0_3) (rv_ap 16 (rv_at n_X8_blows_0_4) (rv_at n_X8_blows_0_5)))))
theorem hn_X8_blows_0 : ∀ i : Nat, n_X8_blows_0[i]? = gn_X8_blows_0 i := rv_ap_eq (l := n_X8_blows_0_0) (c := 16) (rv_ap_eq (l := n_X8_blows_0_1) (c := 16) (rv_ap_eq (l := n_X8_blows_0_2) (c := 16) (rv_ap_eq (l := n_X8_blows_0_3) (c := 16) (rv_ap_eq (l := n_X8_blows_0_4) (c := 16) (rv_at_eq n_X8_blows_0_5) rfl) rfl) rfl) rfl) rfl
set_option maxRecDepth 100000 in
theorem a_X8_blows_0 : rv_all (fm_tm, flX8, fm_wr, kcX8, klX8, K_X8_blows_0.2.2.1, [], 3) ct_X8_blows_0 cd_X8_blows n_X8_blows_0 K_X8_blows_0 [] 0 n_X8_blows_0 = true := rv_fast hn_X8_blows_0 hc_X8_blows (by decide +kernel)
theorem m_X8_blows_0 {l : Launch} {D : va_G} {ad : Nat → Nat} {cy : Nat → ClassId} {Z : State → Heap → Prop} (hAd : fm_Ad fm_tm ad) (hZ : fm_Zk (fm_A fm_tm ad) Z) : rv_Met l D fm_cl fm_tm ad cy fm_nt Z fm_G yX8_blows (.code yX8_blows prog_10_method_57_code 3 none :: fm_Ts) { frames := 6, cells := 0, slots := 0, locals := 600 } K_X8_blows_0 := rv_met hAd hZ (Or.inl (by decide +kernel)) evX8 dc_X8_blows a_X8_blows_0 ⟨rfl, rfl, rfl⟩ (by decide +kernel) (by decide +kernel) (by decide) (fm_gm fm_G_gd (by decide +kernel)) (rfl) (fun p e s m args below meth c Q X Y => List.forall_mem_cons.mpr ⟨rv_ctV X Y fm_Ts_good dc_X8_blows (pc := 38) (i := 24) (idx := 362) rfl (m_tells hAd hZ) wl_X8_362 wm_X8_tells wy_X8_tells (by decide) ⟨rfl, rfl, rfl⟩ ⟨rfl, rfl⟩, List.forall_mem_cons.mpr ⟨rv_ctS X Y fm_Ts_good dc_X8_blows (pc := 41) (i := 25) (idx := 366) rfl (m_X8_less_0 hAd hZ) wl_X8_366 wm_X8_less wy_X8_less (by decide) rfl, List.forall_mem_cons.mpr ⟨rv_ctS X Y fm_Ts_good dc_X8_blows (pc := 108) (i := 66) (idx := 182) rfl (m_X8_isYard_0 hAd hZ) wl_X8_182 wm_X8_isYard wy_X8_isYard (by decide) rfl, List.forall_mem_cons.mpr ⟨rv_ctV X Y fm_Ts_good dc_X8_blows (pc := 122) (i := 74) (idx := 383) rfl (m_X8_comes_0 hAd hZ) wl_X8_383 wm_X8_comes wy_X8_comes (by decide) ⟨rfl, rfl, rfl⟩ ⟨rfl, rfl⟩, fun _ h => absurd h List.not_mem_nil⟩⟩⟩⟩) (fun _ _ _ _ _ _ _ _ _ _ _ _ _ _ _ _ h => absurd h List.not_mem_nil)
def cd_X8_washes : List (Nat × Instr × Nat) := [(0, .iconst 0, 1), (1, .istore_n 1, 1), (2, .iload_n 1, 1), (3, .bipush 20, 2), (5, .if_icmp .ge 48, 3), (8, .aload_n 0, 1), (9, .getfield 17, 3), (12, .iload_n 1, 1), (13, .iaload, 1), (14, .aload_n 0, 1), (15, .bipush 107, 2), (17, .iload_n 1, 1), (18, .iconst (-1), 1), (19, .iconst (-1), 1), (20, .invokevirtual 362, 3), (23, .invokestatic 366, 3), (26, .istore_n 2, 1), (27, .aload_n 0, 1), (28, .getfield 17, 3), (31, .iload_n 1, 1), (32, .dup2, 1), (33, .iaload, 1), (34, .iload_n 2, 1), (35, .isub, 1), (36, .iastore, 1), (37, .aload_n 0, 1), (38, .dup, 1), (39, .getfield 389, 3), (42, .iload_n 2, 1), (43, .iadd, 1), (44, .putfield 389, 3), (47, .iinc 1 1, 3), (50, .goto (-48), 3), (53, .return_, 1)]
theorem dc_X8_washes : ∀ q ∈ cd_X8_washes, decode prog_10_method_58_code q.1 = .ok (q.2.1, q.2.2) := by decide +kernel
def ch_X8_washes_0 : List (Nat × Instr × Nat) := [(0, .iconst 0, 1), (1, .istore_n 1, 1), (2, .iload_n 1, 1), (3, .bipush 20, 2), (5, .if_icmp .ge 48, 3), (8, .aload_n 0, 1), (9, .getfield 17, 3), (12, .iload_n 1, 1), (13, .iaload, 1), (14, .aload_n 0, 1), (15, .bipush 107, 2), (17, .iload_n 1, 1), (18, .iconst (-1), 1), (19, .iconst (-1), 1), (20, .invokevirtual 362, 3), (23, .invokestatic 366, 3)]
def ch_X8_washes_1 : List (Nat × Instr × Nat) := [(26, .istore_n 2, 1), (27, .aload_n 0, 1), (28, .getfield 17, 3), (31, .iload_n 1, 1), (32, .dup2, 1), (33, .iaload, 1), (34, .iload_n 2, 1), (35, .isub, 1), (36, .iastore, 1), (37, .aload_n 0, 1), (38, .dup, 1), (39, .getfield 389, 3), (42, .iload_n 2, 1), (43, .iadd, 1), (44, .putfield 389, 3), (47, .iinc 1 1, 3)]
def ch_X8_washes_2 : List (Nat × Instr × Nat) := [(50, .goto (-48), 3), (53, .return_, 1)]
set_option maxRecDepth 100000 in
theorem he_X8_washes : cd_X8_washes = ch_X8_washes_0 ++ (ch_X8_washes_1 ++ (ch_X8_washes_2)) := rfl
noncomputable def gc_X8_washes : Nat → Option (Nat × Instr × Nat) := rv_ap 16 (rv_at ch_X8_washes_0) (rv_ap 16 (rv_at ch_X8_washes_1) (rv_at ch_X8_washes_2))
theorem hc_X8_washes : ∀ i : Nat, cd_X8_washes[i]? = gc_X8_washes i := by
  rw [he_X8_washes]
  exact rv_ap_eq (l := ch_X8_washes_0) (c := 16) (rv_ap_eq (l := ch_X8_washes_1) (c := 16) (rv_at_eq ch_X8_washes_2) rfl) rfl
def K_X8_washes_0 : rv_K := ([rv_r 80], [((80, 2), 0, 2000000000, [])], [(80, 5), (80, 43), (80, 44), (80, 45), (82, 9999), (108, 9999), (109, 9999)], [], [], [])
def ct_X8_washes_0 : List (Nat × rv_K) := [(14, K_tells), (15, K_X8_less_0)]
def n_X8_washes_0_0 : List rv_N := [
  (0, ([rv_r 80, rv_u, rv_u], [], [((80, 2), 0, 2000000000, [])]), [1], 20245, [], []),
  (1, ([rv_r 80, rv_u, rv_u], [rv_i 0 0], [((80, 2), 0, 2000000000, [])]), [2], 20244, [], []),
  (2, ([rv_r 80, rv_i 0 20, rv_u], [], [((80, 2), 0, 2000000000, [])]), [3], 20243, [(1, (-1012))], []),
  (3, ([rv_r 80, rv_i 0 20, rv_u], [(1, 0, 0, 20, [(.inl 1, 0)], [])], [((80, 2), 0, 2000000000, [])]), [4], 20242, [(1, (-1012))], []),
  (4, ([rv_r 80, rv_i 0 20, rv_u], [rv_i 20 20, (1, 0, 0, 20, [(.inl 1, 0)], [])], [((80, 2), 0, 2000000000, [])]), [5, 33], 20241, [(1, (-1012))], []),
  (5, ([rv_r 80, rv_i 0 19, rv_u], [], [((80, 2), 0, 2000000000, [])]), [6], 19259, [(1, (-1012))], []),
  (6, ([rv_r 80, rv_i 0 19, rv_u], [rv_r 80], [((80, 2), 0, 2000000000, [])]), [7], 19258, [(1, (-1012))], []),
  (7, ([rv_r 80, rv_i 0 19, rv_u], [rv_r 82], [((80, 2), 0, 2000000000, [])]), [8], 19257, [(1, (-1012))], []),
  (8, ([rv_r 80, rv_i 0 19, rv_u], [(1, 0, 0, 19, [(.inl 1, 0)], []), rv_r 82], [((80, 2), 0, 2000000000, [])]), [9], 19256, [(1, (-1012))], []),
  (9, ([rv_r 80, rv_i 0 19, rv_u], [(1, 0, (-2147483648), 2147483647, [(.inr (82, 5001), 0)], [])], [((80, 2), 0, 2000000000, [])]), [10], 19255, [(1, (-1012))], []),
  (10, ([rv_r 80, rv_i 0 19, rv_u], [rv_r 80, (1, 0, (-2147483648), 2147483647, [(.inr (82, 5001), 0)], [])], [((80, 2), 0, 2000000000, [])]), [11], 19254, [(1, (-1012))], []),
  (11, ([rv_r 80, rv_i 0 19, rv_u], [rv_i 107 107, rv_r 80, (1, 0, (-2147483648), 2147483647, [(.inr (82, 5001), 0)], [])], [((80, 2), 0, 2000000000, [])]), [12], 19253, [(1, (-1012))], []),
  (12, ([rv_r 80, rv_i 0 19, rv_u], [(1, 0, 0, 19, [(.inl 1, 0)], []), rv_i 107 107, rv_r 80, (1, 0, (-2147483648), 2147483647, [(.inr (82, 5001), 0)], [])], [((80, 2), 0, 2000000000, [])]), [13], 19252, [(1, (-1012))], []),
  (13, ([rv_r 80, rv_i 0 19, rv_u], [rv_i (-1) (-1), (1, 0, 0, 19, [(.inl 1, 0)], []), rv_i 107 107, rv_r 80, (1, 0, (-2147483648), 2147483647, [(.inr (82, 5001), 0)], [])], [((80, 2), 0, 2000000000, [])]), [14], 19251, [(1, (-1012))], []),
  (14, ([rv_r 80, rv_i 0 19, rv_u], [rv_i (-1) (-1), rv_i (-1) (-1), (1, 0, 0, 19, [(.inl 1, 0)], []), rv_i 107 107, rv_r 80, (1, 0, (-2147483648), 2147483647, [(.inr (82, 5001), 0)], [])], [((80, 2), 0, 2000000000, [])]), [15], 19250, [(1, (-1012))], [0]),
  (15, ([rv_r 80, rv_i 0 19, rv_u], [rv_i 0 99, (1, 0, (-2147483648), 2147483647, [(.inr (82, 5001), 0)], [])], [((80, 2), 0, 2000000000, [])]), [16], 19249, [(1, (-1012))], [1])]
def n_X8_washes_0_1 : List rv_N := [
  (16, ([rv_r 80, rv_i 0 19, rv_u], [rv_full], [((80, 2), 0, 2000000000, [])]), [17], 19248, [(1, (-1012))], []),
  (17, ([rv_r 80, rv_i 0 19, rv_full], [], [((80, 2), 0, 2000000000, [])]), [18], 19247, [(1, (-1012))], []),
  (18, ([rv_r 80, rv_i 0 19, rv_full], [rv_r 80], [((80, 2), 0, 2000000000, [])]), [19], 19246, [(1, (-1012))], []),
  (19, ([rv_r 80, rv_i 0 19, rv_full], [rv_r 82], [((80, 2), 0, 2000000000, [])]), [20], 19245, [(1, (-1012))], []),
  (20, ([rv_r 80, rv_i 0 19, rv_full], [(1, 0, 0, 19, [(.inl 1, 0)], []), rv_r 82], [((80, 2), 0, 2000000000, [])]), [21], 19244, [(1, (-1012))], []),
  (21, ([rv_r 80, rv_i 0 19, rv_full], [(1, 0, 0, 19, [(.inl 1, 0)], []), rv_r 82, (1, 0, 0, 19, [(.inl 1, 0)], []), rv_r 82], [((80, 2), 0, 2000000000, [])]), [22], 19243, [(1, (-1012))], []),
  (22, ([rv_r 80, rv_i 0 19, rv_full], [(1, 0, (-2147483648), 2147483647, [(.inr (82, 5001), 0)], []), (1, 0, 0, 19, [(.inl 1, 0)], []), rv_r 82], [((80, 2), 0, 2000000000, [])]), [23], 19242, [(1, (-1012))], []),
  (23, ([rv_r 80, rv_i 0 19, rv_full], [(1, 0, (-2147483648), 2147483647, [(.inl 2, 0)], []), (1, 0, (-2147483648), 2147483647, [(.inr (82, 5001), 0)], []), (1, 0, 0, 19, [(.inl 1, 0)], []), rv_r 82], [((80, 2), 0, 2000000000, [])]), [24], 19241, [(1, (-1012))], []),
  (24, ([rv_r 80, rv_i 0 19, rv_full], [rv_full, (1, 0, 0, 19, [(.inl 1, 0)], []), rv_r 82], [((80, 2), 0, 2000000000, [])]), [25], 19240, [(1, (-1012))], []),
  (25, ([rv_r 80, rv_i 0 19, rv_full], [], [((80, 2), 0, 2000000000, [])]), [26], 19239, [(1, (-1012))], []),
  (26, ([rv_r 80, rv_i 0 19, rv_full], [rv_r 80], [((80, 2), 0, 2000000000, [])]), [27], 19238, [(1, (-1012))], []),
  (27, ([rv_r 80, rv_i 0 19, rv_full], [rv_r 80, rv_r 80], [((80, 2), 0, 2000000000, [])]), [28], 19237, [(1, (-1012))], []),
  (28, ([rv_r 80, rv_i 0 19, rv_full], [(1, 0, (-2147483648), 2147483647, [(.inr (80, 5), 0)], []), rv_r 80], [((80, 2), 0, 2000000000, [])]), [29], 19236, [(1, (-1012))], []),
  (29, ([rv_r 80, rv_i 0 19, rv_full], [(1, 0, (-2147483648), 2147483647, [(.inl 2, 0)], []), (1, 0, (-2147483648), 2147483647, [(.inr (80, 5), 0)], []), rv_r 80], [((80, 2), 0, 2000000000, [])]), [30], 19235, [(1, (-1012))], []),
  (30, ([rv_r 80, rv_i 0 19, rv_full], [rv_full, rv_r 80], [((80, 2), 0, 2000000000, [])]), [31], 19234, [(1, (-1012))], []),
  (31, ([rv_r 80, rv_i 0 19, rv_full], [], [((80, 2), 0, 2000000000, [])]), [32], 19233, [(1, (-1012))], [])]
def n_X8_washes_0_2 : List rv_N := [
  (32, ([rv_r 80, rv_i 1 20, rv_full], [], [((80, 2), 0, 2000000000, [])]), [2], 20244, [(1, (-1012))], []),
  (33, ([rv_r 80, rv_i 20 20, rv_u], [], [((80, 2), 0, 2000000000, [])]), [], 0, [], [])]
def n_X8_washes_0 : List rv_N := n_X8_washes_0_0 ++ (n_X8_washes_0_1 ++ (n_X8_washes_0_2))
noncomputable def gn_X8_washes_0 : Nat → Option rv_N := rv_ap 16 (rv_at n_X8_washes_0_0) (rv_ap 16 (rv_at n_X8_washes_0_1) (rv_at n_X8_washes_0_2))
theorem hn_X8_washes_0 : ∀ i : Nat, n_X8_washes_0[i]? = gn_X8_washes_0 i := rv_ap_eq (l := n_X8_washes_0_0) (c := 16) (rv_ap_eq (l := n_X8_washes_0_1) (c := 16) (rv_at_eq n_X8_washes_0_2) rfl) rfl
set_option maxRecDepth 100000 in
theorem a_X8_washes_0 : rv_all (fm_tm, flX8, fm_wr, kcX8, klX8, K_X8_washes_0.2.2.1, [], 3) ct_X8_washes_0 cd_X8_washes n_X8_washes_0 K_X8_washes_0 [] 0 n_X8_washes_0 = true := rv_fast hn_X8_washes_0 hc_X8_washes (by decide +kernel)
theorem m_X8_washes_0 {l : Launch} {D : va_G} {ad : Nat → Nat} {cy : Nat → ClassId} {Z : State → Heap → Prop} (hAd : fm_Ad fm_tm ad) (hZ : fm_Zk (fm_A fm_tm ad) Z) : rv_Met l D fm_cl fm_tm ad cy fm_nt Z fm_G yX8_washes (.code yX8_washes prog_10_method_58_code 3 none :: fm_Ts) { frames := 6, cells := 0, slots := 0, locals := 600 } K_X8_washes_0 := rv_met hAd hZ (Or.inl (by decide +kernel)) evX8 dc_X8_washes a_X8_washes_0 ⟨rfl, rfl, rfl⟩ (by decide +kernel) (by decide +kernel) (by decide) (fm_gm fm_G_gd (by decide +kernel)) (rfl) (fun p e s m args below meth c Q X Y => List.forall_mem_cons.mpr ⟨rv_ctV X Y fm_Ts_good dc_X8_washes (pc := 20) (i := 14) (idx := 362) rfl (m_tells hAd hZ) wl_X8_362 wm_X8_tells wy_X8_tells (by decide) ⟨rfl, rfl, rfl⟩ ⟨rfl, rfl⟩, List.forall_mem_cons.mpr ⟨rv_ctS X Y fm_Ts_good dc_X8_washes (pc := 23) (i := 15) (idx := 366) rfl (m_X8_less_0 hAd hZ) wl_X8_366 wm_X8_less wy_X8_less (by decide) rfl, fun _ h => absurd h List.not_mem_nil⟩⟩) (fun _ _ _ _ _ _ _ _ _ _ _ _ _ _ _ _ h => absurd h List.not_mem_nil)
def cd_X8_sieves : List (Nat × Instr × Nat) := [(0, .iconst 0, 1), (1, .istore_n 1, 1), (2, .iload_n 1, 1), (3, .bipush 20, 2), (5, .if_icmp .ge 72, 3), (8, .aload_n 0, 1), (9, .getfield 28, 3), (12, .iload_n 1, 1), (13, .iaload, 1), (14, .bipush 6, 2), (16, .if_icmp .ne 6, 3), (19, .goto 52, 3), (22, .aload_n 0, 1), (23, .getfield 17, 3), (26, .iload_n 1, 1), (27, .iaload, 1), (28, .aload_n 0, 1), (29, .bipush 115, 2), (31, .iload_n 1, 1), (32, .iconst (-1), 1), (33, .aload_n 0, 1), (34, .getfield 28, 3), (37, .iload_n 1, 1), (38, .iaload, 1), (39, .invokevirtual 362, 3), (42, .invokestatic 366, 3), (45, .istore_n 2, 1), (46, .aload_n 0, 1), (47, .getfield 17, 3), (50, .iload_n 1, 1), (51, .dup2, 1), (52, .iaload, 1), (53, .iload_n 2, 1), (54, .isub, 1), (55, .iastore, 1), (56, .aload_n 0, 1), (57, .getfield 34, 3), (60, .aload_n 0, 1), (61, .getfield 28, 3), (64, .iload_n 1, 1), (65, .iaload, 1), (66, .dup2, 1), (67, .iaload, 1), (68, .iload_n 2, 1), (69, .iadd, 1), (70, .iastore, 1), (71, .iinc 1 1, 3), (74, .goto (-72), 3), (77, .return_, 1)]
theorem dc_X8_sieves : ∀ q ∈ cd_X8_sieves, decode prog_10_method_59_code q.1 = .ok (q.2.1, q.2.2) := by decide +kernel
def ch_X8_sieves_0 : List (Nat × Instr × Nat) := [(0, .iconst 0, 1), (1, .istore_n 1, 1), (2, .iload_n 1, 1), (3, .bipush 20, 2), (5, .if_icmp .ge 72, 3), (8, .aload_n 0, 1), (9, .getfield 28, 3), (12, .iload_n 1, 1), (13, .iaload, 1), (14, .bipush 6, 2), (16, .if_icmp .ne 6, 3), (19, .goto 52, 3), (22, .aload_n 0, 1), (23, .getfield 17, 3), (26, .iload_n 1, 1), (27, .iaload, 1)]
def ch_X8_sieves_1 : List (Nat × Instr × Nat) := [(28, .aload_n 0, 1), (29, .bipush 115, 2), (31, .iload_n 1, 1), (32, .iconst (-1), 1), (33, .aload_n 0, 1), (34, .getfield 28, 3), (37, .iload_n 1, 1), (38, .iaload, 1), (39, .invokevirtual 362, 3), (42, .invokestatic 366, 3), (45, .istore_n 2, 1), (46, .aload_n 0, 1), (47, .getfield 17, 3), (50, .iload_n 1, 1), (51, .dup2, 1), (52, .iaload, 1)]
def ch_X8_sieves_2 : List (Nat × Instr × Nat) := [(53, .iload_n 2, 1), (54, .isub, 1), (55, .iastore, 1), (56, .aload_n 0, 1), (57, .getfield 34, 3), (60, .aload_n 0, 1), (61, .getfield 28, 3), (64, .iload_n 1, 1), (65, .iaload, 1), (66, .dup2, 1), (67, .iaload, 1), (68, .iload_n 2, 1), (69, .iadd, 1), (70, .iastore, 1), (71, .iinc 1 1, 3), (74, .goto (-72), 3)]
def ch_X8_sieves_3 : List (Nat × Instr × Nat) := [(77, .return_, 1)]
set_option maxRecDepth 100000 in
theorem he_X8_sieves : cd_X8_sieves = ch_X8_sieves_0 ++ (ch_X8_sieves_1 ++ (ch_X8_sieves_2 ++ (ch_X8_sieves_3))) := rfl
noncomputable def gc_X8_sieves : Nat → Option (Nat × Instr × Nat) := rv_ap 16 (rv_at ch_X8_sieves_0) (rv_ap 16 (rv_at ch_X8_sieves_1) (rv_ap 16 (rv_at ch_X8_sieves_2) (rv_at ch_X8_sieves_3)))
theorem hc_X8_sieves : ∀ i : Nat, cd_X8_sieves[i]? = gc_X8_sieves i := by
  rw [he_X8_sieves]
  exact rv_ap_eq (l := ch_X8_sieves_0) (c := 16) (rv_ap_eq (l := ch_X8_sieves_1) (c := 16) (rv_ap_eq (l := ch_X8_sieves_2) (c := 16) (rv_at_eq ch_X8_sieves_3) rfl) rfl) rfl
def K_X8_sieves_0 : rv_K := ([rv_r 80], [((80, 2), 0, 2000000000, [])], [(80, 43), (80, 44), (80, 45), (82, 9999), (87, 9999), (108, 9999), (109, 9999)], [], [], [])
def ct_X8_sieves_0 : List (Nat × rv_K) := [(24, K_tells), (25, K_X8_less_0)]
def n_X8_sieves_0_0 : List rv_N := [
  (0, ([rv_r 80, rv_u, rv_u], [], [((80, 2), 0, 2000000000, [])]), [1], 27145, [], []),
  (1, ([rv_r 80, rv_u, rv_u], [rv_i 0 0], [((80, 2), 0, 2000000000, [])]), [2], 27144, [], []),
  (2, ([rv_r 80, rv_i 0 20, rv_u], [], [((80, 2), 0, 2000000000, [])]), [3], 27143, [(1, (-1357))], []),
  (3, ([rv_r 80, rv_i 0 20, rv_u], [(1, 0, 0, 20, [(.inl 1, 0)], [])], [((80, 2), 0, 2000000000, [])]), [4], 27142, [(1, (-1357))], []),
  (4, ([rv_r 80, rv_i 0 20, rv_u], [rv_i 20 20, (1, 0, 0, 20, [(.inl 1, 0)], [])], [((80, 2), 0, 2000000000, [])]), [5, 48], 27141, [(1, (-1357))], []),
  (5, ([rv_r 80, rv_i 0 19, rv_u], [], [((80, 2), 0, 2000000000, [])]), [6], 25828, [(1, (-1357))], []),
  (6, ([rv_r 80, rv_i 0 19, rv_u], [rv_r 80], [((80, 2), 0, 2000000000, [])]), [7], 25827, [(1, (-1357))], []),
  (7, ([rv_r 80, rv_i 0 19, rv_u], [rv_r 85], [((80, 2), 0, 2000000000, [])]), [8], 25826, [(1, (-1357))], []),
  (8, ([rv_r 80, rv_i 0 19, rv_u], [(1, 0, 0, 19, [(.inl 1, 0)], []), rv_r 85], [((80, 2), 0, 2000000000, [])]), [9], 25825, [(1, (-1357))], []),
  (9, ([rv_r 80, rv_i 0 19, rv_u], [(1, 0, 0, 6, [(.inr (85, 5001), 0)], [])], [((80, 2), 0, 2000000000, [])]), [10], 25824, [(1, (-1357))], []),
  (10, ([rv_r 80, rv_i 0 19, rv_u], [rv_i 6 6, (1, 0, 0, 6, [(.inr (85, 5001), 0)], [])], [((80, 2), 0, 2000000000, [])]), [11, 12], 25823, [(1, (-1357))], []),
  (11, ([rv_r 80, rv_i 0 19, rv_u], [], [((80, 2), 0, 2000000000, []), ((85, 5001), 6, 6, [])]), [46], 25789, [(1, (-1357))], []),
  (12, ([rv_r 80, rv_i 0 19, rv_u], [], [((80, 2), 0, 2000000000, []), ((85, 5001), 0, 5, [])]), [13], 25822, [(1, (-1357))], []),
  (13, ([rv_r 80, rv_i 0 19, rv_u], [rv_r 80], [((80, 2), 0, 2000000000, []), ((85, 5001), 0, 5, [])]), [14], 25821, [(1, (-1357))], []),
  (14, ([rv_r 80, rv_i 0 19, rv_u], [rv_r 82], [((80, 2), 0, 2000000000, []), ((85, 5001), 0, 5, [])]), [15], 25820, [(1, (-1357))], []),
  (15, ([rv_r 80, rv_i 0 19, rv_u], [(1, 0, 0, 19, [(.inl 1, 0)], []), rv_r 82], [((80, 2), 0, 2000000000, []), ((85, 5001), 0, 5, [])]), [16], 25819, [(1, (-1357))], [])]
def n_X8_sieves_0_1 : List rv_N := [
  (16, ([rv_r 80, rv_i 0 19, rv_u], [(1, 0, (-2147483648), 2147483647, [(.inr (82, 5001), 0)], [])], [((80, 2), 0, 2000000000, []), ((85, 5001), 0, 5, [])]), [17], 25818, [(1, (-1357))], []),
  (17, ([rv_r 80, rv_i 0 19, rv_u], [rv_r 80, (1, 0, (-2147483648), 2147483647, [(.inr (82, 5001), 0)], [])], [((80, 2), 0, 2000000000, []), ((85, 5001), 0, 5, [])]), [18], 25817, [(1, (-1357))], []),
  (18, ([rv_r 80, rv_i 0 19, rv_u], [rv_i 115 115, rv_r 80, (1, 0, (-2147483648), 2147483647, [(.inr (82, 5001), 0)], [])], [((80, 2), 0, 2000000000, []), ((85, 5001), 0, 5, [])]), [19], 25816, [(1, (-1357))], []),
  (19, ([rv_r 80, rv_i 0 19, rv_u], [(1, 0, 0, 19, [(.inl 1, 0)], []), rv_i 115 115, rv_r 80, (1, 0, (-2147483648), 2147483647, [(.inr (82, 5001), 0)], [])], [((80, 2), 0, 2000000000, []), ((85, 5001), 0, 5, [])]), [20], 25815, [(1, (-1357))], []),
  (20, ([rv_r 80, rv_i 0 19, rv_u], [rv_i (-1) (-1), (1, 0, 0, 19, [(.inl 1, 0)], []), rv_i 115 115, rv_r 80, (1, 0, (-2147483648), 2147483647, [(.inr (82, 5001), 0)], [])], [((80, 2), 0, 2000000000, []), ((85, 5001), 0, 5, [])]), [21], 25814, [(1, (-1357))], []),
  (21, ([rv_r 80, rv_i 0 19, rv_u], [rv_r 80, rv_i (-1) (-1), (1, 0, 0, 19, [(.inl 1, 0)], []), rv_i 115 115, rv_r 80, (1, 0, (-2147483648), 2147483647, [(.inr (82, 5001), 0)], [])], [((80, 2), 0, 2000000000, []), ((85, 5001), 0, 5, [])]), [22], 25813, [(1, (-1357))], []),
  (22, ([rv_r 80, rv_i 0 19, rv_u], [rv_r 85, rv_i (-1) (-1), (1, 0, 0, 19, [(.inl 1, 0)], []), rv_i 115 115, rv_r 80, (1, 0, (-2147483648), 2147483647, [(.inr (82, 5001), 0)], [])], [((80, 2), 0, 2000000000, []), ((85, 5001), 0, 5, [])]), [23], 25812, [(1, (-1357))], []),
  (23, ([rv_r 80, rv_i 0 19, rv_u], [(1, 0, 0, 19, [(.inl 1, 0)], []), rv_r 85, rv_i (-1) (-1), (1, 0, 0, 19, [(.inl 1, 0)], []), rv_i 115 115, rv_r 80, (1, 0, (-2147483648), 2147483647, [(.inr (82, 5001), 0)], [])], [((80, 2), 0, 2000000000, []), ((85, 5001), 0, 5, [])]), [24], 25811, [(1, (-1357))], []),
  (24, ([rv_r 80, rv_i 0 19, rv_u], [(1, 0, 0, 5, [(.inr (85, 5001), 0)], []), rv_i (-1) (-1), (1, 0, 0, 19, [(.inl 1, 0)], []), rv_i 115 115, rv_r 80, (1, 0, (-2147483648), 2147483647, [(.inr (82, 5001), 0)], [])], [((80, 2), 0, 2000000000, []), ((85, 5001), 0, 5, [])]), [25], 25810, [(1, (-1357))], [0]),
  (25, ([rv_r 80, rv_i 0 19, rv_u], [rv_i 0 99, (1, 0, (-2147483648), 2147483647, [(.inr (82, 5001), 0)], [])], [((80, 2), 0, 2000000000, []), ((85, 5001), 0, 5, [])]), [26], 25809, [(1, (-1357))], [1]),
  (26, ([rv_r 80, rv_i 0 19, rv_u], [rv_full], [((80, 2), 0, 2000000000, []), ((85, 5001), 0, 5, [])]), [27], 25808, [(1, (-1357))], []),
  (27, ([rv_r 80, rv_i 0 19, rv_full], [], [((80, 2), 0, 2000000000, []), ((85, 5001), 0, 5, [])]), [28], 25807, [(1, (-1357))], []),
  (28, ([rv_r 80, rv_i 0 19, rv_full], [rv_r 80], [((80, 2), 0, 2000000000, []), ((85, 5001), 0, 5, [])]), [29], 25806, [(1, (-1357))], []),
  (29, ([rv_r 80, rv_i 0 19, rv_full], [rv_r 82], [((80, 2), 0, 2000000000, []), ((85, 5001), 0, 5, [])]), [30], 25805, [(1, (-1357))], []),
  (30, ([rv_r 80, rv_i 0 19, rv_full], [(1, 0, 0, 19, [(.inl 1, 0)], []), rv_r 82], [((80, 2), 0, 2000000000, []), ((85, 5001), 0, 5, [])]), [31], 25804, [(1, (-1357))], []),
  (31, ([rv_r 80, rv_i 0 19, rv_full], [(1, 0, 0, 19, [(.inl 1, 0)], []), rv_r 82, (1, 0, 0, 19, [(.inl 1, 0)], []), rv_r 82], [((80, 2), 0, 2000000000, []), ((85, 5001), 0, 5, [])]), [32], 25803, [(1, (-1357))], [])]
def n_X8_sieves_0_2 : List rv_N := [
  (32, ([rv_r 80, rv_i 0 19, rv_full], [(1, 0, (-2147483648), 2147483647, [(.inr (82, 5001), 0)], []), (1, 0, 0, 19, [(.inl 1, 0)], []), rv_r 82], [((80, 2), 0, 2000000000, []), ((85, 5001), 0, 5, [])]), [33], 25802, [(1, (-1357))], []),
  (33, ([rv_r 80, rv_i 0 19, rv_full], [(1, 0, (-2147483648), 2147483647, [(.inl 2, 0)], []), (1, 0, (-2147483648), 2147483647, [(.inr (82, 5001), 0)], []), (1, 0, 0, 19, [(.inl 1, 0)], []), rv_r 82], [((80, 2), 0, 2000000000, []), ((85, 5001), 0, 5, [])]), [34], 25801, [(1, (-1357))], []),
  (34, ([rv_r 80, rv_i 0 19, rv_full], [rv_full, (1, 0, 0, 19, [(.inl 1, 0)], []), rv_r 82], [((80, 2), 0, 2000000000, []), ((85, 5001), 0, 5, [])]), [35], 25800, [(1, (-1357))], []),
  (35, ([rv_r 80, rv_i 0 19, rv_full], [], [((80, 2), 0, 2000000000, []), ((85, 5001), 0, 5, [])]), [36], 25799, [(1, (-1357))], []),
  (36, ([rv_r 80, rv_i 0 19, rv_full], [rv_r 80], [((80, 2), 0, 2000000000, []), ((85, 5001), 0, 5, [])]), [37], 25798, [(1, (-1357))], []),
  (37, ([rv_r 80, rv_i 0 19, rv_full], [rv_r 87], [((80, 2), 0, 2000000000, []), ((85, 5001), 0, 5, [])]), [38], 25797, [(1, (-1357))], []),
  (38, ([rv_r 80, rv_i 0 19, rv_full], [rv_r 80, rv_r 87], [((80, 2), 0, 2000000000, []), ((85, 5001), 0, 5, [])]), [39], 25796, [(1, (-1357))], []),
  (39, ([rv_r 80, rv_i 0 19, rv_full], [rv_r 85, rv_r 87], [((80, 2), 0, 2000000000, []), ((85, 5001), 0, 5, [])]), [40], 25795, [(1, (-1357))], []),
  (40, ([rv_r 80, rv_i 0 19, rv_full], [(1, 0, 0, 19, [(.inl 1, 0)], []), rv_r 85, rv_r 87], [((80, 2), 0, 2000000000, []), ((85, 5001), 0, 5, [])]), [41], 25794, [(1, (-1357))], []),
  (41, ([rv_r 80, rv_i 0 19, rv_full], [(1, 0, 0, 5, [(.inr (85, 5001), 0)], []), rv_r 87], [((80, 2), 0, 2000000000, []), ((85, 5001), 0, 5, [])]), [42], 25793, [(1, (-1357))], []),
  (42, ([rv_r 80, rv_i 0 19, rv_full], [(1, 0, 0, 5, [(.inr (85, 5001), 0)], []), rv_r 87, (1, 0, 0, 5, [(.inr (85, 5001), 0)], []), rv_r 87], [((80, 2), 0, 2000000000, []), ((85, 5001), 0, 5, [])]), [43], 25792, [(1, (-1357))], []),
  (43, ([rv_r 80, rv_i 0 19, rv_full], [rv_full, (1, 0, 0, 5, [(.inr (85, 5001), 0)], []), rv_r 87], [((80, 2), 0, 2000000000, []), ((85, 5001), 0, 5, [])]), [44], 25791, [(1, (-1357))], []),
  (44, ([rv_r 80, rv_i 0 19, rv_full], [(1, 0, (-2147483648), 2147483647, [(.inl 2, 0)], []), rv_full, (1, 0, 0, 5, [(.inr (85, 5001), 0)], []), rv_r 87], [((80, 2), 0, 2000000000, []), ((85, 5001), 0, 5, [])]), [45], 25790, [(1, (-1357))], []),
  (45, ([rv_r 80, rv_i 0 19, rv_full], [rv_full, (1, 0, 0, 5, [(.inr (85, 5001), 0)], []), rv_r 87], [((80, 2), 0, 2000000000, []), ((85, 5001), 0, 5, [])]), [46], 25789, [(1, (-1357))], []),
  (46, ([rv_r 80, rv_i 0 19, rv_u], [], [((80, 2), 0, 2000000000, []), ((85, 5001), 0, 6, [])]), [47], 25788, [(1, (-1357))], []),
  (47, ([rv_r 80, rv_i 1 20, rv_u], [], [((80, 2), 0, 2000000000, [])]), [2], 27144, [(1, (-1357))], [])]
def n_X8_sieves_0_3 : List rv_N := [
  (48, ([rv_r 80, rv_i 20 20, rv_u], [], [((80, 2), 0, 2000000000, [])]), [], 0, [], [])]
def n_X8_sieves_0 : List rv_N := n_X8_sieves_0_0 ++ (n_X8_sieves_0_1 ++ (n_X8_sieves_0_2 ++ (n_X8_sieves_0_3)))
noncomputable def gn_X8_sieves_0 : Nat → Option rv_N := rv_ap 16 (rv_at n_X8_sieves_0_0) (rv_ap 16 (rv_at n_X8_sieves_0_1) (rv_ap 16 (rv_at n_X8_sieves_0_2) (rv_at n_X8_sieves_0_3)))
theorem hn_X8_sieves_0 : ∀ i : Nat, n_X8_sieves_0[i]? = gn_X8_sieves_0 i := rv_ap_eq (l := n_X8_sieves_0_0) (c := 16) (rv_ap_eq (l := n_X8_sieves_0_1) (c := 16) (rv_ap_eq (l := n_X8_sieves_0_2) (c := 16) (rv_at_eq n_X8_sieves_0_3) rfl) rfl) rfl
set_option maxRecDepth 100000 in
theorem a_X8_sieves_0 : rv_all (fm_tm, flX8, fm_wr, kcX8, klX8, K_X8_sieves_0.2.2.1, [], 3) ct_X8_sieves_0 cd_X8_sieves n_X8_sieves_0 K_X8_sieves_0 [] 0 n_X8_sieves_0 = true := rv_fast hn_X8_sieves_0 hc_X8_sieves (by decide +kernel)
theorem m_X8_sieves_0 {l : Launch} {D : va_G} {ad : Nat → Nat} {cy : Nat → ClassId} {Z : State → Heap → Prop} (hAd : fm_Ad fm_tm ad) (hZ : fm_Zk (fm_A fm_tm ad) Z) : rv_Met l D fm_cl fm_tm ad cy fm_nt Z fm_G yX8_sieves (.code yX8_sieves prog_10_method_59_code 3 none :: fm_Ts) { frames := 6, cells := 0, slots := 0, locals := 600 } K_X8_sieves_0 := rv_met hAd hZ (Or.inl (by decide +kernel)) evX8 dc_X8_sieves a_X8_sieves_0 ⟨rfl, rfl, rfl⟩ (by decide +kernel) (by decide +kernel) (by decide) (fm_gm fm_G_gd (by decide +kernel)) (rfl) (fun p e s m args below meth c Q X Y => List.forall_mem_cons.mpr ⟨rv_ctV X Y fm_Ts_good dc_X8_sieves (pc := 39) (i := 24) (idx := 362) rfl (m_tells hAd hZ) wl_X8_362 wm_X8_tells wy_X8_tells (by decide) ⟨rfl, rfl, rfl⟩ ⟨rfl, rfl⟩, List.forall_mem_cons.mpr ⟨rv_ctS X Y fm_Ts_good dc_X8_sieves (pc := 42) (i := 25) (idx := 366) rfl (m_X8_less_0 hAd hZ) wl_X8_366 wm_X8_less wy_X8_less (by decide) rfl, fun _ h => absurd h List.not_mem_nil⟩⟩) (fun _ _ _ _ _ _ _ _ _ _ _ _ _ _ _ _ h => absurd h List.not_mem_nil)
def cd_X8_passes : List (Nat × Instr × Nat) := [(0, .aload_n 0, 1), (1, .iload_n 1, 1), (2, .putfield 333, 3), (5, .aload_n 0, 1), (6, .invokevirtual 392, 3), (9, .aload_n 0, 1), (10, .invokevirtual 395, 3), (13, .aload_n 0, 1), (14, .invokevirtual 398, 3), (17, .aload_n 0, 1), (18, .invokevirtual 401, 3), (21, .aload_n 0, 1), (22, .invokevirtual 404, 3), (25, .aload_n 0, 1), (26, .dup, 1), (27, .getfield 321, 3), (30, .iconst 1, 1), (31, .iadd, 1), (32, .putfield 321, 3), (35, .return_, 1)]
theorem dc_X8_passes : ∀ q ∈ cd_X8_passes, decode prog_10_method_60_code q.1 = .ok (q.2.1, q.2.2) := by decide +kernel
def K_X8_passes_0 : rv_K := ([rv_r 80, rv_full], [((80, 2), 0, 1999999999, [])], [(80, 2), (80, 4), (80, 5), (80, 6), (80, 43), (80, 44), (80, 45), (80, 46), (80, 51), (82, 9999), (87, 9999), (89, 9999), (90, 9999), (94, 9999), (108, 9999), (109, 9999), (110, 9999), (111, 9999)], [], [], [((80, 2), 1, 2000000000, [((80, 2), 1, 1)])])
def ct_X8_passes_0 : List (Nat × rv_K) := [(4, K_X8_loses_0), (6, K_X8_climbs_0), (8, K_X8_blows_0), (10, K_X8_washes_0), (12, K_X8_sieves_0)]
def n_X8_passes_0_0 : List rv_N := [
  (0, ([rv_r 80, rv_full], [], [((80, 2), 0, 1999999999, [((80, 2), 0, 0)])]), [1], 19, [], []),
  (1, ([rv_r 80, rv_full], [rv_r 80], [((80, 2), 0, 1999999999, [((80, 2), 0, 0)])]), [2], 18, [], []),
  (2, ([rv_r 80, rv_full], [(1, 0, (-2147483648), 2147483647, [(.inl 1, 0)], []), rv_r 80], [((80, 2), 0, 1999999999, [((80, 2), 0, 0)])]), [3], 17, [], []),
  (3, ([rv_r 80, rv_full], [], [((80, 2), 0, 1999999999, [((80, 2), 0, 0)])]), [4], 16, [], []),
  (4, ([rv_r 80, rv_full], [rv_r 80], [((80, 2), 0, 1999999999, [((80, 2), 0, 0)])]), [5], 15, [], [0]),
  (5, ([rv_r 80, rv_full], [], [((80, 2), 0, 1999999999, [((80, 2), 0, 0)])]), [6], 14, [], []),
  (6, ([rv_r 80, rv_full], [rv_r 80], [((80, 2), 0, 1999999999, [((80, 2), 0, 0)])]), [7], 13, [], [1]),
  (7, ([rv_r 80, rv_full], [], [((80, 2), 0, 1999999999, [((80, 2), 0, 0)])]), [8], 12, [], []),
  (8, ([rv_r 80, rv_full], [rv_r 80], [((80, 2), 0, 1999999999, [((80, 2), 0, 0)])]), [9], 11, [], [2]),
  (9, ([rv_r 80, rv_full], [], [((80, 2), 0, 1999999999, [((80, 2), 0, 0)])]), [10], 10, [], []),
  (10, ([rv_r 80, rv_full], [rv_r 80], [((80, 2), 0, 1999999999, [((80, 2), 0, 0)])]), [11], 9, [], [3]),
  (11, ([rv_r 80, rv_full], [], [((80, 2), 0, 1999999999, [((80, 2), 0, 0)])]), [12], 8, [], []),
  (12, ([rv_r 80, rv_full], [rv_r 80], [((80, 2), 0, 1999999999, [((80, 2), 0, 0)])]), [13], 7, [], [4]),
  (13, ([rv_r 80, rv_full], [], [((80, 2), 0, 1999999999, [((80, 2), 0, 0)])]), [14], 6, [], []),
  (14, ([rv_r 80, rv_full], [rv_r 80], [((80, 2), 0, 1999999999, [((80, 2), 0, 0)])]), [15], 5, [], []),
  (15, ([rv_r 80, rv_full], [rv_r 80, rv_r 80], [((80, 2), 0, 1999999999, [((80, 2), 0, 0)])]), [16], 4, [], [])]
def n_X8_passes_0_1 : List rv_N := [
  (16, ([rv_r 80, rv_full], [(1, 0, 0, 1999999999, [(.inr (80, 2), 0)], []), rv_r 80], [((80, 2), 0, 1999999999, [((80, 2), 0, 0)])]), [17], 3, [], []),
  (17, ([rv_r 80, rv_full], [rv_i 1 1, (1, 0, 0, 1999999999, [(.inr (80, 2), 0)], []), rv_r 80], [((80, 2), 0, 1999999999, [((80, 2), 0, 0)])]), [18], 2, [], []),
  (18, ([rv_r 80, rv_full], [(1, 0, 1, 2000000000, [(.inr (80, 2), 1)], []), rv_r 80], [((80, 2), 0, 1999999999, [((80, 2), 0, 0)])]), [19], 1, [], []),
  (19, ([rv_r 80, rv_full], [], [((80, 2), 1, 2000000000, [((80, 2), 1, 1)])]), [], 0, [], [])]
def n_X8_passes_0 : List rv_N := n_X8_passes_0_0 ++ (n_X8_passes_0_1)
noncomputable def gn_X8_passes_0 : Nat → Option rv_N := rv_ap 16 (rv_at n_X8_passes_0_0) (rv_at n_X8_passes_0_1)
theorem hn_X8_passes_0 : ∀ i : Nat, n_X8_passes_0[i]? = gn_X8_passes_0 i := rv_ap_eq (l := n_X8_passes_0_0) (c := 16) (rv_at_eq n_X8_passes_0_1) rfl
set_option maxRecDepth 100000 in
theorem a_X8_passes_0 : rv_all (fm_tm, flX8, fm_wr, kcX8, klX8, K_X8_passes_0.2.2.1, [], 2) ct_X8_passes_0 cd_X8_passes n_X8_passes_0 K_X8_passes_0 [] 0 n_X8_passes_0 = true := rv_fast hn_X8_passes_0 (rv_at_eq cd_X8_passes) (by decide +kernel)
theorem m_X8_passes_0 {l : Launch} {D : va_G} {ad : Nat → Nat} {cy : Nat → ClassId} {Z : State → Heap → Prop} (hAd : fm_Ad fm_tm ad) (hZ : fm_Zk (fm_A fm_tm ad) Z) : rv_Met l D fm_cl fm_tm ad cy fm_nt Z fm_G yX8_passes (.code yX8_passes prog_10_method_60_code 2 none :: fm_Ts) { frames := 8, cells := 0, slots := 0, locals := 800 } K_X8_passes_0 := rv_met hAd hZ (Or.inl (by decide +kernel)) evX8 dc_X8_passes a_X8_passes_0 ⟨rfl, rfl, rfl⟩ (by decide +kernel) (by decide +kernel) (by decide) (fm_gm fm_G_gd (by decide +kernel)) (rfl) (fun p e s m args below meth c Q X Y => List.forall_mem_cons.mpr ⟨rv_ctV X Y fm_Ts_good dc_X8_passes (pc := 6) (i := 4) (idx := 392) rfl (m_X8_loses_0 hAd hZ) wl_X8_392 wm_X8_loses wy_X8_loses (by decide) ⟨rfl, rfl, rfl⟩ ⟨rfl, rfl⟩, List.forall_mem_cons.mpr ⟨rv_ctV X Y fm_Ts_good dc_X8_passes (pc := 10) (i := 6) (idx := 395) rfl (m_X8_climbs_0 hAd hZ) wl_X8_395 wm_X8_climbs wy_X8_climbs (by decide) ⟨rfl, rfl, rfl⟩ ⟨rfl, rfl⟩, List.forall_mem_cons.mpr ⟨rv_ctV X Y fm_Ts_good dc_X8_passes (pc := 14) (i := 8) (idx := 398) rfl (m_X8_blows_0 hAd hZ) wl_X8_398 wm_X8_blows wy_X8_blows (by decide) ⟨rfl, rfl, rfl⟩ ⟨rfl, rfl⟩, List.forall_mem_cons.mpr ⟨rv_ctV X Y fm_Ts_good dc_X8_passes (pc := 18) (i := 10) (idx := 401) rfl (m_X8_washes_0 hAd hZ) wl_X8_401 wm_X8_washes wy_X8_washes (by decide) ⟨rfl, rfl, rfl⟩ ⟨rfl, rfl⟩, List.forall_mem_cons.mpr ⟨rv_ctV X Y fm_Ts_good dc_X8_passes (pc := 22) (i := 12) (idx := 404) rfl (m_X8_sieves_0 hAd hZ) wl_X8_404 wm_X8_sieves wy_X8_sieves (by decide) ⟨rfl, rfl, rfl⟩ ⟨rfl, rfl⟩, fun _ h => absurd h List.not_mem_nil⟩⟩⟩⟩⟩) (fun _ _ _ _ _ _ _ _ _ _ _ _ _ _ _ _ h => absurd h List.not_mem_nil)
def cd_X8_goesOn : List (Nat × Instr × Nat) := [(0, .aload_n 0, 1), (1, .iconst 0, 1), (2, .putfield 380, 3), (5, .iconst 0, 1), (6, .istore_n 2, 1), (7, .iload_n 2, 1), (8, .iload_n 1, 1), (9, .if_icmp .ge 40, 3), (12, .aload_n 0, 1), (13, .sipush 25173, 3), (16, .aload_n 0, 1), (17, .getfield 13, 3), (20, .imul, 1), (21, .sipush 13849, 3), (24, .iadd, 1), (25, .ldc_w 407, 3), (28, .irem, 1), (29, .putfield 13, 3), (32, .aload_n 0, 1), (33, .aload_n 0, 1), (34, .getfield 13, 3), (37, .bipush 10, 2), (39, .irem, 1), (40, .invokevirtual 408, 3), (43, .iinc 2 1, 3), (46, .goto (-39), 3), (49, .return_, 1)]
theorem dc_X8_goesOn : ∀ q ∈ cd_X8_goesOn, decode prog_10_method_61_code q.1 = .ok (q.2.1, q.2.2) := by decide +kernel
def K_X8_goesOn_0 : rv_K := ([rv_r 80, rv_i 1 40], [((80, 2), 0, 1500000000, [])], [(80, 2), (80, 3), (80, 4), (80, 5), (80, 6), (80, 43), (80, 44), (80, 45), (80, 46), (80, 51), (82, 9999), (87, 9999), (89, 9999), (90, 9999), (94, 9999), (108, 9999), (109, 9999), (110, 9999), (111, 9999)], [], [], [((80, 2), 1, 1500000040, [((80, 2), 1, 40)])])
def ct_X8_goesOn_0 : List (Nat × rv_K) := [(23, K_X8_passes_0)]
def n_X8_goesOn_0_0 : List rv_N := [
  (0, ([rv_r 80, rv_i 1 40, rv_u], [], [((80, 2), 0, 1500000000, [((80, 2), 0, 0)])]), [1], 848, [], []),
  (1, ([rv_r 80, rv_i 1 40, rv_u], [rv_r 80], [((80, 2), 0, 1500000000, [((80, 2), 0, 0)])]), [2], 847, [], []),
  (2, ([rv_r 80, rv_i 1 40, rv_u], [rv_i 0 0, rv_r 80], [((80, 2), 0, 1500000000, [((80, 2), 0, 0)])]), [3], 846, [], []),
  (3, ([rv_r 80, rv_i 1 40, rv_u], [], [((80, 2), 0, 1500000000, [((80, 2), 0, 0)]), ((80, 51), 0, 0, [])]), [4], 845, [], []),
  (4, ([rv_r 80, rv_i 1 40, rv_u], [rv_i 0 0], [((80, 2), 0, 1500000000, [((80, 2), 0, 0)]), ((80, 51), 0, 0, [])]), [5], 844, [], []),
  (5, ([rv_r 80, rv_i 1 40, rv_i 0 0], [], [((80, 2), 0, 1500000000, [((80, 2), 0, 0)]), ((80, 51), 0, 0, [])]), [46], 843, [], []),
  (5, ([rv_r 80, rv_i 1 40, rv_i 1 1], [], [((80, 2), 1, 1500000001, [((80, 2), 1, 1)])]), [47], 822, [], []),
  (5, ([rv_r 80, rv_i 10 40, rv_i 10 10], [], [((80, 2), 10, 1500000010, [((80, 2), 10, 10)])]), [48], 633, [], []),
  (5, ([rv_r 80, rv_i 11 40, rv_i 11 11], [], [((80, 2), 11, 1500000011, [((80, 2), 11, 11)])]), [49], 612, [], []),
  (5, ([rv_r 80, rv_i 12 40, rv_i 12 12], [], [((80, 2), 12, 1500000012, [((80, 2), 12, 12)])]), [50], 591, [], []),
  (5, ([rv_r 80, rv_i 13 40, rv_i 13 13], [], [((80, 2), 13, 1500000013, [((80, 2), 13, 13)])]), [51], 570, [], []),
  (5, ([rv_r 80, rv_i 14 40, rv_i 14 14], [], [((80, 2), 14, 1500000014, [((80, 2), 14, 14)])]), [52], 549, [], []),
  (5, ([rv_r 80, rv_i 15 40, rv_i 15 15], [], [((80, 2), 15, 1500000015, [((80, 2), 15, 15)])]), [53], 528, [], []),
  (5, ([rv_r 80, rv_i 16 40, rv_i 16 16], [], [((80, 2), 16, 1500000016, [((80, 2), 16, 16)])]), [54], 507, [], []),
  (5, ([rv_r 80, rv_i 17 40, rv_i 17 17], [], [((80, 2), 17, 1500000017, [((80, 2), 17, 17)])]), [55], 486, [], []),
  (5, ([rv_r 80, rv_i 18 40, rv_i 18 18], [], [((80, 2), 18, 1500000018, [((80, 2), 18, 18)])]), [56], 465, [], [])]
def n_X8_goesOn_0_1 : List rv_N := [
  (5, ([rv_r 80, rv_i 19 40, rv_i 19 19], [], [((80, 2), 19, 1500000019, [((80, 2), 19, 19)])]), [57], 444, [], []),
  (5, ([rv_r 80, rv_i 2 40, rv_i 2 2], [], [((80, 2), 2, 1500000002, [((80, 2), 2, 2)])]), [58], 801, [], []),
  (5, ([rv_r 80, rv_i 20 40, rv_i 20 20], [], [((80, 2), 20, 1500000020, [((80, 2), 20, 20)])]), [59], 423, [], []),
  (5, ([rv_r 80, rv_i 21 40, rv_i 21 21], [], [((80, 2), 21, 1500000021, [((80, 2), 21, 21)])]), [60], 402, [], []),
  (5, ([rv_r 80, rv_i 22 40, rv_i 22 22], [], [((80, 2), 22, 1500000022, [((80, 2), 22, 22)])]), [61], 381, [], []),
  (5, ([rv_r 80, rv_i 23 40, rv_i 23 23], [], [((80, 2), 23, 1500000023, [((80, 2), 23, 23)])]), [62], 360, [], []),
  (5, ([rv_r 80, rv_i 24 40, rv_i 24 24], [], [((80, 2), 24, 1500000024, [((80, 2), 24, 24)])]), [63], 339, [], []),
  (5, ([rv_r 80, rv_i 25 40, rv_i 25 25], [], [((80, 2), 25, 1500000025, [((80, 2), 25, 25)])]), [64], 318, [], []),
  (5, ([rv_r 80, rv_i 26 40, rv_i 26 26], [], [((80, 2), 26, 1500000026, [((80, 2), 26, 26)])]), [65], 297, [], []),
  (5, ([rv_r 80, rv_i 27 40, rv_i 27 27], [], [((80, 2), 27, 1500000027, [((80, 2), 27, 27)])]), [66], 276, [], []),
  (5, ([rv_r 80, rv_i 28 40, rv_i 28 28], [], [((80, 2), 28, 1500000028, [((80, 2), 28, 28)])]), [67], 255, [], []),
  (5, ([rv_r 80, rv_i 29 40, rv_i 29 29], [], [((80, 2), 29, 1500000029, [((80, 2), 29, 29)])]), [68], 234, [], []),
  (5, ([rv_r 80, rv_i 3 40, rv_i 3 3], [], [((80, 2), 3, 1500000003, [((80, 2), 3, 3)])]), [69], 780, [], []),
  (5, ([rv_r 80, rv_i 30 40, rv_i 30 30], [], [((80, 2), 30, 1500000030, [((80, 2), 30, 30)])]), [70], 213, [], []),
  (5, ([rv_r 80, rv_i 31 40, rv_i 31 31], [], [((80, 2), 31, 1500000031, [((80, 2), 31, 31)])]), [71], 192, [], []),
  (5, ([rv_r 80, rv_i 32 40, rv_i 32 32], [], [((80, 2), 32, 1500000032, [((80, 2), 32, 32)])]), [72], 171, [], [])]
def n_X8_goesOn_0_2 : List rv_N := [
  (5, ([rv_r 80, rv_i 33 40, rv_i 33 33], [], [((80, 2), 33, 1500000033, [((80, 2), 33, 33)])]), [73], 150, [], []),
  (5, ([rv_r 80, rv_i 34 40, rv_i 34 34], [], [((80, 2), 34, 1500000034, [((80, 2), 34, 34)])]), [74], 129, [], []),
  (5, ([rv_r 80, rv_i 35 40, rv_i 35 35], [], [((80, 2), 35, 1500000035, [((80, 2), 35, 35)])]), [75], 108, [], []),
  (5, ([rv_r 80, rv_i 36 40, rv_i 36 36], [], [((80, 2), 36, 1500000036, [((80, 2), 36, 36)])]), [76], 87, [], []),
  (5, ([rv_r 80, rv_i 37 40, rv_i 37 37], [], [((80, 2), 37, 1500000037, [((80, 2), 37, 37)])]), [77], 66, [], []),
  (5, ([rv_r 80, rv_i 38 40, rv_i 38 38], [], [((80, 2), 38, 1500000038, [((80, 2), 38, 38)])]), [78], 45, [], []),
  (5, ([rv_r 80, rv_i 39 40, rv_i 39 39], [], [((80, 2), 39, 1500000039, [((80, 2), 39, 39)])]), [79], 24, [], []),
  (5, ([rv_r 80, rv_i 4 40, rv_i 4 4], [], [((80, 2), 4, 1500000004, [((80, 2), 4, 4)])]), [80], 759, [], []),
  (5, ([rv_r 80, rv_i 40 40, rv_i 40 40], [], [((80, 2), 40, 1500000040, [((80, 2), 40, 40)])]), [81], 3, [], []),
  (5, ([rv_r 80, rv_i 5 40, rv_i 5 5], [], [((80, 2), 5, 1500000005, [((80, 2), 5, 5)])]), [82], 738, [], []),
  (5, ([rv_r 80, rv_i 6 40, rv_i 6 6], [], [((80, 2), 6, 1500000006, [((80, 2), 6, 6)])]), [83], 717, [], []),
  (5, ([rv_r 80, rv_i 7 40, rv_i 7 7], [], [((80, 2), 7, 1500000007, [((80, 2), 7, 7)])]), [84], 696, [], []),
  (5, ([rv_r 80, rv_i 8 40, rv_i 8 8], [], [((80, 2), 8, 1500000008, [((80, 2), 8, 8)])]), [85], 675, [], []),
  (5, ([rv_r 80, rv_i 9 40, rv_i 9 9], [], [((80, 2), 9, 1500000009, [((80, 2), 9, 9)])]), [86], 654, [], []),
  (6, ([rv_r 80, rv_i 1 40, rv_i 0 0], [(1, 0, 0, 0, [(.inl 2, 0)], [])], [((80, 2), 0, 1500000000, [((80, 2), 0, 0)]), ((80, 51), 0, 0, [])]), [88], 842, [], []),
  (6, ([rv_r 80, rv_i 1 40, rv_i 1 1], [(1, 0, 1, 1, [(.inl 2, 0)], [])], [((80, 2), 1, 1500000001, [((80, 2), 1, 1)])]), [89], 821, [], [])]
def n_X8_goesOn_0_3 : List rv_N := [
  (6, ([rv_r 80, rv_i 10 40, rv_i 10 10], [(1, 0, 10, 10, [(.inl 2, 0)], [])], [((80, 2), 10, 1500000010, [((80, 2), 10, 10)])]), [90], 632, [], []),
  (6, ([rv_r 80, rv_i 11 40, rv_i 11 11], [(1, 0, 11, 11, [(.inl 2, 0)], [])], [((80, 2), 11, 1500000011, [((80, 2), 11, 11)])]), [91], 611, [], []),
  (6, ([rv_r 80, rv_i 12 40, rv_i 12 12], [(1, 0, 12, 12, [(.inl 2, 0)], [])], [((80, 2), 12, 1500000012, [((80, 2), 12, 12)])]), [92], 590, [], []),
  (6, ([rv_r 80, rv_i 13 40, rv_i 13 13], [(1, 0, 13, 13, [(.inl 2, 0)], [])], [((80, 2), 13, 1500000013, [((80, 2), 13, 13)])]), [93], 569, [], []),
  (6, ([rv_r 80, rv_i 14 40, rv_i 14 14], [(1, 0, 14, 14, [(.inl 2, 0)], [])], [((80, 2), 14, 1500000014, [((80, 2), 14, 14)])]), [94], 548, [], []),
  (6, ([rv_r 80, rv_i 15 40, rv_i 15 15], [(1, 0, 15, 15, [(.inl 2, 0)], [])], [((80, 2), 15, 1500000015, [((80, 2), 15, 15)])]), [95], 527, [], []),
  (6, ([rv_r 80, rv_i 16 40, rv_i 16 16], [(1, 0, 16, 16, [(.inl 2, 0)], [])], [((80, 2), 16, 1500000016, [((80, 2), 16, 16)])]), [96], 506, [], []),
  (6, ([rv_r 80, rv_i 17 40, rv_i 17 17], [(1, 0, 17, 17, [(.inl 2, 0)], [])], [((80, 2), 17, 1500000017, [((80, 2), 17, 17)])]), [97], 485, [], []),
  (6, ([rv_r 80, rv_i 18 40, rv_i 18 18], [(1, 0, 18, 18, [(.inl 2, 0)], [])], [((80, 2), 18, 1500000018, [((80, 2), 18, 18)])]), [98], 464, [], []),
  (6, ([rv_r 80, rv_i 19 40, rv_i 19 19], [(1, 0, 19, 19, [(.inl 2, 0)], [])], [((80, 2), 19, 1500000019, [((80, 2), 19, 19)])]), [99], 443, [], []),
  (6, ([rv_r 80, rv_i 2 40, rv_i 2 2], [(1, 0, 2, 2, [(.inl 2, 0)], [])], [((80, 2), 2, 1500000002, [((80, 2), 2, 2)])]), [100], 800, [], []),
  (6, ([rv_r 80, rv_i 20 40, rv_i 20 20], [(1, 0, 20, 20, [(.inl 2, 0)], [])], [((80, 2), 20, 1500000020, [((80, 2), 20, 20)])]), [101], 422, [], []),
  (6, ([rv_r 80, rv_i 21 40, rv_i 21 21], [(1, 0, 21, 21, [(.inl 2, 0)], [])], [((80, 2), 21, 1500000021, [((80, 2), 21, 21)])]), [102], 401, [], []),
  (6, ([rv_r 80, rv_i 22 40, rv_i 22 22], [(1, 0, 22, 22, [(.inl 2, 0)], [])], [((80, 2), 22, 1500000022, [((80, 2), 22, 22)])]), [103], 380, [], []),
  (6, ([rv_r 80, rv_i 23 40, rv_i 23 23], [(1, 0, 23, 23, [(.inl 2, 0)], [])], [((80, 2), 23, 1500000023, [((80, 2), 23, 23)])]), [104], 359, [], []),
  (6, ([rv_r 80, rv_i 24 40, rv_i 24 24], [(1, 0, 24, 24, [(.inl 2, 0)], [])], [((80, 2), 24, 1500000024, [((80, 2), 24, 24)])]), [105], 338, [], [])]
def n_X8_goesOn_0_4 : List rv_N := [
  (6, ([rv_r 80, rv_i 25 40, rv_i 25 25], [(1, 0, 25, 25, [(.inl 2, 0)], [])], [((80, 2), 25, 1500000025, [((80, 2), 25, 25)])]), [106], 317, [], []),
  (6, ([rv_r 80, rv_i 26 40, rv_i 26 26], [(1, 0, 26, 26, [(.inl 2, 0)], [])], [((80, 2), 26, 1500000026, [((80, 2), 26, 26)])]), [107], 296, [], []),
  (6, ([rv_r 80, rv_i 27 40, rv_i 27 27], [(1, 0, 27, 27, [(.inl 2, 0)], [])], [((80, 2), 27, 1500000027, [((80, 2), 27, 27)])]), [108], 275, [], []),
  (6, ([rv_r 80, rv_i 28 40, rv_i 28 28], [(1, 0, 28, 28, [(.inl 2, 0)], [])], [((80, 2), 28, 1500000028, [((80, 2), 28, 28)])]), [109], 254, [], []),
  (6, ([rv_r 80, rv_i 29 40, rv_i 29 29], [(1, 0, 29, 29, [(.inl 2, 0)], [])], [((80, 2), 29, 1500000029, [((80, 2), 29, 29)])]), [110], 233, [], []),
  (6, ([rv_r 80, rv_i 3 40, rv_i 3 3], [(1, 0, 3, 3, [(.inl 2, 0)], [])], [((80, 2), 3, 1500000003, [((80, 2), 3, 3)])]), [111], 779, [], []),
  (6, ([rv_r 80, rv_i 30 40, rv_i 30 30], [(1, 0, 30, 30, [(.inl 2, 0)], [])], [((80, 2), 30, 1500000030, [((80, 2), 30, 30)])]), [112], 212, [], []),
  (6, ([rv_r 80, rv_i 31 40, rv_i 31 31], [(1, 0, 31, 31, [(.inl 2, 0)], [])], [((80, 2), 31, 1500000031, [((80, 2), 31, 31)])]), [113], 191, [], []),
  (6, ([rv_r 80, rv_i 32 40, rv_i 32 32], [(1, 0, 32, 32, [(.inl 2, 0)], [])], [((80, 2), 32, 1500000032, [((80, 2), 32, 32)])]), [114], 170, [], []),
  (6, ([rv_r 80, rv_i 33 40, rv_i 33 33], [(1, 0, 33, 33, [(.inl 2, 0)], [])], [((80, 2), 33, 1500000033, [((80, 2), 33, 33)])]), [115], 149, [], []),
  (6, ([rv_r 80, rv_i 34 40, rv_i 34 34], [(1, 0, 34, 34, [(.inl 2, 0)], [])], [((80, 2), 34, 1500000034, [((80, 2), 34, 34)])]), [116], 128, [], []),
  (6, ([rv_r 80, rv_i 35 40, rv_i 35 35], [(1, 0, 35, 35, [(.inl 2, 0)], [])], [((80, 2), 35, 1500000035, [((80, 2), 35, 35)])]), [117], 107, [], []),
  (6, ([rv_r 80, rv_i 36 40, rv_i 36 36], [(1, 0, 36, 36, [(.inl 2, 0)], [])], [((80, 2), 36, 1500000036, [((80, 2), 36, 36)])]), [118], 86, [], []),
  (6, ([rv_r 80, rv_i 37 40, rv_i 37 37], [(1, 0, 37, 37, [(.inl 2, 0)], [])], [((80, 2), 37, 1500000037, [((80, 2), 37, 37)])]), [119], 65, [], []),
  (6, ([rv_r 80, rv_i 38 40, rv_i 38 38], [(1, 0, 38, 38, [(.inl 2, 0)], [])], [((80, 2), 38, 1500000038, [((80, 2), 38, 38)])]), [120], 44, [], []),
  (6, ([rv_r 80, rv_i 39 40, rv_i 39 39], [(1, 0, 39, 39, [(.inl 2, 0)], [])], [((80, 2), 39, 1500000039, [((80, 2), 39, 39)])]), [121], 23, [], [])]
def n_X8_goesOn_0_5 : List rv_N := [
  (6, ([rv_r 80, rv_i 4 40, rv_i 4 4], [(1, 0, 4, 4, [(.inl 2, 0)], [])], [((80, 2), 4, 1500000004, [((80, 2), 4, 4)])]), [122], 758, [], []),
  (6, ([rv_r 80, rv_i 40 40, rv_i 40 40], [(1, 0, 40, 40, [(.inl 2, 0)], [])], [((80, 2), 40, 1500000040, [((80, 2), 40, 40)])]), [87], 2, [], []),
  (6, ([rv_r 80, rv_i 5 40, rv_i 5 5], [(1, 0, 5, 5, [(.inl 2, 0)], [])], [((80, 2), 5, 1500000005, [((80, 2), 5, 5)])]), [123], 737, [], []),
  (6, ([rv_r 80, rv_i 6 40, rv_i 6 6], [(1, 0, 6, 6, [(.inl 2, 0)], [])], [((80, 2), 6, 1500000006, [((80, 2), 6, 6)])]), [124], 716, [], []),
  (6, ([rv_r 80, rv_i 7 40, rv_i 7 7], [(1, 0, 7, 7, [(.inl 2, 0)], [])], [((80, 2), 7, 1500000007, [((80, 2), 7, 7)])]), [125], 695, [], []),
  (6, ([rv_r 80, rv_i 8 40, rv_i 8 8], [(1, 0, 8, 8, [(.inl 2, 0)], [])], [((80, 2), 8, 1500000008, [((80, 2), 8, 8)])]), [126], 674, [], []),
  (6, ([rv_r 80, rv_i 9 40, rv_i 9 9], [(1, 0, 9, 9, [(.inl 2, 0)], [])], [((80, 2), 9, 1500000009, [((80, 2), 9, 9)])]), [127], 653, [], []),
  (7, ([rv_r 80, rv_i 40 40, rv_i 40 40], [(1, 0, 40, 40, [(.inl 1, 0)], []), (1, 0, 40, 40, [(.inl 2, 0)], [])], [((80, 2), 40, 1500000040, [((80, 2), 40, 40)])]), [882], 1, [], []),
  (7, ([rv_r 80, rv_i 1 40, rv_i 0 0], [(1, 0, 1, 40, [(.inl 1, 0)], []), (1, 0, 0, 0, [(.inl 2, 0)], [])], [((80, 2), 0, 1500000000, [((80, 2), 0, 0)]), ((80, 51), 0, 0, [])]), [128], 841, [], []),
  (7, ([rv_r 80, rv_i 1 40, rv_i 1 1], [(1, 0, 1, 40, [(.inl 1, 0)], []), (1, 0, 1, 1, [(.inl 2, 0)], [])], [((80, 2), 1, 1500000001, [((80, 2), 1, 1)])]), [129, 848], 820, [], []),
  (7, ([rv_r 80, rv_i 10 40, rv_i 10 10], [(1, 0, 10, 40, [(.inl 1, 0)], []), (1, 0, 10, 10, [(.inl 2, 0)], [])], [((80, 2), 10, 1500000010, [((80, 2), 10, 10)])]), [130, 849], 631, [], []),
  (7, ([rv_r 80, rv_i 11 40, rv_i 11 11], [(1, 0, 11, 40, [(.inl 1, 0)], []), (1, 0, 11, 11, [(.inl 2, 0)], [])], [((80, 2), 11, 1500000011, [((80, 2), 11, 11)])]), [131, 850], 610, [], []),
  (7, ([rv_r 80, rv_i 12 40, rv_i 12 12], [(1, 0, 12, 40, [(.inl 1, 0)], []), (1, 0, 12, 12, [(.inl 2, 0)], [])], [((80, 2), 12, 1500000012, [((80, 2), 12, 12)])]), [132, 851], 589, [], []),
  (7, ([rv_r 80, rv_i 13 40, rv_i 13 13], [(1, 0, 13, 40, [(.inl 1, 0)], []), (1, 0, 13, 13, [(.inl 2, 0)], [])], [((80, 2), 13, 1500000013, [((80, 2), 13, 13)])]), [133, 852], 568, [], []),
  (7, ([rv_r 80, rv_i 14 40, rv_i 14 14], [(1, 0, 14, 40, [(.inl 1, 0)], []), (1, 0, 14, 14, [(.inl 2, 0)], [])], [((80, 2), 14, 1500000014, [((80, 2), 14, 14)])]), [134, 853], 547, [], []),
  (7, ([rv_r 80, rv_i 15 40, rv_i 15 15], [(1, 0, 15, 40, [(.inl 1, 0)], []), (1, 0, 15, 15, [(.inl 2, 0)], [])], [((80, 2), 15, 1500000015, [((80, 2), 15, 15)])]), [135, 854], 526, [], [])]
def n_X8_goesOn_0_6 : List rv_N := [
  (7, ([rv_r 80, rv_i 16 40, rv_i 16 16], [(1, 0, 16, 40, [(.inl 1, 0)], []), (1, 0, 16, 16, [(.inl 2, 0)], [])], [((80, 2), 16, 1500000016, [((80, 2), 16, 16)])]), [136, 855], 505, [], []),
  (7, ([rv_r 80, rv_i 17 40, rv_i 17 17], [(1, 0, 17, 40, [(.inl 1, 0)], []), (1, 0, 17, 17, [(.inl 2, 0)], [])], [((80, 2), 17, 1500000017, [((80, 2), 17, 17)])]), [137, 856], 484, [], []),
  (7, ([rv_r 80, rv_i 18 40, rv_i 18 18], [(1, 0, 18, 40, [(.inl 1, 0)], []), (1, 0, 18, 18, [(.inl 2, 0)], [])], [((80, 2), 18, 1500000018, [((80, 2), 18, 18)])]), [138, 857], 463, [], []),
  (7, ([rv_r 80, rv_i 19 40, rv_i 19 19], [(1, 0, 19, 40, [(.inl 1, 0)], []), (1, 0, 19, 19, [(.inl 2, 0)], [])], [((80, 2), 19, 1500000019, [((80, 2), 19, 19)])]), [139, 858], 442, [], []),
  (7, ([rv_r 80, rv_i 2 40, rv_i 2 2], [(1, 0, 2, 40, [(.inl 1, 0)], []), (1, 0, 2, 2, [(.inl 2, 0)], [])], [((80, 2), 2, 1500000002, [((80, 2), 2, 2)])]), [140, 859], 799, [], []),
  (7, ([rv_r 80, rv_i 20 40, rv_i 20 20], [(1, 0, 20, 40, [(.inl 1, 0)], []), (1, 0, 20, 20, [(.inl 2, 0)], [])], [((80, 2), 20, 1500000020, [((80, 2), 20, 20)])]), [141, 860], 421, [], []),
  (7, ([rv_r 80, rv_i 21 40, rv_i 21 21], [(1, 0, 21, 40, [(.inl 1, 0)], []), (1, 0, 21, 21, [(.inl 2, 0)], [])], [((80, 2), 21, 1500000021, [((80, 2), 21, 21)])]), [142, 861], 400, [], []),
  (7, ([rv_r 80, rv_i 22 40, rv_i 22 22], [(1, 0, 22, 40, [(.inl 1, 0)], []), (1, 0, 22, 22, [(.inl 2, 0)], [])], [((80, 2), 22, 1500000022, [((80, 2), 22, 22)])]), [143, 862], 379, [], []),
  (7, ([rv_r 80, rv_i 23 40, rv_i 23 23], [(1, 0, 23, 40, [(.inl 1, 0)], []), (1, 0, 23, 23, [(.inl 2, 0)], [])], [((80, 2), 23, 1500000023, [((80, 2), 23, 23)])]), [144, 863], 358, [], []),
  (7, ([rv_r 80, rv_i 24 40, rv_i 24 24], [(1, 0, 24, 40, [(.inl 1, 0)], []), (1, 0, 24, 24, [(.inl 2, 0)], [])], [((80, 2), 24, 1500000024, [((80, 2), 24, 24)])]), [145, 864], 337, [], []),
  (7, ([rv_r 80, rv_i 25 40, rv_i 25 25], [(1, 0, 25, 40, [(.inl 1, 0)], []), (1, 0, 25, 25, [(.inl 2, 0)], [])], [((80, 2), 25, 1500000025, [((80, 2), 25, 25)])]), [146, 865], 316, [], []),
  (7, ([rv_r 80, rv_i 26 40, rv_i 26 26], [(1, 0, 26, 40, [(.inl 1, 0)], []), (1, 0, 26, 26, [(.inl 2, 0)], [])], [((80, 2), 26, 1500000026, [((80, 2), 26, 26)])]), [147, 866], 295, [], []),
  (7, ([rv_r 80, rv_i 27 40, rv_i 27 27], [(1, 0, 27, 40, [(.inl 1, 0)], []), (1, 0, 27, 27, [(.inl 2, 0)], [])], [((80, 2), 27, 1500000027, [((80, 2), 27, 27)])]), [148, 867], 274, [], []),
  (7, ([rv_r 80, rv_i 28 40, rv_i 28 28], [(1, 0, 28, 40, [(.inl 1, 0)], []), (1, 0, 28, 28, [(.inl 2, 0)], [])], [((80, 2), 28, 1500000028, [((80, 2), 28, 28)])]), [149, 868], 253, [], []),
  (7, ([rv_r 80, rv_i 29 40, rv_i 29 29], [(1, 0, 29, 40, [(.inl 1, 0)], []), (1, 0, 29, 29, [(.inl 2, 0)], [])], [((80, 2), 29, 1500000029, [((80, 2), 29, 29)])]), [150, 869], 232, [], []),
  (7, ([rv_r 80, rv_i 3 40, rv_i 3 3], [(1, 0, 3, 40, [(.inl 1, 0)], []), (1, 0, 3, 3, [(.inl 2, 0)], [])], [((80, 2), 3, 1500000003, [((80, 2), 3, 3)])]), [151, 870], 778, [], [])]
def n_X8_goesOn_0_7 : List rv_N := [
  (7, ([rv_r 80, rv_i 30 40, rv_i 30 30], [(1, 0, 30, 40, [(.inl 1, 0)], []), (1, 0, 30, 30, [(.inl 2, 0)], [])], [((80, 2), 30, 1500000030, [((80, 2), 30, 30)])]), [152, 871], 211, [], []),
  (7, ([rv_r 80, rv_i 31 40, rv_i 31 31], [(1, 0, 31, 40, [(.inl 1, 0)], []), (1, 0, 31, 31, [(.inl 2, 0)], [])], [((80, 2), 31, 1500000031, [((80, 2), 31, 31)])]), [153, 872], 190, [], []),
  (7, ([rv_r 80, rv_i 32 40, rv_i 32 32], [(1, 0, 32, 40, [(.inl 1, 0)], []), (1, 0, 32, 32, [(.inl 2, 0)], [])], [((80, 2), 32, 1500000032, [((80, 2), 32, 32)])]), [154, 873], 169, [], []),
  (7, ([rv_r 80, rv_i 33 40, rv_i 33 33], [(1, 0, 33, 40, [(.inl 1, 0)], []), (1, 0, 33, 33, [(.inl 2, 0)], [])], [((80, 2), 33, 1500000033, [((80, 2), 33, 33)])]), [155, 874], 148, [], []),
  (7, ([rv_r 80, rv_i 34 40, rv_i 34 34], [(1, 0, 34, 40, [(.inl 1, 0)], []), (1, 0, 34, 34, [(.inl 2, 0)], [])], [((80, 2), 34, 1500000034, [((80, 2), 34, 34)])]), [156, 875], 127, [], []),
  (7, ([rv_r 80, rv_i 35 40, rv_i 35 35], [(1, 0, 35, 40, [(.inl 1, 0)], []), (1, 0, 35, 35, [(.inl 2, 0)], [])], [((80, 2), 35, 1500000035, [((80, 2), 35, 35)])]), [157, 876], 106, [], []),
  (7, ([rv_r 80, rv_i 36 40, rv_i 36 36], [(1, 0, 36, 40, [(.inl 1, 0)], []), (1, 0, 36, 36, [(.inl 2, 0)], [])], [((80, 2), 36, 1500000036, [((80, 2), 36, 36)])]), [158, 877], 85, [], []),
  (7, ([rv_r 80, rv_i 37 40, rv_i 37 37], [(1, 0, 37, 40, [(.inl 1, 0)], []), (1, 0, 37, 37, [(.inl 2, 0)], [])], [((80, 2), 37, 1500000037, [((80, 2), 37, 37)])]), [159, 878], 64, [], []),
  (7, ([rv_r 80, rv_i 38 40, rv_i 38 38], [(1, 0, 38, 40, [(.inl 1, 0)], []), (1, 0, 38, 38, [(.inl 2, 0)], [])], [((80, 2), 38, 1500000038, [((80, 2), 38, 38)])]), [160, 879], 43, [], []),
  (7, ([rv_r 80, rv_i 39 40, rv_i 39 39], [(1, 0, 39, 40, [(.inl 1, 0)], []), (1, 0, 39, 39, [(.inl 2, 0)], [])], [((80, 2), 39, 1500000039, [((80, 2), 39, 39)])]), [161, 880], 22, [], []),
  (7, ([rv_r 80, rv_i 4 40, rv_i 4 4], [(1, 0, 4, 40, [(.inl 1, 0)], []), (1, 0, 4, 4, [(.inl 2, 0)], [])], [((80, 2), 4, 1500000004, [((80, 2), 4, 4)])]), [162, 881], 757, [], []),
  (7, ([rv_r 80, rv_i 5 40, rv_i 5 5], [(1, 0, 5, 40, [(.inl 1, 0)], []), (1, 0, 5, 5, [(.inl 2, 0)], [])], [((80, 2), 5, 1500000005, [((80, 2), 5, 5)])]), [163, 883], 736, [], []),
  (7, ([rv_r 80, rv_i 6 40, rv_i 6 6], [(1, 0, 6, 40, [(.inl 1, 0)], []), (1, 0, 6, 6, [(.inl 2, 0)], [])], [((80, 2), 6, 1500000006, [((80, 2), 6, 6)])]), [164, 884], 715, [], []),
  (7, ([rv_r 80, rv_i 7 40, rv_i 7 7], [(1, 0, 7, 40, [(.inl 1, 0)], []), (1, 0, 7, 7, [(.inl 2, 0)], [])], [((80, 2), 7, 1500000007, [((80, 2), 7, 7)])]), [165, 885], 694, [], []),
  (7, ([rv_r 80, rv_i 8 40, rv_i 8 8], [(1, 0, 8, 40, [(.inl 1, 0)], []), (1, 0, 8, 8, [(.inl 2, 0)], [])], [((80, 2), 8, 1500000008, [((80, 2), 8, 8)])]), [166, 886], 673, [], []),
  (7, ([rv_r 80, rv_i 9 40, rv_i 9 9], [(1, 0, 9, 40, [(.inl 1, 0)], []), (1, 0, 9, 9, [(.inl 2, 0)], [])], [((80, 2), 9, 1500000009, [((80, 2), 9, 9)])]), [167, 887], 652, [], [])]
def n_X8_goesOn_0_8 : List rv_N := [
  (8, ([rv_r 80, rv_i 1 40, rv_i 0 0], [], [((80, 2), 0, 1500000000, [((80, 2), 0, 0)]), ((80, 51), 0, 0, [])]), [168], 840, [], []),
  (8, ([rv_r 80, rv_i 2 40, rv_i 1 1], [], [((80, 2), 1, 1500000001, [((80, 2), 1, 1)])]), [169], 819, [], []),
  (8, ([rv_r 80, rv_i 11 40, rv_i 10 10], [], [((80, 2), 10, 1500000010, [((80, 2), 10, 10)])]), [170], 630, [], []),
  (8, ([rv_r 80, rv_i 12 40, rv_i 11 11], [], [((80, 2), 11, 1500000011, [((80, 2), 11, 11)])]), [171], 609, [], []),
  (8, ([rv_r 80, rv_i 13 40, rv_i 12 12], [], [((80, 2), 12, 1500000012, [((80, 2), 12, 12)])]), [172], 588, [], []),
  (8, ([rv_r 80, rv_i 14 40, rv_i 13 13], [], [((80, 2), 13, 1500000013, [((80, 2), 13, 13)])]), [173], 567, [], []),
  (8, ([rv_r 80, rv_i 15 40, rv_i 14 14], [], [((80, 2), 14, 1500000014, [((80, 2), 14, 14)])]), [174], 546, [], []),
  (8, ([rv_r 80, rv_i 16 40, rv_i 15 15], [], [((80, 2), 15, 1500000015, [((80, 2), 15, 15)])]), [175], 525, [], []),
  (8, ([rv_r 80, rv_i 17 40, rv_i 16 16], [], [((80, 2), 16, 1500000016, [((80, 2), 16, 16)])]), [176], 504, [], []),
  (8, ([rv_r 80, rv_i 18 40, rv_i 17 17], [], [((80, 2), 17, 1500000017, [((80, 2), 17, 17)])]), [177], 483, [], []),
  (8, ([rv_r 80, rv_i 19 40, rv_i 18 18], [], [((80, 2), 18, 1500000018, [((80, 2), 18, 18)])]), [178], 462, [], []),
  (8, ([rv_r 80, rv_i 20 40, rv_i 19 19], [], [((80, 2), 19, 1500000019, [((80, 2), 19, 19)])]), [179], 441, [], []),
  (8, ([rv_r 80, rv_i 3 40, rv_i 2 2], [], [((80, 2), 2, 1500000002, [((80, 2), 2, 2)])]), [180], 798, [], []),
  (8, ([rv_r 80, rv_i 21 40, rv_i 20 20], [], [((80, 2), 20, 1500000020, [((80, 2), 20, 20)])]), [181], 420, [], []),
  (8, ([rv_r 80, rv_i 22 40, rv_i 21 21], [], [((80, 2), 21, 1500000021, [((80, 2), 21, 21)])]), [182], 399, [], []),
  (8, ([rv_r 80, rv_i 23 40, rv_i 22 22], [], [((80, 2), 22, 1500000022, [((80, 2), 22, 22)])]), [183], 378, [], [])]
def n_X8_goesOn_0_9 : List rv_N := [
  (8, ([rv_r 80, rv_i 24 40, rv_i 23 23], [], [((80, 2), 23, 1500000023, [((80, 2), 23, 23)])]), [184], 357, [], []),
  (8, ([rv_r 80, rv_i 25 40, rv_i 24 24], [], [((80, 2), 24, 1500000024, [((80, 2), 24, 24)])]), [185], 336, [], []),
  (8, ([rv_r 80, rv_i 26 40, rv_i 25 25], [], [((80, 2), 25, 1500000025, [((80, 2), 25, 25)])]), [186], 315, [], []),
  (8, ([rv_r 80, rv_i 27 40, rv_i 26 26], [], [((80, 2), 26, 1500000026, [((80, 2), 26, 26)])]), [187], 294, [], []),
  (8, ([rv_r 80, rv_i 28 40, rv_i 27 27], [], [((80, 2), 27, 1500000027, [((80, 2), 27, 27)])]), [188], 273, [], []),
  (8, ([rv_r 80, rv_i 29 40, rv_i 28 28], [], [((80, 2), 28, 1500000028, [((80, 2), 28, 28)])]), [189], 252, [], []),
  (8, ([rv_r 80, rv_i 30 40, rv_i 29 29], [], [((80, 2), 29, 1500000029, [((80, 2), 29, 29)])]), [190], 231, [], []),
  (8, ([rv_r 80, rv_i 4 40, rv_i 3 3], [], [((80, 2), 3, 1500000003, [((80, 2), 3, 3)])]), [191], 777, [], []),
  (8, ([rv_r 80, rv_i 31 40, rv_i 30 30], [], [((80, 2), 30, 1500000030, [((80, 2), 30, 30)])]), [192], 210, [], []),
  (8, ([rv_r 80, rv_i 32 40, rv_i 31 31], [], [((80, 2), 31, 1500000031, [((80, 2), 31, 31)])]), [193], 189, [], []),
  (8, ([rv_r 80, rv_i 33 40, rv_i 32 32], [], [((80, 2), 32, 1500000032, [((80, 2), 32, 32)])]), [194], 168, [], []),
  (8, ([rv_r 80, rv_i 34 40, rv_i 33 33], [], [((80, 2), 33, 1500000033, [((80, 2), 33, 33)])]), [195], 147, [], []),
  (8, ([rv_r 80, rv_i 35 40, rv_i 34 34], [], [((80, 2), 34, 1500000034, [((80, 2), 34, 34)])]), [196], 126, [], []),
  (8, ([rv_r 80, rv_i 36 40, rv_i 35 35], [], [((80, 2), 35, 1500000035, [((80, 2), 35, 35)])]), [197], 105, [], []),
  (8, ([rv_r 80, rv_i 37 40, rv_i 36 36], [], [((80, 2), 36, 1500000036, [((80, 2), 36, 36)])]), [198], 84, [], []),
  (8, ([rv_r 80, rv_i 38 40, rv_i 37 37], [], [((80, 2), 37, 1500000037, [((80, 2), 37, 37)])]), [199], 63, [], [])]
def n_X8_goesOn_0_10 : List rv_N := [
  (8, ([rv_r 80, rv_i 39 40, rv_i 38 38], [], [((80, 2), 38, 1500000038, [((80, 2), 38, 38)])]), [200], 42, [], []),
  (8, ([rv_r 80, rv_i 40 40, rv_i 39 39], [], [((80, 2), 39, 1500000039, [((80, 2), 39, 39)])]), [201], 21, [], []),
  (8, ([rv_r 80, rv_i 5 40, rv_i 4 4], [], [((80, 2), 4, 1500000004, [((80, 2), 4, 4)])]), [202], 756, [], []),
  (8, ([rv_r 80, rv_i 6 40, rv_i 5 5], [], [((80, 2), 5, 1500000005, [((80, 2), 5, 5)])]), [203], 735, [], []),
  (8, ([rv_r 80, rv_i 7 40, rv_i 6 6], [], [((80, 2), 6, 1500000006, [((80, 2), 6, 6)])]), [204], 714, [], []),
  (8, ([rv_r 80, rv_i 8 40, rv_i 7 7], [], [((80, 2), 7, 1500000007, [((80, 2), 7, 7)])]), [205], 693, [], []),
  (8, ([rv_r 80, rv_i 9 40, rv_i 8 8], [], [((80, 2), 8, 1500000008, [((80, 2), 8, 8)])]), [206], 672, [], []),
  (8, ([rv_r 80, rv_i 10 40, rv_i 9 9], [], [((80, 2), 9, 1500000009, [((80, 2), 9, 9)])]), [207], 651, [], []),
  (9, ([rv_r 80, rv_i 1 40, rv_i 0 0], [rv_r 80], [((80, 2), 0, 1500000000, [((80, 2), 0, 0)]), ((80, 51), 0, 0, [])]), [208], 839, [], []),
  (9, ([rv_r 80, rv_i 2 40, rv_i 1 1], [rv_r 80], [((80, 2), 1, 1500000001, [((80, 2), 1, 1)])]), [209], 818, [], []),
  (9, ([rv_r 80, rv_i 11 40, rv_i 10 10], [rv_r 80], [((80, 2), 10, 1500000010, [((80, 2), 10, 10)])]), [210], 629, [], []),
  (9, ([rv_r 80, rv_i 12 40, rv_i 11 11], [rv_r 80], [((80, 2), 11, 1500000011, [((80, 2), 11, 11)])]), [211], 608, [], []),
  (9, ([rv_r 80, rv_i 13 40, rv_i 12 12], [rv_r 80], [((80, 2), 12, 1500000012, [((80, 2), 12, 12)])]), [212], 587, [], []),
  (9, ([rv_r 80, rv_i 14 40, rv_i 13 13], [rv_r 80], [((80, 2), 13, 1500000013, [((80, 2), 13, 13)])]), [213], 566, [], []),
  (9, ([rv_r 80, rv_i 15 40, rv_i 14 14], [rv_r 80], [((80, 2), 14, 1500000014, [((80, 2), 14, 14)])]), [214], 545, [], []),
  (9, ([rv_r 80, rv_i 16 40, rv_i 15 15], [rv_r 80], [((80, 2), 15, 1500000015, [((80, 2), 15, 15)])]), [215], 524, [], [])]
def n_X8_goesOn_0_11 : List rv_N := [
  (9, ([rv_r 80, rv_i 17 40, rv_i 16 16], [rv_r 80], [((80, 2), 16, 1500000016, [((80, 2), 16, 16)])]), [216], 503, [], []),
  (9, ([rv_r 80, rv_i 18 40, rv_i 17 17], [rv_r 80], [((80, 2), 17, 1500000017, [((80, 2), 17, 17)])]), [217], 482, [], []),
  (9, ([rv_r 80, rv_i 19 40, rv_i 18 18], [rv_r 80], [((80, 2), 18, 1500000018, [((80, 2), 18, 18)])]), [218], 461, [], []),
  (9, ([rv_r 80, rv_i 20 40, rv_i 19 19], [rv_r 80], [((80, 2), 19, 1500000019, [((80, 2), 19, 19)])]), [219], 440, [], []),
  (9, ([rv_r 80, rv_i 3 40, rv_i 2 2], [rv_r 80], [((80, 2), 2, 1500000002, [((80, 2), 2, 2)])]), [220], 797, [], []),
  (9, ([rv_r 80, rv_i 21 40, rv_i 20 20], [rv_r 80], [((80, 2), 20, 1500000020, [((80, 2), 20, 20)])]), [221], 419, [], []),
  (9, ([rv_r 80, rv_i 22 40, rv_i 21 21], [rv_r 80], [((80, 2), 21, 1500000021, [((80, 2), 21, 21)])]), [222], 398, [], []),
  (9, ([rv_r 80, rv_i 23 40, rv_i 22 22], [rv_r 80], [((80, 2), 22, 1500000022, [((80, 2), 22, 22)])]), [223], 377, [], []),
  (9, ([rv_r 80, rv_i 24 40, rv_i 23 23], [rv_r 80], [((80, 2), 23, 1500000023, [((80, 2), 23, 23)])]), [224], 356, [], []),
  (9, ([rv_r 80, rv_i 25 40, rv_i 24 24], [rv_r 80], [((80, 2), 24, 1500000024, [((80, 2), 24, 24)])]), [225], 335, [], []),
  (9, ([rv_r 80, rv_i 26 40, rv_i 25 25], [rv_r 80], [((80, 2), 25, 1500000025, [((80, 2), 25, 25)])]), [226], 314, [], []),
  (9, ([rv_r 80, rv_i 27 40, rv_i 26 26], [rv_r 80], [((80, 2), 26, 1500000026, [((80, 2), 26, 26)])]), [227], 293, [], []),
  (9, ([rv_r 80, rv_i 28 40, rv_i 27 27], [rv_r 80], [((80, 2), 27, 1500000027, [((80, 2), 27, 27)])]), [228], 272, [], []),
  (9, ([rv_r 80, rv_i 29 40, rv_i 28 28], [rv_r 80], [((80, 2), 28, 1500000028, [((80, 2), 28, 28)])]), [229], 251, [], []),
  (9, ([rv_r 80, rv_i 30 40, rv_i 29 29], [rv_r 80], [((80, 2), 29, 1500000029, [((80, 2), 29, 29)])]), [230], 230, [], []),
  (9, ([rv_r 80, rv_i 4 40, rv_i 3 3], [rv_r 80], [((80, 2), 3, 1500000003, [((80, 2), 3, 3)])]), [231], 776, [], [])]
def n_X8_goesOn_0_12 : List rv_N := [
  (9, ([rv_r 80, rv_i 31 40, rv_i 30 30], [rv_r 80], [((80, 2), 30, 1500000030, [((80, 2), 30, 30)])]), [232], 209, [], []),
  (9, ([rv_r 80, rv_i 32 40, rv_i 31 31], [rv_r 80], [((80, 2), 31, 1500000031, [((80, 2), 31, 31)])]), [233], 188, [], []),
  (9, ([rv_r 80, rv_i 33 40, rv_i 32 32], [rv_r 80], [((80, 2), 32, 1500000032, [((80, 2), 32, 32)])]), [234], 167, [], []),
  (9, ([rv_r 80, rv_i 34 40, rv_i 33 33], [rv_r 80], [((80, 2), 33, 1500000033, [((80, 2), 33, 33)])]), [235], 146, [], []),
  (9, ([rv_r 80, rv_i 35 40, rv_i 34 34], [rv_r 80], [((80, 2), 34, 1500000034, [((80, 2), 34, 34)])]), [236], 125, [], []),
  (9, ([rv_r 80, rv_i 36 40, rv_i 35 35], [rv_r 80], [((80, 2), 35, 1500000035, [((80, 2), 35, 35)])]), [237], 104, [], []),
  (9, ([rv_r 80, rv_i 37 40, rv_i 36 36], [rv_r 80], [((80, 2), 36, 1500000036, [((80, 2), 36, 36)])]), [238], 83, [], []),
  (9, ([rv_r 80, rv_i 38 40, rv_i 37 37], [rv_r 80], [((80, 2), 37, 1500000037, [((80, 2), 37, 37)])]), [239], 62, [], []),
  (9, ([rv_r 80, rv_i 39 40, rv_i 38 38], [rv_r 80], [((80, 2), 38, 1500000038, [((80, 2), 38, 38)])]), [240], 41, [], []),
  (9, ([rv_r 80, rv_i 40 40, rv_i 39 39], [rv_r 80], [((80, 2), 39, 1500000039, [((80, 2), 39, 39)])]), [241], 20, [], []),
  (9, ([rv_r 80, rv_i 5 40, rv_i 4 4], [rv_r 80], [((80, 2), 4, 1500000004, [((80, 2), 4, 4)])]), [242], 755, [], []),
  (9, ([rv_r 80, rv_i 6 40, rv_i 5 5], [rv_r 80], [((80, 2), 5, 1500000005, [((80, 2), 5, 5)])]), [243], 734, [], []),
  (9, ([rv_r 80, rv_i 7 40, rv_i 6 6], [rv_r 80], [((80, 2), 6, 1500000006, [((80, 2), 6, 6)])]), [244], 713, [], []),
  (9, ([rv_r 80, rv_i 8 40, rv_i 7 7], [rv_r 80], [((80, 2), 7, 1500000007, [((80, 2), 7, 7)])]), [245], 692, [], []),
  (9, ([rv_r 80, rv_i 9 40, rv_i 8 8], [rv_r 80], [((80, 2), 8, 1500000008, [((80, 2), 8, 8)])]), [246], 671, [], []),
  (9, ([rv_r 80, rv_i 10 40, rv_i 9 9], [rv_r 80], [((80, 2), 9, 1500000009, [((80, 2), 9, 9)])]), [247], 650, [], [])]
def n_X8_goesOn_0_13 : List rv_N := [
  (10, ([rv_r 80, rv_i 1 40, rv_i 0 0], [rv_i 25173 25173, rv_r 80], [((80, 2), 0, 1500000000, [((80, 2), 0, 0)]), ((80, 51), 0, 0, [])]), [248], 838, [], []),
  (10, ([rv_r 80, rv_i 2 40, rv_i 1 1], [rv_i 25173 25173, rv_r 80], [((80, 2), 1, 1500000001, [((80, 2), 1, 1)])]), [249], 817, [], []),
  (10, ([rv_r 80, rv_i 11 40, rv_i 10 10], [rv_i 25173 25173, rv_r 80], [((80, 2), 10, 1500000010, [((80, 2), 10, 10)])]), [250], 628, [], []),
  (10, ([rv_r 80, rv_i 12 40, rv_i 11 11], [rv_i 25173 25173, rv_r 80], [((80, 2), 11, 1500000011, [((80, 2), 11, 11)])]), [251], 607, [], []),
  (10, ([rv_r 80, rv_i 13 40, rv_i 12 12], [rv_i 25173 25173, rv_r 80], [((80, 2), 12, 1500000012, [((80, 2), 12, 12)])]), [252], 586, [], []),
  (10, ([rv_r 80, rv_i 14 40, rv_i 13 13], [rv_i 25173 25173, rv_r 80], [((80, 2), 13, 1500000013, [((80, 2), 13, 13)])]), [253], 565, [], []),
  (10, ([rv_r 80, rv_i 15 40, rv_i 14 14], [rv_i 25173 25173, rv_r 80], [((80, 2), 14, 1500000014, [((80, 2), 14, 14)])]), [254], 544, [], []),
  (10, ([rv_r 80, rv_i 16 40, rv_i 15 15], [rv_i 25173 25173, rv_r 80], [((80, 2), 15, 1500000015, [((80, 2), 15, 15)])]), [255], 523, [], []),
  (10, ([rv_r 80, rv_i 17 40, rv_i 16 16], [rv_i 25173 25173, rv_r 80], [((80, 2), 16, 1500000016, [((80, 2), 16, 16)])]), [256], 502, [], []),
  (10, ([rv_r 80, rv_i 18 40, rv_i 17 17], [rv_i 25173 25173, rv_r 80], [((80, 2), 17, 1500000017, [((80, 2), 17, 17)])]), [257], 481, [], []),
  (10, ([rv_r 80, rv_i 19 40, rv_i 18 18], [rv_i 25173 25173, rv_r 80], [((80, 2), 18, 1500000018, [((80, 2), 18, 18)])]), [258], 460, [], []),
  (10, ([rv_r 80, rv_i 20 40, rv_i 19 19], [rv_i 25173 25173, rv_r 80], [((80, 2), 19, 1500000019, [((80, 2), 19, 19)])]), [259], 439, [], []),
  (10, ([rv_r 80, rv_i 3 40, rv_i 2 2], [rv_i 25173 25173, rv_r 80], [((80, 2), 2, 1500000002, [((80, 2), 2, 2)])]), [260], 796, [], []),
  (10, ([rv_r 80, rv_i 21 40, rv_i 20 20], [rv_i 25173 25173, rv_r 80], [((80, 2), 20, 1500000020, [((80, 2), 20, 20)])]), [261], 418, [], []),
  (10, ([rv_r 80, rv_i 22 40, rv_i 21 21], [rv_i 25173 25173, rv_r 80], [((80, 2), 21, 1500000021, [((80, 2), 21, 21)])]), [262], 397, [], []),
  (10, ([rv_r 80, rv_i 23 40, rv_i 22 22], [rv_i 25173 25173, rv_r 80], [((80, 2), 22, 1500000022, [((80, 2), 22, 22)])]), [263], 376, [], [])]
def n_X8_goesOn_0_14 : List rv_N := [
  (10, ([rv_r 80, rv_i 24 40, rv_i 23 23], [rv_i 25173 25173, rv_r 80], [((80, 2), 23, 1500000023, [((80, 2), 23, 23)])]), [264], 355, [], []),
  (10, ([rv_r 80, rv_i 25 40, rv_i 24 24], [rv_i 25173 25173, rv_r 80], [((80, 2), 24, 1500000024, [((80, 2), 24, 24)])]), [265], 334, [], []),
  (10, ([rv_r 80, rv_i 26 40, rv_i 25 25], [rv_i 25173 25173, rv_r 80], [((80, 2), 25, 1500000025, [((80, 2), 25, 25)])]), [266], 313, [], []),
  (10, ([rv_r 80, rv_i 27 40, rv_i 26 26], [rv_i 25173 25173, rv_r 80], [((80, 2), 26, 1500000026, [((80, 2), 26, 26)])]), [267], 292, [], []),
  (10, ([rv_r 80, rv_i 28 40, rv_i 27 27], [rv_i 25173 25173, rv_r 80], [((80, 2), 27, 1500000027, [((80, 2), 27, 27)])]), [268], 271, [], []),
  (10, ([rv_r 80, rv_i 29 40, rv_i 28 28], [rv_i 25173 25173, rv_r 80], [((80, 2), 28, 1500000028, [((80, 2), 28, 28)])]), [269], 250, [], []),
  (10, ([rv_r 80, rv_i 30 40, rv_i 29 29], [rv_i 25173 25173, rv_r 80], [((80, 2), 29, 1500000029, [((80, 2), 29, 29)])]), [270], 229, [], []),
  (10, ([rv_r 80, rv_i 4 40, rv_i 3 3], [rv_i 25173 25173, rv_r 80], [((80, 2), 3, 1500000003, [((80, 2), 3, 3)])]), [271], 775, [], []),
  (10, ([rv_r 80, rv_i 31 40, rv_i 30 30], [rv_i 25173 25173, rv_r 80], [((80, 2), 30, 1500000030, [((80, 2), 30, 30)])]), [272], 208, [], []),
  (10, ([rv_r 80, rv_i 32 40, rv_i 31 31], [rv_i 25173 25173, rv_r 80], [((80, 2), 31, 1500000031, [((80, 2), 31, 31)])]), [273], 187, [], []),
  (10, ([rv_r 80, rv_i 33 40, rv_i 32 32], [rv_i 25173 25173, rv_r 80], [((80, 2), 32, 1500000032, [((80, 2), 32, 32)])]), [274], 166, [], []),
  (10, ([rv_r 80, rv_i 34 40, rv_i 33 33], [rv_i 25173 25173, rv_r 80], [((80, 2), 33, 1500000033, [((80, 2), 33, 33)])]), [275], 145, [], []),
  (10, ([rv_r 80, rv_i 35 40, rv_i 34 34], [rv_i 25173 25173, rv_r 80], [((80, 2), 34, 1500000034, [((80, 2), 34, 34)])]), [276], 124, [], []),
  (10, ([rv_r 80, rv_i 36 40, rv_i 35 35], [rv_i 25173 25173, rv_r 80], [((80, 2), 35, 1500000035, [((80, 2), 35, 35)])]), [277], 103, [], []),
  (10, ([rv_r 80, rv_i 37 40, rv_i 36 36], [rv_i 25173 25173, rv_r 80], [((80, 2), 36, 1500000036, [((80, 2), 36, 36)])]), [278], 82, [], []),
  (10, ([rv_r 80, rv_i 38 40, rv_i 37 37], [rv_i 25173 25173, rv_r 80], [((80, 2), 37, 1500000037, [((80, 2), 37, 37)])]), [279], 61, [], [])]
def n_X8_goesOn_0_15 : List rv_N := [
  (10, ([rv_r 80, rv_i 39 40, rv_i 38 38], [rv_i 25173 25173, rv_r 80], [((80, 2), 38, 1500000038, [((80, 2), 38, 38)])]), [280], 40, [], []),
  (10, ([rv_r 80, rv_i 40 40, rv_i 39 39], [rv_i 25173 25173, rv_r 80], [((80, 2), 39, 1500000039, [((80, 2), 39, 39)])]), [281], 19, [], []),
  (10, ([rv_r 80, rv_i 5 40, rv_i 4 4], [rv_i 25173 25173, rv_r 80], [((80, 2), 4, 1500000004, [((80, 2), 4, 4)])]), [282], 754, [], []),
  (10, ([rv_r 80, rv_i 6 40, rv_i 5 5], [rv_i 25173 25173, rv_r 80], [((80, 2), 5, 1500000005, [((80, 2), 5, 5)])]), [283], 733, [], []),
  (10, ([rv_r 80, rv_i 7 40, rv_i 6 6], [rv_i 25173 25173, rv_r 80], [((80, 2), 6, 1500000006, [((80, 2), 6, 6)])]), [284], 712, [], []),
  (10, ([rv_r 80, rv_i 8 40, rv_i 7 7], [rv_i 25173 25173, rv_r 80], [((80, 2), 7, 1500000007, [((80, 2), 7, 7)])]), [285], 691, [], []),
  (10, ([rv_r 80, rv_i 9 40, rv_i 8 8], [rv_i 25173 25173, rv_r 80], [((80, 2), 8, 1500000008, [((80, 2), 8, 8)])]), [286], 670, [], []),
  (10, ([rv_r 80, rv_i 10 40, rv_i 9 9], [rv_i 25173 25173, rv_r 80], [((80, 2), 9, 1500000009, [((80, 2), 9, 9)])]), [287], 649, [], []),
  (11, ([rv_r 80, rv_i 1 40, rv_i 0 0], [rv_r 80, rv_i 25173 25173, rv_r 80], [((80, 2), 0, 1500000000, [((80, 2), 0, 0)]), ((80, 51), 0, 0, [])]), [288], 837, [], []),
  (11, ([rv_r 80, rv_i 2 40, rv_i 1 1], [rv_r 80, rv_i 25173 25173, rv_r 80], [((80, 2), 1, 1500000001, [((80, 2), 1, 1)])]), [289], 816, [], []),
  (11, ([rv_r 80, rv_i 11 40, rv_i 10 10], [rv_r 80, rv_i 25173 25173, rv_r 80], [((80, 2), 10, 1500000010, [((80, 2), 10, 10)])]), [290], 627, [], []),
  (11, ([rv_r 80, rv_i 12 40, rv_i 11 11], [rv_r 80, rv_i 25173 25173, rv_r 80], [((80, 2), 11, 1500000011, [((80, 2), 11, 11)])]), [291], 606, [], []),
  (11, ([rv_r 80, rv_i 13 40, rv_i 12 12], [rv_r 80, rv_i 25173 25173, rv_r 80], [((80, 2), 12, 1500000012, [((80, 2), 12, 12)])]), [292], 585, [], []),
  (11, ([rv_r 80, rv_i 14 40, rv_i 13 13], [rv_r 80, rv_i 25173 25173, rv_r 80], [((80, 2), 13, 1500000013, [((80, 2), 13, 13)])]), [293], 564, [], []),
  (11, ([rv_r 80, rv_i 15 40, rv_i 14 14], [rv_r 80, rv_i 25173 25173, rv_r 80], [((80, 2), 14, 1500000014, [((80, 2), 14, 14)])]), [294], 543, [], []),
  (11, ([rv_r 80, rv_i 16 40, rv_i 15 15], [rv_r 80, rv_i 25173 25173, rv_r 80], [((80, 2), 15, 1500000015, [((80, 2), 15, 15)])]), [295], 522, [], [])]
def n_X8_goesOn_0_16 : List rv_N := [
  (11, ([rv_r 80, rv_i 17 40, rv_i 16 16], [rv_r 80, rv_i 25173 25173, rv_r 80], [((80, 2), 16, 1500000016, [((80, 2), 16, 16)])]), [296], 501, [], []),
  (11, ([rv_r 80, rv_i 18 40, rv_i 17 17], [rv_r 80, rv_i 25173 25173, rv_r 80], [((80, 2), 17, 1500000017, [((80, 2), 17, 17)])]), [297], 480, [], []),
  (11, ([rv_r 80, rv_i 19 40, rv_i 18 18], [rv_r 80, rv_i 25173 25173, rv_r 80], [((80, 2), 18, 1500000018, [((80, 2), 18, 18)])]), [298], 459, [], []),
  (11, ([rv_r 80, rv_i 20 40, rv_i 19 19], [rv_r 80, rv_i 25173 25173, rv_r 80], [((80, 2), 19, 1500000019, [((80, 2), 19, 19)])]), [299], 438, [], []),
  (11, ([rv_r 80, rv_i 3 40, rv_i 2 2], [rv_r 80, rv_i 25173 25173, rv_r 80], [((80, 2), 2, 1500000002, [((80, 2), 2, 2)])]), [300], 795, [], []),
  (11, ([rv_r 80, rv_i 21 40, rv_i 20 20], [rv_r 80, rv_i 25173 25173, rv_r 80], [((80, 2), 20, 1500000020, [((80, 2), 20, 20)])]), [301], 417, [], []),
  (11, ([rv_r 80, rv_i 22 40, rv_i 21 21], [rv_r 80, rv_i 25173 25173, rv_r 80], [((80, 2), 21, 1500000021, [((80, 2), 21, 21)])]), [302], 396, [], []),
  (11, ([rv_r 80, rv_i 23 40, rv_i 22 22], [rv_r 80, rv_i 25173 25173, rv_r 80], [((80, 2), 22, 1500000022, [((80, 2), 22, 22)])]), [303], 375, [], []),
  (11, ([rv_r 80, rv_i 24 40, rv_i 23 23], [rv_r 80, rv_i 25173 25173, rv_r 80], [((80, 2), 23, 1500000023, [((80, 2), 23, 23)])]), [304], 354, [], []),
  (11, ([rv_r 80, rv_i 25 40, rv_i 24 24], [rv_r 80, rv_i 25173 25173, rv_r 80], [((80, 2), 24, 1500000024, [((80, 2), 24, 24)])]), [305], 333, [], []),
  (11, ([rv_r 80, rv_i 26 40, rv_i 25 25], [rv_r 80, rv_i 25173 25173, rv_r 80], [((80, 2), 25, 1500000025, [((80, 2), 25, 25)])]), [306], 312, [], []),
  (11, ([rv_r 80, rv_i 27 40, rv_i 26 26], [rv_r 80, rv_i 25173 25173, rv_r 80], [((80, 2), 26, 1500000026, [((80, 2), 26, 26)])]), [307], 291, [], []),
  (11, ([rv_r 80, rv_i 28 40, rv_i 27 27], [rv_r 80, rv_i 25173 25173, rv_r 80], [((80, 2), 27, 1500000027, [((80, 2), 27, 27)])]), [308], 270, [], []),
  (11, ([rv_r 80, rv_i 29 40, rv_i 28 28], [rv_r 80, rv_i 25173 25173, rv_r 80], [((80, 2), 28, 1500000028, [((80, 2), 28, 28)])]), [309], 249, [], []),
  (11, ([rv_r 80, rv_i 30 40, rv_i 29 29], [rv_r 80, rv_i 25173 25173, rv_r 80], [((80, 2), 29, 1500000029, [((80, 2), 29, 29)])]), [310], 228, [], []),
  (11, ([rv_r 80, rv_i 4 40, rv_i 3 3], [rv_r 80, rv_i 25173 25173, rv_r 80], [((80, 2), 3, 1500000003, [((80, 2), 3, 3)])]), [311], 774, [], [])]
def n_X8_goesOn_0_17 : List rv_N := [
  (11, ([rv_r 80, rv_i 31 40, rv_i 30 30], [rv_r 80, rv_i 25173 25173, rv_r 80], [((80, 2), 30, 1500000030, [((80, 2), 30, 30)])]), [312], 207, [], []),
  (11, ([rv_r 80, rv_i 32 40, rv_i 31 31], [rv_r 80, rv_i 25173 25173, rv_r 80], [((80, 2), 31, 1500000031, [((80, 2), 31, 31)])]), [313], 186, [], []),
  (11, ([rv_r 80, rv_i 33 40, rv_i 32 32], [rv_r 80, rv_i 25173 25173, rv_r 80], [((80, 2), 32, 1500000032, [((80, 2), 32, 32)])]), [314], 165, [], []),
  (11, ([rv_r 80, rv_i 34 40, rv_i 33 33], [rv_r 80, rv_i 25173 25173, rv_r 80], [((80, 2), 33, 1500000033, [((80, 2), 33, 33)])]), [315], 144, [], []),
  (11, ([rv_r 80, rv_i 35 40, rv_i 34 34], [rv_r 80, rv_i 25173 25173, rv_r 80], [((80, 2), 34, 1500000034, [((80, 2), 34, 34)])]), [316], 123, [], []),
  (11, ([rv_r 80, rv_i 36 40, rv_i 35 35], [rv_r 80, rv_i 25173 25173, rv_r 80], [((80, 2), 35, 1500000035, [((80, 2), 35, 35)])]), [317], 102, [], []),
  (11, ([rv_r 80, rv_i 37 40, rv_i 36 36], [rv_r 80, rv_i 25173 25173, rv_r 80], [((80, 2), 36, 1500000036, [((80, 2), 36, 36)])]), [318], 81, [], []),
  (11, ([rv_r 80, rv_i 38 40, rv_i 37 37], [rv_r 80, rv_i 25173 25173, rv_r 80], [((80, 2), 37, 1500000037, [((80, 2), 37, 37)])]), [319], 60, [], []),
  (11, ([rv_r 80, rv_i 39 40, rv_i 38 38], [rv_r 80, rv_i 25173 25173, rv_r 80], [((80, 2), 38, 1500000038, [((80, 2), 38, 38)])]), [320], 39, [], []),
  (11, ([rv_r 80, rv_i 40 40, rv_i 39 39], [rv_r 80, rv_i 25173 25173, rv_r 80], [((80, 2), 39, 1500000039, [((80, 2), 39, 39)])]), [321], 18, [], []),
  (11, ([rv_r 80, rv_i 5 40, rv_i 4 4], [rv_r 80, rv_i 25173 25173, rv_r 80], [((80, 2), 4, 1500000004, [((80, 2), 4, 4)])]), [322], 753, [], []),
  (11, ([rv_r 80, rv_i 6 40, rv_i 5 5], [rv_r 80, rv_i 25173 25173, rv_r 80], [((80, 2), 5, 1500000005, [((80, 2), 5, 5)])]), [323], 732, [], []),
  (11, ([rv_r 80, rv_i 7 40, rv_i 6 6], [rv_r 80, rv_i 25173 25173, rv_r 80], [((80, 2), 6, 1500000006, [((80, 2), 6, 6)])]), [324], 711, [], []),
  (11, ([rv_r 80, rv_i 8 40, rv_i 7 7], [rv_r 80, rv_i 25173 25173, rv_r 80], [((80, 2), 7, 1500000007, [((80, 2), 7, 7)])]), [325], 690, [], []),
  (11, ([rv_r 80, rv_i 9 40, rv_i 8 8], [rv_r 80, rv_i 25173 25173, rv_r 80], [((80, 2), 8, 1500000008, [((80, 2), 8, 8)])]), [326], 669, [], []),
  (11, ([rv_r 80, rv_i 10 40, rv_i 9 9], [rv_r 80, rv_i 25173 25173, rv_r 80], [((80, 2), 9, 1500000009, [((80, 2), 9, 9)])]), [327], 648, [], [])]
def n_X8_goesOn_0_18 : List rv_N := [
  (12, ([rv_r 80, rv_i 1 40, rv_i 0 0], [(1, 0, (-2147483648), 2147483647, [(.inr (80, 3), 0)], []), rv_i 25173 25173, rv_r 80], [((80, 2), 0, 1500000000, [((80, 2), 0, 0)]), ((80, 51), 0, 0, [])]), [328], 836, [], []),
  (12, ([rv_r 80, rv_i 2 40, rv_i 1 1], [(1, 0, (-2147483648), 2147483647, [(.inr (80, 3), 0)], []), rv_i 25173 25173, rv_r 80], [((80, 2), 1, 1500000001, [((80, 2), 1, 1)])]), [329], 815, [], []),
  (12, ([rv_r 80, rv_i 11 40, rv_i 10 10], [(1, 0, (-2147483648), 2147483647, [(.inr (80, 3), 0)], []), rv_i 25173 25173, rv_r 80], [((80, 2), 10, 1500000010, [((80, 2), 10, 10)])]), [330], 626, [], []),
  (12, ([rv_r 80, rv_i 12 40, rv_i 11 11], [(1, 0, (-2147483648), 2147483647, [(.inr (80, 3), 0)], []), rv_i 25173 25173, rv_r 80], [((80, 2), 11, 1500000011, [((80, 2), 11, 11)])]), [331], 605, [], []),
  (12, ([rv_r 80, rv_i 13 40, rv_i 12 12], [(1, 0, (-2147483648), 2147483647, [(.inr (80, 3), 0)], []), rv_i 25173 25173, rv_r 80], [((80, 2), 12, 1500000012, [((80, 2), 12, 12)])]), [332], 584, [], []),
  (12, ([rv_r 80, rv_i 14 40, rv_i 13 13], [(1, 0, (-2147483648), 2147483647, [(.inr (80, 3), 0)], []), rv_i 25173 25173, rv_r 80], [((80, 2), 13, 1500000013, [((80, 2), 13, 13)])]), [333], 563, [], []),
  (12, ([rv_r 80, rv_i 15 40, rv_i 14 14], [(1, 0, (-2147483648), 2147483647, [(.inr (80, 3), 0)], []), rv_i 25173 25173, rv_r 80], [((80, 2), 14, 1500000014, [((80, 2), 14, 14)])]), [334], 542, [], []),
  (12, ([rv_r 80, rv_i 16 40, rv_i 15 15], [(1, 0, (-2147483648), 2147483647, [(.inr (80, 3), 0)], []), rv_i 25173 25173, rv_r 80], [((80, 2), 15, 1500000015, [((80, 2), 15, 15)])]), [335], 521, [], []),
  (12, ([rv_r 80, rv_i 17 40, rv_i 16 16], [(1, 0, (-2147483648), 2147483647, [(.inr (80, 3), 0)], []), rv_i 25173 25173, rv_r 80], [((80, 2), 16, 1500000016, [((80, 2), 16, 16)])]), [336], 500, [], []),
  (12, ([rv_r 80, rv_i 18 40, rv_i 17 17], [(1, 0, (-2147483648), 2147483647, [(.inr (80, 3), 0)], []), rv_i 25173 25173, rv_r 80], [((80, 2), 17, 1500000017, [((80, 2), 17, 17)])]), [337], 479, [], []),
  (12, ([rv_r 80, rv_i 19 40, rv_i 18 18], [(1, 0, (-2147483648), 2147483647, [(.inr (80, 3), 0)], []), rv_i 25173 25173, rv_r 80], [((80, 2), 18, 1500000018, [((80, 2), 18, 18)])]), [338], 458, [], []),
  (12, ([rv_r 80, rv_i 20 40, rv_i 19 19], [(1, 0, (-2147483648), 2147483647, [(.inr (80, 3), 0)], []), rv_i 25173 25173, rv_r 80], [((80, 2), 19, 1500000019, [((80, 2), 19, 19)])]), [339], 437, [], []),
  (12, ([rv_r 80, rv_i 3 40, rv_i 2 2], [(1, 0, (-2147483648), 2147483647, [(.inr (80, 3), 0)], []), rv_i 25173 25173, rv_r 80], [((80, 2), 2, 1500000002, [((80, 2), 2, 2)])]), [340], 794, [], []),
  (12, ([rv_r 80, rv_i 21 40, rv_i 20 20], [(1, 0, (-2147483648), 2147483647, [(.inr (80, 3), 0)], []), rv_i 25173 25173, rv_r 80], [((80, 2), 20, 1500000020, [((80, 2), 20, 20)])]), [341], 416, [], []),
  (12, ([rv_r 80, rv_i 22 40, rv_i 21 21], [(1, 0, (-2147483648), 2147483647, [(.inr (80, 3), 0)], []), rv_i 25173 25173, rv_r 80], [((80, 2), 21, 1500000021, [((80, 2), 21, 21)])]), [342], 395, [], []),
  (12, ([rv_r 80, rv_i 23 40, rv_i 22 22], [(1, 0, (-2147483648), 2147483647, [(.inr (80, 3), 0)], []), rv_i 25173 25173, rv_r 80], [((80, 2), 22, 1500000022, [((80, 2), 22, 22)])]), [343], 374, [], [])]
def n_X8_goesOn_0_19 : List rv_N := [
  (12, ([rv_r 80, rv_i 24 40, rv_i 23 23], [(1, 0, (-2147483648), 2147483647, [(.inr (80, 3), 0)], []), rv_i 25173 25173, rv_r 80], [((80, 2), 23, 1500000023, [((80, 2), 23, 23)])]), [344], 353, [], []),
  (12, ([rv_r 80, rv_i 25 40, rv_i 24 24], [(1, 0, (-2147483648), 2147483647, [(.inr (80, 3), 0)], []), rv_i 25173 25173, rv_r 80], [((80, 2), 24, 1500000024, [((80, 2), 24, 24)])]), [345], 332, [], []),
  (12, ([rv_r 80, rv_i 26 40, rv_i 25 25], [(1, 0, (-2147483648), 2147483647, [(.inr (80, 3), 0)], []), rv_i 25173 25173, rv_r 80], [((80, 2), 25, 1500000025, [((80, 2), 25, 25)])]), [346], 311, [], []),
  (12, ([rv_r 80, rv_i 27 40, rv_i 26 26], [(1, 0, (-2147483648), 2147483647, [(.inr (80, 3), 0)], []), rv_i 25173 25173, rv_r 80], [((80, 2), 26, 1500000026, [((80, 2), 26, 26)])]), [347], 290, [], []),
  (12, ([rv_r 80, rv_i 28 40, rv_i 27 27], [(1, 0, (-2147483648), 2147483647, [(.inr (80, 3), 0)], []), rv_i 25173 25173, rv_r 80], [((80, 2), 27, 1500000027, [((80, 2), 27, 27)])]), [348], 269, [], []),
  (12, ([rv_r 80, rv_i 29 40, rv_i 28 28], [(1, 0, (-2147483648), 2147483647, [(.inr (80, 3), 0)], []), rv_i 25173 25173, rv_r 80], [((80, 2), 28, 1500000028, [((80, 2), 28, 28)])]), [349], 248, [], []),
  (12, ([rv_r 80, rv_i 30 40, rv_i 29 29], [(1, 0, (-2147483648), 2147483647, [(.inr (80, 3), 0)], []), rv_i 25173 25173, rv_r 80], [((80, 2), 29, 1500000029, [((80, 2), 29, 29)])]), [350], 227, [], []),
  (12, ([rv_r 80, rv_i 4 40, rv_i 3 3], [(1, 0, (-2147483648), 2147483647, [(.inr (80, 3), 0)], []), rv_i 25173 25173, rv_r 80], [((80, 2), 3, 1500000003, [((80, 2), 3, 3)])]), [351], 773, [], []),
  (12, ([rv_r 80, rv_i 31 40, rv_i 30 30], [(1, 0, (-2147483648), 2147483647, [(.inr (80, 3), 0)], []), rv_i 25173 25173, rv_r 80], [((80, 2), 30, 1500000030, [((80, 2), 30, 30)])]), [352], 206, [], []),
  (12, ([rv_r 80, rv_i 32 40, rv_i 31 31], [(1, 0, (-2147483648), 2147483647, [(.inr (80, 3), 0)], []), rv_i 25173 25173, rv_r 80], [((80, 2), 31, 1500000031, [((80, 2), 31, 31)])]), [353], 185, [], []),
  (12, ([rv_r 80, rv_i 33 40, rv_i 32 32], [(1, 0, (-2147483648), 2147483647, [(.inr (80, 3), 0)], []), rv_i 25173 25173, rv_r 80], [((80, 2), 32, 1500000032, [((80, 2), 32, 32)])]), [354], 164, [], []),
  (12, ([rv_r 80, rv_i 34 40, rv_i 33 33], [(1, 0, (-2147483648), 2147483647, [(.inr (80, 3), 0)], []), rv_i 25173 25173, rv_r 80], [((80, 2), 33, 1500000033, [((80, 2), 33, 33)])]), [355], 143, [], []),
  (12, ([rv_r 80, rv_i 35 40, rv_i 34 34], [(1, 0, (-2147483648), 2147483647, [(.inr (80, 3), 0)], []), rv_i 25173 25173, rv_r 80], [((80, 2), 34, 1500000034, [((80, 2), 34, 34)])]), [356], 122, [], []),
  (12, ([rv_r 80, rv_i 36 40, rv_i 35 35], [(1, 0, (-2147483648), 2147483647, [(.inr (80, 3), 0)], []), rv_i 25173 25173, rv_r 80], [((80, 2), 35, 1500000035, [((80, 2), 35, 35)])]), [357], 101, [], []),
  (12, ([rv_r 80, rv_i 37 40, rv_i 36 36], [(1, 0, (-2147483648), 2147483647, [(.inr (80, 3), 0)], []), rv_i 25173 25173, rv_r 80], [((80, 2), 36, 1500000036, [((80, 2), 36, 36)])]), [358], 80, [], []),
  (12, ([rv_r 80, rv_i 38 40, rv_i 37 37], [(1, 0, (-2147483648), 2147483647, [(.inr (80, 3), 0)], []), rv_i 25173 25173, rv_r 80], [((80, 2), 37, 1500000037, [((80, 2), 37, 37)])]), [359], 59, [], [])]
def n_X8_goesOn_0_20 : List rv_N := [
  (12, ([rv_r 80, rv_i 39 40, rv_i 38 38], [(1, 0, (-2147483648), 2147483647, [(.inr (80, 3), 0)], []), rv_i 25173 25173, rv_r 80], [((80, 2), 38, 1500000038, [((80, 2), 38, 38)])]), [360], 38, [], []),
  (12, ([rv_r 80, rv_i 40 40, rv_i 39 39], [(1, 0, (-2147483648), 2147483647, [(.inr (80, 3), 0)], []), rv_i 25173 25173, rv_r 80], [((80, 2), 39, 1500000039, [((80, 2), 39, 39)])]), [361], 17, [], []),
  (12, ([rv_r 80, rv_i 5 40, rv_i 4 4], [(1, 0, (-2147483648), 2147483647, [(.inr (80, 3), 0)], []), rv_i 25173 25173, rv_r 80], [((80, 2), 4, 1500000004, [((80, 2), 4, 4)])]), [362], 752, [], []),
  (12, ([rv_r 80, rv_i 6 40, rv_i 5 5], [(1, 0, (-2147483648), 2147483647, [(.inr (80, 3), 0)], []), rv_i 25173 25173, rv_r 80], [((80, 2), 5, 1500000005, [((80, 2), 5, 5)])]), [363], 731, [], []),
  (12, ([rv_r 80, rv_i 7 40, rv_i 6 6], [(1, 0, (-2147483648), 2147483647, [(.inr (80, 3), 0)], []), rv_i 25173 25173, rv_r 80], [((80, 2), 6, 1500000006, [((80, 2), 6, 6)])]), [364], 710, [], []),
  (12, ([rv_r 80, rv_i 8 40, rv_i 7 7], [(1, 0, (-2147483648), 2147483647, [(.inr (80, 3), 0)], []), rv_i 25173 25173, rv_r 80], [((80, 2), 7, 1500000007, [((80, 2), 7, 7)])]), [365], 689, [], []),
  (12, ([rv_r 80, rv_i 9 40, rv_i 8 8], [(1, 0, (-2147483648), 2147483647, [(.inr (80, 3), 0)], []), rv_i 25173 25173, rv_r 80], [((80, 2), 8, 1500000008, [((80, 2), 8, 8)])]), [366], 668, [], []),
  (12, ([rv_r 80, rv_i 10 40, rv_i 9 9], [(1, 0, (-2147483648), 2147483647, [(.inr (80, 3), 0)], []), rv_i 25173 25173, rv_r 80], [((80, 2), 9, 1500000009, [((80, 2), 9, 9)])]), [367], 647, [], []),
  (13, ([rv_r 80, rv_i 1 40, rv_i 0 0], [rv_full, rv_r 80], [((80, 2), 0, 1500000000, [((80, 2), 0, 0)]), ((80, 51), 0, 0, [])]), [368], 835, [], []),
  (13, ([rv_r 80, rv_i 2 40, rv_i 1 1], [rv_full, rv_r 80], [((80, 2), 1, 1500000001, [((80, 2), 1, 1)])]), [369], 814, [], []),
  (13, ([rv_r 80, rv_i 11 40, rv_i 10 10], [rv_full, rv_r 80], [((80, 2), 10, 1500000010, [((80, 2), 10, 10)])]), [370], 625, [], []),
  (13, ([rv_r 80, rv_i 12 40, rv_i 11 11], [rv_full, rv_r 80], [((80, 2), 11, 1500000011, [((80, 2), 11, 11)])]), [371], 604, [], []),
  (13, ([rv_r 80, rv_i 13 40, rv_i 12 12], [rv_full, rv_r 80], [((80, 2), 12, 1500000012, [((80, 2), 12, 12)])]), [372], 583, [], []),
  (13, ([rv_r 80, rv_i 14 40, rv_i 13 13], [rv_full, rv_r 80], [((80, 2), 13, 1500000013, [((80, 2), 13, 13)])]), [373], 562, [], []),
  (13, ([rv_r 80, rv_i 15 40, rv_i 14 14], [rv_full, rv_r 80], [((80, 2), 14, 1500000014, [((80, 2), 14, 14)])]), [374], 541, [], []),
  (13, ([rv_r 80, rv_i 16 40, rv_i 15 15], [rv_full, rv_r 80], [((80, 2), 15, 1500000015, [((80, 2), 15, 15)])]), [375], 520, [], [])]
def n_X8_goesOn_0_21 : List rv_N := [
  (13, ([rv_r 80, rv_i 17 40, rv_i 16 16], [rv_full, rv_r 80], [((80, 2), 16, 1500000016, [((80, 2), 16, 16)])]), [376], 499, [], []),
  (13, ([rv_r 80, rv_i 18 40, rv_i 17 17], [rv_full, rv_r 80], [((80, 2), 17, 1500000017, [((80, 2), 17, 17)])]), [377], 478, [], []),
  (13, ([rv_r 80, rv_i 19 40, rv_i 18 18], [rv_full, rv_r 80], [((80, 2), 18, 1500000018, [((80, 2), 18, 18)])]), [378], 457, [], []),
  (13, ([rv_r 80, rv_i 20 40, rv_i 19 19], [rv_full, rv_r 80], [((80, 2), 19, 1500000019, [((80, 2), 19, 19)])]), [379], 436, [], []),
  (13, ([rv_r 80, rv_i 3 40, rv_i 2 2], [rv_full, rv_r 80], [((80, 2), 2, 1500000002, [((80, 2), 2, 2)])]), [380], 793, [], []),
  (13, ([rv_r 80, rv_i 21 40, rv_i 20 20], [rv_full, rv_r 80], [((80, 2), 20, 1500000020, [((80, 2), 20, 20)])]), [381], 415, [], []),
  (13, ([rv_r 80, rv_i 22 40, rv_i 21 21], [rv_full, rv_r 80], [((80, 2), 21, 1500000021, [((80, 2), 21, 21)])]), [382], 394, [], []),
  (13, ([rv_r 80, rv_i 23 40, rv_i 22 22], [rv_full, rv_r 80], [((80, 2), 22, 1500000022, [((80, 2), 22, 22)])]), [383], 373, [], []),
  (13, ([rv_r 80, rv_i 24 40, rv_i 23 23], [rv_full, rv_r 80], [((80, 2), 23, 1500000023, [((80, 2), 23, 23)])]), [384], 352, [], []),
  (13, ([rv_r 80, rv_i 25 40, rv_i 24 24], [rv_full, rv_r 80], [((80, 2), 24, 1500000024, [((80, 2), 24, 24)])]), [385], 331, [], []),
  (13, ([rv_r 80, rv_i 26 40, rv_i 25 25], [rv_full, rv_r 80], [((80, 2), 25, 1500000025, [((80, 2), 25, 25)])]), [386], 310, [], []),
  (13, ([rv_r 80, rv_i 27 40, rv_i 26 26], [rv_full, rv_r 80], [((80, 2), 26, 1500000026, [((80, 2), 26, 26)])]), [387], 289, [], []),
  (13, ([rv_r 80, rv_i 28 40, rv_i 27 27], [rv_full, rv_r 80], [((80, 2), 27, 1500000027, [((80, 2), 27, 27)])]), [388], 268, [], []),
  (13, ([rv_r 80, rv_i 29 40, rv_i 28 28], [rv_full, rv_r 80], [((80, 2), 28, 1500000028, [((80, 2), 28, 28)])]), [389], 247, [], []),
  (13, ([rv_r 80, rv_i 30 40, rv_i 29 29], [rv_full, rv_r 80], [((80, 2), 29, 1500000029, [((80, 2), 29, 29)])]), [390], 226, [], []),
  (13, ([rv_r 80, rv_i 4 40, rv_i 3 3], [rv_full, rv_r 80], [((80, 2), 3, 1500000003, [((80, 2), 3, 3)])]), [391], 772, [], [])]
def n_X8_goesOn_0_22 : List rv_N := [
  (13, ([rv_r 80, rv_i 31 40, rv_i 30 30], [rv_full, rv_r 80], [((80, 2), 30, 1500000030, [((80, 2), 30, 30)])]), [392], 205, [], []),
  (13, ([rv_r 80, rv_i 32 40, rv_i 31 31], [rv_full, rv_r 80], [((80, 2), 31, 1500000031, [((80, 2), 31, 31)])]), [393], 184, [], []),
  (13, ([rv_r 80, rv_i 33 40, rv_i 32 32], [rv_full, rv_r 80], [((80, 2), 32, 1500000032, [((80, 2), 32, 32)])]), [394], 163, [], []),
  (13, ([rv_r 80, rv_i 34 40, rv_i 33 33], [rv_full, rv_r 80], [((80, 2), 33, 1500000033, [((80, 2), 33, 33)])]), [395], 142, [], []),
  (13, ([rv_r 80, rv_i 35 40, rv_i 34 34], [rv_full, rv_r 80], [((80, 2), 34, 1500000034, [((80, 2), 34, 34)])]), [396], 121, [], []),
  (13, ([rv_r 80, rv_i 36 40, rv_i 35 35], [rv_full, rv_r 80], [((80, 2), 35, 1500000035, [((80, 2), 35, 35)])]), [397], 100, [], []),
  (13, ([rv_r 80, rv_i 37 40, rv_i 36 36], [rv_full, rv_r 80], [((80, 2), 36, 1500000036, [((80, 2), 36, 36)])]), [398], 79, [], []),
  (13, ([rv_r 80, rv_i 38 40, rv_i 37 37], [rv_full, rv_r 80], [((80, 2), 37, 1500000037, [((80, 2), 37, 37)])]), [399], 58, [], []),
  (13, ([rv_r 80, rv_i 39 40, rv_i 38 38], [rv_full, rv_r 80], [((80, 2), 38, 1500000038, [((80, 2), 38, 38)])]), [400], 37, [], []),
  (13, ([rv_r 80, rv_i 40 40, rv_i 39 39], [rv_full, rv_r 80], [((80, 2), 39, 1500000039, [((80, 2), 39, 39)])]), [401], 16, [], []),
  (13, ([rv_r 80, rv_i 5 40, rv_i 4 4], [rv_full, rv_r 80], [((80, 2), 4, 1500000004, [((80, 2), 4, 4)])]), [402], 751, [], []),
  (13, ([rv_r 80, rv_i 6 40, rv_i 5 5], [rv_full, rv_r 80], [((80, 2), 5, 1500000005, [((80, 2), 5, 5)])]), [403], 730, [], []),
  (13, ([rv_r 80, rv_i 7 40, rv_i 6 6], [rv_full, rv_r 80], [((80, 2), 6, 1500000006, [((80, 2), 6, 6)])]), [404], 709, [], []),
  (13, ([rv_r 80, rv_i 8 40, rv_i 7 7], [rv_full, rv_r 80], [((80, 2), 7, 1500000007, [((80, 2), 7, 7)])]), [405], 688, [], []),
  (13, ([rv_r 80, rv_i 9 40, rv_i 8 8], [rv_full, rv_r 80], [((80, 2), 8, 1500000008, [((80, 2), 8, 8)])]), [406], 667, [], []),
  (13, ([rv_r 80, rv_i 10 40, rv_i 9 9], [rv_full, rv_r 80], [((80, 2), 9, 1500000009, [((80, 2), 9, 9)])]), [407], 646, [], [])]
def n_X8_goesOn_0_23 : List rv_N := [
  (14, ([rv_r 80, rv_i 1 40, rv_i 0 0], [rv_i 13849 13849, rv_full, rv_r 80], [((80, 2), 0, 1500000000, [((80, 2), 0, 0)]), ((80, 51), 0, 0, [])]), [408], 834, [], []),
  (14, ([rv_r 80, rv_i 2 40, rv_i 1 1], [rv_i 13849 13849, rv_full, rv_r 80], [((80, 2), 1, 1500000001, [((80, 2), 1, 1)])]), [409], 813, [], []),
  (14, ([rv_r 80, rv_i 11 40, rv_i 10 10], [rv_i 13849 13849, rv_full, rv_r 80], [((80, 2), 10, 1500000010, [((80, 2), 10, 10)])]), [410], 624, [], []),
  (14, ([rv_r 80, rv_i 12 40, rv_i 11 11], [rv_i 13849 13849, rv_full, rv_r 80], [((80, 2), 11, 1500000011, [((80, 2), 11, 11)])]), [411], 603, [], []),
  (14, ([rv_r 80, rv_i 13 40, rv_i 12 12], [rv_i 13849 13849, rv_full, rv_r 80], [((80, 2), 12, 1500000012, [((80, 2), 12, 12)])]), [412], 582, [], []),
  (14, ([rv_r 80, rv_i 14 40, rv_i 13 13], [rv_i 13849 13849, rv_full, rv_r 80], [((80, 2), 13, 1500000013, [((80, 2), 13, 13)])]), [413], 561, [], []),
  (14, ([rv_r 80, rv_i 15 40, rv_i 14 14], [rv_i 13849 13849, rv_full, rv_r 80], [((80, 2), 14, 1500000014, [((80, 2), 14, 14)])]), [414], 540, [], []),
  (14, ([rv_r 80, rv_i 16 40, rv_i 15 15], [rv_i 13849 13849, rv_full, rv_r 80], [((80, 2), 15, 1500000015, [((80, 2), 15, 15)])]), [415], 519, [], []),
  (14, ([rv_r 80, rv_i 17 40, rv_i 16 16], [rv_i 13849 13849, rv_full, rv_r 80], [((80, 2), 16, 1500000016, [((80, 2), 16, 16)])]), [416], 498, [], []),
  (14, ([rv_r 80, rv_i 18 40, rv_i 17 17], [rv_i 13849 13849, rv_full, rv_r 80], [((80, 2), 17, 1500000017, [((80, 2), 17, 17)])]), [417], 477, [], []),
  (14, ([rv_r 80, rv_i 19 40, rv_i 18 18], [rv_i 13849 13849, rv_full, rv_r 80], [((80, 2), 18, 1500000018, [((80, 2), 18, 18)])]), [418], 456, [], []),
  (14, ([rv_r 80, rv_i 20 40, rv_i 19 19], [rv_i 13849 13849, rv_full, rv_r 80], [((80, 2), 19, 1500000019, [((80, 2), 19, 19)])]), [419], 435, [], []),
  (14, ([rv_r 80, rv_i 3 40, rv_i 2 2], [rv_i 13849 13849, rv_full, rv_r 80], [((80, 2), 2, 1500000002, [((80, 2), 2, 2)])]), [420], 792, [], []),
  (14, ([rv_r 80, rv_i 21 40, rv_i 20 20], [rv_i 13849 13849, rv_full, rv_r 80], [((80, 2), 20, 1500000020, [((80, 2), 20, 20)])]), [421], 414, [], []),
  (14, ([rv_r 80, rv_i 22 40, rv_i 21 21], [rv_i 13849 13849, rv_full, rv_r 80], [((80, 2), 21, 1500000021, [((80, 2), 21, 21)])]), [422], 393, [], []),
  (14, ([rv_r 80, rv_i 23 40, rv_i 22 22], [rv_i 13849 13849, rv_full, rv_r 80], [((80, 2), 22, 1500000022, [((80, 2), 22, 22)])]), [423], 372, [], [])]
def n_X8_goesOn_0_24 : List rv_N := [
  (14, ([rv_r 80, rv_i 24 40, rv_i 23 23], [rv_i 13849 13849, rv_full, rv_r 80], [((80, 2), 23, 1500000023, [((80, 2), 23, 23)])]), [424], 351, [], []),
  (14, ([rv_r 80, rv_i 25 40, rv_i 24 24], [rv_i 13849 13849, rv_full, rv_r 80], [((80, 2), 24, 1500000024, [((80, 2), 24, 24)])]), [425], 330, [], []),
  (14, ([rv_r 80, rv_i 26 40, rv_i 25 25], [rv_i 13849 13849, rv_full, rv_r 80], [((80, 2), 25, 1500000025, [((80, 2), 25, 25)])]), [426], 309, [], []),
  (14, ([rv_r 80, rv_i 27 40, rv_i 26 26], [rv_i 13849 13849, rv_full, rv_r 80], [((80, 2), 26, 1500000026, [((80, 2), 26, 26)])]), [427], 288, [], []),
  (14, ([rv_r 80, rv_i 28 40, rv_i 27 27], [rv_i 13849 13849, rv_full, rv_r 80], [((80, 2), 27, 1500000027, [((80, 2), 27, 27)])]), [428], 267, [], []),
  (14, ([rv_r 80, rv_i 29 40, rv_i 28 28], [rv_i 13849 13849, rv_full, rv_r 80], [((80, 2), 28, 1500000028, [((80, 2), 28, 28)])]), [429], 246, [], []),
  (14, ([rv_r 80, rv_i 30 40, rv_i 29 29], [rv_i 13849 13849, rv_full, rv_r 80], [((80, 2), 29, 1500000029, [((80, 2), 29, 29)])]), [430], 225, [], []),
  (14, ([rv_r 80, rv_i 4 40, rv_i 3 3], [rv_i 13849 13849, rv_full, rv_r 80], [((80, 2), 3, 1500000003, [((80, 2), 3, 3)])]), [431], 771, [], []),
  (14, ([rv_r 80, rv_i 31 40, rv_i 30 30], [rv_i 13849 13849, rv_full, rv_r 80], [((80, 2), 30, 1500000030, [((80, 2), 30, 30)])]), [432], 204, [], []),
  (14, ([rv_r 80, rv_i 32 40, rv_i 31 31], [rv_i 13849 13849, rv_full, rv_r 80], [((80, 2), 31, 1500000031, [((80, 2), 31, 31)])]), [433], 183, [], []),
  (14, ([rv_r 80, rv_i 33 40, rv_i 32 32], [rv_i 13849 13849, rv_full, rv_r 80], [((80, 2), 32, 1500000032, [((80, 2), 32, 32)])]), [434], 162, [], []),
  (14, ([rv_r 80, rv_i 34 40, rv_i 33 33], [rv_i 13849 13849, rv_full, rv_r 80], [((80, 2), 33, 1500000033, [((80, 2), 33, 33)])]), [435], 141, [], []),
  (14, ([rv_r 80, rv_i 35 40, rv_i 34 34], [rv_i 13849 13849, rv_full, rv_r 80], [((80, 2), 34, 1500000034, [((80, 2), 34, 34)])]), [436], 120, [], []),
  (14, ([rv_r 80, rv_i 36 40, rv_i 35 35], [rv_i 13849 13849, rv_full, rv_r 80], [((80, 2), 35, 1500000035, [((80, 2), 35, 35)])]), [437], 99, [], []),
  (14, ([rv_r 80, rv_i 37 40, rv_i 36 36], [rv_i 13849 13849, rv_full, rv_r 80], [((80, 2), 36, 1500000036, [((80, 2), 36, 36)])]), [438], 78, [], []),
  (14, ([rv_r 80, rv_i 38 40, rv_i 37 37], [rv_i 13849 13849, rv_full, rv_r 80], [((80, 2), 37, 1500000037, [((80, 2), 37, 37)])]), [439], 57, [], [])]
def n_X8_goesOn_0_25 : List rv_N := [
  (14, ([rv_r 80, rv_i 39 40, rv_i 38 38], [rv_i 13849 13849, rv_full, rv_r 80], [((80, 2), 38, 1500000038, [((80, 2), 38, 38)])]), [440], 36, [], []),
  (14, ([rv_r 80, rv_i 40 40, rv_i 39 39], [rv_i 13849 13849, rv_full, rv_r 80], [((80, 2), 39, 1500000039, [((80, 2), 39, 39)])]), [441], 15, [], []),
  (14, ([rv_r 80, rv_i 5 40, rv_i 4 4], [rv_i 13849 13849, rv_full, rv_r 80], [((80, 2), 4, 1500000004, [((80, 2), 4, 4)])]), [442], 750, [], []),
  (14, ([rv_r 80, rv_i 6 40, rv_i 5 5], [rv_i 13849 13849, rv_full, rv_r 80], [((80, 2), 5, 1500000005, [((80, 2), 5, 5)])]), [443], 729, [], []),
  (14, ([rv_r 80, rv_i 7 40, rv_i 6 6], [rv_i 13849 13849, rv_full, rv_r 80], [((80, 2), 6, 1500000006, [((80, 2), 6, 6)])]), [444], 708, [], []),
  (14, ([rv_r 80, rv_i 8 40, rv_i 7 7], [rv_i 13849 13849, rv_full, rv_r 80], [((80, 2), 7, 1500000007, [((80, 2), 7, 7)])]), [445], 687, [], []),
  (14, ([rv_r 80, rv_i 9 40, rv_i 8 8], [rv_i 13849 13849, rv_full, rv_r 80], [((80, 2), 8, 1500000008, [((80, 2), 8, 8)])]), [446], 666, [], []),
  (14, ([rv_r 80, rv_i 10 40, rv_i 9 9], [rv_i 13849 13849, rv_full, rv_r 80], [((80, 2), 9, 1500000009, [((80, 2), 9, 9)])]), [447], 645, [], []),
  (15, ([rv_r 80, rv_i 1 40, rv_i 0 0], [rv_full, rv_r 80], [((80, 2), 0, 1500000000, [((80, 2), 0, 0)]), ((80, 51), 0, 0, [])]), [448], 833, [], []),
  (15, ([rv_r 80, rv_i 2 40, rv_i 1 1], [rv_full, rv_r 80], [((80, 2), 1, 1500000001, [((80, 2), 1, 1)])]), [449], 812, [], []),
  (15, ([rv_r 80, rv_i 11 40, rv_i 10 10], [rv_full, rv_r 80], [((80, 2), 10, 1500000010, [((80, 2), 10, 10)])]), [450], 623, [], []),
  (15, ([rv_r 80, rv_i 12 40, rv_i 11 11], [rv_full, rv_r 80], [((80, 2), 11, 1500000011, [((80, 2), 11, 11)])]), [451], 602, [], []),
  (15, ([rv_r 80, rv_i 13 40, rv_i 12 12], [rv_full, rv_r 80], [((80, 2), 12, 1500000012, [((80, 2), 12, 12)])]), [452], 581, [], []),
  (15, ([rv_r 80, rv_i 14 40, rv_i 13 13], [rv_full, rv_r 80], [((80, 2), 13, 1500000013, [((80, 2), 13, 13)])]), [453], 560, [], []),
  (15, ([rv_r 80, rv_i 15 40, rv_i 14 14], [rv_full, rv_r 80], [((80, 2), 14, 1500000014, [((80, 2), 14, 14)])]), [454], 539, [], []),
  (15, ([rv_r 80, rv_i 16 40, rv_i 15 15], [rv_full, rv_r 80], [((80, 2), 15, 1500000015, [((80, 2), 15, 15)])]), [455], 518, [], [])]
def n_X8_goesOn_0_26 : List rv_N := [
  (15, ([rv_r 80, rv_i 17 40, rv_i 16 16], [rv_full, rv_r 80], [((80, 2), 16, 1500000016, [((80, 2), 16, 16)])]), [456], 497, [], []),
  (15, ([rv_r 80, rv_i 18 40, rv_i 17 17], [rv_full, rv_r 80], [((80, 2), 17, 1500000017, [((80, 2), 17, 17)])]), [457], 476, [], []),
  (15, ([rv_r 80, rv_i 19 40, rv_i 18 18], [rv_full, rv_r 80], [((80, 2), 18, 1500000018, [((80, 2), 18, 18)])]), [458], 455, [], []),
  (15, ([rv_r 80, rv_i 20 40, rv_i 19 19], [rv_full, rv_r 80], [((80, 2), 19, 1500000019, [((80, 2), 19, 19)])]), [459], 434, [], []),
  (15, ([rv_r 80, rv_i 3 40, rv_i 2 2], [rv_full, rv_r 80], [((80, 2), 2, 1500000002, [((80, 2), 2, 2)])]), [460], 791, [], []),
  (15, ([rv_r 80, rv_i 21 40, rv_i 20 20], [rv_full, rv_r 80], [((80, 2), 20, 1500000020, [((80, 2), 20, 20)])]), [461], 413, [], []),
  (15, ([rv_r 80, rv_i 22 40, rv_i 21 21], [rv_full, rv_r 80], [((80, 2), 21, 1500000021, [((80, 2), 21, 21)])]), [462], 392, [], []),
  (15, ([rv_r 80, rv_i 23 40, rv_i 22 22], [rv_full, rv_r 80], [((80, 2), 22, 1500000022, [((80, 2), 22, 22)])]), [463], 371, [], []),
  (15, ([rv_r 80, rv_i 24 40, rv_i 23 23], [rv_full, rv_r 80], [((80, 2), 23, 1500000023, [((80, 2), 23, 23)])]), [464], 350, [], []),
  (15, ([rv_r 80, rv_i 25 40, rv_i 24 24], [rv_full, rv_r 80], [((80, 2), 24, 1500000024, [((80, 2), 24, 24)])]), [465], 329, [], []),
  (15, ([rv_r 80, rv_i 26 40, rv_i 25 25], [rv_full, rv_r 80], [((80, 2), 25, 1500000025, [((80, 2), 25, 25)])]), [466], 308, [], []),
  (15, ([rv_r 80, rv_i 27 40, rv_i 26 26], [rv_full, rv_r 80], [((80, 2), 26, 1500000026, [((80, 2), 26, 26)])]), [467], 287, [], []),
  (15, ([rv_r 80, rv_i 28 40, rv_i 27 27], [rv_full, rv_r 80], [((80, 2), 27, 1500000027, [((80, 2), 27, 27)])]), [468], 266, [], []),
  (15, ([rv_r 80, rv_i 29 40, rv_i 28 28], [rv_full, rv_r 80], [((80, 2), 28, 1500000028, [((80, 2), 28, 28)])]), [469], 245, [], []),
  (15, ([rv_r 80, rv_i 30 40, rv_i 29 29], [rv_full, rv_r 80], [((80, 2), 29, 1500000029, [((80, 2), 29, 29)])]), [470], 224, [], []),
  (15, ([rv_r 80, rv_i 4 40, rv_i 3 3], [rv_full, rv_r 80], [((80, 2), 3, 1500000003, [((80, 2), 3, 3)])]), [471], 770, [], [])]
def n_X8_goesOn_0_27 : List rv_N := [
  (15, ([rv_r 80, rv_i 31 40, rv_i 30 30], [rv_full, rv_r 80], [((80, 2), 30, 1500000030, [((80, 2), 30, 30)])]), [472], 203, [], []),
  (15, ([rv_r 80, rv_i 32 40, rv_i 31 31], [rv_full, rv_r 80], [((80, 2), 31, 1500000031, [((80, 2), 31, 31)])]), [473], 182, [], []),
  (15, ([rv_r 80, rv_i 33 40, rv_i 32 32], [rv_full, rv_r 80], [((80, 2), 32, 1500000032, [((80, 2), 32, 32)])]), [474], 161, [], []),
  (15, ([rv_r 80, rv_i 34 40, rv_i 33 33], [rv_full, rv_r 80], [((80, 2), 33, 1500000033, [((80, 2), 33, 33)])]), [475], 140, [], []),
  (15, ([rv_r 80, rv_i 35 40, rv_i 34 34], [rv_full, rv_r 80], [((80, 2), 34, 1500000034, [((80, 2), 34, 34)])]), [476], 119, [], []),
  (15, ([rv_r 80, rv_i 36 40, rv_i 35 35], [rv_full, rv_r 80], [((80, 2), 35, 1500000035, [((80, 2), 35, 35)])]), [477], 98, [], []),
  (15, ([rv_r 80, rv_i 37 40, rv_i 36 36], [rv_full, rv_r 80], [((80, 2), 36, 1500000036, [((80, 2), 36, 36)])]), [478], 77, [], []),
  (15, ([rv_r 80, rv_i 38 40, rv_i 37 37], [rv_full, rv_r 80], [((80, 2), 37, 1500000037, [((80, 2), 37, 37)])]), [479], 56, [], []),
  (15, ([rv_r 80, rv_i 39 40, rv_i 38 38], [rv_full, rv_r 80], [((80, 2), 38, 1500000038, [((80, 2), 38, 38)])]), [480], 35, [], []),
  (15, ([rv_r 80, rv_i 40 40, rv_i 39 39], [rv_full, rv_r 80], [((80, 2), 39, 1500000039, [((80, 2), 39, 39)])]), [481], 14, [], []),
  (15, ([rv_r 80, rv_i 5 40, rv_i 4 4], [rv_full, rv_r 80], [((80, 2), 4, 1500000004, [((80, 2), 4, 4)])]), [482], 749, [], []),
  (15, ([rv_r 80, rv_i 6 40, rv_i 5 5], [rv_full, rv_r 80], [((80, 2), 5, 1500000005, [((80, 2), 5, 5)])]), [483], 728, [], []),
  (15, ([rv_r 80, rv_i 7 40, rv_i 6 6], [rv_full, rv_r 80], [((80, 2), 6, 1500000006, [((80, 2), 6, 6)])]), [484], 707, [], []),
  (15, ([rv_r 80, rv_i 8 40, rv_i 7 7], [rv_full, rv_r 80], [((80, 2), 7, 1500000007, [((80, 2), 7, 7)])]), [485], 686, [], []),
  (15, ([rv_r 80, rv_i 9 40, rv_i 8 8], [rv_full, rv_r 80], [((80, 2), 8, 1500000008, [((80, 2), 8, 8)])]), [486], 665, [], []),
  (15, ([rv_r 80, rv_i 10 40, rv_i 9 9], [rv_full, rv_r 80], [((80, 2), 9, 1500000009, [((80, 2), 9, 9)])]), [487], 644, [], [])]
def n_X8_goesOn_0_28 : List rv_N := [
  (16, ([rv_r 80, rv_i 1 40, rv_i 0 0], [rv_i 65536 65536, rv_full, rv_r 80], [((80, 2), 0, 1500000000, [((80, 2), 0, 0)]), ((80, 51), 0, 0, [])]), [488], 832, [], []),
  (16, ([rv_r 80, rv_i 2 40, rv_i 1 1], [rv_i 65536 65536, rv_full, rv_r 80], [((80, 2), 1, 1500000001, [((80, 2), 1, 1)])]), [489], 811, [], []),
  (16, ([rv_r 80, rv_i 11 40, rv_i 10 10], [rv_i 65536 65536, rv_full, rv_r 80], [((80, 2), 10, 1500000010, [((80, 2), 10, 10)])]), [490], 622, [], []),
  (16, ([rv_r 80, rv_i 12 40, rv_i 11 11], [rv_i 65536 65536, rv_full, rv_r 80], [((80, 2), 11, 1500000011, [((80, 2), 11, 11)])]), [491], 601, [], []),
  (16, ([rv_r 80, rv_i 13 40, rv_i 12 12], [rv_i 65536 65536, rv_full, rv_r 80], [((80, 2), 12, 1500000012, [((80, 2), 12, 12)])]), [492], 580, [], []),
  (16, ([rv_r 80, rv_i 14 40, rv_i 13 13], [rv_i 65536 65536, rv_full, rv_r 80], [((80, 2), 13, 1500000013, [((80, 2), 13, 13)])]), [493], 559, [], []),
  (16, ([rv_r 80, rv_i 15 40, rv_i 14 14], [rv_i 65536 65536, rv_full, rv_r 80], [((80, 2), 14, 1500000014, [((80, 2), 14, 14)])]), [494], 538, [], []),
  (16, ([rv_r 80, rv_i 16 40, rv_i 15 15], [rv_i 65536 65536, rv_full, rv_r 80], [((80, 2), 15, 1500000015, [((80, 2), 15, 15)])]), [495], 517, [], []),
  (16, ([rv_r 80, rv_i 17 40, rv_i 16 16], [rv_i 65536 65536, rv_full, rv_r 80], [((80, 2), 16, 1500000016, [((80, 2), 16, 16)])]), [496], 496, [], []),
  (16, ([rv_r 80, rv_i 18 40, rv_i 17 17], [rv_i 65536 65536, rv_full, rv_r 80], [((80, 2), 17, 1500000017, [((80, 2), 17, 17)])]), [497], 475, [], []),
  (16, ([rv_r 80, rv_i 19 40, rv_i 18 18], [rv_i 65536 65536, rv_full, rv_r 80], [((80, 2), 18, 1500000018, [((80, 2), 18, 18)])]), [498], 454, [], []),
  (16, ([rv_r 80, rv_i 20 40, rv_i 19 19], [rv_i 65536 65536, rv_full, rv_r 80], [((80, 2), 19, 1500000019, [((80, 2), 19, 19)])]), [499], 433, [], []),
  (16, ([rv_r 80, rv_i 3 40, rv_i 2 2], [rv_i 65536 65536, rv_full, rv_r 80], [((80, 2), 2, 1500000002, [((80, 2), 2, 2)])]), [500], 790, [], []),
  (16, ([rv_r 80, rv_i 21 40, rv_i 20 20], [rv_i 65536 65536, rv_full, rv_r 80], [((80, 2), 20, 1500000020, [((80, 2), 20, 20)])]), [501], 412, [], []),
  (16, ([rv_r 80, rv_i 22 40, rv_i 21 21], [rv_i 65536 65536, rv_full, rv_r 80], [((80, 2), 21, 1500000021, [((80, 2), 21, 21)])]), [502], 391, [], []),
  (16, ([rv_r 80, rv_i 23 40, rv_i 22 22], [rv_i 65536 65536, rv_full, rv_r 80], [((80, 2), 22, 1500000022, [((80, 2), 22, 22)])]), [503], 370, [], [])]
def n_X8_goesOn_0_29 : List rv_N := [
  (16, ([rv_r 80, rv_i 24 40, rv_i 23 23], [rv_i 65536 65536, rv_full, rv_r 80], [((80, 2), 23, 1500000023, [((80, 2), 23, 23)])]), [504], 349, [], []),
  (16, ([rv_r 80, rv_i 25 40, rv_i 24 24], [rv_i 65536 65536, rv_full, rv_r 80], [((80, 2), 24, 1500000024, [((80, 2), 24, 24)])]), [505], 328, [], []),
  (16, ([rv_r 80, rv_i 26 40, rv_i 25 25], [rv_i 65536 65536, rv_full, rv_r 80], [((80, 2), 25, 1500000025, [((80, 2), 25, 25)])]), [506], 307, [], []),
  (16, ([rv_r 80, rv_i 27 40, rv_i 26 26], [rv_i 65536 65536, rv_full, rv_r 80], [((80, 2), 26, 1500000026, [((80, 2), 26, 26)])]), [507], 286, [], []),
  (16, ([rv_r 80, rv_i 28 40, rv_i 27 27], [rv_i 65536 65536, rv_full, rv_r 80], [((80, 2), 27, 1500000027, [((80, 2), 27, 27)])]), [508], 265, [], []),
  (16, ([rv_r 80, rv_i 29 40, rv_i 28 28], [rv_i 65536 65536, rv_full, rv_r 80], [((80, 2), 28, 1500000028, [((80, 2), 28, 28)])]), [509], 244, [], []),
  (16, ([rv_r 80, rv_i 30 40, rv_i 29 29], [rv_i 65536 65536, rv_full, rv_r 80], [((80, 2), 29, 1500000029, [((80, 2), 29, 29)])]), [510], 223, [], []),
  (16, ([rv_r 80, rv_i 4 40, rv_i 3 3], [rv_i 65536 65536, rv_full, rv_r 80], [((80, 2), 3, 1500000003, [((80, 2), 3, 3)])]), [511], 769, [], []),
  (16, ([rv_r 80, rv_i 31 40, rv_i 30 30], [rv_i 65536 65536, rv_full, rv_r 80], [((80, 2), 30, 1500000030, [((80, 2), 30, 30)])]), [512], 202, [], []),
  (16, ([rv_r 80, rv_i 32 40, rv_i 31 31], [rv_i 65536 65536, rv_full, rv_r 80], [((80, 2), 31, 1500000031, [((80, 2), 31, 31)])]), [513], 181, [], []),
  (16, ([rv_r 80, rv_i 33 40, rv_i 32 32], [rv_i 65536 65536, rv_full, rv_r 80], [((80, 2), 32, 1500000032, [((80, 2), 32, 32)])]), [514], 160, [], []),
  (16, ([rv_r 80, rv_i 34 40, rv_i 33 33], [rv_i 65536 65536, rv_full, rv_r 80], [((80, 2), 33, 1500000033, [((80, 2), 33, 33)])]), [515], 139, [], []),
  (16, ([rv_r 80, rv_i 35 40, rv_i 34 34], [rv_i 65536 65536, rv_full, rv_r 80], [((80, 2), 34, 1500000034, [((80, 2), 34, 34)])]), [516], 118, [], []),
  (16, ([rv_r 80, rv_i 36 40, rv_i 35 35], [rv_i 65536 65536, rv_full, rv_r 80], [((80, 2), 35, 1500000035, [((80, 2), 35, 35)])]), [517], 97, [], []),
  (16, ([rv_r 80, rv_i 37 40, rv_i 36 36], [rv_i 65536 65536, rv_full, rv_r 80], [((80, 2), 36, 1500000036, [((80, 2), 36, 36)])]), [518], 76, [], []),
  (16, ([rv_r 80, rv_i 38 40, rv_i 37 37], [rv_i 65536 65536, rv_full, rv_r 80], [((80, 2), 37, 1500000037, [((80, 2), 37, 37)])]), [519], 55, [], [])]
def n_X8_goesOn_0_30 : List rv_N := [
  (16, ([rv_r 80, rv_i 39 40, rv_i 38 38], [rv_i 65536 65536, rv_full, rv_r 80], [((80, 2), 38, 1500000038, [((80, 2), 38, 38)])]), [520], 34, [], []),
  (16, ([rv_r 80, rv_i 40 40, rv_i 39 39], [rv_i 65536 65536, rv_full, rv_r 80], [((80, 2), 39, 1500000039, [((80, 2), 39, 39)])]), [521], 13, [], []),
  (16, ([rv_r 80, rv_i 5 40, rv_i 4 4], [rv_i 65536 65536, rv_full, rv_r 80], [((80, 2), 4, 1500000004, [((80, 2), 4, 4)])]), [522], 748, [], []),
  (16, ([rv_r 80, rv_i 6 40, rv_i 5 5], [rv_i 65536 65536, rv_full, rv_r 80], [((80, 2), 5, 1500000005, [((80, 2), 5, 5)])]), [523], 727, [], []),
  (16, ([rv_r 80, rv_i 7 40, rv_i 6 6], [rv_i 65536 65536, rv_full, rv_r 80], [((80, 2), 6, 1500000006, [((80, 2), 6, 6)])]), [524], 706, [], []),
  (16, ([rv_r 80, rv_i 8 40, rv_i 7 7], [rv_i 65536 65536, rv_full, rv_r 80], [((80, 2), 7, 1500000007, [((80, 2), 7, 7)])]), [525], 685, [], []),
  (16, ([rv_r 80, rv_i 9 40, rv_i 8 8], [rv_i 65536 65536, rv_full, rv_r 80], [((80, 2), 8, 1500000008, [((80, 2), 8, 8)])]), [526], 664, [], []),
  (16, ([rv_r 80, rv_i 10 40, rv_i 9 9], [rv_i 65536 65536, rv_full, rv_r 80], [((80, 2), 9, 1500000009, [((80, 2), 9, 9)])]), [527], 643, [], []),
  (17, ([rv_r 80, rv_i 1 40, rv_i 0 0], [rv_full, rv_r 80], [((80, 2), 0, 1500000000, [((80, 2), 0, 0)]), ((80, 51), 0, 0, [])]), [528], 831, [], []),
  (17, ([rv_r 80, rv_i 2 40, rv_i 1 1], [rv_full, rv_r 80], [((80, 2), 1, 1500000001, [((80, 2), 1, 1)])]), [529], 810, [], []),
  (17, ([rv_r 80, rv_i 11 40, rv_i 10 10], [rv_full, rv_r 80], [((80, 2), 10, 1500000010, [((80, 2), 10, 10)])]), [530], 621, [], []),
  (17, ([rv_r 80, rv_i 12 40, rv_i 11 11], [rv_full, rv_r 80], [((80, 2), 11, 1500000011, [((80, 2), 11, 11)])]), [531], 600, [], []),
  (17, ([rv_r 80, rv_i 13 40, rv_i 12 12], [rv_full, rv_r 80], [((80, 2), 12, 1500000012, [((80, 2), 12, 12)])]), [532], 579, [], []),
  (17, ([rv_r 80, rv_i 14 40, rv_i 13 13], [rv_full, rv_r 80], [((80, 2), 13, 1500000013, [((80, 2), 13, 13)])]), [533], 558, [], []),
  (17, ([rv_r 80, rv_i 15 40, rv_i 14 14], [rv_full, rv_r 80], [((80, 2), 14, 1500000014, [((80, 2), 14, 14)])]), [534], 537, [], []),
  (17, ([rv_r 80, rv_i 16 40, rv_i 15 15], [rv_full, rv_r 80], [((80, 2), 15, 1500000015, [((80, 2), 15, 15)])]), [535], 516, [], [])]
def n_X8_goesOn_0_31 : List rv_N := [
  (17, ([rv_r 80, rv_i 17 40, rv_i 16 16], [rv_full, rv_r 80], [((80, 2), 16, 1500000016, [((80, 2), 16, 16)])]), [536], 495, [], []),
  (17, ([rv_r 80, rv_i 18 40, rv_i 17 17], [rv_full, rv_r 80], [((80, 2), 17, 1500000017, [((80, 2), 17, 17)])]), [537], 474, [], []),
  (17, ([rv_r 80, rv_i 19 40, rv_i 18 18], [rv_full, rv_r 80], [((80, 2), 18, 1500000018, [((80, 2), 18, 18)])]), [538], 453, [], []),
  (17, ([rv_r 80, rv_i 20 40, rv_i 19 19], [rv_full, rv_r 80], [((80, 2), 19, 1500000019, [((80, 2), 19, 19)])]), [539], 432, [], []),
  (17, ([rv_r 80, rv_i 3 40, rv_i 2 2], [rv_full, rv_r 80], [((80, 2), 2, 1500000002, [((80, 2), 2, 2)])]), [540], 789, [], []),
  (17, ([rv_r 80, rv_i 21 40, rv_i 20 20], [rv_full, rv_r 80], [((80, 2), 20, 1500000020, [((80, 2), 20, 20)])]), [541], 411, [], []),
  (17, ([rv_r 80, rv_i 22 40, rv_i 21 21], [rv_full, rv_r 80], [((80, 2), 21, 1500000021, [((80, 2), 21, 21)])]), [542], 390, [], []),
  (17, ([rv_r 80, rv_i 23 40, rv_i 22 22], [rv_full, rv_r 80], [((80, 2), 22, 1500000022, [((80, 2), 22, 22)])]), [543], 369, [], []),
  (17, ([rv_r 80, rv_i 24 40, rv_i 23 23], [rv_full, rv_r 80], [((80, 2), 23, 1500000023, [((80, 2), 23, 23)])]), [544], 348, [], []),
  (17, ([rv_r 80, rv_i 25 40, rv_i 24 24], [rv_full, rv_r 80], [((80, 2), 24, 1500000024, [((80, 2), 24, 24)])]), [545], 327, [], []),
  (17, ([rv_r 80, rv_i 26 40, rv_i 25 25], [rv_full, rv_r 80], [((80, 2), 25, 1500000025, [((80, 2), 25, 25)])]), [546], 306, [], []),
  (17, ([rv_r 80, rv_i 27 40, rv_i 26 26], [rv_full, rv_r 80], [((80, 2), 26, 1500000026, [((80, 2), 26, 26)])]), [547], 285, [], []),
  (17, ([rv_r 80, rv_i 28 40, rv_i 27 27], [rv_full, rv_r 80], [((80, 2), 27, 1500000027, [((80, 2), 27, 27)])]), [548], 264, [], []),
  (17, ([rv_r 80, rv_i 29 40, rv_i 28 28], [rv_full, rv_r 80], [((80, 2), 28, 1500000028, [((80, 2), 28, 28)])]), [549], 243, [], []),
  (17, ([rv_r 80, rv_i 30 40, rv_i 29 29], [rv_full, rv_r 80], [((80, 2), 29, 1500000029, [((80, 2), 29, 29)])]), [550], 222, [], []),
  (17, ([rv_r 80, rv_i 4 40, rv_i 3 3], [rv_full, rv_r 80], [((80, 2), 3, 1500000003, [((80, 2), 3, 3)])]), [551], 768, [], [])]
def n_X8_goesOn_0_32 : List rv_N := [
  (17, ([rv_r 80, rv_i 31 40, rv_i 30 30], [rv_full, rv_r 80], [((80, 2), 30, 1500000030, [((80, 2), 30, 30)])]), [552], 201, [], []),
  (17, ([rv_r 80, rv_i 32 40, rv_i 31 31], [rv_full, rv_r 80], [((80, 2), 31, 1500000031, [((80, 2), 31, 31)])]), [553], 180, [], []),
  (17, ([rv_r 80, rv_i 33 40, rv_i 32 32], [rv_full, rv_r 80], [((80, 2), 32, 1500000032, [((80, 2), 32, 32)])]), [554], 159, [], []),
  (17, ([rv_r 80, rv_i 34 40, rv_i 33 33], [rv_full, rv_r 80], [((80, 2), 33, 1500000033, [((80, 2), 33, 33)])]), [555], 138, [], []),
  (17, ([rv_r 80, rv_i 35 40, rv_i 34 34], [rv_full, rv_r 80], [((80, 2), 34, 1500000034, [((80, 2), 34, 34)])]), [556], 117, [], []),
  (17, ([rv_r 80, rv_i 36 40, rv_i 35 35], [rv_full, rv_r 80], [((80, 2), 35, 1500000035, [((80, 2), 35, 35)])]), [557], 96, [], []),
  (17, ([rv_r 80, rv_i 37 40, rv_i 36 36], [rv_full, rv_r 80], [((80, 2), 36, 1500000036, [((80, 2), 36, 36)])]), [558], 75, [], []),
  (17, ([rv_r 80, rv_i 38 40, rv_i 37 37], [rv_full, rv_r 80], [((80, 2), 37, 1500000037, [((80, 2), 37, 37)])]), [559], 54, [], []),
  (17, ([rv_r 80, rv_i 39 40, rv_i 38 38], [rv_full, rv_r 80], [((80, 2), 38, 1500000038, [((80, 2), 38, 38)])]), [560], 33, [], []),
  (17, ([rv_r 80, rv_i 40 40, rv_i 39 39], [rv_full, rv_r 80], [((80, 2), 39, 1500000039, [((80, 2), 39, 39)])]), [561], 12, [], []),
  (17, ([rv_r 80, rv_i 5 40, rv_i 4 4], [rv_full, rv_r 80], [((80, 2), 4, 1500000004, [((80, 2), 4, 4)])]), [562], 747, [], []),
  (17, ([rv_r 80, rv_i 6 40, rv_i 5 5], [rv_full, rv_r 80], [((80, 2), 5, 1500000005, [((80, 2), 5, 5)])]), [563], 726, [], []),
  (17, ([rv_r 80, rv_i 7 40, rv_i 6 6], [rv_full, rv_r 80], [((80, 2), 6, 1500000006, [((80, 2), 6, 6)])]), [564], 705, [], []),
  (17, ([rv_r 80, rv_i 8 40, rv_i 7 7], [rv_full, rv_r 80], [((80, 2), 7, 1500000007, [((80, 2), 7, 7)])]), [565], 684, [], []),
  (17, ([rv_r 80, rv_i 9 40, rv_i 8 8], [rv_full, rv_r 80], [((80, 2), 8, 1500000008, [((80, 2), 8, 8)])]), [566], 663, [], []),
  (17, ([rv_r 80, rv_i 10 40, rv_i 9 9], [rv_full, rv_r 80], [((80, 2), 9, 1500000009, [((80, 2), 9, 9)])]), [567], 642, [], [])]
def n_X8_goesOn_0_33 : List rv_N := [
  (18, ([rv_r 80, rv_i 1 40, rv_i 0 0], [], [((80, 2), 0, 1500000000, [((80, 2), 0, 0)]), ((80, 51), 0, 0, [])]), [568], 830, [], []),
  (18, ([rv_r 80, rv_i 2 40, rv_i 1 1], [], [((80, 2), 1, 1500000001, [((80, 2), 1, 1)])]), [569], 809, [], []),
  (18, ([rv_r 80, rv_i 11 40, rv_i 10 10], [], [((80, 2), 10, 1500000010, [((80, 2), 10, 10)])]), [570], 620, [], []),
  (18, ([rv_r 80, rv_i 12 40, rv_i 11 11], [], [((80, 2), 11, 1500000011, [((80, 2), 11, 11)])]), [571], 599, [], []),
  (18, ([rv_r 80, rv_i 13 40, rv_i 12 12], [], [((80, 2), 12, 1500000012, [((80, 2), 12, 12)])]), [572], 578, [], []),
  (18, ([rv_r 80, rv_i 14 40, rv_i 13 13], [], [((80, 2), 13, 1500000013, [((80, 2), 13, 13)])]), [573], 557, [], []),
  (18, ([rv_r 80, rv_i 15 40, rv_i 14 14], [], [((80, 2), 14, 1500000014, [((80, 2), 14, 14)])]), [574], 536, [], []),
  (18, ([rv_r 80, rv_i 16 40, rv_i 15 15], [], [((80, 2), 15, 1500000015, [((80, 2), 15, 15)])]), [575], 515, [], []),
  (18, ([rv_r 80, rv_i 17 40, rv_i 16 16], [], [((80, 2), 16, 1500000016, [((80, 2), 16, 16)])]), [576], 494, [], []),
  (18, ([rv_r 80, rv_i 18 40, rv_i 17 17], [], [((80, 2), 17, 1500000017, [((80, 2), 17, 17)])]), [577], 473, [], []),
  (18, ([rv_r 80, rv_i 19 40, rv_i 18 18], [], [((80, 2), 18, 1500000018, [((80, 2), 18, 18)])]), [578], 452, [], []),
  (18, ([rv_r 80, rv_i 20 40, rv_i 19 19], [], [((80, 2), 19, 1500000019, [((80, 2), 19, 19)])]), [579], 431, [], []),
  (18, ([rv_r 80, rv_i 3 40, rv_i 2 2], [], [((80, 2), 2, 1500000002, [((80, 2), 2, 2)])]), [580], 788, [], []),
  (18, ([rv_r 80, rv_i 21 40, rv_i 20 20], [], [((80, 2), 20, 1500000020, [((80, 2), 20, 20)])]), [581], 410, [], []),
  (18, ([rv_r 80, rv_i 22 40, rv_i 21 21], [], [((80, 2), 21, 1500000021, [((80, 2), 21, 21)])]), [582], 389, [], []),
  (18, ([rv_r 80, rv_i 23 40, rv_i 22 22], [], [((80, 2), 22, 1500000022, [((80, 2), 22, 22)])]), [583], 368, [], [])]
def n_X8_goesOn_0_34 : List rv_N := [
  (18, ([rv_r 80, rv_i 24 40, rv_i 23 23], [], [((80, 2), 23, 1500000023, [((80, 2), 23, 23)])]), [584], 347, [], []),
  (18, ([rv_r 80, rv_i 25 40, rv_i 24 24], [], [((80, 2), 24, 1500000024, [((80, 2), 24, 24)])]), [585], 326, [], []),
  (18, ([rv_r 80, rv_i 26 40, rv_i 25 25], [], [((80, 2), 25, 1500000025, [((80, 2), 25, 25)])]), [586], 305, [], []),
  (18, ([rv_r 80, rv_i 27 40, rv_i 26 26], [], [((80, 2), 26, 1500000026, [((80, 2), 26, 26)])]), [587], 284, [], []),
  (18, ([rv_r 80, rv_i 28 40, rv_i 27 27], [], [((80, 2), 27, 1500000027, [((80, 2), 27, 27)])]), [588], 263, [], []),
  (18, ([rv_r 80, rv_i 29 40, rv_i 28 28], [], [((80, 2), 28, 1500000028, [((80, 2), 28, 28)])]), [589], 242, [], []),
  (18, ([rv_r 80, rv_i 30 40, rv_i 29 29], [], [((80, 2), 29, 1500000029, [((80, 2), 29, 29)])]), [590], 221, [], []),
  (18, ([rv_r 80, rv_i 4 40, rv_i 3 3], [], [((80, 2), 3, 1500000003, [((80, 2), 3, 3)])]), [591], 767, [], []),
  (18, ([rv_r 80, rv_i 31 40, rv_i 30 30], [], [((80, 2), 30, 1500000030, [((80, 2), 30, 30)])]), [592], 200, [], []),
  (18, ([rv_r 80, rv_i 32 40, rv_i 31 31], [], [((80, 2), 31, 1500000031, [((80, 2), 31, 31)])]), [593], 179, [], []),
  (18, ([rv_r 80, rv_i 33 40, rv_i 32 32], [], [((80, 2), 32, 1500000032, [((80, 2), 32, 32)])]), [594], 158, [], []),
  (18, ([rv_r 80, rv_i 34 40, rv_i 33 33], [], [((80, 2), 33, 1500000033, [((80, 2), 33, 33)])]), [595], 137, [], []),
  (18, ([rv_r 80, rv_i 35 40, rv_i 34 34], [], [((80, 2), 34, 1500000034, [((80, 2), 34, 34)])]), [596], 116, [], []),
  (18, ([rv_r 80, rv_i 36 40, rv_i 35 35], [], [((80, 2), 35, 1500000035, [((80, 2), 35, 35)])]), [597], 95, [], []),
  (18, ([rv_r 80, rv_i 37 40, rv_i 36 36], [], [((80, 2), 36, 1500000036, [((80, 2), 36, 36)])]), [598], 74, [], []),
  (18, ([rv_r 80, rv_i 38 40, rv_i 37 37], [], [((80, 2), 37, 1500000037, [((80, 2), 37, 37)])]), [599], 53, [], [])]
def n_X8_goesOn_0_35 : List rv_N := [
  (18, ([rv_r 80, rv_i 39 40, rv_i 38 38], [], [((80, 2), 38, 1500000038, [((80, 2), 38, 38)])]), [600], 32, [], []),
  (18, ([rv_r 80, rv_i 40 40, rv_i 39 39], [], [((80, 2), 39, 1500000039, [((80, 2), 39, 39)])]), [601], 11, [], []),
  (18, ([rv_r 80, rv_i 5 40, rv_i 4 4], [], [((80, 2), 4, 1500000004, [((80, 2), 4, 4)])]), [602], 746, [], []),
  (18, ([rv_r 80, rv_i 6 40, rv_i 5 5], [], [((80, 2), 5, 1500000005, [((80, 2), 5, 5)])]), [603], 725, [], []),
  (18, ([rv_r 80, rv_i 7 40, rv_i 6 6], [], [((80, 2), 6, 1500000006, [((80, 2), 6, 6)])]), [604], 704, [], []),
  (18, ([rv_r 80, rv_i 8 40, rv_i 7 7], [], [((80, 2), 7, 1500000007, [((80, 2), 7, 7)])]), [605], 683, [], []),
  (18, ([rv_r 80, rv_i 9 40, rv_i 8 8], [], [((80, 2), 8, 1500000008, [((80, 2), 8, 8)])]), [606], 662, [], []),
  (18, ([rv_r 80, rv_i 10 40, rv_i 9 9], [], [((80, 2), 9, 1500000009, [((80, 2), 9, 9)])]), [607], 641, [], []),
  (19, ([rv_r 80, rv_i 1 40, rv_i 0 0], [rv_r 80], [((80, 2), 0, 1500000000, [((80, 2), 0, 0)]), ((80, 51), 0, 0, [])]), [608], 829, [], []),
  (19, ([rv_r 80, rv_i 2 40, rv_i 1 1], [rv_r 80], [((80, 2), 1, 1500000001, [((80, 2), 1, 1)])]), [609], 808, [], []),
  (19, ([rv_r 80, rv_i 11 40, rv_i 10 10], [rv_r 80], [((80, 2), 10, 1500000010, [((80, 2), 10, 10)])]), [610], 619, [], []),
  (19, ([rv_r 80, rv_i 12 40, rv_i 11 11], [rv_r 80], [((80, 2), 11, 1500000011, [((80, 2), 11, 11)])]), [611], 598, [], []),
  (19, ([rv_r 80, rv_i 13 40, rv_i 12 12], [rv_r 80], [((80, 2), 12, 1500000012, [((80, 2), 12, 12)])]), [612], 577, [], []),
  (19, ([rv_r 80, rv_i 14 40, rv_i 13 13], [rv_r 80], [((80, 2), 13, 1500000013, [((80, 2), 13, 13)])]), [613], 556, [], []),
  (19, ([rv_r 80, rv_i 15 40, rv_i 14 14], [rv_r 80], [((80, 2), 14, 1500000014, [((80, 2), 14, 14)])]), [614], 535, [], []),
  (19, ([rv_r 80, rv_i 16 40, rv_i 15 15], [rv_r 80], [((80, 2), 15, 1500000015, [((80, 2), 15, 15)])]), [615], 514, [], [])]
def n_X8_goesOn_0_36 : List rv_N := [
  (19, ([rv_r 80, rv_i 17 40, rv_i 16 16], [rv_r 80], [((80, 2), 16, 1500000016, [((80, 2), 16, 16)])]), [616], 493, [], []),
  (19, ([rv_r 80, rv_i 18 40, rv_i 17 17], [rv_r 80], [((80, 2), 17, 1500000017, [((80, 2), 17, 17)])]), [617], 472, [], []),
  (19, ([rv_r 80, rv_i 19 40, rv_i 18 18], [rv_r 80], [((80, 2), 18, 1500000018, [((80, 2), 18, 18)])]), [618], 451, [], []),
  (19, ([rv_r 80, rv_i 20 40, rv_i 19 19], [rv_r 80], [((80, 2), 19, 1500000019, [((80, 2), 19, 19)])]), [619], 430, [], []),
  (19, ([rv_r 80, rv_i 3 40, rv_i 2 2], [rv_r 80], [((80, 2), 2, 1500000002, [((80, 2), 2, 2)])]), [620], 787, [], []),
  (19, ([rv_r 80, rv_i 21 40, rv_i 20 20], [rv_r 80], [((80, 2), 20, 1500000020, [((80, 2), 20, 20)])]), [621], 409, [], []),
  (19, ([rv_r 80, rv_i 22 40, rv_i 21 21], [rv_r 80], [((80, 2), 21, 1500000021, [((80, 2), 21, 21)])]), [622], 388, [], []),
  (19, ([rv_r 80, rv_i 23 40, rv_i 22 22], [rv_r 80], [((80, 2), 22, 1500000022, [((80, 2), 22, 22)])]), [623], 367, [], []),
  (19, ([rv_r 80, rv_i 24 40, rv_i 23 23], [rv_r 80], [((80, 2), 23, 1500000023, [((80, 2), 23, 23)])]), [624], 346, [], []),
  (19, ([rv_r 80, rv_i 25 40, rv_i 24 24], [rv_r 80], [((80, 2), 24, 1500000024, [((80, 2), 24, 24)])]), [625], 325, [], []),
  (19, ([rv_r 80, rv_i 26 40, rv_i 25 25], [rv_r 80], [((80, 2), 25, 1500000025, [((80, 2), 25, 25)])]), [626], 304, [], []),
  (19, ([rv_r 80, rv_i 27 40, rv_i 26 26], [rv_r 80], [((80, 2), 26, 1500000026, [((80, 2), 26, 26)])]), [627], 283, [], []),
  (19, ([rv_r 80, rv_i 28 40, rv_i 27 27], [rv_r 80], [((80, 2), 27, 1500000027, [((80, 2), 27, 27)])]), [628], 262, [], []),
  (19, ([rv_r 80, rv_i 29 40, rv_i 28 28], [rv_r 80], [((80, 2), 28, 1500000028, [((80, 2), 28, 28)])]), [629], 241, [], []),
  (19, ([rv_r 80, rv_i 30 40, rv_i 29 29], [rv_r 80], [((80, 2), 29, 1500000029, [((80, 2), 29, 29)])]), [630], 220, [], []),
  (19, ([rv_r 80, rv_i 4 40, rv_i 3 3], [rv_r 80], [((80, 2), 3, 1500000003, [((80, 2), 3, 3)])]), [631], 766, [], [])]
def n_X8_goesOn_0_37 : List rv_N := [
  (19, ([rv_r 80, rv_i 31 40, rv_i 30 30], [rv_r 80], [((80, 2), 30, 1500000030, [((80, 2), 30, 30)])]), [632], 199, [], []),
  (19, ([rv_r 80, rv_i 32 40, rv_i 31 31], [rv_r 80], [((80, 2), 31, 1500000031, [((80, 2), 31, 31)])]), [633], 178, [], []),
  (19, ([rv_r 80, rv_i 33 40, rv_i 32 32], [rv_r 80], [((80, 2), 32, 1500000032, [((80, 2), 32, 32)])]), [634], 157, [], []),
  (19, ([rv_r 80, rv_i 34 40, rv_i 33 33], [rv_r 80], [((80, 2), 33, 1500000033, [((80, 2), 33, 33)])]), [635], 136, [], []),
  (19, ([rv_r 80, rv_i 35 40, rv_i 34 34], [rv_r 80], [((80, 2), 34, 1500000034, [((80, 2), 34, 34)])]), [636], 115, [], []),
  (19, ([rv_r 80, rv_i 36 40, rv_i 35 35], [rv_r 80], [((80, 2), 35, 1500000035, [((80, 2), 35, 35)])]), [637], 94, [], []),
  (19, ([rv_r 80, rv_i 37 40, rv_i 36 36], [rv_r 80], [((80, 2), 36, 1500000036, [((80, 2), 36, 36)])]), [638], 73, [], []),
  (19, ([rv_r 80, rv_i 38 40, rv_i 37 37], [rv_r 80], [((80, 2), 37, 1500000037, [((80, 2), 37, 37)])]), [639], 52, [], []),
  (19, ([rv_r 80, rv_i 39 40, rv_i 38 38], [rv_r 80], [((80, 2), 38, 1500000038, [((80, 2), 38, 38)])]), [640], 31, [], []),
  (19, ([rv_r 80, rv_i 40 40, rv_i 39 39], [rv_r 80], [((80, 2), 39, 1500000039, [((80, 2), 39, 39)])]), [641], 10, [], []),
  (19, ([rv_r 80, rv_i 5 40, rv_i 4 4], [rv_r 80], [((80, 2), 4, 1500000004, [((80, 2), 4, 4)])]), [642], 745, [], []),
  (19, ([rv_r 80, rv_i 6 40, rv_i 5 5], [rv_r 80], [((80, 2), 5, 1500000005, [((80, 2), 5, 5)])]), [643], 724, [], []),
  (19, ([rv_r 80, rv_i 7 40, rv_i 6 6], [rv_r 80], [((80, 2), 6, 1500000006, [((80, 2), 6, 6)])]), [644], 703, [], []),
  (19, ([rv_r 80, rv_i 8 40, rv_i 7 7], [rv_r 80], [((80, 2), 7, 1500000007, [((80, 2), 7, 7)])]), [645], 682, [], []),
  (19, ([rv_r 80, rv_i 9 40, rv_i 8 8], [rv_r 80], [((80, 2), 8, 1500000008, [((80, 2), 8, 8)])]), [646], 661, [], []),
  (19, ([rv_r 80, rv_i 10 40, rv_i 9 9], [rv_r 80], [((80, 2), 9, 1500000009, [((80, 2), 9, 9)])]), [647], 640, [], [])]
def n_X8_goesOn_0_38 : List rv_N := [
  (20, ([rv_r 80, rv_i 1 40, rv_i 0 0], [rv_r 80, rv_r 80], [((80, 2), 0, 1500000000, [((80, 2), 0, 0)]), ((80, 51), 0, 0, [])]), [648], 828, [], []),
  (20, ([rv_r 80, rv_i 2 40, rv_i 1 1], [rv_r 80, rv_r 80], [((80, 2), 1, 1500000001, [((80, 2), 1, 1)])]), [649], 807, [], []),
  (20, ([rv_r 80, rv_i 11 40, rv_i 10 10], [rv_r 80, rv_r 80], [((80, 2), 10, 1500000010, [((80, 2), 10, 10)])]), [650], 618, [], []),
  (20, ([rv_r 80, rv_i 12 40, rv_i 11 11], [rv_r 80, rv_r 80], [((80, 2), 11, 1500000011, [((80, 2), 11, 11)])]), [651], 597, [], []),
  (20, ([rv_r 80, rv_i 13 40, rv_i 12 12], [rv_r 80, rv_r 80], [((80, 2), 12, 1500000012, [((80, 2), 12, 12)])]), [652], 576, [], []),
  (20, ([rv_r 80, rv_i 14 40, rv_i 13 13], [rv_r 80, rv_r 80], [((80, 2), 13, 1500000013, [((80, 2), 13, 13)])]), [653], 555, [], []),
  (20, ([rv_r 80, rv_i 15 40, rv_i 14 14], [rv_r 80, rv_r 80], [((80, 2), 14, 1500000014, [((80, 2), 14, 14)])]), [654], 534, [], []),
  (20, ([rv_r 80, rv_i 16 40, rv_i 15 15], [rv_r 80, rv_r 80], [((80, 2), 15, 1500000015, [((80, 2), 15, 15)])]), [655], 513, [], []),
  (20, ([rv_r 80, rv_i 17 40, rv_i 16 16], [rv_r 80, rv_r 80], [((80, 2), 16, 1500000016, [((80, 2), 16, 16)])]), [656], 492, [], []),
  (20, ([rv_r 80, rv_i 18 40, rv_i 17 17], [rv_r 80, rv_r 80], [((80, 2), 17, 1500000017, [((80, 2), 17, 17)])]), [657], 471, [], []),
  (20, ([rv_r 80, rv_i 19 40, rv_i 18 18], [rv_r 80, rv_r 80], [((80, 2), 18, 1500000018, [((80, 2), 18, 18)])]), [658], 450, [], []),
  (20, ([rv_r 80, rv_i 20 40, rv_i 19 19], [rv_r 80, rv_r 80], [((80, 2), 19, 1500000019, [((80, 2), 19, 19)])]), [659], 429, [], []),
  (20, ([rv_r 80, rv_i 3 40, rv_i 2 2], [rv_r 80, rv_r 80], [((80, 2), 2, 1500000002, [((80, 2), 2, 2)])]), [660], 786, [], []),
  (20, ([rv_r 80, rv_i 21 40, rv_i 20 20], [rv_r 80, rv_r 80], [((80, 2), 20, 1500000020, [((80, 2), 20, 20)])]), [661], 408, [], []),
  (20, ([rv_r 80, rv_i 22 40, rv_i 21 21], [rv_r 80, rv_r 80], [((80, 2), 21, 1500000021, [((80, 2), 21, 21)])]), [662], 387, [], []),
  (20, ([rv_r 80, rv_i 23 40, rv_i 22 22], [rv_r 80, rv_r 80], [((80, 2), 22, 1500000022, [((80, 2), 22, 22)])]), [663], 366, [], [])]
def n_X8_goesOn_0_39 : List rv_N := [
  (20, ([rv_r 80, rv_i 24 40, rv_i 23 23], [rv_r 80, rv_r 80], [((80, 2), 23, 1500000023, [((80, 2), 23, 23)])]), [664], 345, [], []),
  (20, ([rv_r 80, rv_i 25 40, rv_i 24 24], [rv_r 80, rv_r 80], [((80, 2), 24, 1500000024, [((80, 2), 24, 24)])]), [665], 324, [], []),
  (20, ([rv_r 80, rv_i 26 40, rv_i 25 25], [rv_r 80, rv_r 80], [((80, 2), 25, 1500000025, [((80, 2), 25, 25)])]), [666], 303, [], []),
  (20, ([rv_r 80, rv_i 27 40, rv_i 26 26], [rv_r 80, rv_r 80], [((80, 2), 26, 1500000026, [((80, 2), 26, 26)])]), [667], 282, [], []),
  (20, ([rv_r 80, rv_i 28 40, rv_i 27 27], [rv_r 80, rv_r 80], [((80, 2), 27, 1500000027, [((80, 2), 27, 27)])]), [668], 261, [], []),
  (20, ([rv_r 80, rv_i 29 40, rv_i 28 28], [rv_r 80, rv_r 80], [((80, 2), 28, 1500000028, [((80, 2), 28, 28)])]), [669], 240, [], []),
  (20, ([rv_r 80, rv_i 30 40, rv_i 29 29], [rv_r 80, rv_r 80], [((80, 2), 29, 1500000029, [((80, 2), 29, 29)])]), [670], 219, [], []),
  (20, ([rv_r 80, rv_i 4 40, rv_i 3 3], [rv_r 80, rv_r 80], [((80, 2), 3, 1500000003, [((80, 2), 3, 3)])]), [671], 765, [], []),
  (20, ([rv_r 80, rv_i 31 40, rv_i 30 30], [rv_r 80, rv_r 80], [((80, 2), 30, 1500000030, [((80, 2), 30, 30)])]), [672], 198, [], []),
  (20, ([rv_r 80, rv_i 32 40, rv_i 31 31], [rv_r 80, rv_r 80], [((80, 2), 31, 1500000031, [((80, 2), 31, 31)])]), [673], 177, [], []),
  (20, ([rv_r 80, rv_i 33 40, rv_i 32 32], [rv_r 80, rv_r 80], [((80, 2), 32, 1500000032, [((80, 2), 32, 32)])]), [674], 156, [], []),
  (20, ([rv_r 80, rv_i 34 40, rv_i 33 33], [rv_r 80, rv_r 80], [((80, 2), 33, 1500000033, [((80, 2), 33, 33)])]), [675], 135, [], []),
  (20, ([rv_r 80, rv_i 35 40, rv_i 34 34], [rv_r 80, rv_r 80], [((80, 2), 34, 1500000034, [((80, 2), 34, 34)])]), [676], 114, [], []),
  (20, ([rv_r 80, rv_i 36 40, rv_i 35 35], [rv_r 80, rv_r 80], [((80, 2), 35, 1500000035, [((80, 2), 35, 35)])]), [677], 93, [], []),
  (20, ([rv_r 80, rv_i 37 40, rv_i 36 36], [rv_r 80, rv_r 80], [((80, 2), 36, 1500000036, [((80, 2), 36, 36)])]), [678], 72, [], []),
  (20, ([rv_r 80, rv_i 38 40, rv_i 37 37], [rv_r 80, rv_r 80], [((80, 2), 37, 1500000037, [((80, 2), 37, 37)])]), [679], 51, [], [])]
def n_X8_goesOn_0_40 : List rv_N := [
  (20, ([rv_r 80, rv_i 39 40, rv_i 38 38], [rv_r 80, rv_r 80], [((80, 2), 38, 1500000038, [((80, 2), 38, 38)])]), [680], 30, [], []),
  (20, ([rv_r 80, rv_i 40 40, rv_i 39 39], [rv_r 80, rv_r 80], [((80, 2), 39, 1500000039, [((80, 2), 39, 39)])]), [681], 9, [], []),
  (20, ([rv_r 80, rv_i 5 40, rv_i 4 4], [rv_r 80, rv_r 80], [((80, 2), 4, 1500000004, [((80, 2), 4, 4)])]), [682], 744, [], []),
  (20, ([rv_r 80, rv_i 6 40, rv_i 5 5], [rv_r 80, rv_r 80], [((80, 2), 5, 1500000005, [((80, 2), 5, 5)])]), [683], 723, [], []),
  (20, ([rv_r 80, rv_i 7 40, rv_i 6 6], [rv_r 80, rv_r 80], [((80, 2), 6, 1500000006, [((80, 2), 6, 6)])]), [684], 702, [], []),
  (20, ([rv_r 80, rv_i 8 40, rv_i 7 7], [rv_r 80, rv_r 80], [((80, 2), 7, 1500000007, [((80, 2), 7, 7)])]), [685], 681, [], []),
  (20, ([rv_r 80, rv_i 9 40, rv_i 8 8], [rv_r 80, rv_r 80], [((80, 2), 8, 1500000008, [((80, 2), 8, 8)])]), [686], 660, [], []),
  (20, ([rv_r 80, rv_i 10 40, rv_i 9 9], [rv_r 80, rv_r 80], [((80, 2), 9, 1500000009, [((80, 2), 9, 9)])]), [687], 639, [], []),
  (21, ([rv_r 80, rv_i 1 40, rv_i 0 0], [(1, 0, (-2147483648), 2147483647, [(.inr (80, 3), 0)], []), rv_r 80], [((80, 2), 0, 1500000000, [((80, 2), 0, 0)]), ((80, 51), 0, 0, [])]), [688], 827, [], []),
  (21, ([rv_r 80, rv_i 2 40, rv_i 1 1], [(1, 0, (-2147483648), 2147483647, [(.inr (80, 3), 0)], []), rv_r 80], [((80, 2), 1, 1500000001, [((80, 2), 1, 1)])]), [689], 806, [], []),
  (21, ([rv_r 80, rv_i 11 40, rv_i 10 10], [(1, 0, (-2147483648), 2147483647, [(.inr (80, 3), 0)], []), rv_r 80], [((80, 2), 10, 1500000010, [((80, 2), 10, 10)])]), [690], 617, [], []),
  (21, ([rv_r 80, rv_i 12 40, rv_i 11 11], [(1, 0, (-2147483648), 2147483647, [(.inr (80, 3), 0)], []), rv_r 80], [((80, 2), 11, 1500000011, [((80, 2), 11, 11)])]), [691], 596, [], []),
  (21, ([rv_r 80, rv_i 13 40, rv_i 12 12], [(1, 0, (-2147483648), 2147483647, [(.inr (80, 3), 0)], []), rv_r 80], [((80, 2), 12, 1500000012, [((80, 2), 12, 12)])]), [692], 575, [], []),
  (21, ([rv_r 80, rv_i 14 40, rv_i 13 13], [(1, 0, (-2147483648), 2147483647, [(.inr (80, 3), 0)], []), rv_r 80], [((80, 2), 13, 1500000013, [((80, 2), 13, 13)])]), [693], 554, [], []),
  (21, ([rv_r 80, rv_i 15 40, rv_i 14 14], [(1, 0, (-2147483648), 2147483647, [(.inr (80, 3), 0)], []), rv_r 80], [((80, 2), 14, 1500000014, [((80, 2), 14, 14)])]), [694], 533, [], []),
  (21, ([rv_r 80, rv_i 16 40, rv_i 15 15], [(1, 0, (-2147483648), 2147483647, [(.inr (80, 3), 0)], []), rv_r 80], [((80, 2), 15, 1500000015, [((80, 2), 15, 15)])]), [695], 512, [], [])]
def n_X8_goesOn_0_41 : List rv_N := [
  (21, ([rv_r 80, rv_i 17 40, rv_i 16 16], [(1, 0, (-2147483648), 2147483647, [(.inr (80, 3), 0)], []), rv_r 80], [((80, 2), 16, 1500000016, [((80, 2), 16, 16)])]), [696], 491, [], []),
  (21, ([rv_r 80, rv_i 18 40, rv_i 17 17], [(1, 0, (-2147483648), 2147483647, [(.inr (80, 3), 0)], []), rv_r 80], [((80, 2), 17, 1500000017, [((80, 2), 17, 17)])]), [697], 470, [], []),
  (21, ([rv_r 80, rv_i 19 40, rv_i 18 18], [(1, 0, (-2147483648), 2147483647, [(.inr (80, 3), 0)], []), rv_r 80], [((80, 2), 18, 1500000018, [((80, 2), 18, 18)])]), [698], 449, [], []),
  (21, ([rv_r 80, rv_i 20 40, rv_i 19 19], [(1, 0, (-2147483648), 2147483647, [(.inr (80, 3), 0)], []), rv_r 80], [((80, 2), 19, 1500000019, [((80, 2), 19, 19)])]), [699], 428, [], []),
  (21, ([rv_r 80, rv_i 3 40, rv_i 2 2], [(1, 0, (-2147483648), 2147483647, [(.inr (80, 3), 0)], []), rv_r 80], [((80, 2), 2, 1500000002, [((80, 2), 2, 2)])]), [700], 785, [], []),
  (21, ([rv_r 80, rv_i 21 40, rv_i 20 20], [(1, 0, (-2147483648), 2147483647, [(.inr (80, 3), 0)], []), rv_r 80], [((80, 2), 20, 1500000020, [((80, 2), 20, 20)])]), [701], 407, [], []),
  (21, ([rv_r 80, rv_i 22 40, rv_i 21 21], [(1, 0, (-2147483648), 2147483647, [(.inr (80, 3), 0)], []), rv_r 80], [((80, 2), 21, 1500000021, [((80, 2), 21, 21)])]), [702], 386, [], []),
  (21, ([rv_r 80, rv_i 23 40, rv_i 22 22], [(1, 0, (-2147483648), 2147483647, [(.inr (80, 3), 0)], []), rv_r 80], [((80, 2), 22, 1500000022, [((80, 2), 22, 22)])]), [703], 365, [], []),
  (21, ([rv_r 80, rv_i 24 40, rv_i 23 23], [(1, 0, (-2147483648), 2147483647, [(.inr (80, 3), 0)], []), rv_r 80], [((80, 2), 23, 1500000023, [((80, 2), 23, 23)])]), [704], 344, [], []),
  (21, ([rv_r 80, rv_i 25 40, rv_i 24 24], [(1, 0, (-2147483648), 2147483647, [(.inr (80, 3), 0)], []), rv_r 80], [((80, 2), 24, 1500000024, [((80, 2), 24, 24)])]), [705], 323, [], []),
  (21, ([rv_r 80, rv_i 26 40, rv_i 25 25], [(1, 0, (-2147483648), 2147483647, [(.inr (80, 3), 0)], []), rv_r 80], [((80, 2), 25, 1500000025, [((80, 2), 25, 25)])]), [706], 302, [], []),
  (21, ([rv_r 80, rv_i 27 40, rv_i 26 26], [(1, 0, (-2147483648), 2147483647, [(.inr (80, 3), 0)], []), rv_r 80], [((80, 2), 26, 1500000026, [((80, 2), 26, 26)])]), [707], 281, [], []),
  (21, ([rv_r 80, rv_i 28 40, rv_i 27 27], [(1, 0, (-2147483648), 2147483647, [(.inr (80, 3), 0)], []), rv_r 80], [((80, 2), 27, 1500000027, [((80, 2), 27, 27)])]), [708], 260, [], []),
  (21, ([rv_r 80, rv_i 29 40, rv_i 28 28], [(1, 0, (-2147483648), 2147483647, [(.inr (80, 3), 0)], []), rv_r 80], [((80, 2), 28, 1500000028, [((80, 2), 28, 28)])]), [709], 239, [], []),
  (21, ([rv_r 80, rv_i 30 40, rv_i 29 29], [(1, 0, (-2147483648), 2147483647, [(.inr (80, 3), 0)], []), rv_r 80], [((80, 2), 29, 1500000029, [((80, 2), 29, 29)])]), [710], 218, [], []),
  (21, ([rv_r 80, rv_i 4 40, rv_i 3 3], [(1, 0, (-2147483648), 2147483647, [(.inr (80, 3), 0)], []), rv_r 80], [((80, 2), 3, 1500000003, [((80, 2), 3, 3)])]), [711], 764, [], [])]
def n_X8_goesOn_0_42 : List rv_N := [
  (21, ([rv_r 80, rv_i 31 40, rv_i 30 30], [(1, 0, (-2147483648), 2147483647, [(.inr (80, 3), 0)], []), rv_r 80], [((80, 2), 30, 1500000030, [((80, 2), 30, 30)])]), [712], 197, [], []),
  (21, ([rv_r 80, rv_i 32 40, rv_i 31 31], [(1, 0, (-2147483648), 2147483647, [(.inr (80, 3), 0)], []), rv_r 80], [((80, 2), 31, 1500000031, [((80, 2), 31, 31)])]), [713], 176, [], []),
  (21, ([rv_r 80, rv_i 33 40, rv_i 32 32], [(1, 0, (-2147483648), 2147483647, [(.inr (80, 3), 0)], []), rv_r 80], [((80, 2), 32, 1500000032, [((80, 2), 32, 32)])]), [714], 155, [], []),
  (21, ([rv_r 80, rv_i 34 40, rv_i 33 33], [(1, 0, (-2147483648), 2147483647, [(.inr (80, 3), 0)], []), rv_r 80], [((80, 2), 33, 1500000033, [((80, 2), 33, 33)])]), [715], 134, [], []),
  (21, ([rv_r 80, rv_i 35 40, rv_i 34 34], [(1, 0, (-2147483648), 2147483647, [(.inr (80, 3), 0)], []), rv_r 80], [((80, 2), 34, 1500000034, [((80, 2), 34, 34)])]), [716], 113, [], []),
  (21, ([rv_r 80, rv_i 36 40, rv_i 35 35], [(1, 0, (-2147483648), 2147483647, [(.inr (80, 3), 0)], []), rv_r 80], [((80, 2), 35, 1500000035, [((80, 2), 35, 35)])]), [717], 92, [], []),
  (21, ([rv_r 80, rv_i 37 40, rv_i 36 36], [(1, 0, (-2147483648), 2147483647, [(.inr (80, 3), 0)], []), rv_r 80], [((80, 2), 36, 1500000036, [((80, 2), 36, 36)])]), [718], 71, [], []),
  (21, ([rv_r 80, rv_i 38 40, rv_i 37 37], [(1, 0, (-2147483648), 2147483647, [(.inr (80, 3), 0)], []), rv_r 80], [((80, 2), 37, 1500000037, [((80, 2), 37, 37)])]), [719], 50, [], []),
  (21, ([rv_r 80, rv_i 39 40, rv_i 38 38], [(1, 0, (-2147483648), 2147483647, [(.inr (80, 3), 0)], []), rv_r 80], [((80, 2), 38, 1500000038, [((80, 2), 38, 38)])]), [720], 29, [], []),
  (21, ([rv_r 80, rv_i 40 40, rv_i 39 39], [(1, 0, (-2147483648), 2147483647, [(.inr (80, 3), 0)], []), rv_r 80], [((80, 2), 39, 1500000039, [((80, 2), 39, 39)])]), [721], 8, [], []),
  (21, ([rv_r 80, rv_i 5 40, rv_i 4 4], [(1, 0, (-2147483648), 2147483647, [(.inr (80, 3), 0)], []), rv_r 80], [((80, 2), 4, 1500000004, [((80, 2), 4, 4)])]), [722], 743, [], []),
  (21, ([rv_r 80, rv_i 6 40, rv_i 5 5], [(1, 0, (-2147483648), 2147483647, [(.inr (80, 3), 0)], []), rv_r 80], [((80, 2), 5, 1500000005, [((80, 2), 5, 5)])]), [723], 722, [], []),
  (21, ([rv_r 80, rv_i 7 40, rv_i 6 6], [(1, 0, (-2147483648), 2147483647, [(.inr (80, 3), 0)], []), rv_r 80], [((80, 2), 6, 1500000006, [((80, 2), 6, 6)])]), [724], 701, [], []),
  (21, ([rv_r 80, rv_i 8 40, rv_i 7 7], [(1, 0, (-2147483648), 2147483647, [(.inr (80, 3), 0)], []), rv_r 80], [((80, 2), 7, 1500000007, [((80, 2), 7, 7)])]), [725], 680, [], []),
  (21, ([rv_r 80, rv_i 9 40, rv_i 8 8], [(1, 0, (-2147483648), 2147483647, [(.inr (80, 3), 0)], []), rv_r 80], [((80, 2), 8, 1500000008, [((80, 2), 8, 8)])]), [726], 659, [], []),
  (21, ([rv_r 80, rv_i 10 40, rv_i 9 9], [(1, 0, (-2147483648), 2147483647, [(.inr (80, 3), 0)], []), rv_r 80], [((80, 2), 9, 1500000009, [((80, 2), 9, 9)])]), [727], 638, [], [])]
def n_X8_goesOn_0_43 : List rv_N := [
  (22, ([rv_r 80, rv_i 1 40, rv_i 0 0], [rv_i 10 10, (1, 0, (-2147483648), 2147483647, [(.inr (80, 3), 0)], []), rv_r 80], [((80, 2), 0, 1500000000, [((80, 2), 0, 0)]), ((80, 51), 0, 0, [])]), [728], 826, [], []),
  (22, ([rv_r 80, rv_i 2 40, rv_i 1 1], [rv_i 10 10, (1, 0, (-2147483648), 2147483647, [(.inr (80, 3), 0)], []), rv_r 80], [((80, 2), 1, 1500000001, [((80, 2), 1, 1)])]), [729], 805, [], []),
  (22, ([rv_r 80, rv_i 11 40, rv_i 10 10], [rv_i 10 10, (1, 0, (-2147483648), 2147483647, [(.inr (80, 3), 0)], []), rv_r 80], [((80, 2), 10, 1500000010, [((80, 2), 10, 10)])]), [730], 616, [], []),
  (22, ([rv_r 80, rv_i 12 40, rv_i 11 11], [rv_i 10 10, (1, 0, (-2147483648), 2147483647, [(.inr (80, 3), 0)], []), rv_r 80], [((80, 2), 11, 1500000011, [((80, 2), 11, 11)])]), [731], 595, [], []),
  (22, ([rv_r 80, rv_i 13 40, rv_i 12 12], [rv_i 10 10, (1, 0, (-2147483648), 2147483647, [(.inr (80, 3), 0)], []), rv_r 80], [((80, 2), 12, 1500000012, [((80, 2), 12, 12)])]), [732], 574, [], []),
  (22, ([rv_r 80, rv_i 14 40, rv_i 13 13], [rv_i 10 10, (1, 0, (-2147483648), 2147483647, [(.inr (80, 3), 0)], []), rv_r 80], [((80, 2), 13, 1500000013, [((80, 2), 13, 13)])]), [733], 553, [], []),
  (22, ([rv_r 80, rv_i 15 40, rv_i 14 14], [rv_i 10 10, (1, 0, (-2147483648), 2147483647, [(.inr (80, 3), 0)], []), rv_r 80], [((80, 2), 14, 1500000014, [((80, 2), 14, 14)])]), [734], 532, [], []),
  (22, ([rv_r 80, rv_i 16 40, rv_i 15 15], [rv_i 10 10, (1, 0, (-2147483648), 2147483647, [(.inr (80, 3), 0)], []), rv_r 80], [((80, 2), 15, 1500000015, [((80, 2), 15, 15)])]), [735], 511, [], []),
  (22, ([rv_r 80, rv_i 17 40, rv_i 16 16], [rv_i 10 10, (1, 0, (-2147483648), 2147483647, [(.inr (80, 3), 0)], []), rv_r 80], [((80, 2), 16, 1500000016, [((80, 2), 16, 16)])]), [736], 490, [], []),
  (22, ([rv_r 80, rv_i 18 40, rv_i 17 17], [rv_i 10 10, (1, 0, (-2147483648), 2147483647, [(.inr (80, 3), 0)], []), rv_r 80], [((80, 2), 17, 1500000017, [((80, 2), 17, 17)])]), [737], 469, [], []),
  (22, ([rv_r 80, rv_i 19 40, rv_i 18 18], [rv_i 10 10, (1, 0, (-2147483648), 2147483647, [(.inr (80, 3), 0)], []), rv_r 80], [((80, 2), 18, 1500000018, [((80, 2), 18, 18)])]), [738], 448, [], []),
  (22, ([rv_r 80, rv_i 20 40, rv_i 19 19], [rv_i 10 10, (1, 0, (-2147483648), 2147483647, [(.inr (80, 3), 0)], []), rv_r 80], [((80, 2), 19, 1500000019, [((80, 2), 19, 19)])]), [739], 427, [], []),
  (22, ([rv_r 80, rv_i 3 40, rv_i 2 2], [rv_i 10 10, (1, 0, (-2147483648), 2147483647, [(.inr (80, 3), 0)], []), rv_r 80], [((80, 2), 2, 1500000002, [((80, 2), 2, 2)])]), [740], 784, [], []),
  (22, ([rv_r 80, rv_i 21 40, rv_i 20 20], [rv_i 10 10, (1, 0, (-2147483648), 2147483647, [(.inr (80, 3), 0)], []), rv_r 80], [((80, 2), 20, 1500000020, [((80, 2), 20, 20)])]), [741], 406, [], []),
  (22, ([rv_r 80, rv_i 22 40, rv_i 21 21], [rv_i 10 10, (1, 0, (-2147483648), 2147483647, [(.inr (80, 3), 0)], []), rv_r 80], [((80, 2), 21, 1500000021, [((80, 2), 21, 21)])]), [742], 385, [], []),
  (22, ([rv_r 80, rv_i 23 40, rv_i 22 22], [rv_i 10 10, (1, 0, (-2147483648), 2147483647, [(.inr (80, 3), 0)], []), rv_r 80], [((80, 2), 22, 1500000022, [((80, 2), 22, 22)])]), [743], 364, [], [])]
def n_X8_goesOn_0_44 : List rv_N := [
  (22, ([rv_r 80, rv_i 24 40, rv_i 23 23], [rv_i 10 10, (1, 0, (-2147483648), 2147483647, [(.inr (80, 3), 0)], []), rv_r 80], [((80, 2), 23, 1500000023, [((80, 2), 23, 23)])]), [744], 343, [], []),
  (22, ([rv_r 80, rv_i 25 40, rv_i 24 24], [rv_i 10 10, (1, 0, (-2147483648), 2147483647, [(.inr (80, 3), 0)], []), rv_r 80], [((80, 2), 24, 1500000024, [((80, 2), 24, 24)])]), [745], 322, [], []),
  (22, ([rv_r 80, rv_i 26 40, rv_i 25 25], [rv_i 10 10, (1, 0, (-2147483648), 2147483647, [(.inr (80, 3), 0)], []), rv_r 80], [((80, 2), 25, 1500000025, [((80, 2), 25, 25)])]), [746], 301, [], []),
  (22, ([rv_r 80, rv_i 27 40, rv_i 26 26], [rv_i 10 10, (1, 0, (-2147483648), 2147483647, [(.inr (80, 3), 0)], []), rv_r 80], [((80, 2), 26, 1500000026, [((80, 2), 26, 26)])]), [747], 280, [], []),
  (22, ([rv_r 80, rv_i 28 40, rv_i 27 27], [rv_i 10 10, (1, 0, (-2147483648), 2147483647, [(.inr (80, 3), 0)], []), rv_r 80], [((80, 2), 27, 1500000027, [((80, 2), 27, 27)])]), [748], 259, [], []),
  (22, ([rv_r 80, rv_i 29 40, rv_i 28 28], [rv_i 10 10, (1, 0, (-2147483648), 2147483647, [(.inr (80, 3), 0)], []), rv_r 80], [((80, 2), 28, 1500000028, [((80, 2), 28, 28)])]), [749], 238, [], []),
  (22, ([rv_r 80, rv_i 30 40, rv_i 29 29], [rv_i 10 10, (1, 0, (-2147483648), 2147483647, [(.inr (80, 3), 0)], []), rv_r 80], [((80, 2), 29, 1500000029, [((80, 2), 29, 29)])]), [750], 217, [], []),
  (22, ([rv_r 80, rv_i 4 40, rv_i 3 3], [rv_i 10 10, (1, 0, (-2147483648), 2147483647, [(.inr (80, 3), 0)], []), rv_r 80], [((80, 2), 3, 1500000003, [((80, 2), 3, 3)])]), [751], 763, [], []),
  (22, ([rv_r 80, rv_i 31 40, rv_i 30 30], [rv_i 10 10, (1, 0, (-2147483648), 2147483647, [(.inr (80, 3), 0)], []), rv_r 80], [((80, 2), 30, 1500000030, [((80, 2), 30, 30)])]), [752], 196, [], []),
  (22, ([rv_r 80, rv_i 32 40, rv_i 31 31], [rv_i 10 10, (1, 0, (-2147483648), 2147483647, [(.inr (80, 3), 0)], []), rv_r 80], [((80, 2), 31, 1500000031, [((80, 2), 31, 31)])]), [753], 175, [], []),
  (22, ([rv_r 80, rv_i 33 40, rv_i 32 32], [rv_i 10 10, (1, 0, (-2147483648), 2147483647, [(.inr (80, 3), 0)], []), rv_r 80], [((80, 2), 32, 1500000032, [((80, 2), 32, 32)])]), [754], 154, [], []),
  (22, ([rv_r 80, rv_i 34 40, rv_i 33 33], [rv_i 10 10, (1, 0, (-2147483648), 2147483647, [(.inr (80, 3), 0)], []), rv_r 80], [((80, 2), 33, 1500000033, [((80, 2), 33, 33)])]), [755], 133, [], []),
  (22, ([rv_r 80, rv_i 35 40, rv_i 34 34], [rv_i 10 10, (1, 0, (-2147483648), 2147483647, [(.inr (80, 3), 0)], []), rv_r 80], [((80, 2), 34, 1500000034, [((80, 2), 34, 34)])]), [756], 112, [], []),
  (22, ([rv_r 80, rv_i 36 40, rv_i 35 35], [rv_i 10 10, (1, 0, (-2147483648), 2147483647, [(.inr (80, 3), 0)], []), rv_r 80], [((80, 2), 35, 1500000035, [((80, 2), 35, 35)])]), [757], 91, [], []),
  (22, ([rv_r 80, rv_i 37 40, rv_i 36 36], [rv_i 10 10, (1, 0, (-2147483648), 2147483647, [(.inr (80, 3), 0)], []), rv_r 80], [((80, 2), 36, 1500000036, [((80, 2), 36, 36)])]), [758], 70, [], []),
  (22, ([rv_r 80, rv_i 38 40, rv_i 37 37], [rv_i 10 10, (1, 0, (-2147483648), 2147483647, [(.inr (80, 3), 0)], []), rv_r 80], [((80, 2), 37, 1500000037, [((80, 2), 37, 37)])]), [759], 49, [], [])]
def n_X8_goesOn_0_45 : List rv_N := [
  (22, ([rv_r 80, rv_i 39 40, rv_i 38 38], [rv_i 10 10, (1, 0, (-2147483648), 2147483647, [(.inr (80, 3), 0)], []), rv_r 80], [((80, 2), 38, 1500000038, [((80, 2), 38, 38)])]), [760], 28, [], []),
  (22, ([rv_r 80, rv_i 40 40, rv_i 39 39], [rv_i 10 10, (1, 0, (-2147483648), 2147483647, [(.inr (80, 3), 0)], []), rv_r 80], [((80, 2), 39, 1500000039, [((80, 2), 39, 39)])]), [761], 7, [], []),
  (22, ([rv_r 80, rv_i 5 40, rv_i 4 4], [rv_i 10 10, (1, 0, (-2147483648), 2147483647, [(.inr (80, 3), 0)], []), rv_r 80], [((80, 2), 4, 1500000004, [((80, 2), 4, 4)])]), [762], 742, [], []),
  (22, ([rv_r 80, rv_i 6 40, rv_i 5 5], [rv_i 10 10, (1, 0, (-2147483648), 2147483647, [(.inr (80, 3), 0)], []), rv_r 80], [((80, 2), 5, 1500000005, [((80, 2), 5, 5)])]), [763], 721, [], []),
  (22, ([rv_r 80, rv_i 7 40, rv_i 6 6], [rv_i 10 10, (1, 0, (-2147483648), 2147483647, [(.inr (80, 3), 0)], []), rv_r 80], [((80, 2), 6, 1500000006, [((80, 2), 6, 6)])]), [764], 700, [], []),
  (22, ([rv_r 80, rv_i 8 40, rv_i 7 7], [rv_i 10 10, (1, 0, (-2147483648), 2147483647, [(.inr (80, 3), 0)], []), rv_r 80], [((80, 2), 7, 1500000007, [((80, 2), 7, 7)])]), [765], 679, [], []),
  (22, ([rv_r 80, rv_i 9 40, rv_i 8 8], [rv_i 10 10, (1, 0, (-2147483648), 2147483647, [(.inr (80, 3), 0)], []), rv_r 80], [((80, 2), 8, 1500000008, [((80, 2), 8, 8)])]), [766], 658, [], []),
  (22, ([rv_r 80, rv_i 10 40, rv_i 9 9], [rv_i 10 10, (1, 0, (-2147483648), 2147483647, [(.inr (80, 3), 0)], []), rv_r 80], [((80, 2), 9, 1500000009, [((80, 2), 9, 9)])]), [767], 637, [], []),
  (23, ([rv_r 80, rv_i 1 40, rv_i 0 0], [rv_full, rv_r 80], [((80, 2), 0, 1500000000, [((80, 2), 0, 0)]), ((80, 51), 0, 0, [])]), [768], 825, [], [0]),
  (23, ([rv_r 80, rv_i 2 40, rv_i 1 1], [rv_full, rv_r 80], [((80, 2), 1, 1500000001, [((80, 2), 1, 1)])]), [769], 804, [], [0]),
  (23, ([rv_r 80, rv_i 11 40, rv_i 10 10], [rv_full, rv_r 80], [((80, 2), 10, 1500000010, [((80, 2), 10, 10)])]), [770], 615, [], [0]),
  (23, ([rv_r 80, rv_i 12 40, rv_i 11 11], [rv_full, rv_r 80], [((80, 2), 11, 1500000011, [((80, 2), 11, 11)])]), [771], 594, [], [0]),
  (23, ([rv_r 80, rv_i 13 40, rv_i 12 12], [rv_full, rv_r 80], [((80, 2), 12, 1500000012, [((80, 2), 12, 12)])]), [772], 573, [], [0]),
  (23, ([rv_r 80, rv_i 14 40, rv_i 13 13], [rv_full, rv_r 80], [((80, 2), 13, 1500000013, [((80, 2), 13, 13)])]), [773], 552, [], [0]),
  (23, ([rv_r 80, rv_i 15 40, rv_i 14 14], [rv_full, rv_r 80], [((80, 2), 14, 1500000014, [((80, 2), 14, 14)])]), [774], 531, [], [0]),
  (23, ([rv_r 80, rv_i 16 40, rv_i 15 15], [rv_full, rv_r 80], [((80, 2), 15, 1500000015, [((80, 2), 15, 15)])]), [775], 510, [], [0])]
def n_X8_goesOn_0_46 : List rv_N := [
  (23, ([rv_r 80, rv_i 17 40, rv_i 16 16], [rv_full, rv_r 80], [((80, 2), 16, 1500000016, [((80, 2), 16, 16)])]), [776], 489, [], [0]),
  (23, ([rv_r 80, rv_i 18 40, rv_i 17 17], [rv_full, rv_r 80], [((80, 2), 17, 1500000017, [((80, 2), 17, 17)])]), [777], 468, [], [0]),
  (23, ([rv_r 80, rv_i 19 40, rv_i 18 18], [rv_full, rv_r 80], [((80, 2), 18, 1500000018, [((80, 2), 18, 18)])]), [778], 447, [], [0]),
  (23, ([rv_r 80, rv_i 20 40, rv_i 19 19], [rv_full, rv_r 80], [((80, 2), 19, 1500000019, [((80, 2), 19, 19)])]), [779], 426, [], [0]),
  (23, ([rv_r 80, rv_i 3 40, rv_i 2 2], [rv_full, rv_r 80], [((80, 2), 2, 1500000002, [((80, 2), 2, 2)])]), [780], 783, [], [0]),
  (23, ([rv_r 80, rv_i 21 40, rv_i 20 20], [rv_full, rv_r 80], [((80, 2), 20, 1500000020, [((80, 2), 20, 20)])]), [781], 405, [], [0]),
  (23, ([rv_r 80, rv_i 22 40, rv_i 21 21], [rv_full, rv_r 80], [((80, 2), 21, 1500000021, [((80, 2), 21, 21)])]), [782], 384, [], [0]),
  (23, ([rv_r 80, rv_i 23 40, rv_i 22 22], [rv_full, rv_r 80], [((80, 2), 22, 1500000022, [((80, 2), 22, 22)])]), [783], 363, [], [0]),
  (23, ([rv_r 80, rv_i 24 40, rv_i 23 23], [rv_full, rv_r 80], [((80, 2), 23, 1500000023, [((80, 2), 23, 23)])]), [784], 342, [], [0]),
  (23, ([rv_r 80, rv_i 25 40, rv_i 24 24], [rv_full, rv_r 80], [((80, 2), 24, 1500000024, [((80, 2), 24, 24)])]), [785], 321, [], [0]),
  (23, ([rv_r 80, rv_i 26 40, rv_i 25 25], [rv_full, rv_r 80], [((80, 2), 25, 1500000025, [((80, 2), 25, 25)])]), [786], 300, [], [0]),
  (23, ([rv_r 80, rv_i 27 40, rv_i 26 26], [rv_full, rv_r 80], [((80, 2), 26, 1500000026, [((80, 2), 26, 26)])]), [787], 279, [], [0]),
  (23, ([rv_r 80, rv_i 28 40, rv_i 27 27], [rv_full, rv_r 80], [((80, 2), 27, 1500000027, [((80, 2), 27, 27)])]), [788], 258, [], [0]),
  (23, ([rv_r 80, rv_i 29 40, rv_i 28 28], [rv_full, rv_r 80], [((80, 2), 28, 1500000028, [((80, 2), 28, 28)])]), [789], 237, [], [0]),
  (23, ([rv_r 80, rv_i 30 40, rv_i 29 29], [rv_full, rv_r 80], [((80, 2), 29, 1500000029, [((80, 2), 29, 29)])]), [790], 216, [], [0]),
  (23, ([rv_r 80, rv_i 4 40, rv_i 3 3], [rv_full, rv_r 80], [((80, 2), 3, 1500000003, [((80, 2), 3, 3)])]), [791], 762, [], [0])]
def n_X8_goesOn_0_47 : List rv_N := [
  (23, ([rv_r 80, rv_i 31 40, rv_i 30 30], [rv_full, rv_r 80], [((80, 2), 30, 1500000030, [((80, 2), 30, 30)])]), [792], 195, [], [0]),
  (23, ([rv_r 80, rv_i 32 40, rv_i 31 31], [rv_full, rv_r 80], [((80, 2), 31, 1500000031, [((80, 2), 31, 31)])]), [793], 174, [], [0]),
  (23, ([rv_r 80, rv_i 33 40, rv_i 32 32], [rv_full, rv_r 80], [((80, 2), 32, 1500000032, [((80, 2), 32, 32)])]), [794], 153, [], [0]),
  (23, ([rv_r 80, rv_i 34 40, rv_i 33 33], [rv_full, rv_r 80], [((80, 2), 33, 1500000033, [((80, 2), 33, 33)])]), [795], 132, [], [0]),
  (23, ([rv_r 80, rv_i 35 40, rv_i 34 34], [rv_full, rv_r 80], [((80, 2), 34, 1500000034, [((80, 2), 34, 34)])]), [796], 111, [], [0]),
  (23, ([rv_r 80, rv_i 36 40, rv_i 35 35], [rv_full, rv_r 80], [((80, 2), 35, 1500000035, [((80, 2), 35, 35)])]), [797], 90, [], [0]),
  (23, ([rv_r 80, rv_i 37 40, rv_i 36 36], [rv_full, rv_r 80], [((80, 2), 36, 1500000036, [((80, 2), 36, 36)])]), [798], 69, [], [0]),
  (23, ([rv_r 80, rv_i 38 40, rv_i 37 37], [rv_full, rv_r 80], [((80, 2), 37, 1500000037, [((80, 2), 37, 37)])]), [799], 48, [], [0]),
  (23, ([rv_r 80, rv_i 39 40, rv_i 38 38], [rv_full, rv_r 80], [((80, 2), 38, 1500000038, [((80, 2), 38, 38)])]), [800], 27, [], [0]),
  (23, ([rv_r 80, rv_i 40 40, rv_i 39 39], [rv_full, rv_r 80], [((80, 2), 39, 1500000039, [((80, 2), 39, 39)])]), [801], 6, [], [0]),
  (23, ([rv_r 80, rv_i 5 40, rv_i 4 4], [rv_full, rv_r 80], [((80, 2), 4, 1500000004, [((80, 2), 4, 4)])]), [802], 741, [], [0]),
  (23, ([rv_r 80, rv_i 6 40, rv_i 5 5], [rv_full, rv_r 80], [((80, 2), 5, 1500000005, [((80, 2), 5, 5)])]), [803], 720, [], [0]),
  (23, ([rv_r 80, rv_i 7 40, rv_i 6 6], [rv_full, rv_r 80], [((80, 2), 6, 1500000006, [((80, 2), 6, 6)])]), [804], 699, [], [0]),
  (23, ([rv_r 80, rv_i 8 40, rv_i 7 7], [rv_full, rv_r 80], [((80, 2), 7, 1500000007, [((80, 2), 7, 7)])]), [805], 678, [], [0]),
  (23, ([rv_r 80, rv_i 9 40, rv_i 8 8], [rv_full, rv_r 80], [((80, 2), 8, 1500000008, [((80, 2), 8, 8)])]), [806], 657, [], [0]),
  (23, ([rv_r 80, rv_i 10 40, rv_i 9 9], [rv_full, rv_r 80], [((80, 2), 9, 1500000009, [((80, 2), 9, 9)])]), [807], 636, [], [0])]
def n_X8_goesOn_0_48 : List rv_N := [
  (24, ([rv_r 80, rv_i 1 40, rv_i 0 0], [], [((80, 2), 1, 1500000001, [((80, 2), 1, 1)])]), [808], 824, [], []),
  (24, ([rv_r 80, rv_i 2 40, rv_i 1 1], [], [((80, 2), 2, 1500000002, [((80, 2), 2, 2)])]), [819], 803, [], []),
  (24, ([rv_r 80, rv_i 11 40, rv_i 10 10], [], [((80, 2), 11, 1500000011, [((80, 2), 11, 11)])]), [810], 614, [], []),
  (24, ([rv_r 80, rv_i 12 40, rv_i 11 11], [], [((80, 2), 12, 1500000012, [((80, 2), 12, 12)])]), [811], 593, [], []),
  (24, ([rv_r 80, rv_i 13 40, rv_i 12 12], [], [((80, 2), 13, 1500000013, [((80, 2), 13, 13)])]), [812], 572, [], []),
  (24, ([rv_r 80, rv_i 14 40, rv_i 13 13], [], [((80, 2), 14, 1500000014, [((80, 2), 14, 14)])]), [813], 551, [], []),
  (24, ([rv_r 80, rv_i 15 40, rv_i 14 14], [], [((80, 2), 15, 1500000015, [((80, 2), 15, 15)])]), [814], 530, [], []),
  (24, ([rv_r 80, rv_i 16 40, rv_i 15 15], [], [((80, 2), 16, 1500000016, [((80, 2), 16, 16)])]), [815], 509, [], []),
  (24, ([rv_r 80, rv_i 17 40, rv_i 16 16], [], [((80, 2), 17, 1500000017, [((80, 2), 17, 17)])]), [816], 488, [], []),
  (24, ([rv_r 80, rv_i 18 40, rv_i 17 17], [], [((80, 2), 18, 1500000018, [((80, 2), 18, 18)])]), [817], 467, [], []),
  (24, ([rv_r 80, rv_i 19 40, rv_i 18 18], [], [((80, 2), 19, 1500000019, [((80, 2), 19, 19)])]), [818], 446, [], []),
  (24, ([rv_r 80, rv_i 20 40, rv_i 19 19], [], [((80, 2), 20, 1500000020, [((80, 2), 20, 20)])]), [820], 425, [], []),
  (24, ([rv_r 80, rv_i 3 40, rv_i 2 2], [], [((80, 2), 3, 1500000003, [((80, 2), 3, 3)])]), [830], 782, [], []),
  (24, ([rv_r 80, rv_i 21 40, rv_i 20 20], [], [((80, 2), 21, 1500000021, [((80, 2), 21, 21)])]), [821], 404, [], []),
  (24, ([rv_r 80, rv_i 22 40, rv_i 21 21], [], [((80, 2), 22, 1500000022, [((80, 2), 22, 22)])]), [822], 383, [], []),
  (24, ([rv_r 80, rv_i 23 40, rv_i 22 22], [], [((80, 2), 23, 1500000023, [((80, 2), 23, 23)])]), [823], 362, [], [])]
def n_X8_goesOn_0_49 : List rv_N := [
  (24, ([rv_r 80, rv_i 24 40, rv_i 23 23], [], [((80, 2), 24, 1500000024, [((80, 2), 24, 24)])]), [824], 341, [], []),
  (24, ([rv_r 80, rv_i 25 40, rv_i 24 24], [], [((80, 2), 25, 1500000025, [((80, 2), 25, 25)])]), [825], 320, [], []),
  (24, ([rv_r 80, rv_i 26 40, rv_i 25 25], [], [((80, 2), 26, 1500000026, [((80, 2), 26, 26)])]), [826], 299, [], []),
  (24, ([rv_r 80, rv_i 27 40, rv_i 26 26], [], [((80, 2), 27, 1500000027, [((80, 2), 27, 27)])]), [827], 278, [], []),
  (24, ([rv_r 80, rv_i 28 40, rv_i 27 27], [], [((80, 2), 28, 1500000028, [((80, 2), 28, 28)])]), [828], 257, [], []),
  (24, ([rv_r 80, rv_i 29 40, rv_i 28 28], [], [((80, 2), 29, 1500000029, [((80, 2), 29, 29)])]), [829], 236, [], []),
  (24, ([rv_r 80, rv_i 30 40, rv_i 29 29], [], [((80, 2), 30, 1500000030, [((80, 2), 30, 30)])]), [831], 215, [], []),
  (24, ([rv_r 80, rv_i 4 40, rv_i 3 3], [], [((80, 2), 4, 1500000004, [((80, 2), 4, 4)])]), [841], 761, [], []),
  (24, ([rv_r 80, rv_i 31 40, rv_i 30 30], [], [((80, 2), 31, 1500000031, [((80, 2), 31, 31)])]), [832], 194, [], []),
  (24, ([rv_r 80, rv_i 32 40, rv_i 31 31], [], [((80, 2), 32, 1500000032, [((80, 2), 32, 32)])]), [833], 173, [], []),
  (24, ([rv_r 80, rv_i 33 40, rv_i 32 32], [], [((80, 2), 33, 1500000033, [((80, 2), 33, 33)])]), [834], 152, [], []),
  (24, ([rv_r 80, rv_i 34 40, rv_i 33 33], [], [((80, 2), 34, 1500000034, [((80, 2), 34, 34)])]), [835], 131, [], []),
  (24, ([rv_r 80, rv_i 35 40, rv_i 34 34], [], [((80, 2), 35, 1500000035, [((80, 2), 35, 35)])]), [836], 110, [], []),
  (24, ([rv_r 80, rv_i 36 40, rv_i 35 35], [], [((80, 2), 36, 1500000036, [((80, 2), 36, 36)])]), [837], 89, [], []),
  (24, ([rv_r 80, rv_i 37 40, rv_i 36 36], [], [((80, 2), 37, 1500000037, [((80, 2), 37, 37)])]), [838], 68, [], []),
  (24, ([rv_r 80, rv_i 38 40, rv_i 37 37], [], [((80, 2), 38, 1500000038, [((80, 2), 38, 38)])]), [839], 47, [], [])]
def n_X8_goesOn_0_50 : List rv_N := [
  (24, ([rv_r 80, rv_i 39 40, rv_i 38 38], [], [((80, 2), 39, 1500000039, [((80, 2), 39, 39)])]), [840], 26, [], []),
  (24, ([rv_r 80, rv_i 40 40, rv_i 39 39], [], [((80, 2), 40, 1500000040, [((80, 2), 40, 40)])]), [842], 5, [], []),
  (24, ([rv_r 80, rv_i 5 40, rv_i 4 4], [], [((80, 2), 5, 1500000005, [((80, 2), 5, 5)])]), [843], 740, [], []),
  (24, ([rv_r 80, rv_i 6 40, rv_i 5 5], [], [((80, 2), 6, 1500000006, [((80, 2), 6, 6)])]), [844], 719, [], []),
  (24, ([rv_r 80, rv_i 7 40, rv_i 6 6], [], [((80, 2), 7, 1500000007, [((80, 2), 7, 7)])]), [845], 698, [], []),
  (24, ([rv_r 80, rv_i 8 40, rv_i 7 7], [], [((80, 2), 8, 1500000008, [((80, 2), 8, 8)])]), [846], 677, [], []),
  (24, ([rv_r 80, rv_i 9 40, rv_i 8 8], [], [((80, 2), 9, 1500000009, [((80, 2), 9, 9)])]), [847], 656, [], []),
  (24, ([rv_r 80, rv_i 10 40, rv_i 9 9], [], [((80, 2), 10, 1500000010, [((80, 2), 10, 10)])]), [809], 635, [], []),
  (25, ([rv_r 80, rv_i 1 40, rv_i 1 1], [], [((80, 2), 1, 1500000001, [((80, 2), 1, 1)])]), [6], 823, [], []),
  (25, ([rv_r 80, rv_i 10 40, rv_i 10 10], [], [((80, 2), 10, 1500000010, [((80, 2), 10, 10)])]), [7], 634, [], []),
  (25, ([rv_r 80, rv_i 11 40, rv_i 11 11], [], [((80, 2), 11, 1500000011, [((80, 2), 11, 11)])]), [8], 613, [], []),
  (25, ([rv_r 80, rv_i 12 40, rv_i 12 12], [], [((80, 2), 12, 1500000012, [((80, 2), 12, 12)])]), [9], 592, [], []),
  (25, ([rv_r 80, rv_i 13 40, rv_i 13 13], [], [((80, 2), 13, 1500000013, [((80, 2), 13, 13)])]), [10], 571, [], []),
  (25, ([rv_r 80, rv_i 14 40, rv_i 14 14], [], [((80, 2), 14, 1500000014, [((80, 2), 14, 14)])]), [11], 550, [], []),
  (25, ([rv_r 80, rv_i 15 40, rv_i 15 15], [], [((80, 2), 15, 1500000015, [((80, 2), 15, 15)])]), [12], 529, [], []),
  (25, ([rv_r 80, rv_i 16 40, rv_i 16 16], [], [((80, 2), 16, 1500000016, [((80, 2), 16, 16)])]), [13], 508, [], [])]
def n_X8_goesOn_0_51 : List rv_N := [
  (25, ([rv_r 80, rv_i 17 40, rv_i 17 17], [], [((80, 2), 17, 1500000017, [((80, 2), 17, 17)])]), [14], 487, [], []),
  (25, ([rv_r 80, rv_i 18 40, rv_i 18 18], [], [((80, 2), 18, 1500000018, [((80, 2), 18, 18)])]), [15], 466, [], []),
  (25, ([rv_r 80, rv_i 19 40, rv_i 19 19], [], [((80, 2), 19, 1500000019, [((80, 2), 19, 19)])]), [16], 445, [], []),
  (25, ([rv_r 80, rv_i 2 40, rv_i 2 2], [], [((80, 2), 2, 1500000002, [((80, 2), 2, 2)])]), [17], 802, [], []),
  (25, ([rv_r 80, rv_i 20 40, rv_i 20 20], [], [((80, 2), 20, 1500000020, [((80, 2), 20, 20)])]), [18], 424, [], []),
  (25, ([rv_r 80, rv_i 21 40, rv_i 21 21], [], [((80, 2), 21, 1500000021, [((80, 2), 21, 21)])]), [19], 403, [], []),
  (25, ([rv_r 80, rv_i 22 40, rv_i 22 22], [], [((80, 2), 22, 1500000022, [((80, 2), 22, 22)])]), [20], 382, [], []),
  (25, ([rv_r 80, rv_i 23 40, rv_i 23 23], [], [((80, 2), 23, 1500000023, [((80, 2), 23, 23)])]), [21], 361, [], []),
  (25, ([rv_r 80, rv_i 24 40, rv_i 24 24], [], [((80, 2), 24, 1500000024, [((80, 2), 24, 24)])]), [22], 340, [], []),
  (25, ([rv_r 80, rv_i 25 40, rv_i 25 25], [], [((80, 2), 25, 1500000025, [((80, 2), 25, 25)])]), [23], 319, [], []),
  (25, ([rv_r 80, rv_i 26 40, rv_i 26 26], [], [((80, 2), 26, 1500000026, [((80, 2), 26, 26)])]), [24], 298, [], []),
  (25, ([rv_r 80, rv_i 27 40, rv_i 27 27], [], [((80, 2), 27, 1500000027, [((80, 2), 27, 27)])]), [25], 277, [], []),
  (25, ([rv_r 80, rv_i 28 40, rv_i 28 28], [], [((80, 2), 28, 1500000028, [((80, 2), 28, 28)])]), [26], 256, [], []),
  (25, ([rv_r 80, rv_i 29 40, rv_i 29 29], [], [((80, 2), 29, 1500000029, [((80, 2), 29, 29)])]), [27], 235, [], []),
  (25, ([rv_r 80, rv_i 3 40, rv_i 3 3], [], [((80, 2), 3, 1500000003, [((80, 2), 3, 3)])]), [28], 781, [], []),
  (25, ([rv_r 80, rv_i 30 40, rv_i 30 30], [], [((80, 2), 30, 1500000030, [((80, 2), 30, 30)])]), [29], 214, [], [])]
def n_X8_goesOn_0_52 : List rv_N := [
  (25, ([rv_r 80, rv_i 31 40, rv_i 31 31], [], [((80, 2), 31, 1500000031, [((80, 2), 31, 31)])]), [30], 193, [], []),
  (25, ([rv_r 80, rv_i 32 40, rv_i 32 32], [], [((80, 2), 32, 1500000032, [((80, 2), 32, 32)])]), [31], 172, [], []),
  (25, ([rv_r 80, rv_i 33 40, rv_i 33 33], [], [((80, 2), 33, 1500000033, [((80, 2), 33, 33)])]), [32], 151, [], []),
  (25, ([rv_r 80, rv_i 34 40, rv_i 34 34], [], [((80, 2), 34, 1500000034, [((80, 2), 34, 34)])]), [33], 130, [], []),
  (25, ([rv_r 80, rv_i 35 40, rv_i 35 35], [], [((80, 2), 35, 1500000035, [((80, 2), 35, 35)])]), [34], 109, [], []),
  (25, ([rv_r 80, rv_i 36 40, rv_i 36 36], [], [((80, 2), 36, 1500000036, [((80, 2), 36, 36)])]), [35], 88, [], []),
  (25, ([rv_r 80, rv_i 37 40, rv_i 37 37], [], [((80, 2), 37, 1500000037, [((80, 2), 37, 37)])]), [36], 67, [], []),
  (25, ([rv_r 80, rv_i 38 40, rv_i 38 38], [], [((80, 2), 38, 1500000038, [((80, 2), 38, 38)])]), [37], 46, [], []),
  (25, ([rv_r 80, rv_i 39 40, rv_i 39 39], [], [((80, 2), 39, 1500000039, [((80, 2), 39, 39)])]), [38], 25, [], []),
  (25, ([rv_r 80, rv_i 4 40, rv_i 4 4], [], [((80, 2), 4, 1500000004, [((80, 2), 4, 4)])]), [39], 760, [], []),
  (25, ([rv_r 80, rv_i 40 40, rv_i 40 40], [], [((80, 2), 40, 1500000040, [((80, 2), 40, 40)])]), [40], 4, [], []),
  (25, ([rv_r 80, rv_i 5 40, rv_i 5 5], [], [((80, 2), 5, 1500000005, [((80, 2), 5, 5)])]), [41], 739, [], []),
  (25, ([rv_r 80, rv_i 6 40, rv_i 6 6], [], [((80, 2), 6, 1500000006, [((80, 2), 6, 6)])]), [42], 718, [], []),
  (25, ([rv_r 80, rv_i 7 40, rv_i 7 7], [], [((80, 2), 7, 1500000007, [((80, 2), 7, 7)])]), [43], 697, [], []),
  (25, ([rv_r 80, rv_i 8 40, rv_i 8 8], [], [((80, 2), 8, 1500000008, [((80, 2), 8, 8)])]), [44], 676, [], []),
  (25, ([rv_r 80, rv_i 9 40, rv_i 9 9], [], [((80, 2), 9, 1500000009, [((80, 2), 9, 9)])]), [45], 655, [], [])]
def n_X8_goesOn_0_53 : List rv_N := [
  (26, ([rv_r 80, rv_i 1 1, rv_i 1 1], [], [((80, 2), 1, 1500000001, [((80, 2), 1, 1)])]), [], 0, [], []),
  (26, ([rv_r 80, rv_i 10 10, rv_i 10 10], [], [((80, 2), 10, 1500000010, [((80, 2), 10, 10)])]), [], 0, [], []),
  (26, ([rv_r 80, rv_i 11 11, rv_i 11 11], [], [((80, 2), 11, 1500000011, [((80, 2), 11, 11)])]), [], 0, [], []),
  (26, ([rv_r 80, rv_i 12 12, rv_i 12 12], [], [((80, 2), 12, 1500000012, [((80, 2), 12, 12)])]), [], 0, [], []),
  (26, ([rv_r 80, rv_i 13 13, rv_i 13 13], [], [((80, 2), 13, 1500000013, [((80, 2), 13, 13)])]), [], 0, [], []),
  (26, ([rv_r 80, rv_i 14 14, rv_i 14 14], [], [((80, 2), 14, 1500000014, [((80, 2), 14, 14)])]), [], 0, [], []),
  (26, ([rv_r 80, rv_i 15 15, rv_i 15 15], [], [((80, 2), 15, 1500000015, [((80, 2), 15, 15)])]), [], 0, [], []),
  (26, ([rv_r 80, rv_i 16 16, rv_i 16 16], [], [((80, 2), 16, 1500000016, [((80, 2), 16, 16)])]), [], 0, [], []),
  (26, ([rv_r 80, rv_i 17 17, rv_i 17 17], [], [((80, 2), 17, 1500000017, [((80, 2), 17, 17)])]), [], 0, [], []),
  (26, ([rv_r 80, rv_i 18 18, rv_i 18 18], [], [((80, 2), 18, 1500000018, [((80, 2), 18, 18)])]), [], 0, [], []),
  (26, ([rv_r 80, rv_i 19 19, rv_i 19 19], [], [((80, 2), 19, 1500000019, [((80, 2), 19, 19)])]), [], 0, [], []),
  (26, ([rv_r 80, rv_i 2 2, rv_i 2 2], [], [((80, 2), 2, 1500000002, [((80, 2), 2, 2)])]), [], 0, [], []),
  (26, ([rv_r 80, rv_i 20 20, rv_i 20 20], [], [((80, 2), 20, 1500000020, [((80, 2), 20, 20)])]), [], 0, [], []),
  (26, ([rv_r 80, rv_i 21 21, rv_i 21 21], [], [((80, 2), 21, 1500000021, [((80, 2), 21, 21)])]), [], 0, [], []),
  (26, ([rv_r 80, rv_i 22 22, rv_i 22 22], [], [((80, 2), 22, 1500000022, [((80, 2), 22, 22)])]), [], 0, [], []),
  (26, ([rv_r 80, rv_i 23 23, rv_i 23 23], [], [((80, 2), 23, 1500000023, [((80, 2), 23, 23)])]), [], 0, [], [])]
def n_X8_goesOn_0_54 : List rv_N := [
  (26, ([rv_r 80, rv_i 24 24, rv_i 24 24], [], [((80, 2), 24, 1500000024, [((80, 2), 24, 24)])]), [], 0, [], []),
  (26, ([rv_r 80, rv_i 25 25, rv_i 25 25], [], [((80, 2), 25, 1500000025, [((80, 2), 25, 25)])]), [], 0, [], []),
  (26, ([rv_r 80, rv_i 26 26, rv_i 26 26], [], [((80, 2), 26, 1500000026, [((80, 2), 26, 26)])]), [], 0, [], []),
  (26, ([rv_r 80, rv_i 27 27, rv_i 27 27], [], [((80, 2), 27, 1500000027, [((80, 2), 27, 27)])]), [], 0, [], []),
  (26, ([rv_r 80, rv_i 28 28, rv_i 28 28], [], [((80, 2), 28, 1500000028, [((80, 2), 28, 28)])]), [], 0, [], []),
  (26, ([rv_r 80, rv_i 29 29, rv_i 29 29], [], [((80, 2), 29, 1500000029, [((80, 2), 29, 29)])]), [], 0, [], []),
  (26, ([rv_r 80, rv_i 3 3, rv_i 3 3], [], [((80, 2), 3, 1500000003, [((80, 2), 3, 3)])]), [], 0, [], []),
  (26, ([rv_r 80, rv_i 30 30, rv_i 30 30], [], [((80, 2), 30, 1500000030, [((80, 2), 30, 30)])]), [], 0, [], []),
  (26, ([rv_r 80, rv_i 31 31, rv_i 31 31], [], [((80, 2), 31, 1500000031, [((80, 2), 31, 31)])]), [], 0, [], []),
  (26, ([rv_r 80, rv_i 32 32, rv_i 32 32], [], [((80, 2), 32, 1500000032, [((80, 2), 32, 32)])]), [], 0, [], []),
  (26, ([rv_r 80, rv_i 33 33, rv_i 33 33], [], [((80, 2), 33, 1500000033, [((80, 2), 33, 33)])]), [], 0, [], []),
  (26, ([rv_r 80, rv_i 34 34, rv_i 34 34], [], [((80, 2), 34, 1500000034, [((80, 2), 34, 34)])]), [], 0, [], []),
  (26, ([rv_r 80, rv_i 35 35, rv_i 35 35], [], [((80, 2), 35, 1500000035, [((80, 2), 35, 35)])]), [], 0, [], []),
  (26, ([rv_r 80, rv_i 36 36, rv_i 36 36], [], [((80, 2), 36, 1500000036, [((80, 2), 36, 36)])]), [], 0, [], []),
  (26, ([rv_r 80, rv_i 37 37, rv_i 37 37], [], [((80, 2), 37, 1500000037, [((80, 2), 37, 37)])]), [], 0, [], []),
  (26, ([rv_r 80, rv_i 38 38, rv_i 38 38], [], [((80, 2), 38, 1500000038, [((80, 2), 38, 38)])]), [], 0, [], [])]
def n_X8_goesOn_0_55 : List rv_N := [
  (26, ([rv_r 80, rv_i 39 39, rv_i 39 39], [], [((80, 2), 39, 1500000039, [((80, 2), 39, 39)])]), [], 0, [], []),
  (26, ([rv_r 80, rv_i 4 4, rv_i 4 4], [], [((80, 2), 4, 1500000004, [((80, 2), 4, 4)])]), [], 0, [], []),
  (26, ([rv_r 80, rv_i 40 40, rv_i 40 40], [], [((80, 2), 40, 1500000040, [((80, 2), 40, 40)])]), [], 0, [], []),
  (26, ([rv_r 80, rv_i 5 5, rv_i 5 5], [], [((80, 2), 5, 1500000005, [((80, 2), 5, 5)])]), [], 0, [], []),
  (26, ([rv_r 80, rv_i 6 6, rv_i 6 6], [], [((80, 2), 6, 1500000006, [((80, 2), 6, 6)])]), [], 0, [], []),
  (26, ([rv_r 80, rv_i 7 7, rv_i 7 7], [], [((80, 2), 7, 1500000007, [((80, 2), 7, 7)])]), [], 0, [], []),
  (26, ([rv_r 80, rv_i 8 8, rv_i 8 8], [], [((80, 2), 8, 1500000008, [((80, 2), 8, 8)])]), [], 0, [], []),
  (26, ([rv_r 80, rv_i 9 9, rv_i 9 9], [], [((80, 2), 9, 1500000009, [((80, 2), 9, 9)])]), [], 0, [], [])]
def n_X8_goesOn_0 : List rv_N := n_X8_goesOn_0_0 ++ (n_X8_goesOn_0_1 ++ (n_X8_goesOn_0_2 ++ (n_X8_goesOn_0_3 ++ (n_X8_goesOn_0_4 ++ (n_X8_goesOn_0_5 ++ (n_X8_goesOn_0_6 ++ (n_X8_goesOn_0_7 ++ (n_X8_goesOn_0_8 ++ (n_X8_goesOn_0_9 ++ (n_X8_goesOn_0_10 ++ (n_X8_goesOn_0_11 ++ (n_X8_goesOn_0_12 ++ (n_X8_goesOn_0_13 ++ (n_X8_goesOn_0_14 ++ (n_X8_goesOn_0_15 ++ (n_X8_goesOn_0_16 ++ (n_X8_goesOn_0_17 ++ (n_X8_goesOn_0_18 ++ (n_X8_goesOn_0_19 ++ (n_X8_goesOn_0_20 ++ (n_X8_goesOn_0_21 ++ (n_X8_goesOn_0_22 ++ (n_X8_goesOn_0_23 ++ (n_X8_goesOn_0_24 ++ (n_X8_goesOn_0_25 ++ (n_X8_goesOn_0_26 ++ (n_X8_goesOn_0_27 ++ (n_X8_goesOn_0_28 ++ (n_X8_goesOn_0_29 ++ (n_X8_goesOn_0_30 ++ (n_X8_goesOn_0_31 ++ (n_X8_goesOn_0_32 ++ (n_X8_goesOn_0_33 ++ (n_X8_goesOn_0_34 ++ (n_X8_goesOn_0_35 ++ (n_X8_goesOn_0_36 ++ (n_X8_goesOn_0_37 ++ (n_X8_goesOn_0_38 ++ (n_X8_goesOn_0_39 ++ (n_X8_goesOn_0_40 ++ (n_X8_goesOn_0_41 ++ (n_X8_goesOn_0_42 ++ (n_X8_goesOn_0_43 ++ (n_X8_goesOn_0_44 ++ (n_X8_goesOn_0_45 ++ (n_X8_goesOn_0_46 ++ (n_X8_goesOn_0_47 ++ (n_X8_goesOn_0_48 ++ (n_X8_goesOn_0_49 ++ (n_X8_goesOn_0_50 ++ (n_X8_goesOn_0_51 ++ (n_X8_goesOn_0_52 ++ (n_X8_goesOn_0_53 ++ (n_X8_goesOn_0_54 ++ (n_X8_goesOn_0_55)))))))))))))))))))))))))))))))))))))))))))))))))))))))
noncomputable def gn_X8_goesOn_0 : Nat → Option rv_N := rv_ap 16 (rv_at n_X8_goesOn_0_0) (rv_ap 16 (rv_at n_X8_goesOn_0_1) (rv_ap 16 (rv_at n_X8_goesOn_0_2) (rv_ap 16 (rv_at n_X8_goesOn_0_3) (rv_ap 16 (rv_at n_X8_goesOn_0_4) (rv_ap 16 (rv_at n_X8_goesOn_0_5) (rv_ap 16 (rv_at n_X8_goesOn_0_6) (rv_ap 16 (rv_at n_X8_goesOn_0_7) (rv_ap 16 (rv_at n_X8_goesOn_0_8) (rv_ap 16 (rv_at n_X8_goesOn_0_9) (rv_ap 16 (rv_at n_X8_goesOn_0_10) (rv_ap 16 (rv_at n_X8_goesOn_0_11) (rv_ap 16 (rv_at n_X8_goesOn_0_12) (rv_ap 16 (rv_at n_X8_goesOn_0_13) (rv_ap 16 (rv_at n_X8_goesOn_0_14) (rv_ap 16 (rv_at n_X8_goesOn_0_15) (rv_ap 16 (rv_at n_X8_goesOn_0_16) (rv_ap 16 (rv_at n_X8_goesOn_0_17) (rv_ap 16 (rv_at n_X8_goesOn_0_18) (rv_ap 16 (rv_at n_X8_goesOn_0_19) (rv_ap 16 (rv_at n_X8_goesOn_0_20) (rv_ap 16 (rv_at n_X8_goesOn_0_21) (rv_ap 16 (rv_at n_X8_goesOn_0_22) (rv_ap 16 (rv_at n_X8_goesOn_0_23) (rv_ap 16 (rv_at n_X8_goesOn_0_24) (rv_ap 16 (rv_at n_X8_goesOn_0_25) (rv_ap 16 (rv_at n_X8_goesOn_0_26) (rv_ap 16 (rv_at n_X8_goesOn_0_27) (rv_ap 16 (rv_at n_X8_goesOn_0_28) (rv_ap 16 (rv_at n_X8_goesOn_0_29) (rv_ap 16 (rv_at n_X8_goesOn_0_30) (rv_ap 16 (rv_at n_X8_goesOn_0_31) (rv_ap 16 (rv_at n_X8_goesOn_0_32) (rv_ap 16 (rv_at n_X8_goesOn_0_33) (rv_ap 16 (rv_at n_X8_goesOn_0_34) (rv_ap 16 (rv_at n_X8_goesOn_0_35) (rv_ap 16 (rv_at n_X8_goesOn_0_36) (rv_ap 16 (rv_at n_X8_goesOn_0_37) (rv_ap 16 (rv_at n_X8_goesOn_0_38) (rv_ap 16 (rv_at n_X8_goesOn_0_39) (rv_ap 16 (rv_at n_X8_goesOn_0_40) (rv_ap 16 (rv_at n_X8_goesOn_0_41) (rv_ap 16 (rv_at n_X8_goesOn_0_42) (rv_ap 16 (rv_at n_X8_goesOn_0_43) (rv_ap 16 (rv_at n_X8_goesOn_0_44) (rv_ap 16 (rv_at n_X8_goesOn_0_45) (rv_ap 16 (rv_at n_X8_goesOn_0_46) (rv_ap 16 (rv_at n_X8_goesOn_0_47) (rv_ap 16 (rv_at n_X8_goesOn_0_48) (rv_ap 16 (rv_at n_X8_goesOn_0_49) (rv_ap 16 (rv_at n_X8_goesOn_0_50) (rv_ap 16 (rv_at n_X8_goesOn_0_51) (rv_ap 16 (rv_at n_X8_goesOn_0_52) (rv_ap 16 (rv_at n_X8_goesOn_0_53) (rv_ap 16 (rv_at n_X8_goesOn_0_54) (rv_at n_X8_goesOn_0_55)))))))))))))))))))))))))))))))))))))))))))))))))))))))
theorem hn_X8_goesOn_0 : ∀ i : Nat, n_X8_goesOn_0[i]? = gn_X8_goesOn_0 i := rv_ap_eq (l := n_X8_goesOn_0_0) (c := 16) (rv_ap_eq (l := n_X8_goesOn_0_1) (c := 16) (rv_ap_eq (l := n_X8_goesOn_0_2) (c := 16) (rv_ap_eq (l := n_X8_goesOn_0_3) (c := 16) (rv_ap_eq (l := n_X8_goesOn_0_4) (c := 16) (rv_ap_eq (l := n_X8_goesOn_0_5) (c := 16) (rv_ap_eq (l := n_X8_goesOn_0_6) (c := 16) (rv_ap_eq (l := n_X8_goesOn_0_7) (c := 16) (rv_ap_eq (l := n_X8_goesOn_0_8) (c := 16) (rv_ap_eq (l := n_X8_goesOn_0_9) (c := 16) (rv_ap_eq (l := n_X8_goesOn_0_10) (c := 16) (rv_ap_eq (l := n_X8_goesOn_0_11) (c := 16) (rv_ap_eq (l := n_X8_goesOn_0_12) (c := 16) (rv_ap_eq (l := n_X8_goesOn_0_13) (c := 16) (rv_ap_eq (l := n_X8_goesOn_0_14) (c := 16) (rv_ap_eq (l := n_X8_goesOn_0_15) (c := 16) (rv_ap_eq (l := n_X8_goesOn_0_16) (c := 16) (rv_ap_eq (l := n_X8_goesOn_0_17) (c := 16) (rv_ap_eq (l := n_X8_goesOn_0_18) (c := 16) (rv_ap_eq (l := n_X8_goesOn_0_19) (c := 16) (rv_ap_eq (l := n_X8_goesOn_0_20) (c := 16) (rv_ap_eq (l := n_X8_goesOn_0_21) (c := 16) (rv_ap_eq (l := n_X8_goesOn_0_22) (c := 16) (rv_ap_eq (l := n_X8_goesOn_0_23) (c := 16) (rv_ap_eq (l := n_X8_goesOn_0_24) (c := 16) (rv_ap_eq (l := n_X8_goesOn_0_25) (c := 16) (rv_ap_eq (l := n_X8_goesOn_0_26) (c := 16) (rv_ap_eq (l := n_X8_goesOn_0_27) (c := 16) (rv_ap_eq (l := n_X8_goesOn_0_28) (c := 16) (rv_ap_eq (l := n_X8_goesOn_0_29) (c := 16) (rv_ap_eq (l := n_X8_goesOn_0_30) (c := 16) (rv_ap_eq (l := n_X8_goesOn_0_31) (c := 16) (rv_ap_eq (l := n_X8_goesOn_0_32) (c := 16) (rv_ap_eq (l := n_X8_goesOn_0_33) (c := 16) (rv_ap_eq (l := n_X8_goesOn_0_34) (c := 16) (rv_ap_eq (l := n_X8_goesOn_0_35) (c := 16) (rv_ap_eq (l := n_X8_goesOn_0_36) (c := 16) (rv_ap_eq (l := n_X8_goesOn_0_37) (c := 16) (rv_ap_eq (l := n_X8_goesOn_0_38) (c := 16) (rv_ap_eq (l := n_X8_goesOn_0_39) (c := 16) (rv_ap_eq (l := n_X8_goesOn_0_40) (c := 16) (rv_ap_eq (l := n_X8_goesOn_0_41) (c := 16) (rv_ap_eq (l := n_X8_goesOn_0_42) (c := 16) (rv_ap_eq (l := n_X8_goesOn_0_43) (c := 16) (rv_ap_eq (l := n_X8_goesOn_0_44) (c := 16) (rv_ap_eq (l := n_X8_goesOn_0_45) (c := 16) (rv_ap_eq (l := n_X8_goesOn_0_46) (c := 16) (rv_ap_eq (l := n_X8_goesOn_0_47) (c := 16) (rv_ap_eq (l := n_X8_goesOn_0_48) (c := 16) (rv_ap_eq (l := n_X8_goesOn_0_49) (c := 16) (rv_ap_eq (l := n_X8_goesOn_0_50) (c := 16) (rv_ap_eq (l := n_X8_goesOn_0_51) (c := 16) (rv_ap_eq (l := n_X8_goesOn_0_52) (c := 16) (rv_ap_eq (l := n_X8_goesOn_0_53) (c := 16) (rv_ap_eq (l := n_X8_goesOn_0_54) (c := 16) (rv_at_eq n_X8_goesOn_0_55) rfl) rfl) rfl) rfl) rfl) rfl) rfl) rfl) rfl) rfl) rfl) rfl) rfl) rfl) rfl) rfl) rfl) rfl) rfl) rfl) rfl) rfl) rfl) rfl) rfl) rfl) rfl) rfl) rfl) rfl) rfl) rfl) rfl) rfl) rfl) rfl) rfl) rfl) rfl) rfl) rfl) rfl) rfl) rfl) rfl) rfl) rfl) rfl) rfl) rfl) rfl) rfl) rfl) rfl) rfl
set_option maxRecDepth 100000 in
theorem a_X8_goesOn_0 : rv_all (fm_tm, flX8, fm_wr, kcX8, klX8, K_X8_goesOn_0.2.2.1, [], 3) ct_X8_goesOn_0 cd_X8_goesOn n_X8_goesOn_0 K_X8_goesOn_0 [] 0 n_X8_goesOn_0 = true := rv_fast hn_X8_goesOn_0 (rv_at_eq cd_X8_goesOn) (by decide +kernel)
theorem m_X8_goesOn_0 {l : Launch} {D : va_G} {ad : Nat → Nat} {cy : Nat → ClassId} {Z : State → Heap → Prop} (hAd : fm_Ad fm_tm ad) (hZ : fm_Zk (fm_A fm_tm ad) Z) : rv_Met l D fm_cl fm_tm ad cy fm_nt Z fm_G yX8_goesOn (.code yX8_goesOn prog_10_method_61_code 3 none :: fm_Ts) { frames := 9, cells := 0, slots := 0, locals := 900 } K_X8_goesOn_0 := rv_met hAd hZ (Or.inl (by decide +kernel)) evX8 dc_X8_goesOn a_X8_goesOn_0 ⟨rfl, rfl, rfl⟩ (by decide +kernel) (by decide +kernel) (by decide) (fm_gm fm_G_gd (by decide +kernel)) (rfl) (fun p e s m args below meth c Q X Y => List.forall_mem_cons.mpr ⟨rv_ctV X Y fm_Ts_good dc_X8_goesOn (pc := 40) (i := 23) (idx := 408) rfl (m_X8_passes_0 hAd hZ) wl_X8_408 wm_X8_passes wy_X8_passes (by decide) ⟨rfl, rfl, rfl⟩ ⟨rfl, rfl⟩, fun _ h => absurd h List.not_mem_nil⟩) (fun _ _ _ _ _ _ _ _ _ _ _ _ _ _ _ _ h => absurd h List.not_mem_nil)
