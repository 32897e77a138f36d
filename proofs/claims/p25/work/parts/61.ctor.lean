/-! constructors of the class -/
def cw_X6 (cy : Nat → ClassId) (h0 : Nat) (u : (Nat → Nat) × (Nat → Nat → Int32)) : va_W := [(h0, .inr (6, [.ref (u.1 1), .int 0])), ((u.1 1), .inl (cy 0, 220, .inl (fun _ => 0)))]
set_option maxRecDepth 4000 in
theorem c_X6 (l : Launch) (D : va_G) (cy : Nat → ClassId) : ct_M l D cy yX6_init prog_8_method_1_code 1 { frames := 2, cells := 1, slots := 220, locals := 100 } 6 [.null, .int 0] [] (cw_X6 cy) (fun _ => True) := by
  refine ct_at (by decide +kernel) (fun _ => by simp [lg_sl, Value.category]) ?_
  intro p e s m args below meth c ls h0 hr hlk hin X hl
  have hl0 : ls[0]? = some (.val (.ref h0)) := hl.2.2 (0, .ref h0) (by simp [lv_args, Value.category])
  have hs := hl.1
  have hw := hl.2.1
  clear hl
  refine ct_aload_n X d_X6_init_0 rfl hl0 ?_
  refine ct_obj X d_X6_init_1 wo_X6 hs (by decide) ?_
  refine ct_aload_n X d_X6_init_4 rfl hl0 ?_
  refine ct_sipush X d_X6_init_5 (v := 220) (by decide) ?_
  refine ct_newa X d_X6_init_8 (ty := .int) (t := 0) (N := 220) (ws2 := fun q1 => [(h0, .inr (6, [.null, .int 0])), (q1, .inl (cy 0, 220, .inl (fun _ => 0)))]) (cells2 := 1) (slots2 := 220) rfl rfl ct_ra_int wA_int (fun _ => rfl) (by decide) (by decide) (by decide) (fun _ => rfl) ⟨rfl, rfl⟩ (by decide) (fun q1 => ?_)
  refine ct_putF X hin d_X6_init_10 lkX6_9 clX6 (fun C T N h => by cases h; exact ⟨rfl, rfl, _, tyX6_ok 0 (by decide), rfl, rfl⟩) (Nat.le_of_ble_eq_true rfl) (fs2 := [.ref q1, .int 0]) rfl ?_
  refine ct_aload_n X d_X6_init_13 rfl hl0 ?_
  refine ct_iconst X d_X6_init_14 (v := 0) (by decide) ?_
  refine ct_put X d_X6_init_15 lkX6_15 clX6 (fun C T N h => by cases h; exact ⟨rfl, _, tyX6_ok 1 (by decide), rfl, rfl⟩) (Nat.le_of_ble_eq_true rfl) (fs2 := [.ref q1, .int 0]) rfl ?_
  exact ct_vret X hr hlk d_X6_init_18 (by decide) (by decide) ((fun i => [h0, q1].getD i 0), (fun _ => fun _ => 0)) trivial rfl
def cw_X1 (cy : Nat → ClassId) (h0 : Nat) (u : (Nat → Nat) × (Nat → Nat → Int32)) : va_W := [(h0, .inr (1, [.ref (u.1 1), .ref (u.1 2), .int 0, .ref (u.1 3), .ref (u.1 4), .ref (u.1 5), .ref (u.1 6), .int 0, .int 0, .ref (u.1 7), .ref (u.1 8)])), ((u.1 1), .inl (cy 0, 200, .inl (fun _ => 0))), ((u.1 2), .inl (cy 0, 200, .inl (fun _ => 0))), ((u.1 3), .inl (cy 0, 14, .inl (fun _ => 0))), ((u.1 4), .inl (cy 0, 14, .inl (fun _ => 0))), ((u.1 5), .inl (cy 0, 14, .inl (fun _ => 0))), ((u.1 6), .inl (cy 0, 14, .inl (fun _ => 0))), ((u.1 7), .inl (cy 0, 13, .inl (fun _ => 0))), ((u.1 8), .inl (cy 0, 40, .inl (fun _ => 0)))]
set_option maxRecDepth 4000 in
theorem c_X1 (l : Launch) (D : va_G) (cy : Nat → ClassId) : ct_M l D cy yX1_init prog_3_method_1_code 1 { frames := 2, cells := 8, slots := 509, locals := 100 } 1 [.null, .null, .int 0, .null, .null, .null, .null, .int 0, .int 0, .null, .null] [] (cw_X1 cy) (fun _ => True) := by
  refine ct_at (by decide +kernel) (fun _ => by simp [lg_sl, Value.category]) ?_
  intro p e s m args below meth c ls h0 hr hlk hin X hl
  have hl0 : ls[0]? = some (.val (.ref h0)) := hl.2.2 (0, .ref h0) (by simp [lv_args, Value.category])
  have hs := hl.1
  have hw := hl.2.1
  clear hl
  refine ct_aload_n X d_X1_init_0 rfl hl0 ?_
  refine ct_obj X d_X1_init_1 wo_X1 hs (by decide) ?_
  refine ct_aload_n X d_X1_init_4 rfl hl0 ?_
  refine ct_sipush X d_X1_init_5 (v := 200) (by decide) ?_
  refine ct_newa X d_X1_init_8 (ty := .int) (t := 0) (N := 200) (ws2 := fun q1 => [(h0, .inr (1, [.null, .null, .int 0, .null, .null, .null, .null, .int 0, .int 0, .null, .null])), (q1, .inl (cy 0, 200, .inl (fun _ => 0)))]) (cells2 := 1) (slots2 := 200) rfl rfl ct_ra_int wA_int (fun _ => rfl) (by decide) (by decide) (by decide) (fun _ => rfl) ⟨rfl, rfl⟩ (by decide) (fun q1 => ?_)
  refine ct_putF X hin d_X1_init_10 lkX1_9 clX1 (fun C T N h => by cases h; exact ⟨rfl, rfl, _, tyX1_ok 0 (by decide), rfl, rfl⟩) (Nat.le_of_ble_eq_true rfl) (fs2 := [.ref q1, .null, .int 0, .null, .null, .null, .null, .int 0, .int 0, .null, .null]) rfl ?_
  refine ct_aload_n X d_X1_init_13 rfl hl0 ?_
  refine ct_sipush X d_X1_init_14 (v := 200) (by decide) ?_
  refine ct_newa X d_X1_init_17 (ty := .int) (t := 0) (N := 200) (ws2 := fun q2 => [(h0, .inr (1, [.ref q1, .null, .int 0, .null, .null, .null, .null, .int 0, .int 0, .null, .null])), (q1, .inl (cy 0, 200, .inl (fun _ => 0))), (q2, .inl (cy 0, 200, .inl (fun _ => 0)))]) (cells2 := 2) (slots2 := 400) rfl rfl ct_ra_int wA_int (fun _ => rfl) (by decide) (by decide) (by decide) (fun _ => rfl) ⟨rfl, rfl⟩ (by decide) (fun q2 => ?_)
  refine ct_putF X hin d_X1_init_19 lkX1_15 clX1 (fun C T N h => by cases h; exact ⟨rfl, rfl, _, tyX1_ok 1 (by decide), rfl, rfl⟩) (Nat.le_of_ble_eq_true rfl) (fs2 := [.ref q1, .ref q2, .int 0, .null, .null, .null, .null, .int 0, .int 0, .null, .null]) rfl ?_
  refine ct_aload_n X d_X1_init_22 rfl hl0 ?_
  refine ct_iconst X d_X1_init_23 (v := 0) (by decide) ?_
  refine ct_put X d_X1_init_24 lkX1_18 clX1 (fun C T N h => by cases h; exact ⟨rfl, _, tyX1_ok 2 (by decide), rfl, rfl⟩) (Nat.le_of_ble_eq_true rfl) (fs2 := [.ref q1, .ref q2, .int 0, .null, .null, .null, .null, .int 0, .int 0, .null, .null]) rfl ?_
  refine ct_aload_n X d_X1_init_27 rfl hl0 ?_
  refine ct_bipush X d_X1_init_28 (v := 14) (by decide) ?_
  refine ct_newa X d_X1_init_30 (ty := .int) (t := 0) (N := 14) (ws2 := fun q3 => [(h0, .inr (1, [.ref q1, .ref q2, .int 0, .null, .null, .null, .null, .int 0, .int 0, .null, .null])), (q1, .inl (cy 0, 200, .inl (fun _ => 0))), (q2, .inl (cy 0, 200, .inl (fun _ => 0))), (q3, .inl (cy 0, 14, .inl (fun _ => 0)))]) (cells2 := 3) (slots2 := 414) rfl rfl ct_ra_int wA_int (fun _ => rfl) (by decide) (by decide) (by decide) (fun _ => rfl) ⟨rfl, rfl⟩ (by decide) (fun q3 => ?_)
  refine ct_putF X hin d_X1_init_32 lkX1_22 clX1 (fun C T N h => by cases h; exact ⟨rfl, rfl, _, tyX1_ok 3 (by decide), rfl, rfl⟩) (Nat.le_of_ble_eq_true rfl) (fs2 := [.ref q1, .ref q2, .int 0, .ref q3, .null, .null, .null, .int 0, .int 0, .null, .null]) rfl ?_
  refine ct_aload_n X d_X1_init_35 rfl hl0 ?_
  refine ct_bipush X d_X1_init_36 (v := 14) (by decide) ?_
  refine ct_newa X d_X1_init_38 (ty := .int) (t := 0) (N := 14) (ws2 := fun q4 => [(h0, .inr (1, [.ref q1, .ref q2, .int 0, .ref q3, .null, .null, .null, .int 0, .int 0, .null, .null])), (q1, .inl (cy 0, 200, .inl (fun _ => 0))), (q2, .inl (cy 0, 200, .inl (fun _ => 0))), (q3, .inl (cy 0, 14, .inl (fun _ => 0))), (q4, .inl (cy 0, 14, .inl (fun _ => 0)))]) (cells2 := 4) (slots2 := 428) rfl rfl ct_ra_int wA_int (fun _ => rfl) (by decide) (by decide) (by decide) (fun _ => rfl) ⟨rfl, rfl⟩ (by decide) (fun q4 => ?_)
  refine ct_putF X hin d_X1_init_40 lkX1_25 clX1 (fun C T N h => by cases h; exact ⟨rfl, rfl, _, tyX1_ok 4 (by decide), rfl, rfl⟩) (Nat.le_of_ble_eq_true rfl) (fs2 := [.ref q1, .ref q2, .int 0, .ref q3, .ref q4, .null, .null, .int 0, .int 0, .null, .null]) rfl ?_
  refine ct_aload_n X d_X1_init_43 rfl hl0 ?_
  refine ct_bipush X d_X1_init_44 (v := 14) (by decide) ?_
  refine ct_newa X d_X1_init_46 (ty := .int) (t := 0) (N := 14) (ws2 := fun q5 => [(h0, .inr (1, [.ref q1, .ref q2, .int 0, .ref q3, .ref q4, .null, .null, .int 0, .int 0, .null, .null])), (q1, .inl (cy 0, 200, .inl (fun _ => 0))), (q2, .inl (cy 0, 200, .inl (fun _ => 0))), (q3, .inl (cy 0, 14, .inl (fun _ => 0))), (q4, .inl (cy 0, 14, .inl (fun _ => 0))), (q5, .inl (cy 0, 14, .inl (fun _ => 0)))]) (cells2 := 5) (slots2 := 442) rfl rfl ct_ra_int wA_int (fun _ => rfl) (by decide) (by decide) (by decide) (fun _ => rfl) ⟨rfl, rfl⟩ (by decide) (fun q5 => ?_)
  refine ct_putF X hin d_X1_init_48 lkX1_28 clX1 (fun C T N h => by cases h; exact ⟨rfl, rfl, _, tyX1_ok 5 (by decide), rfl, rfl⟩) (Nat.le_of_ble_eq_true rfl) (fs2 := [.ref q1, .ref q2, .int 0, .ref q3, .ref q4, .ref q5, .null, .int 0, .int 0, .null, .null]) rfl ?_
  refine ct_aload_n X d_X1_init_51 rfl hl0 ?_
  refine ct_bipush X d_X1_init_52 (v := 14) (by decide) ?_
  refine ct_newa X d_X1_init_54 (ty := .int) (t := 0) (N := 14) (ws2 := fun q6 => [(h0, .inr (1, [.ref q1, .ref q2, .int 0, .ref q3, .ref q4, .ref q5, .null, .int 0, .int 0, .null, .null])), (q1, .inl (cy 0, 200, .inl (fun _ => 0))), (q2, .inl (cy 0, 200, .inl (fun _ => 0))), (q3, .inl (cy 0, 14, .inl (fun _ => 0))), (q4, .inl (cy 0, 14, .inl (fun _ => 0))), (q5, .inl (cy 0, 14, .inl (fun _ => 0))), (q6, .inl (cy 0, 14, .inl (fun _ => 0)))]) (cells2 := 6) (slots2 := 456) rfl rfl ct_ra_int wA_int (fun _ => rfl) (by decide) (by decide) (by decide) (fun _ => rfl) ⟨rfl, rfl⟩ (by decide) (fun q6 => ?_)
  refine ct_putF X hin d_X1_init_56 lkX1_31 clX1 (fun C T N h => by cases h; exact ⟨rfl, rfl, _, tyX1_ok 6 (by decide), rfl, rfl⟩) (Nat.le_of_ble_eq_true rfl) (fs2 := [.ref q1, .ref q2, .int 0, .ref q3, .ref q4, .ref q5, .ref q6, .int 0, .int 0, .null, .null]) rfl ?_
  refine ct_aload_n X d_X1_init_59 rfl hl0 ?_
  refine ct_iconst X d_X1_init_60 (v := 0) (by decide) ?_
  refine ct_put X d_X1_init_61 lkX1_34 clX1 (fun C T N h => by cases h; exact ⟨rfl, _, tyX1_ok 7 (by decide), rfl, rfl⟩) (Nat.le_of_ble_eq_true rfl) (fs2 := [.ref q1, .ref q2, .int 0, .ref q3, .ref q4, .ref q5, .ref q6, .int 0, .int 0, .null, .null]) rfl ?_
  refine ct_aload_n X d_X1_init_64 rfl hl0 ?_
  refine ct_iconst X d_X1_init_65 (v := 0) (by decide) ?_
  refine ct_put X d_X1_init_66 lkX1_37 clX1 (fun C T N h => by cases h; exact ⟨rfl, _, tyX1_ok 8 (by decide), rfl, rfl⟩) (Nat.le_of_ble_eq_true rfl) (fs2 := [.ref q1, .ref q2, .int 0, .ref q3, .ref q4, .ref q5, .ref q6, .int 0, .int 0, .null, .null]) rfl ?_
  refine ct_aload_n X d_X1_init_69 rfl hl0 ?_
  refine ct_bipush X d_X1_init_70 (v := 13) (by decide) ?_
  refine ct_newa X d_X1_init_72 (ty := .int) (t := 0) (N := 13) (ws2 := fun q7 => [(h0, .inr (1, [.ref q1, .ref q2, .int 0, .ref q3, .ref q4, .ref q5, .ref q6, .int 0, .int 0, .null, .null])), (q1, .inl (cy 0, 200, .inl (fun _ => 0))), (q2, .inl (cy 0, 200, .inl (fun _ => 0))), (q3, .inl (cy 0, 14, .inl (fun _ => 0))), (q4, .inl (cy 0, 14, .inl (fun _ => 0))), (q5, .inl (cy 0, 14, .inl (fun _ => 0))), (q6, .inl (cy 0, 14, .inl (fun _ => 0))), (q7, .inl (cy 0, 13, .inl (fun _ => 0)))]) (cells2 := 7) (slots2 := 469) rfl rfl ct_ra_int wA_int (fun _ => rfl) (by decide) (by decide) (by decide) (fun _ => rfl) ⟨rfl, rfl⟩ (by decide) (fun q7 => ?_)
  refine ct_putF X hin d_X1_init_74 lkX1_41 clX1 (fun C T N h => by cases h; exact ⟨rfl, rfl, _, tyX1_ok 9 (by decide), rfl, rfl⟩) (Nat.le_of_ble_eq_true rfl) (fs2 := [.ref q1, .ref q2, .int 0, .ref q3, .ref q4, .ref q5, .ref q6, .int 0, .int 0, .ref q7, .null]) rfl ?_
  refine ct_aload_n X d_X1_init_77 rfl hl0 ?_
  refine ct_bipush X d_X1_init_78 (v := 40) (by decide) ?_
  refine ct_newa X d_X1_init_80 (ty := .int) (t := 0) (N := 40) (ws2 := fun q8 => [(h0, .inr (1, [.ref q1, .ref q2, .int 0, .ref q3, .ref q4, .ref q5, .ref q6, .int 0, .int 0, .ref q7, .null])), (q1, .inl (cy 0, 200, .inl (fun _ => 0))), (q2, .inl (cy 0, 200, .inl (fun _ => 0))), (q3, .inl (cy 0, 14, .inl (fun _ => 0))), (q4, .inl (cy 0, 14, .inl (fun _ => 0))), (q5, .inl (cy 0, 14, .inl (fun _ => 0))), (q6, .inl (cy 0, 14, .inl (fun _ => 0))), (q7, .inl (cy 0, 13, .inl (fun _ => 0))), (q8, .inl (cy 0, 40, .inl (fun _ => 0)))]) (cells2 := 8) (slots2 := 509) rfl rfl ct_ra_int wA_int (fun _ => rfl) (by decide) (by decide) (by decide) (fun _ => rfl) ⟨rfl, rfl⟩ (by decide) (fun q8 => ?_)
  refine ct_putF X hin d_X1_init_82 lkX1_44 clX1 (fun C T N h => by cases h; exact ⟨rfl, rfl, _, tyX1_ok 10 (by decide), rfl, rfl⟩) (Nat.le_of_ble_eq_true rfl) (fs2 := [.ref q1, .ref q2, .int 0, .ref q3, .ref q4, .ref q5, .ref q6, .int 0, .int 0, .ref q7, .ref q8]) rfl ?_
  exact ct_vret X hr hlk d_X1_init_85 (by decide) (by decide) ((fun i => [h0, q1, q2, q3, q4, q5, q6, q7, q8].getD i 0), (fun _ => fun _ => 0)) trivial rfl
def cw_X2 (cy : Nat → ClassId) (h0 : Nat) (u : (Nat → Nat) × (Nat → Nat → Int32)) : va_W := [(h0, .inr (2, [.int 0, .ref (u.1 1), .ref (u.1 2), .ref (u.1 3), .ref (u.1 4)])), ((u.1 1), .inl (cy 0, 9, .inl (fun _ => 0))), ((u.1 2), .inl (cy 0, 9, .inl (fun _ => 0))), ((u.1 3), .inl (cy 0, 9, .inl (fun _ => 0))), ((u.1 4), .inl (cy 0, 9, .inl (fun _ => 0)))]
set_option maxRecDepth 4000 in
theorem c_X2 (l : Launch) (D : va_G) (cy : Nat → ClassId) : ct_M l D cy yX2_init prog_4_method_1_code 1 { frames := 2, cells := 4, slots := 36, locals := 100 } 2 [.int 0, .null, .null, .null, .null] [] (cw_X2 cy) (fun _ => True) := by
  refine ct_at (by decide +kernel) (fun _ => by simp [lg_sl, Value.category]) ?_
  intro p e s m args below meth c ls h0 hr hlk hin X hl
  have hl0 : ls[0]? = some (.val (.ref h0)) := hl.2.2 (0, .ref h0) (by simp [lv_args, Value.category])
  have hs := hl.1
  have hw := hl.2.1
  clear hl
  refine ct_aload_n X d_X2_init_0 rfl hl0 ?_
  refine ct_obj X d_X2_init_1 wo_X2 hs (by decide) ?_
  refine ct_aload_n X d_X2_init_4 rfl hl0 ?_
  refine ct_iconst X d_X2_init_5 (v := 0) (by decide) ?_
  refine ct_put X d_X2_init_6 lkX2_9 clX2 (fun C T N h => by cases h; exact ⟨rfl, _, tyX2_ok 0 (by decide), rfl, rfl⟩) (Nat.le_of_ble_eq_true rfl) (fs2 := [.int 0, .null, .null, .null, .null]) rfl ?_
  refine ct_aload_n X d_X2_init_9 rfl hl0 ?_
  refine ct_bipush X d_X2_init_10 (v := 9) (by decide) ?_
  refine ct_newa X d_X2_init_12 (ty := .int) (t := 0) (N := 9) (ws2 := fun q1 => [(h0, .inr (2, [.int 0, .null, .null, .null, .null])), (q1, .inl (cy 0, 9, .inl (fun _ => 0)))]) (cells2 := 1) (slots2 := 9) rfl rfl ct_ra_int wA_int (fun _ => rfl) (by decide) (by decide) (by decide) (fun _ => rfl) ⟨rfl, rfl⟩ (by decide) (fun q1 => ?_)
  refine ct_putF X hin d_X2_init_14 lkX2_15 clX2 (fun C T N h => by cases h; exact ⟨rfl, rfl, _, tyX2_ok 1 (by decide), rfl, rfl⟩) (Nat.le_of_ble_eq_true rfl) (fs2 := [.int 0, .ref q1, .null, .null, .null]) rfl ?_
  refine ct_aload_n X d_X2_init_17 rfl hl0 ?_
  refine ct_bipush X d_X2_init_18 (v := 9) (by decide) ?_
  refine ct_newa X d_X2_init_20 (ty := .int) (t := 0) (N := 9) (ws2 := fun q2 => [(h0, .inr (2, [.int 0, .ref q1, .null, .null, .null])), (q1, .inl (cy 0, 9, .inl (fun _ => 0))), (q2, .inl (cy 0, 9, .inl (fun _ => 0)))]) (cells2 := 2) (slots2 := 18) rfl rfl ct_ra_int wA_int (fun _ => rfl) (by decide) (by decide) (by decide) (fun _ => rfl) ⟨rfl, rfl⟩ (by decide) (fun q2 => ?_)
  refine ct_putF X hin d_X2_init_22 lkX2_19 clX2 (fun C T N h => by cases h; exact ⟨rfl, rfl, _, tyX2_ok 2 (by decide), rfl, rfl⟩) (Nat.le_of_ble_eq_true rfl) (fs2 := [.int 0, .ref q1, .ref q2, .null, .null]) rfl ?_
  refine ct_aload_n X d_X2_init_25 rfl hl0 ?_
  refine ct_bipush X d_X2_init_26 (v := 9) (by decide) ?_
  refine ct_newa X d_X2_init_28 (ty := .int) (t := 0) (N := 9) (ws2 := fun q3 => [(h0, .inr (2, [.int 0, .ref q1, .ref q2, .null, .null])), (q1, .inl (cy 0, 9, .inl (fun _ => 0))), (q2, .inl (cy 0, 9, .inl (fun _ => 0))), (q3, .inl (cy 0, 9, .inl (fun _ => 0)))]) (cells2 := 3) (slots2 := 27) rfl rfl ct_ra_int wA_int (fun _ => rfl) (by decide) (by decide) (by decide) (fun _ => rfl) ⟨rfl, rfl⟩ (by decide) (fun q3 => ?_)
  refine ct_putF X hin d_X2_init_30 lkX2_22 clX2 (fun C T N h => by cases h; exact ⟨rfl, rfl, _, tyX2_ok 3 (by decide), rfl, rfl⟩) (Nat.le_of_ble_eq_true rfl) (fs2 := [.int 0, .ref q1, .ref q2, .ref q3, .null]) rfl ?_
  refine ct_aload_n X d_X2_init_33 rfl hl0 ?_
  refine ct_bipush X d_X2_init_34 (v := 9) (by decide) ?_
  refine ct_newa X d_X2_init_36 (ty := .int) (t := 0) (N := 9) (ws2 := fun q4 => [(h0, .inr (2, [.int 0, .ref q1, .ref q2, .ref q3, .null])), (q1, .inl (cy 0, 9, .inl (fun _ => 0))), (q2, .inl (cy 0, 9, .inl (fun _ => 0))), (q3, .inl (cy 0, 9, .inl (fun _ => 0))), (q4, .inl (cy 0, 9, .inl (fun _ => 0)))]) (cells2 := 4) (slots2 := 36) rfl rfl ct_ra_int wA_int (fun _ => rfl) (by decide) (by decide) (by decide) (fun _ => rfl) ⟨rfl, rfl⟩ (by decide) (fun q4 => ?_)
  refine ct_putF X hin d_X2_init_38 lkX2_25 clX2 (fun C T N h => by cases h; exact ⟨rfl, rfl, _, tyX2_ok 4 (by decide), rfl, rfl⟩) (Nat.le_of_ble_eq_true rfl) (fs2 := [.int 0, .ref q1, .ref q2, .ref q3, .ref q4]) rfl ?_
  exact ct_vret X hr hlk d_X2_init_41 (by decide) (by decide) ((fun i => [h0, q1, q2, q3, q4].getD i 0), (fun _ => fun _ => 0)) trivial rfl
def cw_X5 (cy : Nat → ClassId) (h0 : Nat) (u : (Nat → Nat) × (Nat → Nat → Int32)) : va_W := [(h0, .inr (5, [.ref (u.1 1), .ref (u.1 2), .ref (u.1 3), .int 0])), ((u.1 1), .inl (cy 0, 6, .inl (fun _ => 0))), ((u.1 2), .inl (cy 0, 6, .inl (fun _ => 0))), ((u.1 3), .inl (cy 0, 6, .inl (fun _ => 0)))]
set_option maxRecDepth 4000 in
theorem c_X5 (l : Launch) (D : va_G) (cy : Nat → ClassId) : ct_M l D cy yX5_init prog_7_method_1_code 1 { frames := 2, cells := 3, slots := 18, locals := 100 } 5 [.null, .null, .null, .int 0] [] (cw_X5 cy) (fun _ => True) := by
  refine ct_at (by decide +kernel) (fun _ => by simp [lg_sl, Value.category]) ?_
  intro p e s m args below meth c ls h0 hr hlk hin X hl
  have hl0 : ls[0]? = some (.val (.ref h0)) := hl.2.2 (0, .ref h0) (by simp [lv_args, Value.category])
  have hs := hl.1
  have hw := hl.2.1
  clear hl
  refine ct_aload_n X d_X5_init_0 rfl hl0 ?_
  refine ct_obj X d_X5_init_1 wo_X5 hs (by decide) ?_
  refine ct_aload_n X d_X5_init_4 rfl hl0 ?_
  refine ct_bipush X d_X5_init_5 (v := 6) (by decide) ?_
  refine ct_newa X d_X5_init_7 (ty := .int) (t := 0) (N := 6) (ws2 := fun q1 => [(h0, .inr (5, [.null, .null, .null, .int 0])), (q1, .inl (cy 0, 6, .inl (fun _ => 0)))]) (cells2 := 1) (slots2 := 6) rfl rfl ct_ra_int wA_int (fun _ => rfl) (by decide) (by decide) (by decide) (fun _ => rfl) ⟨rfl, rfl⟩ (by decide) (fun q1 => ?_)
  refine ct_putF X hin d_X5_init_9 lkX5_9 clX5 (fun C T N h => by cases h; exact ⟨rfl, rfl, _, tyX5_ok 0 (by decide), rfl, rfl⟩) (Nat.le_of_ble_eq_true rfl) (fs2 := [.ref q1, .null, .null, .int 0]) rfl ?_
  refine ct_aload_n X d_X5_init_12 rfl hl0 ?_
  refine ct_bipush X d_X5_init_13 (v := 6) (by decide) ?_
  refine ct_newa X d_X5_init_15 (ty := .int) (t := 0) (N := 6) (ws2 := fun q2 => [(h0, .inr (5, [.ref q1, .null, .null, .int 0])), (q1, .inl (cy 0, 6, .inl (fun _ => 0))), (q2, .inl (cy 0, 6, .inl (fun _ => 0)))]) (cells2 := 2) (slots2 := 12) rfl rfl ct_ra_int wA_int (fun _ => rfl) (by decide) (by decide) (by decide) (fun _ => rfl) ⟨rfl, rfl⟩ (by decide) (fun q2 => ?_)
  refine ct_putF X hin d_X5_init_17 lkX5_15 clX5 (fun C T N h => by cases h; exact ⟨rfl, rfl, _, tyX5_ok 1 (by decide), rfl, rfl⟩) (Nat.le_of_ble_eq_true rfl) (fs2 := [.ref q1, .ref q2, .null, .int 0]) rfl ?_
  refine ct_aload_n X d_X5_init_20 rfl hl0 ?_
  refine ct_bipush X d_X5_init_21 (v := 6) (by decide) ?_
  refine ct_newa X d_X5_init_23 (ty := .int) (t := 0) (N := 6) (ws2 := fun q3 => [(h0, .inr (5, [.ref q1, .ref q2, .null, .int 0])), (q1, .inl (cy 0, 6, .inl (fun _ => 0))), (q2, .inl (cy 0, 6, .inl (fun _ => 0))), (q3, .inl (cy 0, 6, .inl (fun _ => 0)))]) (cells2 := 3) (slots2 := 18) rfl rfl ct_ra_int wA_int (fun _ => rfl) (by decide) (by decide) (by decide) (fun _ => rfl) ⟨rfl, rfl⟩ (by decide) (fun q3 => ?_)
  refine ct_putF X hin d_X5_init_25 lkX5_18 clX5 (fun C T N h => by cases h; exact ⟨rfl, rfl, _, tyX5_ok 2 (by decide), rfl, rfl⟩) (Nat.le_of_ble_eq_true rfl) (fs2 := [.ref q1, .ref q2, .ref q3, .int 0]) rfl ?_
  refine ct_aload_n X d_X5_init_28 rfl hl0 ?_
  refine ct_iconst X d_X5_init_29 (v := 0) (by decide) ?_
  refine ct_put X d_X5_init_30 lkX5_21 clX5 (fun C T N h => by cases h; exact ⟨rfl, _, tyX5_ok 3 (by decide), rfl, rfl⟩) (Nat.le_of_ble_eq_true rfl) (fs2 := [.ref q1, .ref q2, .ref q3, .int 0]) rfl ?_
  exact ct_vret X hr hlk d_X5_init_33 (by decide) (by decide) ((fun i => [h0, q1, q2, q3].getD i 0), (fun _ => fun _ => 0)) trivial rfl
def cw_X4 (cy : Nat → ClassId) (r1 : Nat) (r2 : Nat) (r3 : Nat) (h0 : Nat) (u : (Nat → Nat) × (Nat → Nat → Int32)) : va_W := [(h0, .inr (4, [.int 0, .int 0, .ref (u.1 1), .ref (u.1 2), .ref (u.1 3), .ref (u.1 4), .ref r1, .ref r2, .ref r3, .int 0, .int 0, .int 0])), ((u.1 1), .inl (cy 0, 3, .inl (fun _ => 0))), ((u.1 2), .inl (cy 0, 3, .inl (fun _ => 0))), ((u.1 3), .inl (cy 0, 20, .inl (fun _ => 0))), ((u.1 4), .inl (cy 0, 400, .inl (fun _ => 0)))]
set_option maxRecDepth 4000 in
theorem c_X4 (l : Launch) (D : va_G) (cy : Nat → ClassId) (r1 : Nat) (r2 : Nat) (r3 : Nat) : ct_M l D cy yX4_init prog_6_method_1_code 4 { frames := 2, cells := 4, slots := 426, locals := 100 } 4 [.int 0, .int 0, .null, .null, .null, .null, .null, .null, .null, .int 0, .int 0, .int 0] [.ref r1, .ref r2, .ref r3] (cw_X4 cy r1 r2 r3) (fun _ => True) := by
  refine ct_at (by decide +kernel) (fun _ => by simp [lg_sl, Value.category]) ?_
  intro p e s m args below meth c ls h0 hr hlk hin X hl
  have hl0 : ls[0]? = some (.val (.ref h0)) := hl.2.2 (0, .ref h0) (by simp [lv_args, Value.category])
  have hl1 : ls[1]? = some (.val (.ref r1)) := hl.2.2 (1, .ref r1) (by simp [lv_args, Value.category])
  have hl2 : ls[2]? = some (.val (.ref r2)) := hl.2.2 (2, .ref r2) (by simp [lv_args, Value.category])
  have hl3 : ls[3]? = some (.val (.ref r3)) := hl.2.2 (3, .ref r3) (by simp [lv_args, Value.category])
  have hs := hl.1
  have hw := hl.2.1
  clear hl
  refine ct_aload_n X d_X4_init_0 rfl hl0 ?_
  refine ct_obj X d_X4_init_1 wo_X4 hs (by decide) ?_
  refine ct_aload_n X d_X4_init_4 rfl hl0 ?_
  refine ct_iconst X d_X4_init_5 (v := 0) (by decide) ?_
  refine ct_put X d_X4_init_6 lkX4_9 clX4 (fun C T N h => by cases h; exact ⟨rfl, _, tyX4_ok 0 (by decide), rfl, rfl⟩) (Nat.le_of_ble_eq_true rfl) (fs2 := [.int 0, .int 0, .null, .null, .null, .null, .null, .null, .null, .int 0, .int 0, .int 0]) rfl ?_
  refine ct_aload_n X d_X4_init_9 rfl hl0 ?_
  refine ct_iconst X d_X4_init_10 (v := 0) (by decide) ?_
  refine ct_put X d_X4_init_11 lkX4_15 clX4 (fun C T N h => by cases h; exact ⟨rfl, _, tyX4_ok 1 (by decide), rfl, rfl⟩) (Nat.le_of_ble_eq_true rfl) (fs2 := [.int 0, .int 0, .null, .null, .null, .null, .null, .null, .null, .int 0, .int 0, .int 0]) rfl ?_
  refine ct_aload_n X d_X4_init_14 rfl hl0 ?_
  refine ct_iconst X d_X4_init_15 (v := 3) (by decide) ?_
  refine ct_newa X d_X4_init_16 (ty := .int) (t := 0) (N := 3) (ws2 := fun q1 => [(h0, .inr (4, [.int 0, .int 0, .null, .null, .null, .null, .null, .null, .null, .int 0, .int 0, .int 0])), (q1, .inl (cy 0, 3, .inl (fun _ => 0)))]) (cells2 := 1) (slots2 := 3) rfl rfl ct_ra_int wA_int (fun _ => rfl) (by decide) (by decide) (by decide) (fun _ => rfl) ⟨rfl, rfl⟩ (by decide) (fun q1 => ?_)
  refine ct_putF X hin d_X4_init_18 lkX4_18 clX4 (fun C T N h => by cases h; exact ⟨rfl, rfl, _, tyX4_ok 2 (by decide), rfl, rfl⟩) (Nat.le_of_ble_eq_true rfl) (fs2 := [.int 0, .int 0, .ref q1, .null, .null, .null, .null, .null, .null, .int 0, .int 0, .int 0]) rfl ?_
  refine ct_aload_n X d_X4_init_21 rfl hl0 ?_
  refine ct_iconst X d_X4_init_22 (v := 3) (by decide) ?_
  refine ct_newa X d_X4_init_23 (ty := .int) (t := 0) (N := 3) (ws2 := fun q2 => [(h0, .inr (4, [.int 0, .int 0, .ref q1, .null, .null, .null, .null, .null, .null, .int 0, .int 0, .int 0])), (q1, .inl (cy 0, 3, .inl (fun _ => 0))), (q2, .inl (cy 0, 3, .inl (fun _ => 0)))]) (cells2 := 2) (slots2 := 6) rfl rfl ct_ra_int wA_int (fun _ => rfl) (by decide) (by decide) (by decide) (fun _ => rfl) ⟨rfl, rfl⟩ (by decide) (fun q2 => ?_)
  refine ct_putF X hin d_X4_init_25 lkX4_22 clX4 (fun C T N h => by cases h; exact ⟨rfl, rfl, _, tyX4_ok 3 (by decide), rfl, rfl⟩) (Nat.le_of_ble_eq_true rfl) (fs2 := [.int 0, .int 0, .ref q1, .ref q2, .null, .null, .null, .null, .null, .int 0, .int 0, .int 0]) rfl ?_
  refine ct_aload_n X d_X4_init_28 rfl hl0 ?_
  refine ct_bipush X d_X4_init_29 (v := 20) (by decide) ?_
  refine ct_newa X d_X4_init_31 (ty := .int) (t := 0) (N := 20) (ws2 := fun q3 => [(h0, .inr (4, [.int 0, .int 0, .ref q1, .ref q2, .null, .null, .null, .null, .null, .int 0, .int 0, .int 0])), (q1, .inl (cy 0, 3, .inl (fun _ => 0))), (q2, .inl (cy 0, 3, .inl (fun _ => 0))), (q3, .inl (cy 0, 20, .inl (fun _ => 0)))]) (cells2 := 3) (slots2 := 26) rfl rfl ct_ra_int wA_int (fun _ => rfl) (by decide) (by decide) (by decide) (fun _ => rfl) ⟨rfl, rfl⟩ (by decide) (fun q3 => ?_)
  refine ct_putF X hin d_X4_init_33 lkX4_25 clX4 (fun C T N h => by cases h; exact ⟨rfl, rfl, _, tyX4_ok 4 (by decide), rfl, rfl⟩) (Nat.le_of_ble_eq_true rfl) (fs2 := [.int 0, .int 0, .ref q1, .ref q2, .ref q3, .null, .null, .null, .null, .int 0, .int 0, .int 0]) rfl ?_
  refine ct_aload_n X d_X4_init_36 rfl hl0 ?_
  refine ct_sipush X d_X4_init_37 (v := 400) (by decide) ?_
  refine ct_newa X d_X4_init_40 (ty := .int) (t := 0) (N := 400) (ws2 := fun q4 => [(h0, .inr (4, [.int 0, .int 0, .ref q1, .ref q2, .ref q3, .null, .null, .null, .null, .int 0, .int 0, .int 0])), (q1, .inl (cy 0, 3, .inl (fun _ => 0))), (q2, .inl (cy 0, 3, .inl (fun _ => 0))), (q3, .inl (cy 0, 20, .inl (fun _ => 0))), (q4, .inl (cy 0, 400, .inl (fun _ => 0)))]) (cells2 := 4) (slots2 := 426) rfl rfl ct_ra_int wA_int (fun _ => rfl) (by decide) (by decide) (by decide) (fun _ => rfl) ⟨rfl, rfl⟩ (by decide) (fun q4 => ?_)
  refine ct_putF X hin d_X4_init_42 lkX4_28 clX4 (fun C T N h => by cases h; exact ⟨rfl, rfl, _, tyX4_ok 5 (by decide), rfl, rfl⟩) (Nat.le_of_ble_eq_true rfl) (fs2 := [.int 0, .int 0, .ref q1, .ref q2, .ref q3, .ref q4, .null, .null, .null, .int 0, .int 0, .int 0]) rfl ?_
  refine ct_aload_n X d_X4_init_45 rfl hl0 ?_
  refine ct_iconst X d_X4_init_46 (v := 0) (by decide) ?_
  refine ct_put X d_X4_init_47 lkX4_31 clX4 (fun C T N h => by cases h; exact ⟨rfl, _, tyX4_ok 9 (by decide), rfl, rfl⟩) (Nat.le_of_ble_eq_true rfl) (fs2 := [.int 0, .int 0, .ref q1, .ref q2, .ref q3, .ref q4, .null, .null, .null, .int 0, .int 0, .int 0]) rfl ?_
  refine ct_aload_n X d_X4_init_50 rfl hl0 ?_
  refine ct_iconst X d_X4_init_51 (v := 0) (by decide) ?_
  refine ct_put X d_X4_init_52 lkX4_34 clX4 (fun C T N h => by cases h; exact ⟨rfl, _, tyX4_ok 10 (by decide), rfl, rfl⟩) (Nat.le_of_ble_eq_true rfl) (fs2 := [.int 0, .int 0, .ref q1, .ref q2, .ref q3, .ref q4, .null, .null, .null, .int 0, .int 0, .int 0]) rfl ?_
  refine ct_aload_n X d_X4_init_55 rfl hl0 ?_
  refine ct_iconst X d_X4_init_56 (v := 0) (by decide) ?_
  refine ct_put X d_X4_init_57 lkX4_37 clX4 (fun C T N h => by cases h; exact ⟨rfl, _, tyX4_ok 11 (by decide), rfl, rfl⟩) (Nat.le_of_ble_eq_true rfl) (fs2 := [.int 0, .int 0, .ref q1, .ref q2, .ref q3, .ref q4, .null, .null, .null, .int 0, .int 0, .int 0]) rfl ?_
  refine ct_aload_n X d_X4_init_60 rfl hl0 ?_
  refine ct_aload_n X d_X4_init_61 rfl hl1 ?_
  refine ct_putF X hin d_X4_init_62 lkX4_40 clX4 (fun C T N h => by cases h; exact ⟨rfl, rfl, _, tyX4_ok 6 (by decide), rfl, rfl⟩) (Nat.le_of_ble_eq_true rfl) (fs2 := [.int 0, .int 0, .ref q1, .ref q2, .ref q3, .ref q4, .ref r1, .null, .null, .int 0, .int 0, .int 0]) rfl ?_
  refine ct_aload_n X d_X4_init_65 rfl hl0 ?_
  refine ct_aload_n X d_X4_init_66 rfl hl2 ?_
  refine ct_putF X hin d_X4_init_67 lkX4_44 clX4 (fun C T N h => by cases h; exact ⟨rfl, rfl, _, tyX4_ok 7 (by decide), rfl, rfl⟩) (Nat.le_of_ble_eq_true rfl) (fs2 := [.int 0, .int 0, .ref q1, .ref q2, .ref q3, .ref q4, .ref r1, .ref r2, .null, .int 0, .int 0, .int 0]) rfl ?_
  refine ct_aload_n X d_X4_init_70 rfl hl0 ?_
  refine ct_aload_n X d_X4_init_71 rfl hl3 ?_
  refine ct_putF X hin d_X4_init_72 lkX4_47 clX4 (fun C T N h => by cases h; exact ⟨rfl, rfl, _, tyX4_ok 8 (by decide), rfl, rfl⟩) (Nat.le_of_ble_eq_true rfl) (fs2 := [.int 0, .int 0, .ref q1, .ref q2, .ref q3, .ref q4, .ref r1, .ref r2, .ref r3, .int 0, .int 0, .int 0]) rfl ?_
  exact ct_vret X hr hlk d_X4_init_75 (by decide) (by decide) ((fun i => [h0, q1, q2, q3, q4].getD i 0), (fun _ => fun _ => 0)) trivial rfl
def cw_X3 (cy : Nat → ClassId) (r1 : Nat) (h0 : Nat) (u : (Nat → Nat) × (Nat → Nat → Int32)) : va_W := [(h0, .inr (3, [.ref (u.1 1), .ref r1, .int 0, .int 0, .int 0])), ((u.1 1), .inr (1, [.ref (u.1 2), .ref (u.1 3), .int 0, .ref (u.1 4), .ref (u.1 5), .ref (u.1 6), .ref (u.1 7), .int 0, .int 0, .ref (u.1 8), .ref (u.1 9)])), ((u.1 2), .inl (cy 0, 200, .inl (fun _ => 0))), ((u.1 3), .inl (cy 0, 200, .inl (fun _ => 0))), ((u.1 4), .inl (cy 0, 14, .inl (fun _ => 0))), ((u.1 5), .inl (cy 0, 14, .inl (fun _ => 0))), ((u.1 6), .inl (cy 0, 14, .inl (fun _ => 0))), ((u.1 7), .inl (cy 0, 14, .inl (fun _ => 0))), ((u.1 8), .inl (cy 0, 13, .inl (fun _ => 0))), ((u.1 9), .inl (cy 0, 40, .inl (fun _ => 0)))]
set_option maxRecDepth 4000 in
theorem c_X3 (l : Launch) (D : va_G) (cy : Nat → ClassId) (r1 : Nat) : ct_M l D cy yX3_init prog_5_method_1_code 2 { frames := 4, cells := 9, slots := 520, locals := 300 } 3 [.null, .null, .int 0, .int 0, .int 0] [.ref r1] (cw_X3 cy r1) (fun _ => True) := by
  refine ct_at (by decide +kernel) (fun _ => by simp [lg_sl, Value.category]) ?_
  intro p e s m args below meth c ls h0 hr hlk hin X hl
  have hl0 : ls[0]? = some (.val (.ref h0)) := hl.2.2 (0, .ref h0) (by simp [lv_args, Value.category])
  have hl1 : ls[1]? = some (.val (.ref r1)) := hl.2.2 (1, .ref r1) (by simp [lv_args, Value.category])
  have hs := hl.1
  have hw := hl.2.1
  clear hl
  refine ct_aload_n X d_X3_init_0 rfl hl0 ?_
  refine ct_obj X d_X3_init_1 wo_X3 hs (by decide) ?_
  refine ct_aload_n X d_X3_init_4 rfl hl0 ?_
  refine ct_new X (ci := 1) d_X3_init_5 inX1 tyX1_ok wn_X3_9 rfl zz_X1 (by decide) (by decide) (fun q1 => ?_)
  refine ct_dup X d_X3_init_8 rfl ?_
  refine ct_call X (c_X1 l D cy) d_X3_init_9 (Or.inr ⟨_, wl_X3_11⟩) wi_X1 wq_X1 (by decide) (rest := [.ref q1, .ref h0]) rfl rfl hs (by simp [Value.category]) (by decide) (fun u2 _ => ?_)
  refine ct_putF X hin d_X3_init_12 lkX3_12 clX3 (fun C T N h => by cases h; exact ⟨rfl, rfl, _, tyX3_ok 0 (by decide), rfl, rfl⟩) (Nat.le_of_ble_eq_true rfl) (fs2 := [.ref q1, .null, .int 0, .int 0, .int 0]) rfl ?_
  refine ct_aload_n X d_X3_init_15 rfl hl0 ?_
  refine ct_iconst X d_X3_init_16 (v := 0) (by decide) ?_
  refine ct_put X d_X3_init_17 lkX3_18 clX3 (fun C T N h => by cases h; exact ⟨rfl, _, tyX3_ok 2 (by decide), rfl, rfl⟩) (Nat.le_of_ble_eq_true rfl) (fs2 := [.ref q1, .null, .int 0, .int 0, .int 0]) rfl ?_
  refine ct_aload_n X d_X3_init_20 rfl hl0 ?_
  refine ct_iconst X d_X3_init_21 (v := 0) (by decide) ?_
  refine ct_put X d_X3_init_22 lkX3_22 clX3 (fun C T N h => by cases h; exact ⟨rfl, _, tyX3_ok 3 (by decide), rfl, rfl⟩) (Nat.le_of_ble_eq_true rfl) (fs2 := [.ref q1, .null, .int 0, .int 0, .int 0]) rfl ?_
  refine ct_aload_n X d_X3_init_25 rfl hl0 ?_
  refine ct_iconst X d_X3_init_26 (v := 0) (by decide) ?_
  refine ct_put X d_X3_init_27 lkX3_25 clX3 (fun C T N h => by cases h; exact ⟨rfl, _, tyX3_ok 4 (by decide), rfl, rfl⟩) (Nat.le_of_ble_eq_true rfl) (fs2 := [.ref q1, .null, .int 0, .int 0, .int 0]) rfl ?_
  refine ct_aload_n X d_X3_init_30 rfl hl0 ?_
  refine ct_aload_n X d_X3_init_31 rfl hl1 ?_
  refine ct_putF X hin d_X3_init_32 lkX3_28 clX3 (fun C T N h => by cases h; exact ⟨rfl, rfl, _, tyX3_ok 1 (by decide), rfl, rfl⟩) (Nat.le_of_ble_eq_true rfl) (fs2 := [.ref q1, .ref r1, .int 0, .int 0, .int 0]) rfl ?_
  exact ct_vret X hr hlk d_X3_init_35 (by decide) (by decide) ((fun i => [h0, q1, (u2.1 1), (u2.1 2), (u2.1 3), (u2.1 4), (u2.1 5), (u2.1 6), (u2.1 7), (u2.1 8)].getD i 0), (fun _ => fun _ => 0)) trivial rfl
def cw_X0 (cy : Nat → ClassId) (h0 : Nat) (u : (Nat → Nat) × (Nat → Nat → Int32)) : va_W := [(h0, .inr (0, [.ref (u.1 1), .ref (u.1 2), .ref (u.1 3), .ref (u.1 4), .ref (u.1 5), .ref (u.1 6), .ref (u.1 7), .ref (u.1 12), .ref (u.1 13), .int 0, .int 1, .int 0, .int 0, .int 0, .int 1, .int 6, .int 0, .ref (u.1 14)])), ((u.1 1), .inl (cy 0, 20, .inl (fun _ => 0))), ((u.1 2), .inl (cy 0, 20, .inl (fun _ => 0))), ((u.1 3), .inl (cy 0, 20, .inl (fun _ => 0))), ((u.1 4), .inl (cy 0, 20, .inl (u.2 4))), ((u.1 5), .inl (cy 0, 6, .inl (fun _ => 0))), ((u.1 6), .inl (cy 0, 6, .inl (fun _ => 0))), ((u.1 7), .inr (2, [.int 0, .ref (u.1 8), .ref (u.1 9), .ref (u.1 10), .ref (u.1 11)])), ((u.1 8), .inl (cy 0, 9, .inl (fun _ => 0))), ((u.1 9), .inl (cy 0, 9, .inl (fun _ => 0))), ((u.1 10), .inl (cy 0, 9, .inl (fun _ => 0))), ((u.1 11), .inl (cy 0, 9, .inl (fun _ => 0))), ((u.1 12), .inl (cy 0, 100, .inl (fun _ => 0))), ((u.1 13), .inl (cy 0, 180, .inl (fun _ => 0))), ((u.1 14), .inl (cy 0, 20, .inl (fun _ => 0)))]
set_option maxRecDepth 4000 in
theorem c_X0 (l : Launch) (D : va_G) (cy : Nat → ClassId) : ct_M l D cy yX0_init prog_2_method_1_code 1 { frames := 4, cells := 14, slots := 433, locals := 300 } 0 [.null, .null, .null, .null, .null, .null, .null, .null, .null, .int 0, .int 0, .int 0, .int 0, .int 0, .int 0, .int 0, .int 0, .null] [] (cw_X0 cy) (fun _ => True) := by
  refine ct_at (by decide +kernel) (fun _ => by simp [lg_sl, Value.category]) ?_
  intro p e s m args below meth c ls h0 hr hlk hin X hl
  have hl0 : ls[0]? = some (.val (.ref h0)) := hl.2.2 (0, .ref h0) (by simp [lv_args, Value.category])
  have hs := hl.1
  have hw := hl.2.1
  clear hl
  refine ct_aload_n X d_X0_init_0 rfl hl0 ?_
  refine ct_obj X d_X0_init_1 wo_X0 hs (by decide) ?_
  refine ct_aload_n X d_X0_init_4 rfl hl0 ?_
  refine ct_bipush X d_X0_init_5 (v := 20) (by decide) ?_
  refine ct_newa X d_X0_init_7 (ty := .int) (t := 0) (N := 20) (ws2 := fun q1 => [(h0, .inr (0, [.null, .null, .null, .null, .null, .null, .null, .null, .null, .int 0, .int 0, .int 0, .int 0, .int 0, .int 0, .int 0, .int 0, .null])), (q1, .inl (cy 0, 20, .inl (fun _ => 0)))]) (cells2 := 1) (slots2 := 20) rfl rfl ct_ra_int wA_int (fun _ => rfl) (by decide) (by decide) (by decide) (fun _ => rfl) ⟨rfl, rfl⟩ (by decide) (fun q1 => ?_)
  refine ct_putF X hin d_X0_init_9 lkX0_9 clX0 (fun C T N h => by cases h; exact ⟨rfl, rfl, _, tyX0_ok 0 (by decide), rfl, rfl⟩) (Nat.le_of_ble_eq_true rfl) (fs2 := [.ref q1, .null, .null, .null, .null, .null, .null, .null, .null, .int 0, .int 0, .int 0, .int 0, .int 0, .int 0, .int 0, .int 0, .null]) rfl ?_
  refine ct_aload_n X d_X0_init_12 rfl hl0 ?_
  refine ct_bipush X d_X0_init_13 (v := 20) (by decide) ?_
  refine ct_newa X d_X0_init_15 (ty := .int) (t := 0) (N := 20) (ws2 := fun q2 => [(h0, .inr (0, [.ref q1, .null, .null, .null, .null, .null, .null, .null, .null, .int 0, .int 0, .int 0, .int 0, .int 0, .int 0, .int 0, .int 0, .null])), (q1, .inl (cy 0, 20, .inl (fun _ => 0))), (q2, .inl (cy 0, 20, .inl (fun _ => 0)))]) (cells2 := 2) (slots2 := 40) rfl rfl ct_ra_int wA_int (fun _ => rfl) (by decide) (by decide) (by decide) (fun _ => rfl) ⟨rfl, rfl⟩ (by decide) (fun q2 => ?_)
  refine ct_putF X hin d_X0_init_17 lkX0_15 clX0 (fun C T N h => by cases h; exact ⟨rfl, rfl, _, tyX0_ok 1 (by decide), rfl, rfl⟩) (Nat.le_of_ble_eq_true rfl) (fs2 := [.ref q1, .ref q2, .null, .null, .null, .null, .null, .null, .null, .int 0, .int 0, .int 0, .int 0, .int 0, .int 0, .int 0, .int 0, .null]) rfl ?_
  refine ct_aload_n X d_X0_init_20 rfl hl0 ?_
  refine ct_bipush X d_X0_init_21 (v := 20) (by decide) ?_
  refine ct_newa X d_X0_init_23 (ty := .int) (t := 0) (N := 20) (ws2 := fun q3 => [(h0, .inr (0, [.ref q1, .ref q2, .null, .null, .null, .null, .null, .null, .null, .int 0, .int 0, .int 0, .int 0, .int 0, .int 0, .int 0, .int 0, .null])), (q1, .inl (cy 0, 20, .inl (fun _ => 0))), (q2, .inl (cy 0, 20, .inl (fun _ => 0))), (q3, .inl (cy 0, 20, .inl (fun _ => 0)))]) (cells2 := 3) (slots2 := 60) rfl rfl ct_ra_int wA_int (fun _ => rfl) (by decide) (by decide) (by decide) (fun _ => rfl) ⟨rfl, rfl⟩ (by decide) (fun q3 => ?_)
  refine ct_putF X hin d_X0_init_25 lkX0_18 clX0 (fun C T N h => by cases h; exact ⟨rfl, rfl, _, tyX0_ok 2 (by decide), rfl, rfl⟩) (Nat.le_of_ble_eq_true rfl) (fs2 := [.ref q1, .ref q2, .ref q3, .null, .null, .null, .null, .null, .null, .int 0, .int 0, .int 0, .int 0, .int 0, .int 0, .int 0, .int 0, .null]) rfl ?_
  refine ct_aload_n X d_X0_init_28 rfl hl0 ?_
  refine ct_bipush X d_X0_init_29 (v := 20) (by decide) ?_
  refine ct_newa X d_X0_init_31 (ty := .int) (t := 0) (N := 20) (ws2 := fun q4 => [(h0, .inr (0, [.ref q1, .ref q2, .ref q3, .null, .null, .null, .null, .null, .null, .int 0, .int 0, .int 0, .int 0, .int 0, .int 0, .int 0, .int 0, .null])), (q1, .inl (cy 0, 20, .inl (fun _ => 0))), (q2, .inl (cy 0, 20, .inl (fun _ => 0))), (q3, .inl (cy 0, 20, .inl (fun _ => 0))), (q4, .inl (cy 0, 20, .inl (fun _ => 0)))]) (cells2 := 4) (slots2 := 80) rfl rfl ct_ra_int wA_int (fun _ => rfl) (by decide) (by decide) (by decide) (fun _ => rfl) ⟨rfl, rfl⟩ (by decide) (fun q4 => ?_)
  refine ct_putF X hin d_X0_init_33 lkX0_21 clX0 (fun C T N h => by cases h; exact ⟨rfl, rfl, _, tyX0_ok 3 (by decide), rfl, rfl⟩) (Nat.le_of_ble_eq_true rfl) (fs2 := [.ref q1, .ref q2, .ref q3, .ref q4, .null, .null, .null, .null, .null, .int 0, .int 0, .int 0, .int 0, .int 0, .int 0, .int 0, .int 0, .null]) rfl ?_
  refine ct_aload_n X d_X0_init_36 rfl hl0 ?_
  refine ct_bipush X d_X0_init_37 (v := 6) (by decide) ?_
  refine ct_newa X d_X0_init_39 (ty := .int) (t := 0) (N := 6) (ws2 := fun q5 => [(h0, .inr (0, [.ref q1, .ref q2, .ref q3, .ref q4, .null, .null, .null, .null, .null, .int 0, .int 0, .int 0, .int 0, .int 0, .int 0, .int 0, .int 0, .null])), (q1, .inl (cy 0, 20, .inl (fun _ => 0))), (q2, .inl (cy 0, 20, .inl (fun _ => 0))), (q3, .inl (cy 0, 20, .inl (fun _ => 0))), (q4, .inl (cy 0, 20, .inl (fun _ => 0))), (q5, .inl (cy 0, 6, .inl (fun _ => 0)))]) (cells2 := 5) (slots2 := 86) rfl rfl ct_ra_int wA_int (fun _ => rfl) (by decide) (by decide) (by decide) (fun _ => rfl) ⟨rfl, rfl⟩ (by decide) (fun q5 => ?_)
  refine ct_putF X hin d_X0_init_41 lkX0_24 clX0 (fun C T N h => by cases h; exact ⟨rfl, rfl, _, tyX0_ok 4 (by decide), rfl, rfl⟩) (Nat.le_of_ble_eq_true rfl) (fs2 := [.ref q1, .ref q2, .ref q3, .ref q4, .ref q5, .null, .null, .null, .null, .int 0, .int 0, .int 0, .int 0, .int 0, .int 0, .int 0, .int 0, .null]) rfl ?_
  refine ct_aload_n X d_X0_init_44 rfl hl0 ?_
  refine ct_bipush X d_X0_init_45 (v := 6) (by decide) ?_
  refine ct_newa X d_X0_init_47 (ty := .int) (t := 0) (N := 6) (ws2 := fun q6 => [(h0, .inr (0, [.ref q1, .ref q2, .ref q3, .ref q4, .ref q5, .null, .null, .null, .null, .int 0, .int 0, .int 0, .int 0, .int 0, .int 0, .int 0, .int 0, .null])), (q1, .inl (cy 0, 20, .inl (fun _ => 0))), (q2, .inl (cy 0, 20, .inl (fun _ => 0))), (q3, .inl (cy 0, 20, .inl (fun _ => 0))), (q4, .inl (cy 0, 20, .inl (fun _ => 0))), (q5, .inl (cy 0, 6, .inl (fun _ => 0))), (q6, .inl (cy 0, 6, .inl (fun _ => 0)))]) (cells2 := 6) (slots2 := 92) rfl rfl ct_ra_int wA_int (fun _ => rfl) (by decide) (by decide) (by decide) (fun _ => rfl) ⟨rfl, rfl⟩ (by decide) (fun q6 => ?_)
  refine ct_putF X hin d_X0_init_49 lkX0_27 clX0 (fun C T N h => by cases h; exact ⟨rfl, rfl, _, tyX0_ok 5 (by decide), rfl, rfl⟩) (Nat.le_of_ble_eq_true rfl) (fs2 := [.ref q1, .ref q2, .ref q3, .ref q4, .ref q5, .ref q6, .null, .null, .null, .int 0, .int 0, .int 0, .int 0, .int 0, .int 0, .int 0, .int 0, .null]) rfl ?_
  refine ct_aload_n X d_X0_init_52 rfl hl0 ?_
  refine ct_new X (ci := 2) d_X0_init_53 inX2 tyX2_ok wn_X0_30 rfl zz_X2 (by decide) (by decide) (fun q7 => ?_)
  refine ct_dup X d_X0_init_56 rfl ?_
  refine ct_call X (c_X2 l D cy) d_X0_init_57 (Or.inr ⟨_, wl_X0_32⟩) wi_X2 wq_X2 (by decide) (rest := [.ref q7, .ref h0]) rfl rfl hs (by simp [Value.category]) (by decide) (fun u8 _ => ?_)
  refine ct_putF X hin d_X0_init_60 lkX0_33 clX0 (fun C T N h => by cases h; exact ⟨rfl, rfl, _, tyX0_ok 6 (by decide), rfl, rfl⟩) (Nat.le_of_ble_eq_true rfl) (fs2 := [.ref q1, .ref q2, .ref q3, .ref q4, .ref q5, .ref q6, .ref q7, .null, .null, .int 0, .int 0, .int 0, .int 0, .int 0, .int 0, .int 0, .int 0, .null]) rfl ?_
  refine ct_aload_n X d_X0_init_63 rfl hl0 ?_
  refine ct_bipush X d_X0_init_64 (v := 100) (by decide) ?_
  refine ct_newa X d_X0_init_66 (ty := .int) (t := 0) (N := 100) (ws2 := fun q9 => [(h0, .inr (0, [.ref q1, .ref q2, .ref q3, .ref q4, .ref q5, .ref q6, .ref q7, .null, .null, .int 0, .int 0, .int 0, .int 0, .int 0, .int 0, .int 0, .int 0, .null])), (q1, .inl (cy 0, 20, .inl (fun _ => 0))), (q2, .inl (cy 0, 20, .inl (fun _ => 0))), (q3, .inl (cy 0, 20, .inl (fun _ => 0))), (q4, .inl (cy 0, 20, .inl (fun _ => 0))), (q5, .inl (cy 0, 6, .inl (fun _ => 0))), (q6, .inl (cy 0, 6, .inl (fun _ => 0))), (q7, .inr (2, [.int 0, .ref (u8.1 1), .ref (u8.1 2), .ref (u8.1 3), .ref (u8.1 4)])), ((u8.1 1), .inl (cy 0, 9, .inl (fun _ => 0))), ((u8.1 2), .inl (cy 0, 9, .inl (fun _ => 0))), ((u8.1 3), .inl (cy 0, 9, .inl (fun _ => 0))), ((u8.1 4), .inl (cy 0, 9, .inl (fun _ => 0))), (q9, .inl (cy 0, 100, .inl (fun _ => 0)))]) (cells2 := 12) (slots2 := 233) rfl rfl ct_ra_int wA_int (fun _ => rfl) (by decide) (by decide) (by decide) (fun _ => rfl) ⟨rfl, rfl⟩ (by decide) (fun q9 => ?_)
  refine ct_putF X hin d_X0_init_68 lkX0_37 clX0 (fun C T N h => by cases h; exact ⟨rfl, rfl, _, tyX0_ok 7 (by decide), rfl, rfl⟩) (Nat.le_of_ble_eq_true rfl) (fs2 := [.ref q1, .ref q2, .ref q3, .ref q4, .ref q5, .ref q6, .ref q7, .ref q9, .null, .int 0, .int 0, .int 0, .int 0, .int 0, .int 0, .int 0, .int 0, .null]) rfl ?_
  refine ct_aload_n X d_X0_init_71 rfl hl0 ?_
  refine ct_sipush X d_X0_init_72 (v := 180) (by decide) ?_
  refine ct_newa X d_X0_init_75 (ty := .int) (t := 0) (N := 180) (ws2 := fun q10 => [(h0, .inr (0, [.ref q1, .ref q2, .ref q3, .ref q4, .ref q5, .ref q6, .ref q7, .ref q9, .null, .int 0, .int 0, .int 0, .int 0, .int 0, .int 0, .int 0, .int 0, .null])), (q1, .inl (cy 0, 20, .inl (fun _ => 0))), (q2, .inl (cy 0, 20, .inl (fun _ => 0))), (q3, .inl (cy 0, 20, .inl (fun _ => 0))), (q4, .inl (cy 0, 20, .inl (fun _ => 0))), (q5, .inl (cy 0, 6, .inl (fun _ => 0))), (q6, .inl (cy 0, 6, .inl (fun _ => 0))), (q7, .inr (2, [.int 0, .ref (u8.1 1), .ref (u8.1 2), .ref (u8.1 3), .ref (u8.1 4)])), ((u8.1 1), .inl (cy 0, 9, .inl (fun _ => 0))), ((u8.1 2), .inl (cy 0, 9, .inl (fun _ => 0))), ((u8.1 3), .inl (cy 0, 9, .inl (fun _ => 0))), ((u8.1 4), .inl (cy 0, 9, .inl (fun _ => 0))), (q9, .inl (cy 0, 100, .inl (fun _ => 0))), (q10, .inl (cy 0, 180, .inl (fun _ => 0)))]) (cells2 := 13) (slots2 := 413) rfl rfl ct_ra_int wA_int (fun _ => rfl) (by decide) (by decide) (by decide) (fun _ => rfl) ⟨rfl, rfl⟩ (by decide) (fun q10 => ?_)
  refine ct_putF X hin d_X0_init_77 lkX0_40 clX0 (fun C T N h => by cases h; exact ⟨rfl, rfl, _, tyX0_ok 8 (by decide), rfl, rfl⟩) (Nat.le_of_ble_eq_true rfl) (fs2 := [.ref q1, .ref q2, .ref q3, .ref q4, .ref q5, .ref q6, .ref q7, .ref q9, .ref q10, .int 0, .int 0, .int 0, .int 0, .int 0, .int 0, .int 0, .int 0, .null]) rfl ?_
  refine ct_aload_n X d_X0_init_80 rfl hl0 ?_
  refine ct_iconst X d_X0_init_81 (v := 0) (by decide) ?_
  refine ct_put X d_X0_init_82 lkX0_43 clX0 (fun C T N h => by cases h; exact ⟨rfl, _, tyX0_ok 9 (by decide), rfl, rfl⟩) (Nat.le_of_ble_eq_true rfl) (fs2 := [.ref q1, .ref q2, .ref q3, .ref q4, .ref q5, .ref q6, .ref q7, .ref q9, .ref q10, .int 0, .int 0, .int 0, .int 0, .int 0, .int 0, .int 0, .int 0, .null]) rfl ?_
  refine ct_aload_n X d_X0_init_85 rfl hl0 ?_
  refine ct_iconst X d_X0_init_86 (v := 1) (by decide) ?_
  refine ct_put X d_X0_init_87 lkX0_47 clX0 (fun C T N h => by cases h; exact ⟨rfl, _, tyX0_ok 10 (by decide), rfl, rfl⟩) (Nat.le_of_ble_eq_true rfl) (fs2 := [.ref q1, .ref q2, .ref q3, .ref q4, .ref q5, .ref q6, .ref q7, .ref q9, .ref q10, .int 0, .int 1, .int 0, .int 0, .int 0, .int 0, .int 0, .int 0, .null]) rfl ?_
  refine ct_aload_n X d_X0_init_90 rfl hl0 ?_
  refine ct_iconst X d_X0_init_91 (v := 0) (by decide) ?_
  refine ct_put X d_X0_init_92 lkX0_50 clX0 (fun C T N h => by cases h; exact ⟨rfl, _, tyX0_ok 11 (by decide), rfl, rfl⟩) (Nat.le_of_ble_eq_true rfl) (fs2 := [.ref q1, .ref q2, .ref q3, .ref q4, .ref q5, .ref q6, .ref q7, .ref q9, .ref q10, .int 0, .int 1, .int 0, .int 0, .int 0, .int 0, .int 0, .int 0, .null]) rfl ?_
  refine ct_aload_n X d_X0_init_95 rfl hl0 ?_
  refine ct_iconst X d_X0_init_96 (v := 0) (by decide) ?_
  refine ct_put X d_X0_init_97 lkX0_53 clX0 (fun C T N h => by cases h; exact ⟨rfl, _, tyX0_ok 12 (by decide), rfl, rfl⟩) (Nat.le_of_ble_eq_true rfl) (fs2 := [.ref q1, .ref q2, .ref q3, .ref q4, .ref q5, .ref q6, .ref q7, .ref q9, .ref q10, .int 0, .int 1, .int 0, .int 0, .int 0, .int 0, .int 0, .int 0, .null]) rfl ?_
  refine ct_aload_n X d_X0_init_100 rfl hl0 ?_
  refine ct_iconst X d_X0_init_101 (v := 0) (by decide) ?_
  refine ct_put X d_X0_init_102 lkX0_56 clX0 (fun C T N h => by cases h; exact ⟨rfl, _, tyX0_ok 13 (by decide), rfl, rfl⟩) (Nat.le_of_ble_eq_true rfl) (fs2 := [.ref q1, .ref q2, .ref q3, .ref q4, .ref q5, .ref q6, .ref q7, .ref q9, .ref q10, .int 0, .int 1, .int 0, .int 0, .int 0, .int 0, .int 0, .int 0, .null]) rfl ?_
  refine ct_aload_n X d_X0_init_105 rfl hl0 ?_
  refine ct_iconst X d_X0_init_106 (v := 1) (by decide) ?_
  refine ct_put X d_X0_init_107 lkX0_59 clX0 (fun C T N h => by cases h; exact ⟨rfl, _, tyX0_ok 14 (by decide), rfl, rfl⟩) (Nat.le_of_ble_eq_true rfl) (fs2 := [.ref q1, .ref q2, .ref q3, .ref q4, .ref q5, .ref q6, .ref q7, .ref q9, .ref q10, .int 0, .int 1, .int 0, .int 0, .int 0, .int 1, .int 0, .int 0, .null]) rfl ?_
  refine ct_aload_n X d_X0_init_110 rfl hl0 ?_
  refine ct_bipush X d_X0_init_111 (v := 6) (by decide) ?_
  refine ct_put X d_X0_init_113 lkX0_63 clX0 (fun C T N h => by cases h; exact ⟨rfl, _, tyX0_ok 15 (by decide), rfl, rfl⟩) (Nat.le_of_ble_eq_true rfl) (fs2 := [.ref q1, .ref q2, .ref q3, .ref q4, .ref q5, .ref q6, .ref q7, .ref q9, .ref q10, .int 0, .int 1, .int 0, .int 0, .int 0, .int 1, .int 6, .int 0, .null]) rfl ?_
  refine ct_aload_n X d_X0_init_116 rfl hl0 ?_
  refine ct_iconst X d_X0_init_117 (v := 0) (by decide) ?_
  refine ct_put X d_X0_init_118 lkX0_66 clX0 (fun C T N h => by cases h; exact ⟨rfl, _, tyX0_ok 16 (by decide), rfl, rfl⟩) (Nat.le_of_ble_eq_true rfl) (fs2 := [.ref q1, .ref q2, .ref q3, .ref q4, .ref q5, .ref q6, .ref q7, .ref q9, .ref q10, .int 0, .int 1, .int 0, .int 0, .int 0, .int 1, .int 6, .int 0, .null]) rfl ?_
  refine ct_aload_n X d_X0_init_121 rfl hl0 ?_
  refine ct_bipush X d_X0_init_122 (v := 20) (by decide) ?_
  refine ct_newa X d_X0_init_124 (ty := .int) (t := 0) (N := 20) (ws2 := fun q11 => [(h0, .inr (0, [.ref q1, .ref q2, .ref q3, .ref q4, .ref q5, .ref q6, .ref q7, .ref q9, .ref q10, .int 0, .int 1, .int 0, .int 0, .int 0, .int 1, .int 6, .int 0, .null])), (q1, .inl (cy 0, 20, .inl (fun _ => 0))), (q2, .inl (cy 0, 20, .inl (fun _ => 0))), (q3, .inl (cy 0, 20, .inl (fun _ => 0))), (q4, .inl (cy 0, 20, .inl (fun _ => 0))), (q5, .inl (cy 0, 6, .inl (fun _ => 0))), (q6, .inl (cy 0, 6, .inl (fun _ => 0))), (q7, .inr (2, [.int 0, .ref (u8.1 1), .ref (u8.1 2), .ref (u8.1 3), .ref (u8.1 4)])), ((u8.1 1), .inl (cy 0, 9, .inl (fun _ => 0))), ((u8.1 2), .inl (cy 0, 9, .inl (fun _ => 0))), ((u8.1 3), .inl (cy 0, 9, .inl (fun _ => 0))), ((u8.1 4), .inl (cy 0, 9, .inl (fun _ => 0))), (q9, .inl (cy 0, 100, .inl (fun _ => 0))), (q10, .inl (cy 0, 180, .inl (fun _ => 0))), (q11, .inl (cy 0, 20, .inl (fun _ => 0)))]) (cells2 := 14) (slots2 := 433) rfl rfl ct_ra_int wA_int (fun _ => rfl) (by decide) (by decide) (by decide) (fun _ => rfl) ⟨rfl, rfl⟩ (by decide) (fun q11 => ?_)
  refine ct_putF X hin d_X0_init_126 lkX0_69 clX0 (fun C T N h => by cases h; exact ⟨rfl, rfl, _, tyX0_ok 17 (by decide), rfl, rfl⟩) (Nat.le_of_ble_eq_true rfl) (fs2 := [.ref q1, .ref q2, .ref q3, .ref q4, .ref q5, .ref q6, .ref q7, .ref q9, .ref q10, .int 0, .int 1, .int 0, .int 0, .int 0, .int 1, .int 6, .int 0, .ref q11]) rfl ?_
  refine ct_aload_n X d_X0_init_129 rfl hl0 ?_
  refine ct_get X 0 d_X0_init_130 lkX0_21 rfl rfl ?_
  refine ct_bipush X d_X0_init_133 (v := 6) (by decide) ?_
  refine ct_fill X 4 (by decide) d_X0_init_135 wl_X0_72 (by decide) rfl hs (by decide) (fun f12 => ?_)
  exact ct_vret X hr hlk d_X0_init_138 (by decide) (by decide) ((fun i => [h0, q1, q2, q3, q4, q5, q6, q7, (u8.1 1), (u8.1 2), (u8.1 3), (u8.1 4), q9, q10, q11].getD i 0), (fun i =>  f12)) trivial rfl
def cw_X7 (cy : Nat → ClassId) (h0 : Nat) (u : (Nat → Nat) × (Nat → Nat → Int32)) : va_W := [(h0, .inr (7, [.ref (u.1 3), .ref (u.1 5), .ref (u.1 7), .ref (u.1 16), .ref (u.1 26), .ref (u.1 41), .ref (u.1 56), .ref (u.1 71), .ref (u.1 76), .ref (u.1 1), .ref (u.1 2), .int 0])), ((u.1 3), .inr (6, [.ref (u.1 4), .int 0])), ((u.1 4), .inl (cy 0, 220, .inl (fun _ => 0))), ((u.1 5), .inr (6, [.ref (u.1 6), .int 0])), ((u.1 6), .inl (cy 0, 220, .inl (fun _ => 0))), ((u.1 7), .inr (1, [.ref (u.1 8), .ref (u.1 9), .int 0, .ref (u.1 10), .ref (u.1 11), .ref (u.1 12), .ref (u.1 13), .int 0, .int 0, .ref (u.1 14), .ref (u.1 15)])), ((u.1 8), .inl (cy 0, 200, .inl (fun _ => 0))), ((u.1 9), .inl (cy 0, 200, .inl (fun _ => 0))), ((u.1 10), .inl (cy 0, 14, .inl (fun _ => 0))), ((u.1 11), .inl (cy 0, 14, .inl (fun _ => 0))), ((u.1 12), .inl (cy 0, 14, .inl (fun _ => 0))), ((u.1 13), .inl (cy 0, 14, .inl (fun _ => 0))), ((u.1 14), .inl (cy 0, 13, .inl (fun _ => 0))), ((u.1 15), .inl (cy 0, 40, .inl (fun _ => 0))), ((u.1 16), .inr (3, [.ref (u.1 17), .ref (u.1 3), .int 0, .int 0, .int 0])), ((u.1 17), .inr (1, [.ref (u.1 18), .ref (u.1 19), .int 0, .ref (u.1 20), .ref (u.1 21), .ref (u.1 22), .ref (u.1 23), .int 0, .int 0, .ref (u.1 24), .ref (u.1 25)])), ((u.1 18), .inl (cy 0, 200, .inl (fun _ => 0))), ((u.1 19), .inl (cy 0, 200, .inl (fun _ => 0))), ((u.1 20), .inl (cy 0, 14, .inl (fun _ => 0))), ((u.1 21), .inl (cy 0, 14, .inl (fun _ => 0))), ((u.1 22), .inl (cy 0, 14, .inl (fun _ => 0))), ((u.1 23), .inl (cy 0, 14, .inl (fun _ => 0))), ((u.1 24), .inl (cy 0, 13, .inl (fun _ => 0))), ((u.1 25), .inl (cy 0, 40, .inl (fun _ => 0))), ((u.1 26), .inr (0, [.ref (u.1 27), .ref (u.1 28), .ref (u.1 29), .ref (u.1 30), .ref (u.1 31), .ref (u.1 32), .ref (u.1 36), .ref (u.1 33), .ref (u.1 34), .int 0, .int 1, .int 0, .int 0, .int 0, .int 1, .int 6, .int 0, .ref (u.1 35)])), ((u.1 27), .inl (cy 0, 20, .inl (fun _ => 0))), ((u.1 28), .inl (cy 0, 20, .inl (fun _ => 0))), ((u.1 29), .inl (cy 0, 20, .inl (fun _ => 0))), ((u.1 30), .inl (cy 0, 20, .inl (u.2 30))), ((u.1 31), .inl (cy 0, 6, .inl (fun _ => 0))), ((u.1 32), .inl (cy 0, 6, .inl (fun _ => 0))), ((u.1 36), .inr (2, [.int 0, .ref (u.1 37), .ref (u.1 38), .ref (u.1 39), .ref (u.1 40)])), ((u.1 37), .inl (cy 0, 9, .inl (fun _ => 0))), ((u.1 38), .inl (cy 0, 9, .inl (fun _ => 0))), ((u.1 39), .inl (cy 0, 9, .inl (fun _ => 0))), ((u.1 40), .inl (cy 0, 9, .inl (fun _ => 0))), ((u.1 33), .inl (cy 0, 100, .inl (fun _ => 0))), ((u.1 34), .inl (cy 0, 180, .inl (fun _ => 0))), ((u.1 35), .inl (cy 0, 20, .inl (fun _ => 0))), ((u.1 41), .inr (0, [.ref (u.1 42), .ref (u.1 43), .ref (u.1 44), .ref (u.1 45), .ref (u.1 46), .ref (u.1 47), .ref (u.1 51), .ref (u.1 48), .ref (u.1 49), .int 0, .int 1, .int 0, .int 0, .int 0, .int 1, .int 6, .int 0, .ref (u.1 50)])), ((u.1 42), .inl (cy 0, 20, .inl (fun _ => 0))), ((u.1 43), .inl (cy 0, 20, .inl (fun _ => 0))), ((u.1 44), .inl (cy 0, 20, .inl (fun _ => 0))), ((u.1 45), .inl (cy 0, 20, .inl (u.2 45))), ((u.1 46), .inl (cy 0, 6, .inl (fun _ => 0))), ((u.1 47), .inl (cy 0, 6, .inl (fun _ => 0))), ((u.1 51), .inr (2, [.int 0, .ref (u.1 52), .ref (u.1 53), .ref (u.1 54), .ref (u.1 55)])), ((u.1 52), .inl (cy 0, 9, .inl (fun _ => 0))), ((u.1 53), .inl (cy 0, 9, .inl (fun _ => 0))), ((u.1 54), .inl (cy 0, 9, .inl (fun _ => 0))), ((u.1 55), .inl (cy 0, 9, .inl (fun _ => 0))), ((u.1 48), .inl (cy 0, 100, .inl (fun _ => 0))), ((u.1 49), .inl (cy 0, 180, .inl (fun _ => 0))), ((u.1 50), .inl (cy 0, 20, .inl (fun _ => 0))), ((u.1 56), .inr (0, [.ref (u.1 57), .ref (u.1 58), .ref (u.1 59), .ref (u.1 60), .ref (u.1 61), .ref (u.1 62), .ref (u.1 66), .ref (u.1 63), .ref (u.1 64), .int 0, .int 1, .int 0, .int 0, .int 0, .int 1, .int 6, .int 0, .ref (u.1 65)])), ((u.1 57), .inl (cy 0, 20, .inl (fun _ => 0))), ((u.1 58), .inl (cy 0, 20, .inl (fun _ => 0))), ((u.1 59), .inl (cy 0, 20, .inl (fun _ => 0))), ((u.1 60), .inl (cy 0, 20, .inl (u.2 60))), ((u.1 61), .inl (cy 0, 6, .inl (fun _ => 0))), ((u.1 62), .inl (cy 0, 6, .inl (fun _ => 0))), ((u.1 66), .inr (2, [.int 0, .ref (u.1 67), .ref (u.1 68), .ref (u.1 69), .ref (u.1 70)])), ((u.1 67), .inl (cy 0, 9, .inl (fun _ => 0))), ((u.1 68), .inl (cy 0, 9, .inl (fun _ => 0))), ((u.1 69), .inl (cy 0, 9, .inl (fun _ => 0))), ((u.1 70), .inl (cy 0, 9, .inl (fun _ => 0))), ((u.1 63), .inl (cy 0, 100, .inl (fun _ => 0))), ((u.1 64), .inl (cy 0, 180, .inl (fun _ => 0))), ((u.1 65), .inl (cy 0, 20, .inl (fun _ => 0))), ((u.1 71), .inr (4, [.int 0, .int 0, .ref (u.1 72), .ref (u.1 73), .ref (u.1 74), .ref (u.1 75), .ref (u.1 26), .ref (u.1 56), .ref (u.1 7), .int 0, .int 0, .int 0])), ((u.1 72), .inl (cy 0, 3, .inl (fun _ => 0))), ((u.1 73), .inl (cy 0, 3, .inl (fun _ => 0))), ((u.1 74), .inl (cy 0, 20, .inl (fun _ => 0))), ((u.1 75), .inl (cy 0, 400, .inl (fun _ => 0))), ((u.1 76), .inr (5, [.ref (u.1 77), .ref (u.1 78), .ref (u.1 79), .int 0])), ((u.1 77), .inl (cy 0, 6, .inl (fun _ => 0))), ((u.1 78), .inl (cy 0, 6, .inl (fun _ => 0))), ((u.1 79), .inl (cy 0, 6, .inl (fun _ => 0))), ((u.1 1), .inl (cy 0, 20, .inl (fun _ => 0))), ((u.1 2), .inl (cy 0, 6, .inl (fun _ => 0)))]
set_option maxRecDepth 4000 in
theorem c_X7 (l : Launch) (D : va_G) (cy : Nat → ClassId) : ct_M l D cy yX7_init prog_1_method_1_code 1 { frames := 6, cells := 79, slots := 3328, locals := 600 } 7 [.null, .null, .null, .null, .null, .null, .null, .null, .null, .null, .null, .int 0] [] (cw_X7 cy) (fun _ => True) := by
  refine ct_at (by decide +kernel) (fun _ => by simp [lg_sl, Value.category]) ?_
  intro p e s m args below meth c ls h0 hr hlk hin X hl
  have hl0 : ls[0]? = some (.val (.ref h0)) := hl.2.2 (0, .ref h0) (by simp [lv_args, Value.category])
  have hs := hl.1
  have hw := hl.2.1
  clear hl
  refine ct_aload_n X d_X7_init_0 rfl hl0 ?_
  refine ct_obj X d_X7_init_1 wo_X7 hs (by decide) ?_
  refine ct_aload_n X d_X7_init_4 rfl hl0 ?_
  refine ct_new X (ci := 6) d_X7_init_5 inX6 tyX6_ok wn_X7_9 rfl zz_X6 (by decide) (by decide) (fun q1 => ?_)
  refine ct_dup X d_X7_init_8 rfl ?_
  refine ct_call X (c_X6 l D cy) d_X7_init_9 (Or.inr ⟨_, wl_X7_11⟩) wi_X6 wq_X6 (by decide) (rest := [.ref q1, .ref h0]) rfl rfl hs (by simp [Value.category]) (by decide) (fun u2 _ => ?_)
  refine ct_putF X hin d_X7_init_12 lkX7_12 clX7 (fun C T N h => by cases h; exact ⟨rfl, rfl, _, tyX7_ok 0 (by decide), rfl, rfl⟩) (Nat.le_of_ble_eq_true rfl) (fs2 := [.ref q1, .null, .null, .null, .null, .null, .null, .null, .null, .null, .null, .int 0]) rfl ?_
  refine ct_aload_n X d_X7_init_15 rfl hl0 ?_
  refine ct_new X (ci := 6) d_X7_init_16 inX6 tyX6_ok wn_X7_9 rfl zz_X6 (by decide) (by decide) (fun q3 => ?_)
  refine ct_dup X d_X7_init_19 rfl ?_
  refine ct_call X (c_X6 l D cy) d_X7_init_20 (Or.inr ⟨_, wl_X7_11⟩) wi_X6 wq_X6 (by decide) (rest := [.ref q3, .ref h0]) rfl rfl hs (by simp [Value.category]) (by decide) (fun u4 _ => ?_)
  refine ct_putF X hin d_X7_init_23 lkX7_16 clX7 (fun C T N h => by cases h; exact ⟨rfl, rfl, _, tyX7_ok 1 (by decide), rfl, rfl⟩) (Nat.le_of_ble_eq_true rfl) (fs2 := [.ref q1, .ref q3, .null, .null, .null, .null, .null, .null, .null, .null, .null, .int 0]) rfl ?_
  refine ct_aload_n X d_X7_init_26 rfl hl0 ?_
  refine ct_new X (ci := 1) d_X7_init_27 inX1 tyX1_ok wn_X7_19 rfl zz_X1 (by decide) (by decide) (fun q5 => ?_)
  refine ct_dup X d_X7_init_30 rfl ?_
  refine ct_call X (c_X1 l D cy) d_X7_init_31 (Or.inr ⟨_, wl_X7_21⟩) wi_X1 wq_X1 (by decide) (rest := [.ref q5, .ref h0]) rfl rfl hs (by simp [Value.category]) (by decide) (fun u6 _ => ?_)
  refine ct_putF X hin d_X7_init_34 lkX7_22 clX7 (fun C T N h => by cases h; exact ⟨rfl, rfl, _, tyX7_ok 2 (by decide), rfl, rfl⟩) (Nat.le_of_ble_eq_true rfl) (fs2 := [.ref q1, .ref q3, .ref q5, .null, .null, .null, .null, .null, .null, .null, .null, .int 0]) rfl ?_
  refine ct_aload_n X d_X7_init_37 rfl hl0 ?_
  refine ct_new X (ci := 3) d_X7_init_38 inX3 tyX3_ok wn_X7_26 rfl zz_X3 (by decide) (by decide) (fun q7 => ?_)
  refine ct_dup X d_X7_init_41 rfl ?_
  refine ct_aload_n X d_X7_init_42 rfl hl0 ?_
  refine ct_get X 0 d_X7_init_43 lkX7_12 rfl rfl ?_
  refine ct_call X (c_X3 l D cy q1) d_X7_init_46 (Or.inl wl_X7_28) wi_X3 wq_X3 (by decide) (rest := [.ref q7, .ref h0]) rfl rfl hs (by simp [Value.category]) (by decide) (fun u8 _ => ?_)
  refine ct_putF X hin d_X7_init_49 lkX7_31 clX7 (fun C T N h => by cases h; exact ⟨rfl, rfl, _, tyX7_ok 3 (by decide), rfl, rfl⟩) (Nat.le_of_ble_eq_true rfl) (fs2 := [.ref q1, .ref q3, .ref q5, .ref q7, .null, .null, .null, .null, .null, .null, .null, .int 0]) rfl ?_
  refine ct_aload_n X d_X7_init_52 rfl hl0 ?_
  refine ct_new X (ci := 0) d_X7_init_53 inX0 tyX0_ok wn_X7_35 rfl zz_X0 (by decide) (by decide) (fun q9 => ?_)
  refine ct_dup X d_X7_init_56 rfl ?_
  refine ct_call X (c_X0 l D cy) d_X7_init_57 (Or.inl wl_X7_37) wi_X0 wq_X0 (by decide) (rest := [.ref q9, .ref h0]) rfl rfl hs (by simp [Value.category]) (by decide) (fun u10 _ => ?_)
  refine ct_putF X hin d_X7_init_60 lkX7_38 clX7 (fun C T N h => by cases h; exact ⟨rfl, rfl, _, tyX7_ok 4 (by decide), rfl, rfl⟩) (Nat.le_of_ble_eq_true rfl) (fs2 := [.ref q1, .ref q3, .ref q5, .ref q7, .ref q9, .null, .null, .null, .null, .null, .null, .int 0]) rfl ?_
  refine ct_aload_n X d_X7_init_63 rfl hl0 ?_
  refine ct_new X (ci := 0) d_X7_init_64 inX0 tyX0_ok wn_X7_35 rfl zz_X0 (by decide) (by decide) (fun q11 => ?_)
  refine ct_dup X d_X7_init_67 rfl ?_
  refine ct_call X (c_X0 l D cy) d_X7_init_68 (Or.inl wl_X7_37) wi_X0 wq_X0 (by decide) (rest := [.ref q11, .ref h0]) rfl rfl hs (by simp [Value.category]) (by decide) (fun u12 _ => ?_)
  refine ct_putF X hin d_X7_init_71 lkX7_42 clX7 (fun C T N h => by cases h; exact ⟨rfl, rfl, _, tyX7_ok 5 (by decide), rfl, rfl⟩) (Nat.le_of_ble_eq_true rfl) (fs2 := [.ref q1, .ref q3, .ref q5, .ref q7, .ref q9, .ref q11, .null, .null, .null, .null, .null, .int 0]) rfl ?_
  refine ct_aload_n X d_X7_init_74 rfl hl0 ?_
  refine ct_new X (ci := 0) d_X7_init_75 inX0 tyX0_ok wn_X7_35 rfl zz_X0 (by decide) (by decide) (fun q13 => ?_)
  refine ct_dup X d_X7_init_78 rfl ?_
  refine ct_call X (c_X0 l D cy) d_X7_init_79 (Or.inl wl_X7_37) wi_X0 wq_X0 (by decide) (rest := [.ref q13, .ref h0]) rfl rfl hs (by simp [Value.category]) (by decide) (fun u14 _ => ?_)
  refine ct_putF X hin d_X7_init_82 lkX7_45 clX7 (fun C T N h => by cases h; exact ⟨rfl, rfl, _, tyX7_ok 6 (by decide), rfl, rfl⟩) (Nat.le_of_ble_eq_true rfl) (fs2 := [.ref q1, .ref q3, .ref q5, .ref q7, .ref q9, .ref q11, .ref q13, .null, .null, .null, .null, .int 0]) rfl ?_
  refine ct_aload_n X d_X7_init_85 rfl hl0 ?_
  refine ct_new X (ci := 4) d_X7_init_86 inX4 tyX4_ok wn_X7_48 rfl zz_X4 (by decide) (by decide) (fun q15 => ?_)
  refine ct_dup X d_X7_init_89 rfl ?_
  refine ct_aload_n X d_X7_init_90 rfl hl0 ?_
  refine ct_get X 0 d_X7_init_91 lkX7_38 rfl rfl ?_
  refine ct_aload_n X d_X7_init_94 rfl hl0 ?_
  refine ct_get X 0 d_X7_init_95 lkX7_45 rfl rfl ?_
  refine ct_aload_n X d_X7_init_98 rfl hl0 ?_
  refine ct_get X 0 d_X7_init_99 lkX7_22 rfl rfl ?_
  refine ct_call X (c_X4 l D cy q9 q13 q5) d_X7_init_102 (Or.inl wl_X7_50) wi_X4 wq_X4 (by decide) (rest := [.ref q15, .ref h0]) rfl rfl hs (by simp [Value.category]) (by decide) (fun u16 _ => ?_)
  refine ct_putF X hin d_X7_init_105 lkX7_53 clX7 (fun C T N h => by cases h; exact ⟨rfl, rfl, _, tyX7_ok 7 (by decide), rfl, rfl⟩) (Nat.le_of_ble_eq_true rfl) (fs2 := [.ref q1, .ref q3, .ref q5, .ref q7, .ref q9, .ref q11, .ref q13, .ref q15, .null, .null, .null, .int 0]) rfl ?_
  refine ct_aload_n X d_X7_init_108 rfl hl0 ?_
  refine ct_new X (ci := 5) d_X7_init_109 inX5 tyX5_ok wn_X7_57 rfl zz_X5 (by decide) (by decide) (fun q17 => ?_)
  refine ct_dup X d_X7_init_112 rfl ?_
  refine ct_call X (c_X5 l D cy) d_X7_init_113 (Or.inr ⟨_, wl_X7_59⟩) wi_X5 wq_X5 (by decide) (rest := [.ref q17, .ref h0]) rfl rfl hs (by simp [Value.category]) (by decide) (fun u18 _ => ?_)
  refine ct_putF X hin d_X7_init_116 lkX7_60 clX7 (fun C T N h => by cases h; exact ⟨rfl, rfl, _, tyX7_ok 8 (by decide), rfl, rfl⟩) (Nat.le_of_ble_eq_true rfl) (fs2 := [.ref q1, .ref q3, .ref q5, .ref q7, .ref q9, .ref q11, .ref q13, .ref q15, .ref q17, .null, .null, .int 0]) rfl ?_
  refine ct_aload_n X d_X7_init_119 rfl hl0 ?_
  refine ct_bipush X d_X7_init_120 (v := 20) (by decide) ?_
  refine ct_newa X d_X7_init_122 (ty := .int) (t := 0) (N := 20) (ws2 := fun q19 => [(h0, .inr (7, [.ref q1, .ref q3, .ref q5, .ref q7, .ref q9, .ref q11, .ref q13, .ref q15, .ref q17, .null, .null, .int 0])), (q1, .inr (6, [.ref (u2.1 1), .int 0])), ((u2.1 1), .inl (cy 0, 220, .inl (fun _ => 0))), (q3, .inr (6, [.ref (u4.1 1), .int 0])), ((u4.1 1), .inl (cy 0, 220, .inl (fun _ => 0))), (q5, .inr (1, [.ref (u6.1 1), .ref (u6.1 2), .int 0, .ref (u6.1 3), .ref (u6.1 4), .ref (u6.1 5), .ref (u6.1 6), .int 0, .int 0, .ref (u6.1 7), .ref (u6.1 8)])), ((u6.1 1), .inl (cy 0, 200, .inl (fun _ => 0))), ((u6.1 2), .inl (cy 0, 200, .inl (fun _ => 0))), ((u6.1 3), .inl (cy 0, 14, .inl (fun _ => 0))), ((u6.1 4), .inl (cy 0, 14, .inl (fun _ => 0))), ((u6.1 5), .inl (cy 0, 14, .inl (fun _ => 0))), ((u6.1 6), .inl (cy 0, 14, .inl (fun _ => 0))), ((u6.1 7), .inl (cy 0, 13, .inl (fun _ => 0))), ((u6.1 8), .inl (cy 0, 40, .inl (fun _ => 0))), (q7, .inr (3, [.ref (u8.1 1), .ref q1, .int 0, .int 0, .int 0])), ((u8.1 1), .inr (1, [.ref (u8.1 2), .ref (u8.1 3), .int 0, .ref (u8.1 4), .ref (u8.1 5), .ref (u8.1 6), .ref (u8.1 7), .int 0, .int 0, .ref (u8.1 8), .ref (u8.1 9)])), ((u8.1 2), .inl (cy 0, 200, .inl (fun _ => 0))), ((u8.1 3), .inl (cy 0, 200, .inl (fun _ => 0))), ((u8.1 4), .inl (cy 0, 14, .inl (fun _ => 0))), ((u8.1 5), .inl (cy 0, 14, .inl (fun _ => 0))), ((u8.1 6), .inl (cy 0, 14, .inl (fun _ => 0))), ((u8.1 7), .inl (cy 0, 14, .inl (fun _ => 0))), ((u8.1 8), .inl (cy 0, 13, .inl (fun _ => 0))), ((u8.1 9), .inl (cy 0, 40, .inl (fun _ => 0))), (q9, .inr (0, [.ref (u10.1 1), .ref (u10.1 2), .ref (u10.1 3), .ref (u10.1 4), .ref (u10.1 5), .ref (u10.1 6), .ref (u10.1 7), .ref (u10.1 12), .ref (u10.1 13), .int 0, .int 1, .int 0, .int 0, .int 0, .int 1, .int 6, .int 0, .ref (u10.1 14)])), ((u10.1 1), .inl (cy 0, 20, .inl (fun _ => 0))), ((u10.1 2), .inl (cy 0, 20, .inl (fun _ => 0))), ((u10.1 3), .inl (cy 0, 20, .inl (fun _ => 0))), ((u10.1 4), .inl (cy 0, 20, .inl ((u10.2 4)))), ((u10.1 5), .inl (cy 0, 6, .inl (fun _ => 0))), ((u10.1 6), .inl (cy 0, 6, .inl (fun _ => 0))), ((u10.1 7), .inr (2, [.int 0, .ref (u10.1 8), .ref (u10.1 9), .ref (u10.1 10), .ref (u10.1 11)])), ((u10.1 8), .inl (cy 0, 9, .inl (fun _ => 0))), ((u10.1 9), .inl (cy 0, 9, .inl (fun _ => 0))), ((u10.1 10), .inl (cy 0, 9, .inl (fun _ => 0))), ((u10.1 11), .inl (cy 0, 9, .inl (fun _ => 0))), ((u10.1 12), .inl (cy 0, 100, .inl (fun _ => 0))), ((u10.1 13), .inl (cy 0, 180, .inl (fun _ => 0))), ((u10.1 14), .inl (cy 0, 20, .inl (fun _ => 0))), (q11, .inr (0, [.ref (u12.1 1), .ref (u12.1 2), .ref (u12.1 3), .ref (u12.1 4), .ref (u12.1 5), .ref (u12.1 6), .ref (u12.1 7), .ref (u12.1 12), .ref (u12.1 13), .int 0, .int 1, .int 0, .int 0, .int 0, .int 1, .int 6, .int 0, .ref (u12.1 14)])), ((u12.1 1), .inl (cy 0, 20, .inl (fun _ => 0))), ((u12.1 2), .inl (cy 0, 20, .inl (fun _ => 0))), ((u12.1 3), .inl (cy 0, 20, .inl (fun _ => 0))), ((u12.1 4), .inl (cy 0, 20, .inl ((u12.2 4)))), ((u12.1 5), .inl (cy 0, 6, .inl (fun _ => 0))), ((u12.1 6), .inl (cy 0, 6, .inl (fun _ => 0))), ((u12.1 7), .inr (2, [.int 0, .ref (u12.1 8), .ref (u12.1 9), .ref (u12.1 10), .ref (u12.1 11)])), ((u12.1 8), .inl (cy 0, 9, .inl (fun _ => 0))), ((u12.1 9), .inl (cy 0, 9, .inl (fun _ => 0))), ((u12.1 10), .inl (cy 0, 9, .inl (fun _ => 0))), ((u12.1 11), .inl (cy 0, 9, .inl (fun _ => 0))), ((u12.1 12), .inl (cy 0, 100, .inl (fun _ => 0))), ((u12.1 13), .inl (cy 0, 180, .inl (fun _ => 0))), ((u12.1 14), .inl (cy 0, 20, .inl (fun _ => 0))), (q13, .inr (0, [.ref (u14.1 1), .ref (u14.1 2), .ref (u14.1 3), .ref (u14.1 4), .ref (u14.1 5), .ref (u14.1 6), .ref (u14.1 7), .ref (u14.1 12), .ref (u14.1 13), .int 0, .int 1, .int 0, .int 0, .int 0, .int 1, .int 6, .int 0, .ref (u14.1 14)])), ((u14.1 1), .inl (cy 0, 20, .inl (fun _ => 0))), ((u14.1 2), .inl (cy 0, 20, .inl (fun _ => 0))), ((u14.1 3), .inl (cy 0, 20, .inl (fun _ => 0))), ((u14.1 4), .inl (cy 0, 20, .inl ((u14.2 4)))), ((u14.1 5), .inl (cy 0, 6, .inl (fun _ => 0))), ((u14.1 6), .inl (cy 0, 6, .inl (fun _ => 0))), ((u14.1 7), .inr (2, [.int 0, .ref (u14.1 8), .ref (u14.1 9), .ref (u14.1 10), .ref (u14.1 11)])), ((u14.1 8), .inl (cy 0, 9, .inl (fun _ => 0))), ((u14.1 9), .inl (cy 0, 9, .inl (fun _ => 0))), ((u14.1 10), .inl (cy 0, 9, .inl (fun _ => 0))), ((u14.1 11), .inl (cy 0, 9, .inl (fun _ => 0))), ((u14.1 12), .inl (cy 0, 100, .inl (fun _ => 0))), ((u14.1 13), .inl (cy 0, 180, .inl (fun _ => 0))), ((u14.1 14), .inl (cy 0, 20, .inl (fun _ => 0))), (q15, .inr (4, [.int 0, .int 0, .ref (u16.1 1), .ref (u16.1 2), .ref (u16.1 3), .ref (u16.1 4), .ref q9, .ref q13, .ref q5, .int 0, .int 0, .int 0])), ((u16.1 1), .inl (cy 0, 3, .inl (fun _ => 0))), ((u16.1 2), .inl (cy 0, 3, .inl (fun _ => 0))), ((u16.1 3), .inl (cy 0, 20, .inl (fun _ => 0))), ((u16.1 4), .inl (cy 0, 400, .inl (fun _ => 0))), (q17, .inr (5, [.ref (u18.1 1), .ref (u18.1 2), .ref (u18.1 3), .int 0])), ((u18.1 1), .inl (cy 0, 6, .inl (fun _ => 0))), ((u18.1 2), .inl (cy 0, 6, .inl (fun _ => 0))), ((u18.1 3), .inl (cy 0, 6, .inl (fun _ => 0))), (q19, .inl (cy 0, 20, .inl (fun _ => 0)))]) (cells2 := 78) (slots2 := 3322) rfl rfl ct_ra_int wA_int (fun _ => rfl) (by decide) (by decide) (by decide) (fun _ => rfl) ⟨rfl, rfl⟩ (by decide) (fun q19 => ?_)
  refine ct_putF X hin d_X7_init_124 lkX7_64 clX7 (fun C T N h => by cases h; exact ⟨rfl, rfl, _, tyX7_ok 9 (by decide), rfl, rfl⟩) (Nat.le_of_ble_eq_true rfl) (fs2 := [.ref q1, .ref q3, .ref q5, .ref q7, .ref q9, .ref q11, .ref q13, .ref q15, .ref q17, .ref q19, .null, .int 0]) rfl ?_
  refine ct_aload_n X d_X7_init_127 rfl hl0 ?_
  refine ct_bipush X d_X7_init_128 (v := 6) (by decide) ?_
  refine ct_newa X d_X7_init_130 (ty := .int) (t := 0) (N := 6) (ws2 := fun q20 => [(h0, .inr (7, [.ref q1, .ref q3, .ref q5, .ref q7, .ref q9, .ref q11, .ref q13, .ref q15, .ref q17, .ref q19, .null, .int 0])), (q1, .inr (6, [.ref (u2.1 1), .int 0])), ((u2.1 1), .inl (cy 0, 220, .inl (fun _ => 0))), (q3, .inr (6, [.ref (u4.1 1), .int 0])), ((u4.1 1), .inl (cy 0, 220, .inl (fun _ => 0))), (q5, .inr (1, [.ref (u6.1 1), .ref (u6.1 2), .int 0, .ref (u6.1 3), .ref (u6.1 4), .ref (u6.1 5), .ref (u6.1 6), .int 0, .int 0, .ref (u6.1 7), .ref (u6.1 8)])), ((u6.1 1), .inl (cy 0, 200, .inl (fun _ => 0))), ((u6.1 2), .inl (cy 0, 200, .inl (fun _ => 0))), ((u6.1 3), .inl (cy 0, 14, .inl (fun _ => 0))), ((u6.1 4), .inl (cy 0, 14, .inl (fun _ => 0))), ((u6.1 5), .inl (cy 0, 14, .inl (fun _ => 0))), ((u6.1 6), .inl (cy 0, 14, .inl (fun _ => 0))), ((u6.1 7), .inl (cy 0, 13, .inl (fun _ => 0))), ((u6.1 8), .inl (cy 0, 40, .inl (fun _ => 0))), (q7, .inr (3, [.ref (u8.1 1), .ref q1, .int 0, .int 0, .int 0])), ((u8.1 1), .inr (1, [.ref (u8.1 2), .ref (u8.1 3), .int 0, .ref (u8.1 4), .ref (u8.1 5), .ref (u8.1 6), .ref (u8.1 7), .int 0, .int 0, .ref (u8.1 8), .ref (u8.1 9)])), ((u8.1 2), .inl (cy 0, 200, .inl (fun _ => 0))), ((u8.1 3), .inl (cy 0, 200, .inl (fun _ => 0))), ((u8.1 4), .inl (cy 0, 14, .inl (fun _ => 0))), ((u8.1 5), .inl (cy 0, 14, .inl (fun _ => 0))), ((u8.1 6), .inl (cy 0, 14, .inl (fun _ => 0))), ((u8.1 7), .inl (cy 0, 14, .inl (fun _ => 0))), ((u8.1 8), .inl (cy 0, 13, .inl (fun _ => 0))), ((u8.1 9), .inl (cy 0, 40, .inl (fun _ => 0))), (q9, .inr (0, [.ref (u10.1 1), .ref (u10.1 2), .ref (u10.1 3), .ref (u10.1 4), .ref (u10.1 5), .ref (u10.1 6), .ref (u10.1 7), .ref (u10.1 12), .ref (u10.1 13), .int 0, .int 1, .int 0, .int 0, .int 0, .int 1, .int 6, .int 0, .ref (u10.1 14)])), ((u10.1 1), .inl (cy 0, 20, .inl (fun _ => 0))), ((u10.1 2), .inl (cy 0, 20, .inl (fun _ => 0))), ((u10.1 3), .inl (cy 0, 20, .inl (fun _ => 0))), ((u10.1 4), .inl (cy 0, 20, .inl ((u10.2 4)))), ((u10.1 5), .inl (cy 0, 6, .inl (fun _ => 0))), ((u10.1 6), .inl (cy 0, 6, .inl (fun _ => 0))), ((u10.1 7), .inr (2, [.int 0, .ref (u10.1 8), .ref (u10.1 9), .ref (u10.1 10), .ref (u10.1 11)])), ((u10.1 8), .inl (cy 0, 9, .inl (fun _ => 0))), ((u10.1 9), .inl (cy 0, 9, .inl (fun _ => 0))), ((u10.1 10), .inl (cy 0, 9, .inl (fun _ => 0))), ((u10.1 11), .inl (cy 0, 9, .inl (fun _ => 0))), ((u10.1 12), .inl (cy 0, 100, .inl (fun _ => 0))), ((u10.1 13), .inl (cy 0, 180, .inl (fun _ => 0))), ((u10.1 14), .inl (cy 0, 20, .inl (fun _ => 0))), (q11, .inr (0, [.ref (u12.1 1), .ref (u12.1 2), .ref (u12.1 3), .ref (u12.1 4), .ref (u12.1 5), .ref (u12.1 6), .ref (u12.1 7), .ref (u12.1 12), .ref (u12.1 13), .int 0, .int 1, .int 0, .int 0, .int 0, .int 1, .int 6, .int 0, .ref (u12.1 14)])), ((u12.1 1), .inl (cy 0, 20, .inl (fun _ => 0))), ((u12.1 2), .inl (cy 0, 20, .inl (fun _ => 0))), ((u12.1 3), .inl (cy 0, 20, .inl (fun _ => 0))), ((u12.1 4), .inl (cy 0, 20, .inl ((u12.2 4)))), ((u12.1 5), .inl (cy 0, 6, .inl (fun _ => 0))), ((u12.1 6), .inl (cy 0, 6, .inl (fun _ => 0))), ((u12.1 7), .inr (2, [.int 0, .ref (u12.1 8), .ref (u12.1 9), .ref (u12.1 10), .ref (u12.1 11)])), ((u12.1 8), .inl (cy 0, 9, .inl (fun _ => 0))), ((u12.1 9), .inl (cy 0, 9, .inl (fun _ => 0))), ((u12.1 10), .inl (cy 0, 9, .inl (fun _ => 0))), ((u12.1 11), .inl (cy 0, 9, .inl (fun _ => 0))), ((u12.1 12), .inl (cy 0, 100, .inl (fun _ => 0))), ((u12.1 13), .inl (cy 0, 180, .inl (fun _ => 0))), ((u12.1 14), .inl (cy 0, 20, .inl (fun _ => 0))), (q13, .inr (0, [.ref (u14.1 1), .ref (u14.1 2), .ref (u14.1 3), .ref (u14.1 4), .ref (u14.1 5), .ref (u14.1 6), .ref (u14.1 7), .ref (u14.1 12), .ref (u14.1 13), .int 0, .int 1, .int 0, .int 0, .int 0, .int 1, .int 6, .int 0, .ref (u14.1 14)])), ((u14.1 1), .inl (cy 0, 20, .inl (fun _ => 0))), ((u14.1 2), .inl (cy 0, 20, .inl (fun _ => 0))), ((u14.1 3), .inl (cy 0, 20, .inl (fun _ => 0))), ((u14.1 4), .inl (cy 0, 20, .inl ((u14.2 4)))), ((u14.1 5), .inl (cy 0, 6, .inl (fun _ => 0))), ((u14.1 6), .inl (cy 0, 6, .inl (fun _ => 0))), ((u14.1 7), .inr (2, [.int 0, .ref (u14.1 8), .ref (u14.1 9), .ref (u14.1 10), .ref (u14.1 11)])), ((u14.1 8), .inl (cy 0, 9, .inl (fun _ => 0))), ((u14.1 9), .inl (cy 0, 9, .inl (fun _ => 0))), ((u14.1 10), .inl (cy 0, 9, .inl (fun _ => 0))), ((u14.1 11), .inl (cy 0, 9, .inl (fun _ => 0))), ((u14.1 12), .inl (cy 0, 100, .inl (fun _ => 0))), ((u14.1 13), .inl (cy 0, 180, .inl (fun _ => 0))), ((u14.1 14), .inl (cy 0, 20, .inl (fun _ => 0))), (q15, .inr (4, [.int 0, .int 0, .ref (u16.1 1), .ref (u16.1 2), .ref (u16.1 3), .ref (u16.1 4), .ref q9, .ref q13, .ref q5, .int 0, .int 0, .int 0])), ((u16.1 1), .inl (cy 0, 3, .inl (fun _ => 0))), ((u16.1 2), .inl (cy 0, 3, .inl (fun _ => 0))), ((u16.1 3), .inl (cy 0, 20, .inl (fun _ => 0))), ((u16.1 4), .inl (cy 0, 400, .inl (fun _ => 0))), (q17, .inr (5, [.ref (u18.1 1), .ref (u18.1 2), .ref (u18.1 3), .int 0])), ((u18.1 1), .inl (cy 0, 6, .inl (fun _ => 0))), ((u18.1 2), .inl (cy 0, 6, .inl (fun _ => 0))), ((u18.1 3), .inl (cy 0, 6, .inl (fun _ => 0))), (q19, .inl (cy 0, 20, .inl (fun _ => 0))), (q20, .inl (cy 0, 6, .inl (fun _ => 0)))]) (cells2 := 79) (slots2 := 3328) rfl rfl ct_ra_int wA_int (fun _ => rfl) (by decide) (by decide) (by decide) (fun _ => rfl) ⟨rfl, rfl⟩ (by decide) (fun q20 => ?_)
  refine ct_putF X hin d_X7_init_132 lkX7_68 clX7 (fun C T N h => by cases h; exact ⟨rfl, rfl, _, tyX7_ok 10 (by decide), rfl, rfl⟩) (Nat.le_of_ble_eq_true rfl) (fs2 := [.ref q1, .ref q3, .ref q5, .ref q7, .ref q9, .ref q11, .ref q13, .ref q15, .ref q17, .ref q19, .ref q20, .int 0]) rfl ?_
  refine ct_aload_n X d_X7_init_135 rfl hl0 ?_
  refine ct_iconst X d_X7_init_136 (v := 0) (by decide) ?_
  refine ct_put X d_X7_init_137 lkX7_71 clX7 (fun C T N h => by cases h; exact ⟨rfl, _, tyX7_ok 11 (by decide), rfl, rfl⟩) (Nat.le_of_ble_eq_true rfl) (fs2 := [.ref q1, .ref q3, .ref q5, .ref q7, .ref q9, .ref q11, .ref q13, .ref q15, .ref q17, .ref q19, .ref q20, .int 0]) rfl ?_
  exact ct_vret X hr hlk d_X7_init_140 (by decide) (by decide) ((fun i => [h0, q19, q20, q1, (u2.1 1), q3, (u4.1 1), q5, (u6.1 1), (u6.1 2), (u6.1 3), (u6.1 4), (u6.1 5), (u6.1 6), (u6.1 7), (u6.1 8), q7, (u8.1 1), (u8.1 2), (u8.1 3), (u8.1 4), (u8.1 5), (u8.1 6), (u8.1 7), (u8.1 8), (u8.1 9), q9, (u10.1 1), (u10.1 2), (u10.1 3), (u10.1 4), (u10.1 5), (u10.1 6), (u10.1 12), (u10.1 13), (u10.1 14), (u10.1 7), (u10.1 8), (u10.1 9), (u10.1 10), (u10.1 11), q11, (u12.1 1), (u12.1 2), (u12.1 3), (u12.1 4), (u12.1 5), (u12.1 6), (u12.1 12), (u12.1 13), (u12.1 14), (u12.1 7), (u12.1 8), (u12.1 9), (u12.1 10), (u12.1 11), q13, (u14.1 1), (u14.1 2), (u14.1 3), (u14.1 4), (u14.1 5), (u14.1 6), (u14.1 12), (u14.1 13), (u14.1 14), (u14.1 7), (u14.1 8), (u14.1 9), (u14.1 10), (u14.1 11), q15, (u16.1 1), (u16.1 2), (u16.1 3), (u16.1 4), q17, (u18.1 1), (u18.1 2), (u18.1 3)].getD i 0), (fun i => if i = 30 then (u10.2 4) else if i = 45 then (u12.2 4) else (u14.2 4))) trivial rfl
