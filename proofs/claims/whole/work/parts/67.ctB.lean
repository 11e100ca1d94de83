/-! CONSTRUCTORS: Arcade -/
section CTB
variable {g : vt_GT} {h0 : Nat}
def ly_X0 : List vt_LE := [.inr (0, [some 1, some 2, some 3, some 6, some 14, some 18, some 24, some 52, none, none])] ++ ([.inl (0, 12, 0)] ++ ([.inl (0, 2, 0)] ++ (ly_X3.map (shE 3) ++ (ly_X10.map (shE 6) ++ (ly_X7.map (shE 14) ++ (ly_X5.map (shE 18) ++ (ly_X4.map (shE 24) ++ ([.inl (0, 12, 0)]))))))))
def sc_X0 : vt_Sg := fun k => if k = 1 then fil (fun _ => 0) 100 12 else if k = 2 then upd (upd (fun _ => 0) 0 50) 1 200 else fun _ => 0
def ad_X0 (h0 : Nat) (q1 : Nat) (q2 : Nat) (ad3 : Nat → Nat) (ad6 : Nat → Nat) (ad14 : Nat → Nat) (ad18 : Nat → Nat) (ad24 : Nat → Nat) (q8 : Nat) : Nat → Nat := fun j => if j = 0 then h0 else if j = 1 then q1 else if j = 2 then q2 else if j < 6 then ad3 (j - 3) else if j < 14 then ad6 (j - 6) else if j < 18 then ad14 (j - 14) else if j < 24 then ad18 (j - 18) else if j < 52 then ad24 (j - 24) else if j = 52 then q8 else 0
set_option maxRecDepth 4000 in
set_option maxHeartbeats 4000000 in
theorem c_X0_init : vc_M g 2 52 2898 D_X0_init [.ref h0] [(h0, .inr (0, [.null, .null, .null, .null, .null, .null, .null, .null, .int 0, .int 0]))] (fun w1 => ∃ ad : Nat → Nat, ad 0 = h0 ∧ w1 = sgL g.2.2.1 ad sc_X0 0 ly_X0) := by
  refine vc_meth (by decide +kernel) rfl rfl rfl rfl ?_
  refine k_aload_n dX0_init_0 rfl ?_
  refine k_obj dX0_init_1 (tb1 (List.mem_of_getElem? (i := 35) rfl) rfl) ob_im ob_cd (by decide) (by decide) ?_
  refine k_aload_n dX0_init_4 rfl ?_
  refine k_bipush (v := 12) dX0_init_5 (by decide) ?_
  refine k_newa 0 (N := 12) (a0 := (12, .inl (fun _ => 0))) (c0 := g.2.2.1 0) (ty := .int) dX0_init_7 ac_I rfl (fun _ _ h => h) rfl (fun _ => rfl) (by decide) (by decide) (by decide) (by decide) (by decide) (fun q1 => ?_)
  refine k_putF (ci := 0) (N := 10) (j := 0) (C := RX0) (T := TX0) (ty0 := tyX0) (ty := tyX0 0) (fs := [.null, .null, .null, .null, .null, .null, .null, .null, .int 0, .int 0]) (fs' := [.ref q1, .null, .null, .null, .null, .null, .null, .null, .int 0, .int 0]) dX0_init_9 rfl inX0_ok tyX0_ok nmX0 rfl (by decide) (tb1 (List.mem_of_getElem? (i := 181) rfl) rfl) rfl rfl rfl (tyX0_ok 0 (by decide)) rfl rfl (Nat.le_of_ble_eq_true rfl) rfl ?_
  refine k_aload_n dX0_init_12 rfl ?_
  refine k_iconst (v := 2) dX0_init_13 (by decide) ?_
  refine k_newa 0 (N := 2) (a0 := (2, .inl (fun _ => 0))) (c0 := g.2.2.1 0) (ty := .int) dX0_init_14 ac_I rfl (fun _ _ h => h) rfl (fun _ => rfl) (by decide) (by decide) (by decide) (by decide) (by decide) (fun q2 => ?_)
  refine k_dup dX0_init_16 rfl ?_
  refine k_iconst (v := 0) dX0_init_17 (by decide) ?_
  refine k_bipush (v := 50) dX0_init_18 (by decide) ?_
  refine k_iast (n := 2) (f := (fun _ => 0)) 2 dX0_init_20 rfl (inN (j := 0) (by decide) (by decide)) rfl ?_
  refine k_dup dX0_init_21 rfl ?_
  refine k_iconst (v := 1) dX0_init_22 (by decide) ?_
  refine k_sipush (v := 200) dX0_init_23 (by decide) ?_
  refine k_iast (n := 2) (f := (upd (fun _ => 0) 0 50)) 2 dX0_init_26 rfl (inN (j := 1) (by decide) (by decide)) rfl ?_
  refine k_putF (ci := 0) (N := 10) (j := 1) (C := RX0) (T := TX0) (ty0 := tyX0) (ty := tyX0 1) (fs := [.ref q1, .null, .null, .null, .null, .null, .null, .null, .int 0, .int 0]) (fs' := [.ref q1, .ref q2, .null, .null, .null, .null, .null, .null, .int 0, .int 0]) dX0_init_27 rfl inX0_ok tyX0_ok nmX0 rfl (by decide) (tb1 (List.mem_of_getElem? (i := 186) rfl) rfl) rfl rfl rfl (tyX0_ok 1 (by decide)) rfl rfl (Nat.le_of_ble_eq_true rfl) rfl ?_
  refine k_aload_n dX0_init_30 rfl ?_
  refine k_new (ci := 3) (N := 3) (C := RX3) (T := TX3) (ty := tyX3) (fs := [.null, .null, .int 0]) dX0_init_31 inX3_ok tyX3_ok (tb1 (List.mem_of_getElem? (i := 36) rfl) rfl) is_X3 ni_X3_init rfl df_X3 (by decide) (by decide) (fun q3 => ?_)
  refine k_dup dX0_init_34 rfl ?_
  refine k_initN (host := "ArcadeRents") (d' := 1) (As := []) (rest := [.ref q3, .ref h0]) dX0_init_35 cd_X3_init rfl ni_X3_init (by decide +kernel) im_X3_init rfl ⟨by decide, by decide, by show _ = some 0; decide +kernel⟩ (by decide) rfl (Nat.le_of_ble_eq_true rfl) ⟨by decide, by decide⟩ (by decide) (by decide) c_X3_init (fun w3 h3 => ?_)
  refine k_putF (ci := 0) (N := 10) (j := 2) (C := RX0) (T := TX0) (ty0 := tyX0) (ty := tyX0 2) (fs := [.ref q1, .ref q2, .null, .null, .null, .null, .null, .null, .int 0, .int 0]) (fs' := [.ref q1, .ref q2, .ref q3, .null, .null, .null, .null, .null, .int 0, .int 0]) dX0_init_38 rfl inX0_ok tyX0_ok nmX0 rfl (by decide) (tb1 (List.mem_of_getElem? (i := 188) rfl) rfl) rfl rfl rfl (tyX0_ok 2 (by decide)) rfl rfl (Nat.le_of_ble_eq_true rfl) rfl ?_
  refine k_aload_n dX0_init_41 rfl ?_
  refine k_new (ci := 10) (N := 8) (C := RX10) (T := TX10) (ty := tyX10) (fs := [.null, .null, .null, .null, .null, .null, .null, .int 0]) dX0_init_42 inX10_ok tyX10_ok (tb1 (List.mem_of_getElem? (i := 58) rfl) rfl) is_X10 ni_X10_init rfl df_X10 (by decide) (by decide) (fun q4 => ?_)
  refine k_dup dX0_init_45 rfl ?_
  refine k_initN (host := "ArcadeRents") (d' := 1) (As := []) (rest := [.ref q4, .ref h0]) dX0_init_46 cd_X10_init rfl ni_X10_init (by decide +kernel) im_X10_init rfl ⟨by decide, by decide, by show _ = some 0; decide +kernel⟩ (by decide) rfl (Nat.le_of_ble_eq_true rfl) ⟨by decide, by decide⟩ (by decide) (by decide) c_X10_init (fun w6 h6 => ?_)
  refine k_putF (ci := 0) (N := 10) (j := 3) (C := RX0) (T := TX0) (ty0 := tyX0) (ty := tyX0 3) (fs := [.ref q1, .ref q2, .ref q3, .null, .null, .null, .null, .null, .int 0, .int 0]) (fs' := [.ref q1, .ref q2, .ref q3, .ref q4, .null, .null, .null, .null, .int 0, .int 0]) dX0_init_49 rfl inX0_ok tyX0_ok nmX0 rfl (by decide) (tb1 (List.mem_of_getElem? (i := 191) rfl) rfl) rfl rfl rfl (tyX0_ok 3 (by decide)) rfl rfl (Nat.le_of_ble_eq_true rfl) rfl ?_
  refine k_aload_n dX0_init_52 rfl ?_
  refine k_new (ci := 7) (N := 4) (C := RX7) (T := TX7) (ty := tyX7) (fs := [.null, .null, .null, .int 0]) dX0_init_53 inX7_ok tyX7_ok (tb1 (List.mem_of_getElem? (i := 101) rfl) rfl) is_X7 ni_X7_init rfl df_X7 (by decide) (by decide) (fun q5 => ?_)
  refine k_dup dX0_init_56 rfl ?_
  refine k_initN (host := "ArcadeRents") (d' := 1) (As := []) (rest := [.ref q5, .ref h0]) dX0_init_57 cd_X7_init rfl ni_X7_init (by decide +kernel) im_X7_init rfl ⟨by decide, by decide, by show _ = some 0; decide +kernel⟩ (by decide) rfl (Nat.le_of_ble_eq_true rfl) ⟨by decide, by decide⟩ (by decide) (by decide) c_X7_init (fun w14 h14 => ?_)
  refine k_putF (ci := 0) (N := 10) (j := 4) (C := RX0) (T := TX0) (ty0 := tyX0) (ty := tyX0 4) (fs := [.ref q1, .ref q2, .ref q3, .ref q4, .null, .null, .null, .null, .int 0, .int 0]) (fs' := [.ref q1, .ref q2, .ref q3, .ref q4, .ref q5, .null, .null, .null, .int 0, .int 0]) dX0_init_60 rfl inX0_ok tyX0_ok nmX0 rfl (by decide) (tb1 (List.mem_of_getElem? (i := 196) rfl) rfl) rfl rfl rfl (tyX0_ok 4 (by decide)) rfl rfl (Nat.le_of_ble_eq_true rfl) rfl ?_
  refine k_aload_n dX0_init_63 rfl ?_
  refine k_new (ci := 5) (N := 6) (C := RX5) (T := TX5) (ty := tyX5) (fs := [.null, .null, .null, .null, .null, .int 0]) dX0_init_64 inX5_ok tyX5_ok (tb1 (List.mem_of_getElem? (i := 125) rfl) rfl) is_X5 ni_X5_init rfl df_X5 (by decide) (by decide) (fun q6 => ?_)
  refine k_dup dX0_init_67 rfl ?_
  refine k_initN (host := "ArcadeRents") (d' := 1) (As := []) (rest := [.ref q6, .ref h0]) dX0_init_68 cd_X5_init rfl ni_X5_init (by decide +kernel) im_X5_init rfl ⟨by decide, by decide, by show _ = some 0; decide +kernel⟩ (by decide) rfl (Nat.le_of_ble_eq_true rfl) ⟨by decide, by decide⟩ (by decide) (by decide) c_X5_init (fun w18 h18 => ?_)
  refine k_putF (ci := 0) (N := 10) (j := 5) (C := RX0) (T := TX0) (ty0 := tyX0) (ty := tyX0 5) (fs := [.ref q1, .ref q2, .ref q3, .ref q4, .ref q5, .null, .null, .null, .int 0, .int 0]) (fs' := [.ref q1, .ref q2, .ref q3, .ref q4, .ref q5, .ref q6, .null, .null, .int 0, .int 0]) dX0_init_71 rfl inX0_ok tyX0_ok nmX0 rfl (by decide) (tb1 (List.mem_of_getElem? (i := 199) rfl) rfl) rfl rfl rfl (tyX0_ok 5 (by decide)) rfl rfl (Nat.le_of_ble_eq_true rfl) rfl ?_
  refine k_aload_n dX0_init_74 rfl ?_
  refine k_new (ci := 4) (N := 3) (C := RX4) (T := TX4) (ty := tyX4) (fs := [.null, .null, .null]) dX0_init_75 inX4_ok tyX4_ok (tb1 (List.mem_of_getElem? (i := 156) rfl) rfl) is_X4 ni_X4_init rfl df_X4 (by decide) (by decide) (fun q7 => ?_)
  refine k_dup dX0_init_78 rfl ?_
  refine k_initN (host := "ArcadeRents") (d' := 1) (As := []) (rest := [.ref q7, .ref h0]) dX0_init_79 cd_X4_init rfl ni_X4_init (by decide +kernel) im_X4_init rfl ⟨by decide, by decide, by show _ = some 0; decide +kernel⟩ (by decide) rfl (Nat.le_of_ble_eq_true rfl) ⟨by decide, by decide⟩ (by decide) (by decide) c_X4_init (fun w24 h24 => ?_)
  refine k_putF (ci := 0) (N := 10) (j := 6) (C := RX0) (T := TX0) (ty0 := tyX0) (ty := tyX0 6) (fs := [.ref q1, .ref q2, .ref q3, .ref q4, .ref q5, .ref q6, .null, .null, .int 0, .int 0]) (fs' := [.ref q1, .ref q2, .ref q3, .ref q4, .ref q5, .ref q6, .ref q7, .null, .int 0, .int 0]) dX0_init_82 rfl inX0_ok tyX0_ok nmX0 rfl (by decide) (tb1 (List.mem_of_getElem? (i := 202) rfl) rfl) rfl rfl rfl (tyX0_ok 6 (by decide)) rfl rfl (Nat.le_of_ble_eq_true rfl) rfl ?_
  refine k_aload_n dX0_init_85 rfl ?_
  refine k_bipush (v := 12) dX0_init_86 (by decide) ?_
  refine k_newa 0 (N := 12) (a0 := (12, .inl (fun _ => 0))) (c0 := g.2.2.1 0) (ty := .int) dX0_init_88 ac_I rfl (fun _ _ h => h) rfl (fun _ => rfl) (by decide) (by decide) (by decide) (by decide) (by decide) (fun q8 => ?_)
  refine k_putF (ci := 0) (N := 10) (j := 7) (C := RX0) (T := TX0) (ty0 := tyX0) (ty := tyX0 7) (fs := [.ref q1, .ref q2, .ref q3, .ref q4, .ref q5, .ref q6, .ref q7, .null, .int 0, .int 0]) (fs' := [.ref q1, .ref q2, .ref q3, .ref q4, .ref q5, .ref q6, .ref q7, .ref q8, .int 0, .int 0]) dX0_init_90 rfl inX0_ok tyX0_ok nmX0 rfl (by decide) (tb1 (List.mem_of_getElem? (i := 205) rfl) rfl) rfl rfl rfl (tyX0_ok 7 (by decide)) rfl rfl (Nat.le_of_ble_eq_true rfl) rfl ?_
  refine k_aload_n dX0_init_93 rfl ?_
  refine k_get (ci := 0) (N := 10) (j := 0) (C := RX0) (T := TX0) (fs := [.ref q1, .ref q2, .ref q3, .ref q4, .ref q5, .ref q6, .ref q7, .ref q8, .int 0, .int 0]) dX0_init_94 rfl inX0_ok rfl (by decide) (tb1 (List.mem_of_getElem? (i := 181) rfl) rfl) rfl rfl ?_
  refine k_bipush (v := 100) dX0_init_97 (by decide) ?_
  refine k_static (q0 := 1) (d' := 1) (As := [.ref q1, .int 100]) (rest := []) dX0_init_99 ok_J7_fill_53178.1.1 ok_J7_fill_53178.1.2.1 (tb1 (List.mem_of_getElem? (i := 178) rfl) rfl) ok_J7_fill_53178.2 ⟨by decide, by decide, by show _ = some 2; decide +kernel⟩ (by decide) rfl (Nat.le_of_ble_eq_true rfl) ⟨by decide, by decide⟩ (by decide) (by decide) rfl (c_fillC (n := 12) (by omega)) ?_
  obtain ⟨ad3, rfl, rfl⟩ := h3
  obtain ⟨ad6, rfl, rfl⟩ := h6
  obtain ⟨ad14, rfl, rfl⟩ := h14
  obtain ⟨ad18, rfl, rfl⟩ := h18
  obtain ⟨ad24, rfl, rfl⟩ := h24
  refine k_ret dX0_init_102 rfl rfl ⟨(ad_X0 h0 q1 q2 ad3 ad6 ad14 ad18 ad24 q8), rfl, ?_⟩
  have s3 : sgL g.2.2.1 (ad_X0 h0 q1 q2 ad3 ad6 ad14 ad18 ad24 q8) sc_X0 3 (ly_X3.map (shE 3)) = sgL g.2.2.1 ad3 sc_X3 0 ly_X3 := sg_shift (o := 3) (B := 3) (fun j hj => by
      show (if (3 + j) = 0 then h0 else if (3 + j) = 1 then q1 else if (3 + j) = 2 then q2 else if (3 + j) < 6 then ad3 ((3 + j) - 3) else if (3 + j) < 14 then ad6 ((3 + j) - 6) else if (3 + j) < 18 then ad14 ((3 + j) - 14) else if (3 + j) < 24 then ad18 ((3 + j) - 18) else if (3 + j) < 52 then ad24 ((3 + j) - 24) else if (3 + j) = 52 then q8 else 0) = ad3 j
      rw [if_neg (by omega), if_neg (by omega), if_neg (by omega), if_pos (by omega), show 3 + j - 3 = j by omega]) (fun j hj => by
      show (if 3 + j = 1 then _ else if 3 + j = 2 then _ else _) = _
      rw [if_neg (by omega), if_neg (by omega)]; rfl) ly_X3 0 (by decide) (by decide)
  have s6 : sgL g.2.2.1 (ad_X0 h0 q1 q2 ad3 ad6 ad14 ad18 ad24 q8) sc_X0 6 (ly_X10.map (shE 6)) = sgL g.2.2.1 ad6 sc_X10 0 ly_X10 := sg_shift (o := 6) (B := 8) (fun j hj => by
      show (if (6 + j) = 0 then h0 else if (6 + j) = 1 then q1 else if (6 + j) = 2 then q2 else if (6 + j) < 6 then ad3 ((6 + j) - 3) else if (6 + j) < 14 then ad6 ((6 + j) - 6) else if (6 + j) < 18 then ad14 ((6 + j) - 14) else if (6 + j) < 24 then ad18 ((6 + j) - 18) else if (6 + j) < 52 then ad24 ((6 + j) - 24) else if (6 + j) = 52 then q8 else 0) = ad6 j
      rw [if_neg (by omega), if_neg (by omega), if_neg (by omega), if_neg (by omega), if_pos (by omega), show 6 + j - 6 = j by omega]) (fun j hj => by
      show (if 6 + j = 1 then _ else if 6 + j = 2 then _ else _) = _
      rw [if_neg (by omega), if_neg (by omega)]; rfl) ly_X10 0 (by decide) (by decide)
  have s14 : sgL g.2.2.1 (ad_X0 h0 q1 q2 ad3 ad6 ad14 ad18 ad24 q8) sc_X0 14 (ly_X7.map (shE 14)) = sgL g.2.2.1 ad14 sc_X7 0 ly_X7 := sg_shift (o := 14) (B := 4) (fun j hj => by
      show (if (14 + j) = 0 then h0 else if (14 + j) = 1 then q1 else if (14 + j) = 2 then q2 else if (14 + j) < 6 then ad3 ((14 + j) - 3) else if (14 + j) < 14 then ad6 ((14 + j) - 6) else if (14 + j) < 18 then ad14 ((14 + j) - 14) else if (14 + j) < 24 then ad18 ((14 + j) - 18) else if (14 + j) < 52 then ad24 ((14 + j) - 24) else if (14 + j) = 52 then q8 else 0) = ad14 j
      rw [if_neg (by omega), if_neg (by omega), if_neg (by omega), if_neg (by omega), if_neg (by omega), if_pos (by omega), show 14 + j - 14 = j by omega]) (fun j hj => by
      show (if 14 + j = 1 then _ else if 14 + j = 2 then _ else _) = _
      rw [if_neg (by omega), if_neg (by omega)]; rfl) ly_X7 0 (by decide) (by decide)
  have s18 : sgL g.2.2.1 (ad_X0 h0 q1 q2 ad3 ad6 ad14 ad18 ad24 q8) sc_X0 18 (ly_X5.map (shE 18)) = sgL g.2.2.1 ad18 sc_X5 0 ly_X5 := sg_shift (o := 18) (B := 6) (fun j hj => by
      show (if (18 + j) = 0 then h0 else if (18 + j) = 1 then q1 else if (18 + j) = 2 then q2 else if (18 + j) < 6 then ad3 ((18 + j) - 3) else if (18 + j) < 14 then ad6 ((18 + j) - 6) else if (18 + j) < 18 then ad14 ((18 + j) - 14) else if (18 + j) < 24 then ad18 ((18 + j) - 18) else if (18 + j) < 52 then ad24 ((18 + j) - 24) else if (18 + j) = 52 then q8 else 0) = ad18 j
      rw [if_neg (by omega), if_neg (by omega), if_neg (by omega), if_neg (by omega), if_neg (by omega), if_neg (by omega), if_pos (by omega), show 18 + j - 18 = j by omega]) (fun j hj => by
      show (if 18 + j = 1 then _ else if 18 + j = 2 then _ else _) = _
      rw [if_neg (by omega), if_neg (by omega)]; rfl) ly_X5 0 (by decide) (by decide)
  have s24 : sgL g.2.2.1 (ad_X0 h0 q1 q2 ad3 ad6 ad14 ad18 ad24 q8) sc_X0 24 (ly_X4.map (shE 24)) = sgL g.2.2.1 ad24 sc_X4 0 ly_X4 := sg_shift (o := 24) (B := 28) (fun j hj => by
      show (if (24 + j) = 0 then h0 else if (24 + j) = 1 then q1 else if (24 + j) = 2 then q2 else if (24 + j) < 6 then ad3 ((24 + j) - 3) else if (24 + j) < 14 then ad6 ((24 + j) - 6) else if (24 + j) < 18 then ad14 ((24 + j) - 14) else if (24 + j) < 24 then ad18 ((24 + j) - 18) else if (24 + j) < 52 then ad24 ((24 + j) - 24) else if (24 + j) = 52 then q8 else 0) = ad24 j
      rw [if_neg (by omega), if_neg (by omega), if_neg (by omega), if_neg (by omega), if_neg (by omega), if_neg (by omega), if_neg (by omega), if_pos (by omega), show 24 + j - 24 = j by omega]) (fun j hj => by
      show (if 24 + j = 1 then _ else if 24 + j = 2 then _ else _) = _
      rw [if_neg (by omega), if_neg (by omega)]; rfl) ly_X4 0 (by decide) (by decide)
  unfold ly_X0
  rw [sgL_app, sgL_app, sgL_app, sgL_app, sgL_app, sgL_app, sgL_app, sgL_app]
  simp only [List.length_cons, List.length_nil, List.length_map, Nat.zero_add, Nat.reduceAdd, show ly_X3.length = 3 from rfl, show ly_X4.length = 28 from rfl, show ly_X5.length = 6 from rfl, show ly_X7.length = 4 from rfl, show ly_X10.length = 8 from rfl]
  rw [s3, s6, s14, s18, s24]
  rfl
end CTB
