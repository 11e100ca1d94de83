/-! CONSTRUCTORS of the small classes -/
def zr : vt_Sg := fun _ _ => 0
section CTA
variable {g : vt_GT} {h0 a : Nat}
def ly_X3 : List vt_LE := [.inr (3, [some 1, some 2, none]), .inl (0, 4, 0), .inl (0, 4, 0)]
abbrev sc_X3 : vt_Sg := zr
set_option maxRecDepth 4000 in
theorem c_X3_init : vc_M g 1 2 8 D_X3_init [.ref h0] [(h0, .inr (3, [.null, .null, .int 0]))] (fun w1 => ∃ ad : Nat → Nat, ad 0 = h0 ∧ w1 = sgL g.2.2.1 ad sc_X3 0 ly_X3) := by
  refine vc_meth (by decide +kernel) rfl rfl rfl rfl ?_
  refine k_aload_n dX3_init_0 rfl ?_
  refine k_obj dX3_init_1 (tb1 (List.mem_of_getElem? (i := 41) rfl) rfl) ob_im ob_cd (by decide) (by decide) ?_
  refine k_aload_n dX3_init_4 rfl ?_
  refine k_iconst (v := 4) dX3_init_5 (by decide) ?_
  refine k_newa 0 (N := 4) (a0 := (4, .inl (fun _ => 0))) (c0 := g.2.2.1 0) (ty := .int) dX3_init_6 ac_I rfl (fun _ _ h => h) rfl (fun _ => rfl) (by decide) (by decide) (by decide) (by decide) (by decide) (fun q1 => ?_)
  refine k_putF (ci := 3) (N := 3) (j := 0) (C := RX3) (T := TX3) (ty0 := tyX3) (ty := tyX3 0) (fs := [.null, .null, .int 0]) (fs' := [.ref q1, .null, .int 0]) dX3_init_8 rfl inX3_ok tyX3_ok nmX3 rfl (by decide) (tb1 (List.mem_of_getElem? (i := 42) rfl) rfl) rfl rfl rfl (tyX3_ok 0 (by decide)) rfl rfl (Nat.le_of_ble_eq_true rfl) rfl ?_
  refine k_aload_n dX3_init_11 rfl ?_
  refine k_iconst (v := 4) dX3_init_12 (by decide) ?_
  refine k_newa 0 (N := 4) (a0 := (4, .inl (fun _ => 0))) (c0 := g.2.2.1 0) (ty := .int) dX3_init_13 ac_I rfl (fun _ _ h => h) rfl (fun _ => rfl) (by decide) (by decide) (by decide) (by decide) (by decide) (fun q2 => ?_)
  refine k_putF (ci := 3) (N := 3) (j := 1) (C := RX3) (T := TX3) (ty0 := tyX3) (ty := tyX3 1) (fs := [.ref q1, .null, .int 0]) (fs' := [.ref q1, .ref q2, .int 0]) dX3_init_15 rfl inX3_ok tyX3_ok nmX3 rfl (by decide) (tb1 (List.mem_of_getElem? (i := 44) rfl) rfl) rfl rfl rfl (tyX3_ok 1 (by decide)) rfl rfl (Nat.le_of_ble_eq_true rfl) rfl ?_
  exact k_ret dX3_init_18 rfl rfl ⟨fun j => [h0, q1, q2].getD j 0, rfl, rfl⟩
def ly_X10 : List vt_LE := [.inr (10, [some 1, some 2, some 3, some 4, some 5, some 6, some 7, none]), .inl (0, 12, 0), .inl (0, 12, 0), .inl (0, 12, 0), .inl (0, 12, 0), .inl (0, 12, 0), .inl (0, 12, 0), .inl (0, 12, 0)]
abbrev sc_X10 : vt_Sg := zr
set_option maxRecDepth 4000 in
theorem c_X10_init : vc_M g 1 7 84 D_X10_init [.ref h0] [(h0, .inr (10, [.null, .null, .null, .null, .null, .null, .null, .int 0]))] (fun w1 => ∃ ad : Nat → Nat, ad 0 = h0 ∧ w1 = sgL g.2.2.1 ad sc_X10 0 ly_X10) := by
  refine vc_meth (by decide +kernel) rfl rfl rfl rfl ?_
  refine k_aload_n dX10_init_0 rfl ?_
  refine k_obj dX10_init_1 (tb1 (List.mem_of_getElem? (i := 63) rfl) rfl) ob_im ob_cd (by decide) (by decide) ?_
  refine k_aload_n dX10_init_4 rfl ?_
  refine k_bipush (v := 12) dX10_init_5 (by decide) ?_
  refine k_newa 0 (N := 12) (a0 := (12, .inl (fun _ => 0))) (c0 := g.2.2.1 0) (ty := .int) dX10_init_7 ac_I rfl (fun _ _ h => h) rfl (fun _ => rfl) (by decide) (by decide) (by decide) (by decide) (by decide) (fun q1 => ?_)
  refine k_putF (ci := 10) (N := 8) (j := 0) (C := RX10) (T := TX10) (ty0 := tyX10) (ty := tyX10 0) (fs := [.null, .null, .null, .null, .null, .null, .null, .int 0]) (fs' := [.ref q1, .null, .null, .null, .null, .null, .null, .int 0]) dX10_init_9 rfl inX10_ok tyX10_ok nmX10 rfl (by decide) (tb1 (List.mem_of_getElem? (i := 64) rfl) rfl) rfl rfl rfl (tyX10_ok 0 (by decide)) rfl rfl (Nat.le_of_ble_eq_true rfl) rfl ?_
  refine k_aload_n dX10_init_12 rfl ?_
  refine k_bipush (v := 12) dX10_init_13 (by decide) ?_
  refine k_newa 0 (N := 12) (a0 := (12, .inl (fun _ => 0))) (c0 := g.2.2.1 0) (ty := .int) dX10_init_15 ac_I rfl (fun _ _ h => h) rfl (fun _ => rfl) (by decide) (by decide) (by decide) (by decide) (by decide) (fun q2 => ?_)
  refine k_putF (ci := 10) (N := 8) (j := 1) (C := RX10) (T := TX10) (ty0 := tyX10) (ty := tyX10 1) (fs := [.ref q1, .null, .null, .null, .null, .null, .null, .int 0]) (fs' := [.ref q1, .ref q2, .null, .null, .null, .null, .null, .int 0]) dX10_init_17 rfl inX10_ok tyX10_ok nmX10 rfl (by decide) (tb1 (List.mem_of_getElem? (i := 68) rfl) rfl) rfl rfl rfl (tyX10_ok 1 (by decide)) rfl rfl (Nat.le_of_ble_eq_true rfl) rfl ?_
  refine k_aload_n dX10_init_20 rfl ?_
  refine k_bipush (v := 12) dX10_init_21 (by decide) ?_
  refine k_newa 0 (N := 12) (a0 := (12, .inl (fun _ => 0))) (c0 := g.2.2.1 0) (ty := .int) dX10_init_23 ac_I rfl (fun _ _ h => h) rfl (fun _ => rfl) (by decide) (by decide) (by decide) (by decide) (by decide) (fun q3 => ?_)
  refine k_putF (ci := 10) (N := 8) (j := 2) (C := RX10) (T := TX10) (ty0 := tyX10) (ty := tyX10 2) (fs := [.ref q1, .ref q2, .null, .null, .null, .null, .null, .int 0]) (fs' := [.ref q1, .ref q2, .ref q3, .null, .null, .null, .null, .int 0]) dX10_init_25 rfl inX10_ok tyX10_ok nmX10 rfl (by decide) (tb1 (List.mem_of_getElem? (i := 70) rfl) rfl) rfl rfl rfl (tyX10_ok 2 (by decide)) rfl rfl (Nat.le_of_ble_eq_true rfl) rfl ?_
  refine k_aload_n dX10_init_28 rfl ?_
  refine k_bipush (v := 12) dX10_init_29 (by decide) ?_
  refine k_newa 0 (N := 12) (a0 := (12, .inl (fun _ => 0))) (c0 := g.2.2.1 0) (ty := .int) dX10_init_31 ac_I rfl (fun _ _ h => h) rfl (fun _ => rfl) (by decide) (by decide) (by decide) (by decide) (by decide) (fun q4 => ?_)
  refine k_putF (ci := 10) (N := 8) (j := 3) (C := RX10) (T := TX10) (ty0 := tyX10) (ty := tyX10 3) (fs := [.ref q1, .ref q2, .ref q3, .null, .null, .null, .null, .int 0]) (fs' := [.ref q1, .ref q2, .ref q3, .ref q4, .null, .null, .null, .int 0]) dX10_init_33 rfl inX10_ok tyX10_ok nmX10 rfl (by decide) (tb1 (List.mem_of_getElem? (i := 72) rfl) rfl) rfl rfl rfl (tyX10_ok 3 (by decide)) rfl rfl (Nat.le_of_ble_eq_true rfl) rfl ?_
  refine k_aload_n dX10_init_36 rfl ?_
  refine k_bipush (v := 12) dX10_init_37 (by decide) ?_
  refine k_newa 0 (N := 12) (a0 := (12, .inl (fun _ => 0))) (c0 := g.2.2.1 0) (ty := .int) dX10_init_39 ac_I rfl (fun _ _ h => h) rfl (fun _ => rfl) (by decide) (by decide) (by decide) (by decide) (by decide) (fun q5 => ?_)
  refine k_putF (ci := 10) (N := 8) (j := 4) (C := RX10) (T := TX10) (ty0 := tyX10) (ty := tyX10 4) (fs := [.ref q1, .ref q2, .ref q3, .ref q4, .null, .null, .null, .int 0]) (fs' := [.ref q1, .ref q2, .ref q3, .ref q4, .ref q5, .null, .null, .int 0]) dX10_init_41 rfl inX10_ok tyX10_ok nmX10 rfl (by decide) (tb1 (List.mem_of_getElem? (i := 74) rfl) rfl) rfl rfl rfl (tyX10_ok 4 (by decide)) rfl rfl (Nat.le_of_ble_eq_true rfl) rfl ?_
  refine k_aload_n dX10_init_44 rfl ?_
  refine k_bipush (v := 12) dX10_init_45 (by decide) ?_
  refine k_newa 0 (N := 12) (a0 := (12, .inl (fun _ => 0))) (c0 := g.2.2.1 0) (ty := .int) dX10_init_47 ac_I rfl (fun _ _ h => h) rfl (fun _ => rfl) (by decide) (by decide) (by decide) (by decide) (by decide) (fun q6 => ?_)
  refine k_putF (ci := 10) (N := 8) (j := 5) (C := RX10) (T := TX10) (ty0 := tyX10) (ty := tyX10 5) (fs := [.ref q1, .ref q2, .ref q3, .ref q4, .ref q5, .null, .null, .int 0]) (fs' := [.ref q1, .ref q2, .ref q3, .ref q4, .ref q5, .ref q6, .null, .int 0]) dX10_init_49 rfl inX10_ok tyX10_ok nmX10 rfl (by decide) (tb1 (List.mem_of_getElem? (i := 76) rfl) rfl) rfl rfl rfl (tyX10_ok 5 (by decide)) rfl rfl (Nat.le_of_ble_eq_true rfl) rfl ?_
  refine k_aload_n dX10_init_52 rfl ?_
  refine k_bipush (v := 12) dX10_init_53 (by decide) ?_
  refine k_newa 0 (N := 12) (a0 := (12, .inl (fun _ => 0))) (c0 := g.2.2.1 0) (ty := .int) dX10_init_55 ac_I rfl (fun _ _ h => h) rfl (fun _ => rfl) (by decide) (by decide) (by decide) (by decide) (by decide) (fun q7 => ?_)
  refine k_putF (ci := 10) (N := 8) (j := 6) (C := RX10) (T := TX10) (ty0 := tyX10) (ty := tyX10 6) (fs := [.ref q1, .ref q2, .ref q3, .ref q4, .ref q5, .ref q6, .null, .int 0]) (fs' := [.ref q1, .ref q2, .ref q3, .ref q4, .ref q5, .ref q6, .ref q7, .int 0]) dX10_init_57 rfl inX10_ok tyX10_ok nmX10 rfl (by decide) (tb1 (List.mem_of_getElem? (i := 78) rfl) rfl) rfl rfl rfl (tyX10_ok 6 (by decide)) rfl rfl (Nat.le_of_ble_eq_true rfl) rfl ?_
  exact k_ret dX10_init_60 rfl rfl ⟨fun j => [h0, q1, q2, q3, q4, q5, q6, q7].getD j 0, rfl, rfl⟩
def ly_X7 : List vt_LE := [.inr (7, [some 1, some 2, some 3, none]), .inl (0, 200, 0), .inl (0, 200, 0), .inl (0, 200, 0)]
abbrev sc_X7 : vt_Sg := zr
set_option maxRecDepth 4000 in
theorem c_X7_init : vc_M g 1 3 600 D_X7_init [.ref h0] [(h0, .inr (7, [.null, .null, .null, .int 0]))] (fun w1 => ∃ ad : Nat → Nat, ad 0 = h0 ∧ w1 = sgL g.2.2.1 ad sc_X7 0 ly_X7) := by
  refine vc_meth (by decide +kernel) rfl rfl rfl rfl ?_
  refine k_aload_n dX7_init_0 rfl ?_
  refine k_obj dX7_init_1 (tb1 (List.mem_of_getElem? (i := 106) rfl) rfl) ob_im ob_cd (by decide) (by decide) ?_
  refine k_aload_n dX7_init_4 rfl ?_
  refine k_sipush (v := 200) dX7_init_5 (by decide) ?_
  refine k_newa 0 (N := 200) (a0 := (200, .inl (fun _ => 0))) (c0 := g.2.2.1 0) (ty := .int) dX7_init_8 ac_I rfl (fun _ _ h => h) rfl (fun _ => rfl) (by decide) (by decide) (by decide) (by decide) (by decide) (fun q1 => ?_)
  refine k_putF (ci := 7) (N := 4) (j := 0) (C := RX7) (T := TX7) (ty0 := tyX7) (ty := tyX7 0) (fs := [.null, .null, .null, .int 0]) (fs' := [.ref q1, .null, .null, .int 0]) dX7_init_10 rfl inX7_ok tyX7_ok nmX7 rfl (by decide) (tb1 (List.mem_of_getElem? (i := 107) rfl) rfl) rfl rfl rfl (tyX7_ok 0 (by decide)) rfl rfl (Nat.le_of_ble_eq_true rfl) rfl ?_
  refine k_aload_n dX7_init_13 rfl ?_
  refine k_sipush (v := 200) dX7_init_14 (by decide) ?_
  refine k_newa 0 (N := 200) (a0 := (200, .inl (fun _ => 0))) (c0 := g.2.2.1 0) (ty := .int) dX7_init_17 ac_I rfl (fun _ _ h => h) rfl (fun _ => rfl) (by decide) (by decide) (by decide) (by decide) (by decide) (fun q2 => ?_)
  refine k_putF (ci := 7) (N := 4) (j := 1) (C := RX7) (T := TX7) (ty0 := tyX7) (ty := tyX7 1) (fs := [.ref q1, .null, .null, .int 0]) (fs' := [.ref q1, .ref q2, .null, .int 0]) dX7_init_19 rfl inX7_ok tyX7_ok nmX7 rfl (by decide) (tb1 (List.mem_of_getElem? (i := 109) rfl) rfl) rfl rfl rfl (tyX7_ok 1 (by decide)) rfl rfl (Nat.le_of_ble_eq_true rfl) rfl ?_
  refine k_aload_n dX7_init_22 rfl ?_
  refine k_sipush (v := 200) dX7_init_23 (by decide) ?_
  refine k_newa 0 (N := 200) (a0 := (200, .inl (fun _ => 0))) (c0 := g.2.2.1 0) (ty := .int) dX7_init_26 ac_I rfl (fun _ _ h => h) rfl (fun _ => rfl) (by decide) (by decide) (by decide) (by decide) (by decide) (fun q3 => ?_)
  refine k_putF (ci := 7) (N := 4) (j := 2) (C := RX7) (T := TX7) (ty0 := tyX7) (ty := tyX7 2) (fs := [.ref q1, .ref q2, .null, .int 0]) (fs' := [.ref q1, .ref q2, .ref q3, .int 0]) dX7_init_28 rfl inX7_ok tyX7_ok nmX7 rfl (by decide) (tb1 (List.mem_of_getElem? (i := 111) rfl) rfl) rfl rfl rfl (tyX7_ok 2 (by decide)) rfl rfl (Nat.le_of_ble_eq_true rfl) rfl ?_
  exact k_ret dX7_init_31 rfl rfl ⟨fun j => [h0, q1, q2, q3].getD j 0, rfl, rfl⟩
def ly_X5 : List vt_LE := [.inr (5, [some 1, some 2, some 3, some 4, some 5, none]), .inl (0, 100, 0), .inl (0, 100, 0), .inl (0, 100, 0), .inl (0, 100, 0), .inl (0, 100, 0)]
abbrev sc_X5 : vt_Sg := zr
set_option maxRecDepth 4000 in
theorem c_X5_init : vc_M g 1 5 500 D_X5_init [.ref h0] [(h0, .inr (5, [.null, .null, .null, .null, .null, .int 0]))] (fun w1 => ∃ ad : Nat → Nat, ad 0 = h0 ∧ w1 = sgL g.2.2.1 ad sc_X5 0 ly_X5) := by
  refine vc_meth (by decide +kernel) rfl rfl rfl rfl ?_
  refine k_aload_n dX5_init_0 rfl ?_
  refine k_obj dX5_init_1 (tb1 (List.mem_of_getElem? (i := 130) rfl) rfl) ob_im ob_cd (by decide) (by decide) ?_
  refine k_aload_n dX5_init_4 rfl ?_
  refine k_bipush (v := 100) dX5_init_5 (by decide) ?_
  refine k_newa 0 (N := 100) (a0 := (100, .inl (fun _ => 0))) (c0 := g.2.2.1 0) (ty := .int) dX5_init_7 ac_I rfl (fun _ _ h => h) rfl (fun _ => rfl) (by decide) (by decide) (by decide) (by decide) (by decide) (fun q1 => ?_)
  refine k_putF (ci := 5) (N := 6) (j := 0) (C := RX5) (T := TX5) (ty0 := tyX5) (ty := tyX5 0) (fs := [.null, .null, .null, .null, .null, .int 0]) (fs' := [.ref q1, .null, .null, .null, .null, .int 0]) dX5_init_9 rfl inX5_ok tyX5_ok nmX5 rfl (by decide) (tb1 (List.mem_of_getElem? (i := 131) rfl) rfl) rfl rfl rfl (tyX5_ok 0 (by decide)) rfl rfl (Nat.le_of_ble_eq_true rfl) rfl ?_
  refine k_aload_n dX5_init_12 rfl ?_
  refine k_bipush (v := 100) dX5_init_13 (by decide) ?_
  refine k_newa 0 (N := 100) (a0 := (100, .inl (fun _ => 0))) (c0 := g.2.2.1 0) (ty := .int) dX5_init_15 ac_I rfl (fun _ _ h => h) rfl (fun _ => rfl) (by decide) (by decide) (by decide) (by decide) (by decide) (fun q2 => ?_)
  refine k_putF (ci := 5) (N := 6) (j := 1) (C := RX5) (T := TX5) (ty0 := tyX5) (ty := tyX5 1) (fs := [.ref q1, .null, .null, .null, .null, .int 0]) (fs' := [.ref q1, .ref q2, .null, .null, .null, .int 0]) dX5_init_17 rfl inX5_ok tyX5_ok nmX5 rfl (by decide) (tb1 (List.mem_of_getElem? (i := 133) rfl) rfl) rfl rfl rfl (tyX5_ok 1 (by decide)) rfl rfl (Nat.le_of_ble_eq_true rfl) rfl ?_
  refine k_aload_n dX5_init_20 rfl ?_
  refine k_bipush (v := 100) dX5_init_21 (by decide) ?_
  refine k_newa 0 (N := 100) (a0 := (100, .inl (fun _ => 0))) (c0 := g.2.2.1 0) (ty := .int) dX5_init_23 ac_I rfl (fun _ _ h => h) rfl (fun _ => rfl) (by decide) (by decide) (by decide) (by decide) (by decide) (fun q3 => ?_)
  refine k_putF (ci := 5) (N := 6) (j := 2) (C := RX5) (T := TX5) (ty0 := tyX5) (ty := tyX5 2) (fs := [.ref q1, .ref q2, .null, .null, .null, .int 0]) (fs' := [.ref q1, .ref q2, .ref q3, .null, .null, .int 0]) dX5_init_25 rfl inX5_ok tyX5_ok nmX5 rfl (by decide) (tb1 (List.mem_of_getElem? (i := 135) rfl) rfl) rfl rfl rfl (tyX5_ok 2 (by decide)) rfl rfl (Nat.le_of_ble_eq_true rfl) rfl ?_
  refine k_aload_n dX5_init_28 rfl ?_
  refine k_bipush (v := 100) dX5_init_29 (by decide) ?_
  refine k_newa 0 (N := 100) (a0 := (100, .inl (fun _ => 0))) (c0 := g.2.2.1 0) (ty := .int) dX5_init_31 ac_I rfl (fun _ _ h => h) rfl (fun _ => rfl) (by decide) (by decide) (by decide) (by decide) (by decide) (fun q4 => ?_)
  refine k_putF (ci := 5) (N := 6) (j := 3) (C := RX5) (T := TX5) (ty0 := tyX5) (ty := tyX5 3) (fs := [.ref q1, .ref q2, .ref q3, .null, .null, .int 0]) (fs' := [.ref q1, .ref q2, .ref q3, .ref q4, .null, .int 0]) dX5_init_33 rfl inX5_ok tyX5_ok nmX5 rfl (by decide) (tb1 (List.mem_of_getElem? (i := 137) rfl) rfl) rfl rfl rfl (tyX5_ok 3 (by decide)) rfl rfl (Nat.le_of_ble_eq_true rfl) rfl ?_
  refine k_aload_n dX5_init_36 rfl ?_
  refine k_bipush (v := 100) dX5_init_37 (by decide) ?_
  refine k_newa 0 (N := 100) (a0 := (100, .inl (fun _ => 0))) (c0 := g.2.2.1 0) (ty := .int) dX5_init_39 ac_I rfl (fun _ _ h => h) rfl (fun _ => rfl) (by decide) (by decide) (by decide) (by decide) (by decide) (fun q5 => ?_)
  refine k_putF (ci := 5) (N := 6) (j := 4) (C := RX5) (T := TX5) (ty0 := tyX5) (ty := tyX5 4) (fs := [.ref q1, .ref q2, .ref q3, .ref q4, .null, .int 0]) (fs' := [.ref q1, .ref q2, .ref q3, .ref q4, .ref q5, .int 0]) dX5_init_41 rfl inX5_ok tyX5_ok nmX5 rfl (by decide) (tb1 (List.mem_of_getElem? (i := 139) rfl) rfl) rfl rfl rfl (tyX5_ok 4 (by decide)) rfl rfl (Nat.le_of_ble_eq_true rfl) rfl ?_
  exact k_ret dX5_init_44 rfl rfl ⟨fun j => [h0, q1, q2, q3, q4, q5].getD j 0, rfl, rfl⟩
def ly_X4 : List vt_LE := [.inr (4, [some 1, some 2, some 15]), .inl (3, 12, 0), .inl (4, 12, 3), .inl (0, 132, 0), .inl (0, 132, 0), .inl (0, 132, 0), .inl (0, 132, 0), .inl (0, 132, 0), .inl (0, 132, 0), .inl (0, 132, 0), .inl (0, 132, 0), .inl (0, 132, 0), .inl (0, 132, 0), .inl (0, 132, 0), .inl (0, 132, 0), .inl (4, 12, 16), .inl (0, 3, 0), .inl (0, 3, 0), .inl (0, 3, 0), .inl (0, 3, 0), .inl (0, 3, 0), .inl (0, 3, 0), .inl (0, 3, 0), .inl (0, 3, 0), .inl (0, 3, 0), .inl (0, 3, 0), .inl (0, 3, 0), .inl (0, 3, 0)]
abbrev sc_X4 : vt_Sg := zr
set_option maxRecDepth 4000 in
theorem c_X4_init : vc_M g 1 27 1656 D_X4_init [.ref h0] [(h0, .inr (4, [.null, .null, .null]))] (fun w1 => ∃ ad : Nat → Nat, ad 0 = h0 ∧ w1 = sgL g.2.2.1 ad sc_X4 0 ly_X4) := by
  refine vc_meth (by decide +kernel) rfl rfl rfl rfl ?_
  refine k_aload_n dX4_init_0 rfl ?_
  refine k_obj dX4_init_1 (tb1 (List.mem_of_getElem? (i := 161) rfl) rfl) ob_im ob_cd (by decide) (by decide) ?_
  refine k_aload_n dX4_init_4 rfl ?_
  refine k_bipush (v := 12) dX4_init_5 (by decide) ?_
  refine k_newa 3 (N := 12) (a0 := (12, .inl (fun _ => 0))) (c0 := g.2.2.1 3) (ty := .boolean) dX4_init_7 ac_Z rfl (fun _ _ h => h) rfl (fun _ => rfl) (by decide) (by decide) (by decide) (by decide) (by decide) (fun q1 => ?_)
  refine k_putF (ci := 4) (N := 3) (j := 0) (C := RX4) (T := TX4) (ty0 := tyX4) (ty := tyX4 0) (fs := [.null, .null, .null]) (fs' := [.ref q1, .null, .null]) dX4_init_9 rfl inX4_ok tyX4_ok nmX4 rfl (by decide) (tb1 (List.mem_of_getElem? (i := 164) rfl) rfl) rfl rfl rfl (tyX4_ok 0 (by decide)) rfl rfl (Nat.le_of_ble_eq_true rfl) rfl ?_
  refine k_aload_n dX4_init_12 rfl ?_
  refine k_bipush (v := 12) dX4_init_13 (by decide) ?_
  refine k_sipush (v := 132) dX4_init_15 (by decide) ?_
  refine k_mna (ty := .int) (t0 := 0) (t1 := 4) (N := 12) (K := 132) (z := (132, .inl (fun _ => 0))) (c0 := g.2.2.1 0) (c1 := g.2.2.1 4) dX4_init_18 (tb1 (List.mem_of_getElem? (i := 162) rfl) rfl) (fun _ h => h.2.1) ac_I (fun _ _ h => h) (fun _ _ h => h) rfl rfl (by decide) (by decide) (by decide) (by decide) (by decide) (by decide) (by decide) rfl rfl (by decide) (by decide) (fun c => hz_C c 132) (fun q2 r1 => ?_)
  refine k_putF (ci := 4) (N := 3) (j := 1) (C := RX4) (T := TX4) (ty0 := tyX4) (ty := tyX4 1) (fs := [.ref q1, .null, .null]) (fs' := [.ref q1, .ref q2, .null]) dX4_init_22 rfl inX4_ok tyX4_ok nmX4 rfl (by decide) (tb1 (List.mem_of_getElem? (i := 166) rfl) rfl) rfl rfl rfl (tyX4_ok 1 (by decide)) rfl rfl (Nat.le_of_ble_eq_true rfl) rfl ?_
  refine k_aload_n dX4_init_25 rfl ?_
  refine k_bipush (v := 12) dX4_init_26 (by decide) ?_
  refine k_iconst (v := 3) dX4_init_28 (by decide) ?_
  refine k_mna (ty := .int) (t0 := 0) (t1 := 4) (N := 12) (K := 3) (z := (3, .inl (fun _ => 0))) (c0 := g.2.2.1 0) (c1 := g.2.2.1 4) dX4_init_29 (tb1 (List.mem_of_getElem? (i := 162) rfl) rfl) (fun _ h => h.2.1) ac_I (fun _ _ h => h) (fun _ _ h => h) rfl rfl (by decide) (by decide) (by decide) (by decide) (by decide) (by decide) (by decide) rfl rfl (by decide) (by decide) (fun c => hz_C c 3) (fun q3 r2 => ?_)
  refine k_putF (ci := 4) (N := 3) (j := 2) (C := RX4) (T := TX4) (ty0 := tyX4) (ty := tyX4 2) (fs := [.ref q1, .ref q2, .null]) (fs' := [.ref q1, .ref q2, .ref q3]) dX4_init_33 rfl inX4_ok tyX4_ok nmX4 rfl (by decide) (tb1 (List.mem_of_getElem? (i := 168) rfl) rfl) rfl rfl rfl (tyX4_ok 2 (by decide)) rfl rfl (Nat.le_of_ble_eq_true rfl) rfl ?_
  refine k_ret dX4_init_36 rfl rfl ⟨(fun j => if j = 0 then h0 else if j = 1 then q1 else if j = 2 then q2 else if j < 15 then r1 (j - 3) else if j = 15 then q3 else if j < 28 then r2 (j - 16) else 0 : Nat → Nat), rfl, ?_⟩
  have e_r1 : (fun j => if j < 12 then some ((fun j => if j = 0 then h0 else if j = 1 then q1 else if j = 2 then q2 else if j < 15 then r1 (j - 3) else if j = 15 then q3 else if j < 28 then r2 (j - 16) else 0 : Nat → Nat) (3 + j)) else none) = (fun j => if j < 12 then some (r1 j) else none) := sg_row (fun j hj => by
    show (if (3 + j) = 0 then h0 else if (3 + j) = 1 then q1 else if (3 + j) = 2 then q2 else if (3 + j) < 15 then r1 ((3 + j) - 3) else if (3 + j) = 15 then q3 else if (3 + j) < 28 then r2 ((3 + j) - 16) else 0) = r1 j
    rw [if_neg (by omega), if_neg (by omega), if_neg (by omega), if_pos (by omega), show 3 + j - 3 = j by omega])
  have e_r2 : (fun j => if j < 12 then some ((fun j => if j = 0 then h0 else if j = 1 then q1 else if j = 2 then q2 else if j < 15 then r1 (j - 3) else if j = 15 then q3 else if j < 28 then r2 (j - 16) else 0 : Nat → Nat) (16 + j)) else none) = (fun j => if j < 12 then some (r2 j) else none) := sg_row (fun j hj => by
    show (if (16 + j) = 0 then h0 else if (16 + j) = 1 then q1 else if (16 + j) = 2 then q2 else if (16 + j) < 15 then r1 ((16 + j) - 3) else if (16 + j) = 15 then q3 else if (16 + j) < 28 then r2 ((16 + j) - 16) else 0) = r2 j
    rw [if_neg (by omega), if_neg (by omega), if_neg (by omega), if_neg (by omega), if_neg (by omega), if_pos (by omega), show 16 + j - 16 = j by omega])
  have ex : sgL g.2.2.1 (fun j => if j = 0 then h0 else if j = 1 then q1 else if j = 2 then q2 else if j < 15 then r1 (j - 3) else if j = 15 then q3 else if j < 28 then r2 (j - 16) else 0 : Nat → Nat) sc_X4 0 ly_X4 = [(h0, .inr (4, [.ref q1, .ref q2, .ref q3])), (q1, .inl (g.2.2.1 3, 12, .inl (fun _ => 0))), (q2, .inl (g.2.2.1 4, 12, .inr (.inr (.inr (.inr (fun j => if j < 12 then some ((fun j => if j = 0 then h0 else if j = 1 then q1 else if j = 2 then q2 else if j < 15 then r1 (j - 3) else if j = 15 then q3 else if j < 28 then r2 (j - 16) else 0 : Nat → Nat) (3 + j)) else none)))))), (r1 0, .inl (g.2.2.1 0, 132, .inl (fun _ => 0))), (r1 1, .inl (g.2.2.1 0, 132, .inl (fun _ => 0))), (r1 2, .inl (g.2.2.1 0, 132, .inl (fun _ => 0))), (r1 3, .inl (g.2.2.1 0, 132, .inl (fun _ => 0))), (r1 4, .inl (g.2.2.1 0, 132, .inl (fun _ => 0))), (r1 5, .inl (g.2.2.1 0, 132, .inl (fun _ => 0))), (r1 6, .inl (g.2.2.1 0, 132, .inl (fun _ => 0))), (r1 7, .inl (g.2.2.1 0, 132, .inl (fun _ => 0))), (r1 8, .inl (g.2.2.1 0, 132, .inl (fun _ => 0))), (r1 9, .inl (g.2.2.1 0, 132, .inl (fun _ => 0))), (r1 10, .inl (g.2.2.1 0, 132, .inl (fun _ => 0))), (r1 11, .inl (g.2.2.1 0, 132, .inl (fun _ => 0))), (q3, .inl (g.2.2.1 4, 12, .inr (.inr (.inr (.inr (fun j => if j < 12 then some ((fun j => if j = 0 then h0 else if j = 1 then q1 else if j = 2 then q2 else if j < 15 then r1 (j - 3) else if j = 15 then q3 else if j < 28 then r2 (j - 16) else 0 : Nat → Nat) (16 + j)) else none)))))), (r2 0, .inl (g.2.2.1 0, 3, .inl (fun _ => 0))), (r2 1, .inl (g.2.2.1 0, 3, .inl (fun _ => 0))), (r2 2, .inl (g.2.2.1 0, 3, .inl (fun _ => 0))), (r2 3, .inl (g.2.2.1 0, 3, .inl (fun _ => 0))), (r2 4, .inl (g.2.2.1 0, 3, .inl (fun _ => 0))), (r2 5, .inl (g.2.2.1 0, 3, .inl (fun _ => 0))), (r2 6, .inl (g.2.2.1 0, 3, .inl (fun _ => 0))), (r2 7, .inl (g.2.2.1 0, 3, .inl (fun _ => 0))), (r2 8, .inl (g.2.2.1 0, 3, .inl (fun _ => 0))), (r2 9, .inl (g.2.2.1 0, 3, .inl (fun _ => 0))), (r2 10, .inl (g.2.2.1 0, 3, .inl (fun _ => 0))), (r2 11, .inl (g.2.2.1 0, 3, .inl (fun _ => 0)))] := rfl
  rw [ex, e_r1, e_r2]
  rfl
def ly_X8 : List vt_LE := [.inr (8, [none, some 1, some 2, none, some 3, none, none, none, none, none]), .inl (0, 132, 0), .inl (0, 3, 0), .inl (1, 132, 0)]
abbrev sc_X8 : vt_Sg := zr
set_option maxRecDepth 4000 in
theorem c_X8_init : vc_M g 1 3 267 D_X8_init [.ref h0] [(h0, .inr (8, [.int 0, .null, .null, .int 0, .null, .int 0, .int 0, .int 0, .int 0, .int 0]))] (fun w1 => ∃ ad : Nat → Nat, ad 0 = h0 ∧ w1 = sgL g.2.2.1 ad sc_X8 0 ly_X8) := by
  refine vc_meth (by decide +kernel) rfl rfl rfl rfl ?_
  refine k_aload_n dX8_init_0 rfl ?_
  refine k_obj dX8_init_1 (tb1 (List.mem_of_getElem? (i := 237) rfl) rfl) ob_im ob_cd (by decide) (by decide) ?_
  refine k_aload_n dX8_init_4 rfl ?_
  refine k_sipush (v := 132) dX8_init_5 (by decide) ?_
  refine k_newa 0 (N := 132) (a0 := (132, .inl (fun _ => 0))) (c0 := g.2.2.1 0) (ty := .int) dX8_init_8 ac_I rfl (fun _ _ h => h) rfl (fun _ => rfl) (by decide) (by decide) (by decide) (by decide) (by decide) (fun q1 => ?_)
  refine k_putF (ci := 8) (N := 10) (j := 1) (C := RX8) (T := TX8) (ty0 := tyX8) (ty := tyX8 1) (fs := [.int 0, .null, .null, .int 0, .null, .int 0, .int 0, .int 0, .int 0, .int 0]) (fs' := [.int 0, .ref q1, .null, .int 0, .null, .int 0, .int 0, .int 0, .int 0, .int 0]) dX8_init_10 rfl inX8_ok tyX8_ok nmX8 rfl (by decide) (tb2 (List.mem_of_getElem? (i := 0) rfl) rfl) rfl rfl rfl (tyX8_ok 1 (by decide)) rfl rfl (Nat.le_of_ble_eq_true rfl) rfl ?_
  refine k_aload_n dX8_init_13 rfl ?_
  refine k_iconst (v := 3) dX8_init_14 (by decide) ?_
  refine k_newa 0 (N := 3) (a0 := (3, .inl (fun _ => 0))) (c0 := g.2.2.1 0) (ty := .int) dX8_init_15 ac_I rfl (fun _ _ h => h) rfl (fun _ => rfl) (by decide) (by decide) (by decide) (by decide) (by decide) (fun q2 => ?_)
  refine k_putF (ci := 8) (N := 10) (j := 2) (C := RX8) (T := TX8) (ty0 := tyX8) (ty := tyX8 2) (fs := [.int 0, .ref q1, .null, .int 0, .null, .int 0, .int 0, .int 0, .int 0, .int 0]) (fs' := [.int 0, .ref q1, .ref q2, .int 0, .null, .int 0, .int 0, .int 0, .int 0, .int 0]) dX8_init_17 rfl inX8_ok tyX8_ok nmX8 rfl (by decide) (tb2 (List.mem_of_getElem? (i := 2) rfl) rfl) rfl rfl rfl (tyX8_ok 2 (by decide)) rfl rfl (Nat.le_of_ble_eq_true rfl) rfl ?_
  refine k_aload_n dX8_init_20 rfl ?_
  refine k_sipush (v := 132) dX8_init_21 (by decide) ?_
  refine k_newa 1 (N := 132) (a0 := (132, .inl (fun _ => 0))) (c0 := g.2.2.1 1) (ty := .byte) dX8_init_24 ac_B rfl (fun _ _ h => h) rfl (fun _ => rfl) (by decide) (by decide) (by decide) (by decide) (by decide) (fun q3 => ?_)
  refine k_putF (ci := 8) (N := 10) (j := 4) (C := RX8) (T := TX8) (ty0 := tyX8) (ty := tyX8 4) (fs := [.int 0, .ref q1, .ref q2, .int 0, .null, .int 0, .int 0, .int 0, .int 0, .int 0]) (fs' := [.int 0, .ref q1, .ref q2, .int 0, .ref q3, .int 0, .int 0, .int 0, .int 0, .int 0]) dX8_init_26 rfl inX8_ok tyX8_ok nmX8 rfl (by decide) (tb2 (List.mem_of_getElem? (i := 6) rfl) rfl) rfl rfl rfl (tyX8_ok 4 (by decide)) rfl rfl (Nat.le_of_ble_eq_true rfl) rfl ?_
  exact k_ret dX8_init_29 rfl rfl ⟨fun j => [h0, q1, q2, q3].getD j 0, rfl, rfl⟩
def ly_X9 : List vt_LE := [.inr (9, [some 1, some 4]), .inl (5, 2, 2), .inl (2, 16, 0), .inl (2, 16, 0), .inl (0, 2, 0)]
def sc_X9 : vt_Sg := fun k => if k = 4 then (upd (upd (fun _ => 0) 0 (-1)) 1 (-1)) else fun _ => 0
set_option maxRecDepth 4000 in
theorem c_X9_init : vc_M g 1 4 36 D_X9_init [.ref h0] [(h0, .inr (9, [.null, .null]))] (fun w1 => ∃ ad : Nat → Nat, ad 0 = h0 ∧ w1 = sgL g.2.2.1 ad sc_X9 0 ly_X9) := by
  refine vc_meth (by decide +kernel) rfl rfl rfl rfl ?_
  refine k_aload_n dX9_init_0 rfl ?_
  refine k_obj dX9_init_1 (tb2 (List.mem_of_getElem? (i := 39) rfl) rfl) ob_im ob_cd (by decide) (by decide) ?_
  refine k_aload_n dX9_init_4 rfl ?_
  refine k_iconst (v := 2) dX9_init_5 (by decide) ?_
  refine k_bipush (v := 16) dX9_init_6 (by decide) ?_
  refine k_mna (ty := .short) (t0 := 2) (t1 := 5) (N := 2) (K := 16) (z := (16, .inl (fun _ => 0))) (c0 := g.2.2.1 2) (c1 := g.2.2.1 5) dX9_init_8 (tb2 (List.mem_of_getElem? (i := 40) rfl) rfl) (fun _ h => h.2.2) ac_S (fun _ _ h => h) (fun _ _ h => h) rfl rfl (by decide) (by decide) (by decide) (by decide) (by decide) (by decide) (by decide) rfl rfl (by decide) (by decide) (fun c => hz_C c 16) (fun q1 r1 => ?_)
  refine k_putF (ci := 9) (N := 2) (j := 0) (C := RX9) (T := TX9) (ty0 := tyX9) (ty := tyX9 0) (fs := [.null, .null]) (fs' := [.ref q1, .null]) dX9_init_12 rfl inX9_ok tyX9_ok nmX9 rfl (by decide) (tb2 (List.mem_of_getElem? (i := 42) rfl) rfl) rfl rfl rfl (tyX9_ok 0 (by decide)) rfl rfl (Nat.le_of_ble_eq_true rfl) rfl ?_
  refine k_aload_n dX9_init_15 rfl ?_
  refine k_iconst (v := 2) dX9_init_16 (by decide) ?_
  refine k_newa 0 (N := 2) (a0 := (2, .inl (fun _ => 0))) (c0 := g.2.2.1 0) (ty := .int) dX9_init_17 ac_I rfl (fun _ _ h => h) rfl (fun _ => rfl) (by decide) (by decide) (by decide) (by decide) (by decide) (fun q2 => ?_)
  refine k_dup dX9_init_19 rfl ?_
  refine k_iconst (v := 0) dX9_init_20 (by decide) ?_
  refine k_iconst (v := (-1)) dX9_init_21 (by decide) ?_
  refine k_iast (n := 2) (f := (fun _ => 0)) 4 dX9_init_22 rfl (inN (j := 0) (by decide) (by decide)) rfl ?_
  refine k_dup dX9_init_23 rfl ?_
  refine k_iconst (v := 1) dX9_init_24 (by decide) ?_
  refine k_iconst (v := (-1)) dX9_init_25 (by decide) ?_
  refine k_iast (n := 2) (f := (upd (fun _ => 0) 0 (-1))) 4 dX9_init_26 rfl (inN (j := 1) (by decide) (by decide)) rfl ?_
  refine k_putF (ci := 9) (N := 2) (j := 1) (C := RX9) (T := TX9) (ty0 := tyX9) (ty := tyX9 1) (fs := [.ref q1, .null]) (fs' := [.ref q1, .ref q2]) dX9_init_27 rfl inX9_ok tyX9_ok nmX9 rfl (by decide) (tb2 (List.mem_of_getElem? (i := 44) rfl) rfl) rfl rfl rfl (tyX9_ok 1 (by decide)) rfl rfl (Nat.le_of_ble_eq_true rfl) rfl ?_
  refine k_ret dX9_init_30 rfl rfl ⟨(fun j => if j = 0 then h0 else if j = 1 then q1 else if j < 4 then r1 (j - 2) else if j = 4 then q2 else 0 : Nat → Nat), rfl, ?_⟩
  have e_r1 : (fun j => if j < 2 then some ((fun j => if j = 0 then h0 else if j = 1 then q1 else if j < 4 then r1 (j - 2) else if j = 4 then q2 else 0 : Nat → Nat) (2 + j)) else none) = (fun j => if j < 2 then some (r1 j) else none) := sg_row (fun j hj => by
    show (if (2 + j) = 0 then h0 else if (2 + j) = 1 then q1 else if (2 + j) < 4 then r1 ((2 + j) - 2) else if (2 + j) = 4 then q2 else 0) = r1 j
    rw [if_neg (by omega), if_neg (by omega), if_pos (by omega), show 2 + j - 2 = j by omega])
  have ex : sgL g.2.2.1 (fun j => if j = 0 then h0 else if j = 1 then q1 else if j < 4 then r1 (j - 2) else if j = 4 then q2 else 0 : Nat → Nat) sc_X9 0 ly_X9 = [(h0, .inr (9, [.ref q1, .ref q2])), (q1, .inl (g.2.2.1 5, 2, .inr (.inr (.inr (.inr (fun j => if j < 2 then some ((fun j => if j = 0 then h0 else if j = 1 then q1 else if j < 4 then r1 (j - 2) else if j = 4 then q2 else 0 : Nat → Nat) (2 + j)) else none)))))), (r1 0, .inl (g.2.2.1 2, 16, .inl (fun _ => 0))), (r1 1, .inl (g.2.2.1 2, 16, .inl (fun _ => 0))), (q2, .inl (g.2.2.1 0, 2, .inl (upd (upd (fun _ => 0) 0 (-1)) 1 (-1))))] := rfl
  rw [ex, e_r1]
  rfl
def ly_X1 : List vt_LE := [.inr (1, [some 1, none]), .inl (0, 132, 0)]
abbrev sc_X1 : vt_Sg := zr
set_option maxRecDepth 4000 in
theorem c_X1_init : vc_M g 1 1 132 D_X1_init [.ref h0] [(h0, .inr (1, [.null, .int 0]))] (fun w1 => ∃ ad : Nat → Nat, ad 0 = h0 ∧ w1 = sgL g.2.2.1 ad sc_X1 0 ly_X1) := by
  refine vc_meth (by decide +kernel) rfl rfl rfl rfl ?_
  refine k_aload_n dX1_init_0 rfl ?_
  refine k_obj dX1_init_1 (tb2 (List.mem_of_getElem? (i := 98) rfl) rfl) ob_im ob_cd (by decide) (by decide) ?_
  refine k_aload_n dX1_init_4 rfl ?_
  refine k_sipush (v := 132) dX1_init_5 (by decide) ?_
  refine k_newa 0 (N := 132) (a0 := (132, .inl (fun _ => 0))) (c0 := g.2.2.1 0) (ty := .int) dX1_init_8 ac_I rfl (fun _ _ h => h) rfl (fun _ => rfl) (by decide) (by decide) (by decide) (by decide) (by decide) (fun q1 => ?_)
  refine k_putF (ci := 1) (N := 2) (j := 0) (C := RX1) (T := TX1) (ty0 := tyX1) (ty := tyX1 0) (fs := [.null, .int 0]) (fs' := [.ref q1, .int 0]) dX1_init_10 rfl inX1_ok tyX1_ok nmX1 rfl (by decide) (tb2 (List.mem_of_getElem? (i := 99) rfl) rfl) rfl rfl rfl (tyX1_ok 0 (by decide)) rfl rfl (Nat.le_of_ble_eq_true rfl) rfl ?_
  exact k_ret dX1_init_13 rfl rfl ⟨fun j => [h0, q1].getD j 0, rfl, rfl⟩
def ly_X6 : List vt_LE := [.inr (6, [some 1, none, none, some 2, some 3, some 16, some 29, none, none]), .inl (0, 12, 0), .inl (0, 12, 0), .inl (4, 12, 4), .inl (0, 12, 0), .inl (0, 12, 0), .inl (0, 12, 0), .inl (0, 12, 0), .inl (0, 12, 0), .inl (0, 12, 0), .inl (0, 12, 0), .inl (0, 12, 0), .inl (0, 12, 0), .inl (0, 12, 0), .inl (0, 12, 0), .inl (0, 12, 0), .inl (4, 12, 17), .inl (0, 12, 0), .inl (0, 12, 0), .inl (0, 12, 0), .inl (0, 12, 0), .inl (0, 12, 0), .inl (0, 12, 0), .inl (0, 12, 0), .inl (0, 12, 0), .inl (0, 12, 0), .inl (0, 12, 0), .inl (0, 12, 0), .inl (0, 12, 0), .inl (4, 13, 30), .inl (0, 12, 0), .inl (0, 12, 0), .inl (0, 12, 0), .inl (0, 12, 0), .inl (0, 12, 0), .inl (0, 12, 0), .inl (0, 12, 0), .inl (0, 12, 0), .inl (0, 12, 0), .inl (0, 12, 0), .inl (0, 12, 0), .inl (0, 12, 0), .inl (0, 12, 0)]
abbrev sc_X6 : vt_Sg := zr
set_option maxRecDepth 4000 in
theorem c_X6_init : vc_M g 1 42 505 D_X6_init [.ref h0] [(h0, .inr (6, [.null, .int 0, .int 0, .null, .null, .null, .null, .int 0, .int 0]))] (fun w1 => ∃ ad : Nat → Nat, ad 0 = h0 ∧ w1 = sgL g.2.2.1 ad sc_X6 0 ly_X6) := by
  refine vc_meth (by decide +kernel) rfl rfl rfl rfl ?_
  refine k_aload_n dX6_init_0 rfl ?_
  refine k_obj dX6_init_1 (tb2 (List.mem_of_getElem? (i := 111) rfl) rfl) ob_im ob_cd (by decide) (by decide) ?_
  refine k_aload_n dX6_init_4 rfl ?_
  refine k_bipush (v := 12) dX6_init_5 (by decide) ?_
  refine k_newa 0 (N := 12) (a0 := (12, .inl (fun _ => 0))) (c0 := g.2.2.1 0) (ty := .int) dX6_init_7 ac_I rfl (fun _ _ h => h) rfl (fun _ => rfl) (by decide) (by decide) (by decide) (by decide) (by decide) (fun q1 => ?_)
  refine k_putF (ci := 6) (N := 9) (j := 0) (C := RX6) (T := TX6) (ty0 := tyX6) (ty := tyX6 0) (fs := [.null, .int 0, .int 0, .null, .null, .null, .null, .int 0, .int 0]) (fs' := [.ref q1, .int 0, .int 0, .null, .null, .null, .null, .int 0, .int 0]) dX6_init_9 rfl inX6_ok tyX6_ok nmX6 rfl (by decide) (tb2 (List.mem_of_getElem? (i := 113) rfl) rfl) rfl rfl rfl (tyX6_ok 0 (by decide)) rfl rfl (Nat.le_of_ble_eq_true rfl) rfl ?_
  refine k_aload_n dX6_init_12 rfl ?_
  refine k_bipush (v := 12) dX6_init_13 (by decide) ?_
  refine k_newa 0 (N := 12) (a0 := (12, .inl (fun _ => 0))) (c0 := g.2.2.1 0) (ty := .int) dX6_init_15 ac_I rfl (fun _ _ h => h) rfl (fun _ => rfl) (by decide) (by decide) (by decide) (by decide) (by decide) (fun q2 => ?_)
  refine k_putF (ci := 6) (N := 9) (j := 3) (C := RX6) (T := TX6) (ty0 := tyX6) (ty := tyX6 3) (fs := [.ref q1, .int 0, .int 0, .null, .null, .null, .null, .int 0, .int 0]) (fs' := [.ref q1, .int 0, .int 0, .ref q2, .null, .null, .null, .int 0, .int 0]) dX6_init_17 rfl inX6_ok tyX6_ok nmX6 rfl (by decide) (tb2 (List.mem_of_getElem? (i := 118) rfl) rfl) rfl rfl rfl (tyX6_ok 3 (by decide)) rfl rfl (Nat.le_of_ble_eq_true rfl) rfl ?_
  refine k_aload_n dX6_init_20 rfl ?_
  refine k_bipush (v := 12) dX6_init_21 (by decide) ?_
  refine k_bipush (v := 12) dX6_init_23 (by decide) ?_
  refine k_mna (ty := .int) (t0 := 0) (t1 := 4) (N := 12) (K := 12) (z := (12, .inl (fun _ => 0))) (c0 := g.2.2.1 0) (c1 := g.2.2.1 4) dX6_init_25 (tb2 (List.mem_of_getElem? (i := 112) rfl) rfl) (fun _ h => h.2.1) ac_I (fun _ _ h => h) (fun _ _ h => h) rfl rfl (by decide) (by decide) (by decide) (by decide) (by decide) (by decide) (by decide) rfl rfl (by decide) (by decide) (fun c => hz_C c 12) (fun q3 r1 => ?_)
  refine k_putF (ci := 6) (N := 9) (j := 4) (C := RX6) (T := TX6) (ty0 := tyX6) (ty := tyX6 4) (fs := [.ref q1, .int 0, .int 0, .ref q2, .null, .null, .null, .int 0, .int 0]) (fs' := [.ref q1, .int 0, .int 0, .ref q2, .ref q3, .null, .null, .int 0, .int 0]) dX6_init_29 rfl inX6_ok tyX6_ok nmX6 rfl (by decide) (tb2 (List.mem_of_getElem? (i := 119) rfl) rfl) rfl rfl rfl (tyX6_ok 4 (by decide)) rfl rfl (Nat.le_of_ble_eq_true rfl) rfl ?_
  refine k_aload_n dX6_init_32 rfl ?_
  refine k_bipush (v := 12) dX6_init_33 (by decide) ?_
  refine k_bipush (v := 12) dX6_init_35 (by decide) ?_
  refine k_mna (ty := .int) (t0 := 0) (t1 := 4) (N := 12) (K := 12) (z := (12, .inl (fun _ => 0))) (c0 := g.2.2.1 0) (c1 := g.2.2.1 4) dX6_init_37 (tb2 (List.mem_of_getElem? (i := 112) rfl) rfl) (fun _ h => h.2.1) ac_I (fun _ _ h => h) (fun _ _ h => h) rfl rfl (by decide) (by decide) (by decide) (by decide) (by decide) (by decide) (by decide) rfl rfl (by decide) (by decide) (fun c => hz_C c 12) (fun q4 r2 => ?_)
  refine k_putF (ci := 6) (N := 9) (j := 5) (C := RX6) (T := TX6) (ty0 := tyX6) (ty := tyX6 5) (fs := [.ref q1, .int 0, .int 0, .ref q2, .ref q3, .null, .null, .int 0, .int 0]) (fs' := [.ref q1, .int 0, .int 0, .ref q2, .ref q3, .ref q4, .null, .int 0, .int 0]) dX6_init_41 rfl inX6_ok tyX6_ok nmX6 rfl (by decide) (tb2 (List.mem_of_getElem? (i := 120) rfl) rfl) rfl rfl rfl (tyX6_ok 5 (by decide)) rfl rfl (Nat.le_of_ble_eq_true rfl) rfl ?_
  refine k_aload_n dX6_init_44 rfl ?_
  refine k_bipush (v := 13) dX6_init_45 (by decide) ?_
  refine k_bipush (v := 12) dX6_init_47 (by decide) ?_
  refine k_mna (ty := .int) (t0 := 0) (t1 := 4) (N := 13) (K := 12) (z := (12, .inl (fun _ => 0))) (c0 := g.2.2.1 0) (c1 := g.2.2.1 4) dX6_init_49 (tb2 (List.mem_of_getElem? (i := 112) rfl) rfl) (fun _ h => h.2.1) ac_I (fun _ _ h => h) (fun _ _ h => h) rfl rfl (by decide) (by decide) (by decide) (by decide) (by decide) (by decide) (by decide) rfl rfl (by decide) (by decide) (fun c => hz_C c 12) (fun q5 r3 => ?_)
  refine k_putF (ci := 6) (N := 9) (j := 6) (C := RX6) (T := TX6) (ty0 := tyX6) (ty := tyX6 6) (fs := [.ref q1, .int 0, .int 0, .ref q2, .ref q3, .ref q4, .null, .int 0, .int 0]) (fs' := [.ref q1, .int 0, .int 0, .ref q2, .ref q3, .ref q4, .ref q5, .int 0, .int 0]) dX6_init_53 rfl inX6_ok tyX6_ok nmX6 rfl (by decide) (tb2 (List.mem_of_getElem? (i := 121) rfl) rfl) rfl rfl rfl (tyX6_ok 6 (by decide)) rfl rfl (Nat.le_of_ble_eq_true rfl) rfl ?_
  refine k_ret dX6_init_56 rfl rfl ⟨(fun j => if j = 0 then h0 else if j = 1 then q1 else if j = 2 then q2 else if j = 3 then q3 else if j < 16 then r1 (j - 4) else if j = 16 then q4 else if j < 29 then r2 (j - 17) else if j = 29 then q5 else if j < 43 then r3 (j - 30) else 0 : Nat → Nat), rfl, ?_⟩
  have e_r1 : (fun j => if j < 12 then some ((fun j => if j = 0 then h0 else if j = 1 then q1 else if j = 2 then q2 else if j = 3 then q3 else if j < 16 then r1 (j - 4) else if j = 16 then q4 else if j < 29 then r2 (j - 17) else if j = 29 then q5 else if j < 43 then r3 (j - 30) else 0 : Nat → Nat) (4 + j)) else none) = (fun j => if j < 12 then some (r1 j) else none) := sg_row (fun j hj => by
    show (if (4 + j) = 0 then h0 else if (4 + j) = 1 then q1 else if (4 + j) = 2 then q2 else if (4 + j) = 3 then q3 else if (4 + j) < 16 then r1 ((4 + j) - 4) else if (4 + j) = 16 then q4 else if (4 + j) < 29 then r2 ((4 + j) - 17) else if (4 + j) = 29 then q5 else if (4 + j) < 43 then r3 ((4 + j) - 30) else 0) = r1 j
    rw [if_neg (by omega), if_neg (by omega), if_neg (by omega), if_neg (by omega), if_pos (by omega), show 4 + j - 4 = j by omega])
  have e_r2 : (fun j => if j < 12 then some ((fun j => if j = 0 then h0 else if j = 1 then q1 else if j = 2 then q2 else if j = 3 then q3 else if j < 16 then r1 (j - 4) else if j = 16 then q4 else if j < 29 then r2 (j - 17) else if j = 29 then q5 else if j < 43 then r3 (j - 30) else 0 : Nat → Nat) (17 + j)) else none) = (fun j => if j < 12 then some (r2 j) else none) := sg_row (fun j hj => by
    show (if (17 + j) = 0 then h0 else if (17 + j) = 1 then q1 else if (17 + j) = 2 then q2 else if (17 + j) = 3 then q3 else if (17 + j) < 16 then r1 ((17 + j) - 4) else if (17 + j) = 16 then q4 else if (17 + j) < 29 then r2 ((17 + j) - 17) else if (17 + j) = 29 then q5 else if (17 + j) < 43 then r3 ((17 + j) - 30) else 0) = r2 j
    rw [if_neg (by omega), if_neg (by omega), if_neg (by omega), if_neg (by omega), if_neg (by omega), if_neg (by omega), if_pos (by omega), show 17 + j - 17 = j by omega])
  have e_r3 : (fun j => if j < 13 then some ((fun j => if j = 0 then h0 else if j = 1 then q1 else if j = 2 then q2 else if j = 3 then q3 else if j < 16 then r1 (j - 4) else if j = 16 then q4 else if j < 29 then r2 (j - 17) else if j = 29 then q5 else if j < 43 then r3 (j - 30) else 0 : Nat → Nat) (30 + j)) else none) = (fun j => if j < 13 then some (r3 j) else none) := sg_row (fun j hj => by
    show (if (30 + j) = 0 then h0 else if (30 + j) = 1 then q1 else if (30 + j) = 2 then q2 else if (30 + j) = 3 then q3 else if (30 + j) < 16 then r1 ((30 + j) - 4) else if (30 + j) = 16 then q4 else if (30 + j) < 29 then r2 ((30 + j) - 17) else if (30 + j) = 29 then q5 else if (30 + j) < 43 then r3 ((30 + j) - 30) else 0) = r3 j
    rw [if_neg (by omega), if_neg (by omega), if_neg (by omega), if_neg (by omega), if_neg (by omega), if_neg (by omega), if_neg (by omega), if_neg (by omega), if_pos (by omega), show 30 + j - 30 = j by omega])
  have ex : sgL g.2.2.1 (fun j => if j = 0 then h0 else if j = 1 then q1 else if j = 2 then q2 else if j = 3 then q3 else if j < 16 then r1 (j - 4) else if j = 16 then q4 else if j < 29 then r2 (j - 17) else if j = 29 then q5 else if j < 43 then r3 (j - 30) else 0 : Nat → Nat) sc_X6 0 ly_X6 = [(h0, .inr (6, [.ref q1, .int 0, .int 0, .ref q2, .ref q3, .ref q4, .ref q5, .int 0, .int 0])), (q1, .inl (g.2.2.1 0, 12, .inl (fun _ => 0))), (q2, .inl (g.2.2.1 0, 12, .inl (fun _ => 0))), (q3, .inl (g.2.2.1 4, 12, .inr (.inr (.inr (.inr (fun j => if j < 12 then some ((fun j => if j = 0 then h0 else if j = 1 then q1 else if j = 2 then q2 else if j = 3 then q3 else if j < 16 then r1 (j - 4) else if j = 16 then q4 else if j < 29 then r2 (j - 17) else if j = 29 then q5 else if j < 43 then r3 (j - 30) else 0 : Nat → Nat) (4 + j)) else none)))))), (r1 0, .inl (g.2.2.1 0, 12, .inl (fun _ => 0))), (r1 1, .inl (g.2.2.1 0, 12, .inl (fun _ => 0))), (r1 2, .inl (g.2.2.1 0, 12, .inl (fun _ => 0))), (r1 3, .inl (g.2.2.1 0, 12, .inl (fun _ => 0))), (r1 4, .inl (g.2.2.1 0, 12, .inl (fun _ => 0))), (r1 5, .inl (g.2.2.1 0, 12, .inl (fun _ => 0))), (r1 6, .inl (g.2.2.1 0, 12, .inl (fun _ => 0))), (r1 7, .inl (g.2.2.1 0, 12, .inl (fun _ => 0))), (r1 8, .inl (g.2.2.1 0, 12, .inl (fun _ => 0))), (r1 9, .inl (g.2.2.1 0, 12, .inl (fun _ => 0))), (r1 10, .inl (g.2.2.1 0, 12, .inl (fun _ => 0))), (r1 11, .inl (g.2.2.1 0, 12, .inl (fun _ => 0))), (q4, .inl (g.2.2.1 4, 12, .inr (.inr (.inr (.inr (fun j => if j < 12 then some ((fun j => if j = 0 then h0 else if j = 1 then q1 else if j = 2 then q2 else if j = 3 then q3 else if j < 16 then r1 (j - 4) else if j = 16 then q4 else if j < 29 then r2 (j - 17) else if j = 29 then q5 else if j < 43 then r3 (j - 30) else 0 : Nat → Nat) (17 + j)) else none)))))), (r2 0, .inl (g.2.2.1 0, 12, .inl (fun _ => 0))), (r2 1, .inl (g.2.2.1 0, 12, .inl (fun _ => 0))), (r2 2, .inl (g.2.2.1 0, 12, .inl (fun _ => 0))), (r2 3, .inl (g.2.2.1 0, 12, .inl (fun _ => 0))), (r2 4, .inl (g.2.2.1 0, 12, .inl (fun _ => 0))), (r2 5, .inl (g.2.2.1 0, 12, .inl (fun _ => 0))), (r2 6, .inl (g.2.2.1 0, 12, .inl (fun _ => 0))), (r2 7, .inl (g.2.2.1 0, 12, .inl (fun _ => 0))), (r2 8, .inl (g.2.2.1 0, 12, .inl (fun _ => 0))), (r2 9, .inl (g.2.2.1 0, 12, .inl (fun _ => 0))), (r2 10, .inl (g.2.2.1 0, 12, .inl (fun _ => 0))), (r2 11, .inl (g.2.2.1 0, 12, .inl (fun _ => 0))), (q5, .inl (g.2.2.1 4, 13, .inr (.inr (.inr (.inr (fun j => if j < 13 then some ((fun j => if j = 0 then h0 else if j = 1 then q1 else if j = 2 then q2 else if j = 3 then q3 else if j < 16 then r1 (j - 4) else if j = 16 then q4 else if j < 29 then r2 (j - 17) else if j = 29 then q5 else if j < 43 then r3 (j - 30) else 0 : Nat → Nat) (30 + j)) else none)))))), (r3 0, .inl (g.2.2.1 0, 12, .inl (fun _ => 0))), (r3 1, .inl (g.2.2.1 0, 12, .inl (fun _ => 0))), (r3 2, .inl (g.2.2.1 0, 12, .inl (fun _ => 0))), (r3 3, .inl (g.2.2.1 0, 12, .inl (fun _ => 0))), (r3 4, .inl (g.2.2.1 0, 12, .inl (fun _ => 0))), (r3 5, .inl (g.2.2.1 0, 12, .inl (fun _ => 0))), (r3 6, .inl (g.2.2.1 0, 12, .inl (fun _ => 0))), (r3 7, .inl (g.2.2.1 0, 12, .inl (fun _ => 0))), (r3 8, .inl (g.2.2.1 0, 12, .inl (fun _ => 0))), (r3 9, .inl (g.2.2.1 0, 12, .inl (fun _ => 0))), (r3 10, .inl (g.2.2.1 0, 12, .inl (fun _ => 0))), (r3 11, .inl (g.2.2.1 0, 12, .inl (fun _ => 0))), (r3 12, .inl (g.2.2.1 0, 12, .inl (fun _ => 0)))] := rfl
  rw [ex, e_r1, e_r2, e_r3]
  rfl
set_option maxRecDepth 4000 in
theorem c_X2_init : vc_M g 1 4 48 D_X2_init [.ref h0, .ref a] [(h0, .inr (2, [.null, .int 0, .int 0, .null, .null, .null, .null]))] (fun w1 => ∃ q1 q2 q3 q4 : Nat, w1 = [(h0, .inr (2, [.ref a, .int 0, .int 0, .ref q1, .ref q2, .ref q3, .ref q4])), (q1, .inl (g.2.2.1 0, 12, .inl (fun _ => 0))), (q2, .inl (g.2.2.1 0, 12, .inl (fun _ => 0))), (q3, .inl (g.2.2.1 0, 12, .inl (fun _ => 0))), (q4, .inl (g.2.2.1 0, 12, .inl (fun _ => 0)))]) := by
  refine vc_meth (by decide +kernel) rfl rfl rfl rfl ?_
  refine k_aload_n dX2_init_0 rfl ?_
  refine k_obj dX2_init_1 (tb2 (List.mem_of_getElem? (i := 57) rfl) rfl) ob_im ob_cd (by decide) (by decide) ?_
  refine k_aload_n dX2_init_4 rfl ?_
  refine k_bipush (v := 12) dX2_init_5 (by decide) ?_
  refine k_newa 0 (N := 12) (a0 := (12, .inl (fun _ => 0))) (c0 := g.2.2.1 0) (ty := .int) dX2_init_7 ac_I rfl (fun _ _ h => h) rfl (fun _ => rfl) (by decide) (by decide) (by decide) (by decide) (by decide) (fun q1 => ?_)
  refine k_putF (ci := 2) (N := 7) (j := 3) (C := RX2) (T := TX2) (ty0 := tyX2) (ty := tyX2 3) (fs := [.null, .int 0, .int 0, .null, .null, .null, .null]) (fs' := [.null, .int 0, .int 0, .ref q1, .null, .null, .null]) dX2_init_9 rfl inX2_ok tyX2_ok nmX2 rfl (by decide) (tb2 (List.mem_of_getElem? (i := 65) rfl) rfl) rfl rfl rfl (tyX2_ok 3 (by decide)) rfl rfl (Nat.le_of_ble_eq_true rfl) rfl ?_
  refine k_aload_n dX2_init_12 rfl ?_
  refine k_bipush (v := 12) dX2_init_13 (by decide) ?_
  refine k_newa 0 (N := 12) (a0 := (12, .inl (fun _ => 0))) (c0 := g.2.2.1 0) (ty := .int) dX2_init_15 ac_I rfl (fun _ _ h => h) rfl (fun _ => rfl) (by decide) (by decide) (by decide) (by decide) (by decide) (fun q2 => ?_)
  refine k_putF (ci := 2) (N := 7) (j := 4) (C := RX2) (T := TX2) (ty0 := tyX2) (ty := tyX2 4) (fs := [.null, .int 0, .int 0, .ref q1, .null, .null, .null]) (fs' := [.null, .int 0, .int 0, .ref q1, .ref q2, .null, .null]) dX2_init_17 rfl inX2_ok tyX2_ok nmX2 rfl (by decide) (tb2 (List.mem_of_getElem? (i := 69) rfl) rfl) rfl rfl rfl (tyX2_ok 4 (by decide)) rfl rfl (Nat.le_of_ble_eq_true rfl) rfl ?_
  refine k_aload_n dX2_init_20 rfl ?_
  refine k_bipush (v := 12) dX2_init_21 (by decide) ?_
  refine k_newa 0 (N := 12) (a0 := (12, .inl (fun _ => 0))) (c0 := g.2.2.1 0) (ty := .int) dX2_init_23 ac_I rfl (fun _ _ h => h) rfl (fun _ => rfl) (by decide) (by decide) (by decide) (by decide) (by decide) (fun q3 => ?_)
  refine k_putF (ci := 2) (N := 7) (j := 5) (C := RX2) (T := TX2) (ty0 := tyX2) (ty := tyX2 5) (fs := [.null, .int 0, .int 0, .ref q1, .ref q2, .null, .null]) (fs' := [.null, .int 0, .int 0, .ref q1, .ref q2, .ref q3, .null]) dX2_init_25 rfl inX2_ok tyX2_ok nmX2 rfl (by decide) (tb2 (List.mem_of_getElem? (i := 72) rfl) rfl) rfl rfl rfl (tyX2_ok 5 (by decide)) rfl rfl (Nat.le_of_ble_eq_true rfl) rfl ?_
  refine k_aload_n dX2_init_28 rfl ?_
  refine k_bipush (v := 12) dX2_init_29 (by decide) ?_
  refine k_newa 0 (N := 12) (a0 := (12, .inl (fun _ => 0))) (c0 := g.2.2.1 0) (ty := .int) dX2_init_31 ac_I rfl (fun _ _ h => h) rfl (fun _ => rfl) (by decide) (by decide) (by decide) (by decide) (by decide) (fun q4 => ?_)
  refine k_putF (ci := 2) (N := 7) (j := 6) (C := RX2) (T := TX2) (ty0 := tyX2) (ty := tyX2 6) (fs := [.null, .int 0, .int 0, .ref q1, .ref q2, .ref q3, .null]) (fs' := [.null, .int 0, .int 0, .ref q1, .ref q2, .ref q3, .ref q4]) dX2_init_33 rfl inX2_ok tyX2_ok nmX2 rfl (by decide) (tb2 (List.mem_of_getElem? (i := 75) rfl) rfl) rfl rfl rfl (tyX2_ok 6 (by decide)) rfl rfl (Nat.le_of_ble_eq_true rfl) rfl ?_
  refine k_aload_n dX2_init_36 rfl ?_
  refine k_aload_n dX2_init_37 rfl ?_
  refine k_putF (ci := 2) (N := 7) (j := 0) (C := RX2) (T := TX2) (ty0 := tyX2) (ty := tyX2 0) (fs := [.null, .int 0, .int 0, .ref q1, .ref q2, .ref q3, .ref q4]) (fs' := [.ref a, .int 0, .int 0, .ref q1, .ref q2, .ref q3, .ref q4]) dX2_init_38 rfl inX2_ok tyX2_ok nmX2 rfl (by decide) (tb2 (List.mem_of_getElem? (i := 58) rfl) rfl) rfl rfl rfl (tyX2_ok 0 (by decide)) rfl rfl (Nat.le_of_ble_eq_true rfl) rfl ?_
  exact k_ret dX2_init_41 rfl rfl ⟨q1, q2, q3, q4, rfl⟩
end CTA
