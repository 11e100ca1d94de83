/-! CONSTRUCTORS: the model -/
section CTD
variable {g : vt_GT} {h0 : Nat}
def ly_X12 : List vt_LE := [.inr (12, [some 1, some 2, none, some 3, none, some 4, none, some 5, some 6, some 7, none, none, none, none, none, none, some 8, none, none, some 9, some 10, some 11, some 12, none, none, none, none, some 13]), .inl (0, 2220, 0), .inl (0, 2220, 0), .inl (0, 132, 0), .inl (0, 24, 0), .inl (0, 2, 0), .inl (0, 32, 0), .inl (0, 12, 0), .inl (0, 140, 0), .inl (0, 140, 0), .inl (0, 12, 0), .inl (0, 12, 0), .inl (0, 12, 0), .inl (0, 16, 0)]
def flG (ad : Nat → Nat) (f : Nat → Int32) : Nat → List (Option Nat) → List Value
  | _, [] => []
  | k, x :: l => vt_v ad f k x :: flG ad f (k + 1) l
theorem flG_at {ad : Nat → Nat} {f : Nat → Int32} : ∀ (l : List (Option Nat)) (k i : Nat), (flG ad f k l)[i]? = (l[i]?).map (vt_v ad f (k + i))
  | [], _, _ => rfl
  | e :: l, k, 0 => rfl
  | e :: l, k, i + 1 => by
    rw [flG, List.getElem?_cons_succ, List.getElem?_cons_succ, flG_at l (k + 1) i, Nat.add_right_comm, Nat.add_assoc]
theorem vt_flG {ad : Nat → Nat} {f : Nat → Int32} {l : List (Option Nat)} : vt_fl ad f l = flG ad f 0 l := by
  apply List.ext_getElem?
  intro i
  rw [flG_at, Nat.zero_add]
  unfold vt_fl
  rw [List.getElem?_mapIdx]
def lfm (i : Nat) : Nat → Int32 := fun j => if 10 ≤ j ∧ j < 10 + i then 100 else 0
theorem lfm_0 : lfm 0 = fun _ => 0 := by
  funext j
  unfold lfm
  rw [if_neg (by omega)]
theorem lfm_s {n : Nat} : upd (lfm n) (10 + n) 100 = lfm (n + 1) := by
  funext j
  unfold lfm
  by_cases z : j = 10 + n
  · subst z; rw [upd_same, if_pos (by omega)]
  · rw [upd_ne z]
    by_cases c : 10 ≤ j ∧ j < 10 + n
    · rw [if_pos c, if_pos (by omega)]
    · rw [if_neg c, if_neg (by omega)]
def sc_X12 : vt_Sg := fun k => if k = 1 then upd (upd (lfm 12) 5 50) 6 200 else if k = 5 then upd (upd (fun _ => 0) 0 (-1)) 1 (-1) else fun _ => 0
set_option maxRecDepth 8000 in
set_option maxHeartbeats 4000000 in
theorem c_X12_init : vc_M g 1 13 4974 D_X12_init [.ref h0] [(h0, .inr (12, [.null, .null, .int 0, .null, .int 0, .null, .int 0, .null, .null, .null, .int 0, .int 0, .int 0, .int 0, .int 0, .int 0, .null, .int 0, .int 0, .null, .null, .null, .null, .int 0, .int 0, .int 0, .int 0, .null]))] (fun w1 => ∃ ad : Nat → Nat, ad 0 = h0 ∧ w1 = sgL g.2.2.1 ad sc_X12 0 ly_X12) := by
  refine vc_meth (by decide +kernel) rfl rfl rfl rfl ?_
  refine k_aload_n dX12_init_0 rfl ?_
  refine k_obj dX12_init_1 (tb5 (List.mem_of_getElem? (i := 29) rfl) rfl) ob_im ob_cd (by decide) (by decide) ?_
  refine k_aload_n dX12_init_4 rfl ?_
  refine k_sipush (v := 2220) dX12_init_5 (by decide) ?_
  refine k_newa 0 (N := 2220) (a0 := (2220, .inl (fun _ => 0))) (c0 := g.2.2.1 0) (ty := .int) dX12_init_8 ac_I rfl (fun _ _ h => h) rfl (fun _ => rfl) (by decide) (by decide) (by decide) (by decide) (by decide) (fun q1 => ?_)
  refine k_putF (ci := 12) (N := 28) (j := 0) (C := RX12) (T := TX12) (ty0 := tyX12) (ty := tyX12 0) (fs := [.null, .null, .int 0, .null, .int 0, .null, .int 0, .null, .null, .null, .int 0, .int 0, .int 0, .int 0, .int 0, .int 0, .null, .int 0, .int 0, .null, .null, .null, .null, .int 0, .int 0, .int 0, .int 0, .null]) (fs' := [.ref q1, .null, .int 0, .null, .int 0, .null, .int 0, .null, .null, .null, .int 0, .int 0, .int 0, .int 0, .int 0, .int 0, .null, .int 0, .int 0, .null, .null, .null, .null, .int 0, .int 0, .int 0, .int 0, .null]) dX12_init_10 rfl inX12_ok tyX12_ok nmX12 rfl (by decide) (tb5 (List.mem_of_getElem? (i := 30) rfl) rfl) rfl rfl rfl (tyX12_ok 0 (by decide)) rfl rfl (Nat.le_of_ble_eq_true rfl) rfl ?_
  refine k_aload_n dX12_init_13 rfl ?_
  refine k_sipush (v := 2220) dX12_init_14 (by decide) ?_
  refine k_newa 0 (N := 2220) (a0 := (2220, .inl (fun _ => 0))) (c0 := g.2.2.1 0) (ty := .int) dX12_init_17 ac_I rfl (fun _ _ h => h) rfl (fun _ => rfl) (by decide) (by decide) (by decide) (by decide) (by decide) (fun q2 => ?_)
  refine k_putF (ci := 12) (N := 28) (j := 1) (C := RX12) (T := TX12) (ty0 := tyX12) (ty := tyX12 1) (fs := [.ref q1, .null, .int 0, .null, .int 0, .null, .int 0, .null, .null, .null, .int 0, .int 0, .int 0, .int 0, .int 0, .int 0, .null, .int 0, .int 0, .null, .null, .null, .null, .int 0, .int 0, .int 0, .int 0, .null]) (fs' := [.ref q1, .ref q2, .int 0, .null, .int 0, .null, .int 0, .null, .null, .null, .int 0, .int 0, .int 0, .int 0, .int 0, .int 0, .null, .int 0, .int 0, .null, .null, .null, .null, .int 0, .int 0, .int 0, .int 0, .null]) dX12_init_19 rfl inX12_ok tyX12_ok nmX12 rfl (by decide) (tb5 (List.mem_of_getElem? (i := 31) rfl) rfl) rfl rfl rfl (tyX12_ok 1 (by decide)) rfl rfl (Nat.le_of_ble_eq_true rfl) rfl ?_
  refine k_aload_n dX12_init_22 rfl ?_
  refine k_sipush (v := 132) dX12_init_23 (by decide) ?_
  refine k_newa 0 (N := 132) (a0 := (132, .inl (fun _ => 0))) (c0 := g.2.2.1 0) (ty := .int) dX12_init_26 ac_I rfl (fun _ _ h => h) rfl (fun _ => rfl) (by decide) (by decide) (by decide) (by decide) (by decide) (fun q3 => ?_)
  refine k_putF (ci := 12) (N := 28) (j := 3) (C := RX12) (T := TX12) (ty0 := tyX12) (ty := tyX12 3) (fs := [.ref q1, .ref q2, .int 0, .null, .int 0, .null, .int 0, .null, .null, .null, .int 0, .int 0, .int 0, .int 0, .int 0, .int 0, .null, .int 0, .int 0, .null, .null, .null, .null, .int 0, .int 0, .int 0, .int 0, .null]) (fs' := [.ref q1, .ref q2, .int 0, .ref q3, .int 0, .null, .int 0, .null, .null, .null, .int 0, .int 0, .int 0, .int 0, .int 0, .int 0, .null, .int 0, .int 0, .null, .null, .null, .null, .int 0, .int 0, .int 0, .int 0, .null]) dX12_init_28 rfl inX12_ok tyX12_ok nmX12 rfl (by decide) (tb5 (List.mem_of_getElem? (i := 33) rfl) rfl) rfl rfl rfl (tyX12_ok 3 (by decide)) rfl rfl (Nat.le_of_ble_eq_true rfl) rfl ?_
  refine k_aload_n dX12_init_31 rfl ?_
  refine k_bipush (v := 24) dX12_init_32 (by decide) ?_
  refine k_newa 0 (N := 24) (a0 := (24, .inl (fun _ => 0))) (c0 := g.2.2.1 0) (ty := .int) dX12_init_34 ac_I rfl (fun _ _ h => h) rfl (fun _ => rfl) (by decide) (by decide) (by decide) (by decide) (by decide) (fun q4 => ?_)
  refine k_putF (ci := 12) (N := 28) (j := 5) (C := RX12) (T := TX12) (ty0 := tyX12) (ty := tyX12 5) (fs := [.ref q1, .ref q2, .int 0, .ref q3, .int 0, .null, .int 0, .null, .null, .null, .int 0, .int 0, .int 0, .int 0, .int 0, .int 0, .null, .int 0, .int 0, .null, .null, .null, .null, .int 0, .int 0, .int 0, .int 0, .null]) (fs' := [.ref q1, .ref q2, .int 0, .ref q3, .int 0, .ref q4, .int 0, .null, .null, .null, .int 0, .int 0, .int 0, .int 0, .int 0, .int 0, .null, .int 0, .int 0, .null, .null, .null, .null, .int 0, .int 0, .int 0, .int 0, .null]) dX12_init_36 rfl inX12_ok tyX12_ok nmX12 rfl (by decide) (tb5 (List.mem_of_getElem? (i := 35) rfl) rfl) rfl rfl rfl (tyX12_ok 5 (by decide)) rfl rfl (Nat.le_of_ble_eq_true rfl) rfl ?_
  refine k_aload_n dX12_init_39 rfl ?_
  refine k_iconst (v := 2) dX12_init_40 (by decide) ?_
  refine k_newa 0 (N := 2) (a0 := (2, .inl (fun _ => 0))) (c0 := g.2.2.1 0) (ty := .int) dX12_init_41 ac_I rfl (fun _ _ h => h) rfl (fun _ => rfl) (by decide) (by decide) (by decide) (by decide) (by decide) (fun q5 => ?_)
  refine k_putF (ci := 12) (N := 28) (j := 7) (C := RX12) (T := TX12) (ty0 := tyX12) (ty := tyX12 7) (fs := [.ref q1, .ref q2, .int 0, .ref q3, .int 0, .ref q4, .int 0, .null, .null, .null, .int 0, .int 0, .int 0, .int 0, .int 0, .int 0, .null, .int 0, .int 0, .null, .null, .null, .null, .int 0, .int 0, .int 0, .int 0, .null]) (fs' := [.ref q1, .ref q2, .int 0, .ref q3, .int 0, .ref q4, .int 0, .ref q5, .null, .null, .int 0, .int 0, .int 0, .int 0, .int 0, .int 0, .null, .int 0, .int 0, .null, .null, .null, .null, .int 0, .int 0, .int 0, .int 0, .null]) dX12_init_43 rfl inX12_ok tyX12_ok nmX12 rfl (by decide) (tb5 (List.mem_of_getElem? (i := 37) rfl) rfl) rfl rfl rfl (tyX12_ok 7 (by decide)) rfl rfl (Nat.le_of_ble_eq_true rfl) rfl ?_
  refine k_aload_n dX12_init_46 rfl ?_
  refine k_bipush (v := 32) dX12_init_47 (by decide) ?_
  refine k_newa 0 (N := 32) (a0 := (32, .inl (fun _ => 0))) (c0 := g.2.2.1 0) (ty := .int) dX12_init_49 ac_I rfl (fun _ _ h => h) rfl (fun _ => rfl) (by decide) (by decide) (by decide) (by decide) (by decide) (fun q6 => ?_)
  refine k_putF (ci := 12) (N := 28) (j := 8) (C := RX12) (T := TX12) (ty0 := tyX12) (ty := tyX12 8) (fs := [.ref q1, .ref q2, .int 0, .ref q3, .int 0, .ref q4, .int 0, .ref q5, .null, .null, .int 0, .int 0, .int 0, .int 0, .int 0, .int 0, .null, .int 0, .int 0, .null, .null, .null, .null, .int 0, .int 0, .int 0, .int 0, .null]) (fs' := [.ref q1, .ref q2, .int 0, .ref q3, .int 0, .ref q4, .int 0, .ref q5, .ref q6, .null, .int 0, .int 0, .int 0, .int 0, .int 0, .int 0, .null, .int 0, .int 0, .null, .null, .null, .null, .int 0, .int 0, .int 0, .int 0, .null]) dX12_init_51 rfl inX12_ok tyX12_ok nmX12 rfl (by decide) (tb5 (List.mem_of_getElem? (i := 38) rfl) rfl) rfl rfl rfl (tyX12_ok 8 (by decide)) rfl rfl (Nat.le_of_ble_eq_true rfl) rfl ?_
  refine k_aload_n dX12_init_54 rfl ?_
  refine k_bipush (v := 12) dX12_init_55 (by decide) ?_
  refine k_newa 0 (N := 12) (a0 := (12, .inl (fun _ => 0))) (c0 := g.2.2.1 0) (ty := .int) dX12_init_57 ac_I rfl (fun _ _ h => h) rfl (fun _ => rfl) (by decide) (by decide) (by decide) (by decide) (by decide) (fun q7 => ?_)
  refine k_putF (ci := 12) (N := 28) (j := 9) (C := RX12) (T := TX12) (ty0 := tyX12) (ty := tyX12 9) (fs := [.ref q1, .ref q2, .int 0, .ref q3, .int 0, .ref q4, .int 0, .ref q5, .ref q6, .null, .int 0, .int 0, .int 0, .int 0, .int 0, .int 0, .null, .int 0, .int 0, .null, .null, .null, .null, .int 0, .int 0, .int 0, .int 0, .null]) (fs' := [.ref q1, .ref q2, .int 0, .ref q3, .int 0, .ref q4, .int 0, .ref q5, .ref q6, .ref q7, .int 0, .int 0, .int 0, .int 0, .int 0, .int 0, .null, .int 0, .int 0, .null, .null, .null, .null, .int 0, .int 0, .int 0, .int 0, .null]) dX12_init_59 rfl inX12_ok tyX12_ok nmX12 rfl (by decide) (tb5 (List.mem_of_getElem? (i := 39) rfl) rfl) rfl rfl rfl (tyX12_ok 9 (by decide)) rfl rfl (Nat.le_of_ble_eq_true rfl) rfl ?_
  refine k_aload_n dX12_init_62 rfl ?_
  refine k_sipush (v := 140) dX12_init_63 (by decide) ?_
  refine k_newa 0 (N := 140) (a0 := (140, .inl (fun _ => 0))) (c0 := g.2.2.1 0) (ty := .int) dX12_init_66 ac_I rfl (fun _ _ h => h) rfl (fun _ => rfl) (by decide) (by decide) (by decide) (by decide) (by decide) (fun q8 => ?_)
  refine k_putF (ci := 12) (N := 28) (j := 16) (C := RX12) (T := TX12) (ty0 := tyX12) (ty := tyX12 16) (fs := [.ref q1, .ref q2, .int 0, .ref q3, .int 0, .ref q4, .int 0, .ref q5, .ref q6, .ref q7, .int 0, .int 0, .int 0, .int 0, .int 0, .int 0, .null, .int 0, .int 0, .null, .null, .null, .null, .int 0, .int 0, .int 0, .int 0, .null]) (fs' := [.ref q1, .ref q2, .int 0, .ref q3, .int 0, .ref q4, .int 0, .ref q5, .ref q6, .ref q7, .int 0, .int 0, .int 0, .int 0, .int 0, .int 0, .ref q8, .int 0, .int 0, .null, .null, .null, .null, .int 0, .int 0, .int 0, .int 0, .null]) dX12_init_68 rfl inX12_ok tyX12_ok nmX12 rfl (by decide) (tb5 (List.mem_of_getElem? (i := 46) rfl) rfl) rfl rfl rfl (tyX12_ok 16 (by decide)) rfl rfl (Nat.le_of_ble_eq_true rfl) rfl ?_
  refine k_aload_n dX12_init_71 rfl ?_
  refine k_sipush (v := 140) dX12_init_72 (by decide) ?_
  refine k_newa 0 (N := 140) (a0 := (140, .inl (fun _ => 0))) (c0 := g.2.2.1 0) (ty := .int) dX12_init_75 ac_I rfl (fun _ _ h => h) rfl (fun _ => rfl) (by decide) (by decide) (by decide) (by decide) (by decide) (fun q9 => ?_)
  refine k_putF (ci := 12) (N := 28) (j := 19) (C := RX12) (T := TX12) (ty0 := tyX12) (ty := tyX12 19) (fs := [.ref q1, .ref q2, .int 0, .ref q3, .int 0, .ref q4, .int 0, .ref q5, .ref q6, .ref q7, .int 0, .int 0, .int 0, .int 0, .int 0, .int 0, .ref q8, .int 0, .int 0, .null, .null, .null, .null, .int 0, .int 0, .int 0, .int 0, .null]) (fs' := [.ref q1, .ref q2, .int 0, .ref q3, .int 0, .ref q4, .int 0, .ref q5, .ref q6, .ref q7, .int 0, .int 0, .int 0, .int 0, .int 0, .int 0, .ref q8, .int 0, .int 0, .ref q9, .null, .null, .null, .int 0, .int 0, .int 0, .int 0, .null]) dX12_init_77 rfl inX12_ok tyX12_ok nmX12 rfl (by decide) (tb5 (List.mem_of_getElem? (i := 49) rfl) rfl) rfl rfl rfl (tyX12_ok 19 (by decide)) rfl rfl (Nat.le_of_ble_eq_true rfl) rfl ?_
  refine k_aload_n dX12_init_80 rfl ?_
  refine k_bipush (v := 12) dX12_init_81 (by decide) ?_
  refine k_newa 0 (N := 12) (a0 := (12, .inl (fun _ => 0))) (c0 := g.2.2.1 0) (ty := .int) dX12_init_83 ac_I rfl (fun _ _ h => h) rfl (fun _ => rfl) (by decide) (by decide) (by decide) (by decide) (by decide) (fun q10 => ?_)
  refine k_putF (ci := 12) (N := 28) (j := 20) (C := RX12) (T := TX12) (ty0 := tyX12) (ty := tyX12 20) (fs := [.ref q1, .ref q2, .int 0, .ref q3, .int 0, .ref q4, .int 0, .ref q5, .ref q6, .ref q7, .int 0, .int 0, .int 0, .int 0, .int 0, .int 0, .ref q8, .int 0, .int 0, .ref q9, .null, .null, .null, .int 0, .int 0, .int 0, .int 0, .null]) (fs' := [.ref q1, .ref q2, .int 0, .ref q3, .int 0, .ref q4, .int 0, .ref q5, .ref q6, .ref q7, .int 0, .int 0, .int 0, .int 0, .int 0, .int 0, .ref q8, .int 0, .int 0, .ref q9, .ref q10, .null, .null, .int 0, .int 0, .int 0, .int 0, .null]) dX12_init_85 rfl inX12_ok tyX12_ok nmX12 rfl (by decide) (tb5 (List.mem_of_getElem? (i := 50) rfl) rfl) rfl rfl rfl (tyX12_ok 20 (by decide)) rfl rfl (Nat.le_of_ble_eq_true rfl) rfl ?_
  refine k_aload_n dX12_init_88 rfl ?_
  refine k_bipush (v := 12) dX12_init_89 (by decide) ?_
  refine k_newa 0 (N := 12) (a0 := (12, .inl (fun _ => 0))) (c0 := g.2.2.1 0) (ty := .int) dX12_init_91 ac_I rfl (fun _ _ h => h) rfl (fun _ => rfl) (by decide) (by decide) (by decide) (by decide) (by decide) (fun q11 => ?_)
  refine k_putF (ci := 12) (N := 28) (j := 21) (C := RX12) (T := TX12) (ty0 := tyX12) (ty := tyX12 21) (fs := [.ref q1, .ref q2, .int 0, .ref q3, .int 0, .ref q4, .int 0, .ref q5, .ref q6, .ref q7, .int 0, .int 0, .int 0, .int 0, .int 0, .int 0, .ref q8, .int 0, .int 0, .ref q9, .ref q10, .null, .null, .int 0, .int 0, .int 0, .int 0, .null]) (fs' := [.ref q1, .ref q2, .int 0, .ref q3, .int 0, .ref q4, .int 0, .ref q5, .ref q6, .ref q7, .int 0, .int 0, .int 0, .int 0, .int 0, .int 0, .ref q8, .int 0, .int 0, .ref q9, .ref q10, .ref q11, .null, .int 0, .int 0, .int 0, .int 0, .null]) dX12_init_93 rfl inX12_ok tyX12_ok nmX12 rfl (by decide) (tb5 (List.mem_of_getElem? (i := 51) rfl) rfl) rfl rfl rfl (tyX12_ok 21 (by decide)) rfl rfl (Nat.le_of_ble_eq_true rfl) rfl ?_
  refine k_aload_n dX12_init_96 rfl ?_
  refine k_bipush (v := 12) dX12_init_97 (by decide) ?_
  refine k_newa 0 (N := 12) (a0 := (12, .inl (fun _ => 0))) (c0 := g.2.2.1 0) (ty := .int) dX12_init_99 ac_I rfl (fun _ _ h => h) rfl (fun _ => rfl) (by decide) (by decide) (by decide) (by decide) (by decide) (fun q12 => ?_)
  refine k_putF (ci := 12) (N := 28) (j := 22) (C := RX12) (T := TX12) (ty0 := tyX12) (ty := tyX12 22) (fs := [.ref q1, .ref q2, .int 0, .ref q3, .int 0, .ref q4, .int 0, .ref q5, .ref q6, .ref q7, .int 0, .int 0, .int 0, .int 0, .int 0, .int 0, .ref q8, .int 0, .int 0, .ref q9, .ref q10, .ref q11, .null, .int 0, .int 0, .int 0, .int 0, .null]) (fs' := [.ref q1, .ref q2, .int 0, .ref q3, .int 0, .ref q4, .int 0, .ref q5, .ref q6, .ref q7, .int 0, .int 0, .int 0, .int 0, .int 0, .int 0, .ref q8, .int 0, .int 0, .ref q9, .ref q10, .ref q11, .ref q12, .int 0, .int 0, .int 0, .int 0, .null]) dX12_init_101 rfl inX12_ok tyX12_ok nmX12 rfl (by decide) (tb5 (List.mem_of_getElem? (i := 52) rfl) rfl) rfl rfl rfl (tyX12_ok 22 (by decide)) rfl rfl (Nat.le_of_ble_eq_true rfl) rfl ?_
  refine k_aload_n dX12_init_104 rfl ?_
  refine k_bipush (v := 16) dX12_init_105 (by decide) ?_
  refine k_newa 0 (N := 16) (a0 := (16, .inl (fun _ => 0))) (c0 := g.2.2.1 0) (ty := .int) dX12_init_107 ac_I rfl (fun _ _ h => h) rfl (fun _ => rfl) (by decide) (by decide) (by decide) (by decide) (by decide) (fun q13 => ?_)
  refine k_putF (ci := 12) (N := 28) (j := 27) (C := RX12) (T := TX12) (ty0 := tyX12) (ty := tyX12 27) (fs := [.ref q1, .ref q2, .int 0, .ref q3, .int 0, .ref q4, .int 0, .ref q5, .ref q6, .ref q7, .int 0, .int 0, .int 0, .int 0, .int 0, .int 0, .ref q8, .int 0, .int 0, .ref q9, .ref q10, .ref q11, .ref q12, .int 0, .int 0, .int 0, .int 0, .null]) (fs' := [.ref q1, .ref q2, .int 0, .ref q3, .int 0, .ref q4, .int 0, .ref q5, .ref q6, .ref q7, .int 0, .int 0, .int 0, .int 0, .int 0, .int 0, .ref q8, .int 0, .int 0, .ref q9, .ref q10, .ref q11, .ref q12, .int 0, .int 0, .int 0, .int 0, .ref q13]) dX12_init_109 rfl inX12_ok tyX12_ok nmX12 rfl (by decide) (tb5 (List.mem_of_getElem? (i := 57) rfl) rfl) rfl rfl rfl (tyX12_ok 27 (by decide)) rfl rfl (Nat.le_of_ble_eq_true rfl) rfl ?_
  refine k_iconst (v := 0) dX12_init_112 (by decide) ?_
  refine k_istore_n (L' := [some (.ref h0), some (.int (nI 0))]) dX12_init_113 (by decide) rfl rfl ?_
  have key : ∀ m i, i + m = 12 → CT g (vc_R 1 13 4974) 13 4974 D_X12_init 114 [some (.ref h0), some (.int (nI i))] [] ((h0, .inr (12, [.ref q1, .ref q2, .int 0, .ref q3, .int 0, .ref q4, .int 0, .ref q5, .ref q6, .ref q7, .int 0, .int 0, .int 0, .int 0, .int 0, .int 0, .ref q8, .int 0, .int 0, .ref q9, .ref q10, .ref q11, .ref q12, .int 0, .int 0, .int 0, .int 0, .ref q13])) :: (q1, .inl (g.2.2.1 0, 2220, .inl (lfm i))) :: (q2, .inl (g.2.2.1 0, 2220, .inl (fun _ => 0))) :: (q3, .inl (g.2.2.1 0, 132, .inl (fun _ => 0))) :: (q4, .inl (g.2.2.1 0, 24, .inl (fun _ => 0))) :: (q5, .inl (g.2.2.1 0, 2, .inl (fun _ => 0))) :: (q6, .inl (g.2.2.1 0, 32, .inl (fun _ => 0))) :: (q7, .inl (g.2.2.1 0, 12, .inl (fun _ => 0))) :: (q8, .inl (g.2.2.1 0, 140, .inl (fun _ => 0))) :: (q9, .inl (g.2.2.1 0, 140, .inl (fun _ => 0))) :: (q10, .inl (g.2.2.1 0, 12, .inl (fun _ => 0))) :: (q11, .inl (g.2.2.1 0, 12, .inl (fun _ => 0))) :: (q12, .inl (g.2.2.1 0, 12, .inl (fun _ => 0))) :: (q13, .inl (g.2.2.1 0, 16, .inl (fun _ => 0))) :: []) 13 4974 (fun w1 => ∃ ad : Nat → Nat, ad 0 = h0 ∧ w1 = sgL g.2.2.1 ad sc_X12 0 ly_X12) := by
    intro m
    induction m with
    | zero =>
      intro i hi
      have : i = 12 := hi
      subst this
      refine k_iload_n dX12_init_114 rfl ?_
      refine k_bipush (v := 12) dX12_init_115 (by decide) ?_
      refine k_icmp_ge (tgt := 137) dX12_init_117 (by decide) (fun _ => ?_) (fun c => absurd (by decide) c)
      refine k_aload_n dX12_init_137 rfl ?_
      refine k_get (ci := 12) (N := 28) (j := 0) (C := RX12) (T := TX12) (fs := [.ref q1, .ref q2, .int 0, .ref q3, .int 0, .ref q4, .int 0, .ref q5, .ref q6, .ref q7, .int 0, .int 0, .int 0, .int 0, .int 0, .int 0, .ref q8, .int 0, .int 0, .ref q9, .ref q10, .ref q11, .ref q12, .int 0, .int 0, .int 0, .int 0, .ref q13]) dX12_init_138 rfl inX12_ok rfl (by decide) (tb5 (List.mem_of_getElem? (i := 30) rfl) rfl) rfl rfl ?_
      refine k_iconst (v := 5) dX12_init_141 (by decide) ?_
      refine k_bipush (v := 50) dX12_init_142 (by decide) ?_
      refine k_iast (n := 2220) (f := lfm 12) 1 dX12_init_144 rfl (inN (j := 5) (by decide) (by decide)) rfl ?_
      refine k_aload_n dX12_init_145 rfl ?_
      refine k_get (ci := 12) (N := 28) (j := 0) (C := RX12) (T := TX12) (fs := [.ref q1, .ref q2, .int 0, .ref q3, .int 0, .ref q4, .int 0, .ref q5, .ref q6, .ref q7, .int 0, .int 0, .int 0, .int 0, .int 0, .int 0, .ref q8, .int 0, .int 0, .ref q9, .ref q10, .ref q11, .ref q12, .int 0, .int 0, .int 0, .int 0, .ref q13]) dX12_init_146 rfl inX12_ok rfl (by decide) (tb5 (List.mem_of_getElem? (i := 30) rfl) rfl) rfl rfl ?_
      refine k_bipush (v := 6) dX12_init_149 (by decide) ?_
      refine k_sipush (v := 200) dX12_init_151 (by decide) ?_
      refine k_iast (n := 2220) (f := upd (lfm 12) 5 50) 1 dX12_init_154 rfl (inN (j := 6) (by decide) (by decide)) rfl ?_
      refine k_aload_n dX12_init_155 rfl ?_
      refine k_get (ci := 12) (N := 28) (j := 7) (C := RX12) (T := TX12) (fs := [.ref q1, .ref q2, .int 0, .ref q3, .int 0, .ref q4, .int 0, .ref q5, .ref q6, .ref q7, .int 0, .int 0, .int 0, .int 0, .int 0, .int 0, .ref q8, .int 0, .int 0, .ref q9, .ref q10, .ref q11, .ref q12, .int 0, .int 0, .int 0, .int 0, .ref q13]) dX12_init_156 rfl inX12_ok rfl (by decide) (tb5 (List.mem_of_getElem? (i := 37) rfl) rfl) rfl rfl ?_
      refine k_iconst (v := 0) dX12_init_159 (by decide) ?_
      refine k_iconst (v := -1) dX12_init_160 (by decide) ?_
      refine k_iast (n := 2) (f := fun _ => 0) 5 dX12_init_161 rfl (inN (j := 0) (by decide) (by decide)) rfl ?_
      refine k_aload_n dX12_init_162 rfl ?_
      refine k_get (ci := 12) (N := 28) (j := 7) (C := RX12) (T := TX12) (fs := [.ref q1, .ref q2, .int 0, .ref q3, .int 0, .ref q4, .int 0, .ref q5, .ref q6, .ref q7, .int 0, .int 0, .int 0, .int 0, .int 0, .int 0, .ref q8, .int 0, .int 0, .ref q9, .ref q10, .ref q11, .ref q12, .int 0, .int 0, .int 0, .int 0, .ref q13]) dX12_init_163 rfl inX12_ok rfl (by decide) (tb5 (List.mem_of_getElem? (i := 37) rfl) rfl) rfl rfl ?_
      refine k_iconst (v := 1) dX12_init_166 (by decide) ?_
      refine k_iconst (v := -1) dX12_init_167 (by decide) ?_
      refine k_iast (n := 2) (f := upd (fun _ => 0) 0 (-1)) 5 dX12_init_168 rfl (inN (j := 1) (by decide) (by decide)) rfl ?_
      refine k_ret dX12_init_169 rfl rfl ⟨fun j => [h0, q1, q2, q3, q4, q5, q6, q7, q8, q9, q10, q11, q12, q13].getD j 0, rfl, ?_⟩
      show _ = (h0, .inr (12, vt_fl (fun j => [h0, q1, q2, q3, q4, q5, q6, q7, q8, q9, q10, q11, q12, q13].getD j 0) (sc_X12 0) [some 1, some 2, none, some 3, none, some 4, none, some 5, some 6, some 7, none, none, none, none, none, none, some 8, none, none, some 9, some 10, some 11, some 12, none, none, none, none, some 13])) :: sgL g.2.2.1 (fun j => [h0, q1, q2, q3, q4, q5, q6, q7, q8, q9, q10, q11, q12, q13].getD j 0) sc_X12 1 [.inl (0, 2220, 0), .inl (0, 2220, 0), .inl (0, 132, 0), .inl (0, 24, 0), .inl (0, 2, 0), .inl (0, 32, 0), .inl (0, 12, 0), .inl (0, 140, 0), .inl (0, 140, 0), .inl (0, 12, 0), .inl (0, 12, 0), .inl (0, 12, 0), .inl (0, 16, 0)]
      rw [vt_flG]
      rfl
    | succ m ih =>
      intro i hi
      refine k_iload_n dX12_init_114 rfl ?_
      refine k_bipush (v := nI 12) dX12_init_115 (by decide) ?_
      refine k_icmp_ge (tgt := 137) dX12_init_117 (by decide) (fun c => absurd c (nI_ge (by omega) (by omega))) (fun _ => ?_)
      refine k_aload_n dX12_init_120 rfl ?_
      refine k_get (ci := 12) (N := 28) (j := 0) (C := RX12) (T := TX12) (fs := [.ref q1, .ref q2, .int 0, .ref q3, .int 0, .ref q4, .int 0, .ref q5, .ref q6, .ref q7, .int 0, .int 0, .int 0, .int 0, .int 0, .int 0, .ref q8, .int 0, .int 0, .ref q9, .ref q10, .ref q11, .ref q12, .int 0, .int 0, .int 0, .int 0, .ref q13]) dX12_init_121 rfl inX12_ok rfl (by decide) (tb5 (List.mem_of_getElem? (i := 30) rfl) rfl) rfl rfl ?_
      refine k_bipush (v := nI 10) dX12_init_124 (by decide) ?_
      refine k_iload_n dX12_init_126 rfl ?_
      refine k_iadd dX12_init_127 ?_
      refine k_bipush (v := 100) dX12_init_128 (by decide) ?_
      rw [show nI 10 + nI i = nI (10 + i) from by rw [nI_add]]
      refine k_iast (n := 2220) (f := lfm i) (ws' := ((h0, .inr (12, [.ref q1, .ref q2, .int 0, .ref q3, .int 0, .ref q4, .int 0, .ref q5, .ref q6, .ref q7, .int 0, .int 0, .int 0, .int 0, .int 0, .int 0, .ref q8, .int 0, .int 0, .ref q9, .ref q10, .ref q11, .ref q12, .int 0, .int 0, .int 0, .int 0, .ref q13])) :: (q1, .inl (g.2.2.1 0, 2220, .inl (lfm (i + 1)))) :: (q2, .inl (g.2.2.1 0, 2220, .inl (fun _ => 0))) :: (q3, .inl (g.2.2.1 0, 132, .inl (fun _ => 0))) :: (q4, .inl (g.2.2.1 0, 24, .inl (fun _ => 0))) :: (q5, .inl (g.2.2.1 0, 2, .inl (fun _ => 0))) :: (q6, .inl (g.2.2.1 0, 32, .inl (fun _ => 0))) :: (q7, .inl (g.2.2.1 0, 12, .inl (fun _ => 0))) :: (q8, .inl (g.2.2.1 0, 140, .inl (fun _ => 0))) :: (q9, .inl (g.2.2.1 0, 140, .inl (fun _ => 0))) :: (q10, .inl (g.2.2.1 0, 12, .inl (fun _ => 0))) :: (q11, .inl (g.2.2.1 0, 12, .inl (fun _ => 0))) :: (q12, .inl (g.2.2.1 0, 12, .inl (fun _ => 0))) :: (q13, .inl (g.2.2.1 0, 16, .inl (fun _ => 0))) :: [])) 1 dX12_init_130 rfl (inN (by omega) (by omega)) (by rw [nI_clamp (by omega), lfm_s]; rfl) ?_
      refine k_iinc (L' := [some (.ref h0), some (.int (nI (i + 1)))]) dX12_init_131 rfl (by decide) rfl (by rw [← nI_1]; rfl) ?_
      refine k_goto (tgt := 114) dX12_init_134 (by decide) ?_
      exact ih (i + 1) (by omega)
  have l := key 12 0 (by omega)
  rw [lfm_0] at l
  exact l
theorem ly_X12_ok : ly_X12.map (shE 168) = vt_lay.drop 168 := by decide +kernel
end CTD
